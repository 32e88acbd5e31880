theorem d_F_takeUnits_0 : decode me_F_takeUnits.2.1 0 = .ok (.iconst 0, 1) := by decide +kernel
theorem d_F_takeUnits_1 : decode me_F_takeUnits.2.1 1 = .ok (.istore_n 2, 1) := by decide +kernel
theorem d_F_takeUnits_2 : decode me_F_takeUnits.2.1 2 = .ok (.iload_n 2, 1) := by decide +kernel
theorem d_F_takeUnits_3 : decode me_F_takeUnits.2.1 3 = .ok (.iconst 3, 1) := by decide +kernel
theorem d_F_takeUnits_4 : decode me_F_takeUnits.2.1 4 = .ok (.if_icmp .ge (26), 3) := by decide +kernel
theorem d_F_takeUnits_7 : decode me_F_takeUnits.2.1 7 = .ok (.aload_n 1, 1) := by decide +kernel
theorem d_F_takeUnits_8 : decode me_F_takeUnits.2.1 8 = .ok (.getfield 59, 3) := by decide +kernel
theorem g_F_takeUnits_8 : bm_gf me_F_takeUnits 8 1 2 := ⟨_, _, _, _, d_F_takeUnits_8, rfl, by decide, uw_B, fl_F_59⟩
theorem d_F_takeUnits_11 : decode me_F_takeUnits.2.1 11 = .ok (.iload_n 2, 1) := by decide +kernel
theorem d_F_takeUnits_12 : decode me_F_takeUnits.2.1 12 = .ok (.invokevirtual 124, 3) := by decide +kernel
theorem c_F_takeUnits_12 : bm_iv me_F_takeUnits me_R_hasRole 12 6 1 := ⟨_, d_F_takeUnits_12, Or.inl ml_F_124, ⟨kc_R_hasRole, in_BatchHall_Recipe, by decide +kernel, by decide, by decide⟩, ki_R_hasRole, ks_R_hasRole, _, _, rfl⟩
theorem d_F_takeUnits_15 : decode me_F_takeUnits.2.1 15 = .ok (.ifCond .eq (9), 3) := by decide +kernel
theorem d_F_takeUnits_18 : decode me_F_takeUnits.2.1 18 = .ok (.aload_n 0, 1) := by decide +kernel
theorem d_F_takeUnits_19 : decode me_F_takeUnits.2.1 19 = .ok (.aload_n 1, 1) := by decide +kernel
theorem d_F_takeUnits_20 : decode me_F_takeUnits.2.1 20 = .ok (.iload_n 2, 1) := by decide +kernel
theorem d_F_takeUnits_21 : decode me_F_takeUnits.2.1 21 = .ok (.invokevirtual 128, 3) := by decide +kernel
theorem c_F_takeUnits_21 : bm_iv me_F_takeUnits me_F_takeLeastUnit 21 2 2 := ⟨_, d_F_takeUnits_21, Or.inl ml_F_128, ⟨kc_F_takeLeastUnit, in_BatchHall_Floor, by decide +kernel, by decide, by decide⟩, ki_F_takeLeastUnit, ks_F_takeLeastUnit, _, _, rfl⟩
theorem d_F_takeUnits_24 : decode me_F_takeUnits.2.1 24 = .ok (.iinc 2 (1), 3) := by decide +kernel
theorem d_F_takeUnits_27 : decode me_F_takeUnits.2.1 27 = .ok (.goto (-25), 3) := by decide +kernel
theorem d_F_takeUnits_30 : decode me_F_takeUnits.2.1 30 = .ok (.return_, 1) := by decide +kernel
theorem d_F_takeLeastUnit_0 : decode me_F_takeLeastUnit.2.1 0 = .ok (.iconst 0, 1) := by decide +kernel
theorem d_F_takeLeastUnit_1 : decode me_F_takeLeastUnit.2.1 1 = .ok (.istore_n 3, 1) := by decide +kernel
theorem d_F_takeLeastUnit_2 : decode me_F_takeLeastUnit.2.1 2 = .ok (.iload_n 3, 1) := by decide +kernel
theorem d_F_takeLeastUnit_3 : decode me_F_takeLeastUnit.2.1 3 = .ok (.bipush (6), 2) := by decide +kernel
theorem d_F_takeLeastUnit_5 : decode me_F_takeLeastUnit.2.1 5 = .ok (.if_icmp .ge (64), 3) := by decide +kernel
theorem d_F_takeLeastUnit_8 : decode me_F_takeLeastUnit.2.1 8 = .ok (.aload_n 0, 1) := by decide +kernel
theorem d_F_takeLeastUnit_9 : decode me_F_takeLeastUnit.2.1 9 = .ok (.getfield 11, 3) := by decide +kernel
theorem g_F_takeLeastUnit_9 : bm_gf me_F_takeLeastUnit 9 2 0 := ⟨_, _, _, _, d_F_takeLeastUnit_9, rfl, by decide, uw_F, fl_F_11⟩
theorem d_F_takeLeastUnit_12 : decode me_F_takeLeastUnit.2.1 12 = .ok (.iload_n 3, 1) := by decide +kernel
theorem d_F_takeLeastUnit_13 : decode me_F_takeLeastUnit.2.1 13 = .ok (.aaload, 1) := by decide +kernel
theorem d_F_takeLeastUnit_14 : decode me_F_takeLeastUnit.2.1 14 = .ok (.getfield 121, 3) := by decide +kernel
theorem g_F_takeLeastUnit_14 : bm_gf me_F_takeLeastUnit 14 10 0 := ⟨_, _, _, _, d_F_takeLeastUnit_14, rfl, by decide, uw_U, fl_F_121⟩
theorem d_F_takeLeastUnit_17 : decode me_F_takeLeastUnit.2.1 17 = .ok (.aload_n 1, 1) := by decide +kernel
theorem d_F_takeLeastUnit_18 : decode me_F_takeLeastUnit.2.1 18 = .ok (.getfield 59, 3) := by decide +kernel
theorem g_F_takeLeastUnit_18 : bm_gf me_F_takeLeastUnit 18 1 2 := ⟨_, _, _, _, d_F_takeLeastUnit_18, rfl, by decide, uw_B, fl_F_59⟩
theorem d_F_takeLeastUnit_21 : decode me_F_takeLeastUnit.2.1 21 = .ok (.getfield 131, 3) := by decide +kernel
theorem g_F_takeLeastUnit_21 : bm_gf me_F_takeLeastUnit 21 6 2 := ⟨_, _, _, _, d_F_takeLeastUnit_21, rfl, by decide, uw_R, fl_F_131⟩
theorem d_F_takeLeastUnit_24 : decode me_F_takeLeastUnit.2.1 24 = .ok (.iload_n 2, 1) := by decide +kernel
theorem d_F_takeLeastUnit_25 : decode me_F_takeLeastUnit.2.1 25 = .ok (.iaload, 1) := by decide +kernel
theorem d_F_takeLeastUnit_26 : decode me_F_takeLeastUnit.2.1 26 = .ok (.if_icmp .ne (37), 3) := by decide +kernel
theorem d_F_takeLeastUnit_29 : decode me_F_takeLeastUnit.2.1 29 = .ok (.aload_n 0, 1) := by decide +kernel
theorem d_F_takeLeastUnit_30 : decode me_F_takeLeastUnit.2.1 30 = .ok (.getfield 11, 3) := by decide +kernel
theorem g_F_takeLeastUnit_30 : bm_gf me_F_takeLeastUnit 30 2 0 := ⟨_, _, _, _, d_F_takeLeastUnit_30, rfl, by decide, uw_F, fl_F_11⟩
theorem d_F_takeLeastUnit_33 : decode me_F_takeLeastUnit.2.1 33 = .ok (.iload_n 3, 1) := by decide +kernel
theorem d_F_takeLeastUnit_34 : decode me_F_takeLeastUnit.2.1 34 = .ok (.aaload, 1) := by decide +kernel
theorem d_F_takeLeastUnit_35 : decode me_F_takeLeastUnit.2.1 35 = .ok (.getfield 88, 3) := by decide +kernel
theorem g_F_takeLeastUnit_35 : bm_gf me_F_takeLeastUnit 35 10 1 := ⟨_, _, _, _, d_F_takeLeastUnit_35, rfl, by decide, uw_U, fl_F_88⟩
theorem d_F_takeLeastUnit_38 : decode me_F_takeLeastUnit.2.1 38 = .ok (.iconst (-1), 1) := by decide +kernel
theorem d_F_takeLeastUnit_39 : decode me_F_takeLeastUnit.2.1 39 = .ok (.if_icmp .ne (24), 3) := by decide +kernel
theorem d_F_takeLeastUnit_42 : decode me_F_takeLeastUnit.2.1 42 = .ok (.aload_n 0, 1) := by decide +kernel
theorem d_F_takeLeastUnit_43 : decode me_F_takeLeastUnit.2.1 43 = .ok (.getfield 11, 3) := by decide +kernel
theorem g_F_takeLeastUnit_43 : bm_gf me_F_takeLeastUnit 43 2 0 := ⟨_, _, _, _, d_F_takeLeastUnit_43, rfl, by decide, uw_F, fl_F_11⟩
theorem d_F_takeLeastUnit_46 : decode me_F_takeLeastUnit.2.1 46 = .ok (.iload_n 3, 1) := by decide +kernel
theorem d_F_takeLeastUnit_47 : decode me_F_takeLeastUnit.2.1 47 = .ok (.aaload, 1) := by decide +kernel
theorem d_F_takeLeastUnit_48 : decode me_F_takeLeastUnit.2.1 48 = .ok (.aload_n 1, 1) := by decide +kernel
theorem d_F_takeLeastUnit_49 : decode me_F_takeLeastUnit.2.1 49 = .ok (.getfield 134, 3) := by decide +kernel
theorem g_F_takeLeastUnit_49 : bm_gf me_F_takeLeastUnit 49 1 0 := ⟨_, _, _, _, d_F_takeLeastUnit_49, rfl, by decide, uw_B, fl_F_134⟩
theorem d_F_takeLeastUnit_52 : decode me_F_takeLeastUnit.2.1 52 = .ok (.putfield 88, 3) := by decide +kernel
theorem p_F_takeLeastUnit_52 : bm_pf me_F_takeLeastUnit 52 10 1 .int := ⟨_, _, _, _, ty_U, d_F_takeLeastUnit_52, rfl, by decide, uw_U, fl_F_88, tk_U, nm_U, rfl, Or.inl rfl⟩
theorem d_F_takeLeastUnit_55 : decode me_F_takeLeastUnit.2.1 55 = .ok (.aload_n 1, 1) := by decide +kernel
theorem d_F_takeLeastUnit_56 : decode me_F_takeLeastUnit.2.1 56 = .ok (.getfield 85, 3) := by decide +kernel
theorem g_F_takeLeastUnit_56 : bm_gf me_F_takeLeastUnit 56 1 9 := ⟨_, _, _, _, d_F_takeLeastUnit_56, rfl, by decide, uw_B, fl_F_85⟩
theorem d_F_takeLeastUnit_59 : decode me_F_takeLeastUnit.2.1 59 = .ok (.iload_n 2, 1) := by decide +kernel
theorem d_F_takeLeastUnit_60 : decode me_F_takeLeastUnit.2.1 60 = .ok (.iload_n 3, 1) := by decide +kernel
theorem d_F_takeLeastUnit_61 : decode me_F_takeLeastUnit.2.1 61 = .ok (.iastore, 1) := by decide +kernel
theorem d_F_takeLeastUnit_62 : decode me_F_takeLeastUnit.2.1 62 = .ok (.return_, 1) := by decide +kernel
theorem d_F_takeLeastUnit_63 : decode me_F_takeLeastUnit.2.1 63 = .ok (.iinc 3 (1), 3) := by decide +kernel
theorem d_F_takeLeastUnit_66 : decode me_F_takeLeastUnit.2.1 66 = .ok (.goto (-64), 3) := by decide +kernel
theorem d_F_takeLeastUnit_69 : decode me_F_takeLeastUnit.2.1 69 = .ok (.return_, 1) := by decide +kernel
theorem d_F_block_0 : decode me_F_block.2.1 0 = .ok (.iconst 0, 1) := by decide +kernel
theorem d_F_block_1 : decode me_F_block.2.1 1 = .ok (.istore_n 2, 1) := by decide +kernel
theorem d_F_block_2 : decode me_F_block.2.1 2 = .ok (.iload_n 2, 1) := by decide +kernel
theorem d_F_block_3 : decode me_F_block.2.1 3 = .ok (.iconst 3, 1) := by decide +kernel
theorem d_F_block_4 : decode me_F_block.2.1 4 = .ok (.if_icmp .ge (24), 3) := by decide +kernel
theorem d_F_block_7 : decode me_F_block.2.1 7 = .ok (.aload_n 1, 1) := by decide +kernel
theorem d_F_block_8 : decode me_F_block.2.1 8 = .ok (.iload_n 2, 1) := by decide +kernel
theorem d_F_block_9 : decode me_F_block.2.1 9 = .ok (.invokevirtual 113, 3) := by decide +kernel
theorem c_F_block_9 : bm_iv me_F_block me_R_countRoles 9 6 1 := ⟨_, d_F_block_9, Or.inl ml_F_113, ⟨kc_R_countRoles, in_BatchHall_Recipe, by decide +kernel, by decide, by decide⟩, ki_R_countRoles, ks_R_countRoles, _, _, rfl⟩
theorem d_F_block_12 : decode me_F_block.2.1 12 = .ok (.ifCond .le (10), 3) := by decide +kernel
theorem d_F_block_15 : decode me_F_block.2.1 15 = .ok (.aload_n 0, 1) := by decide +kernel
theorem d_F_block_16 : decode me_F_block.2.1 16 = .ok (.getfield 37, 3) := by decide +kernel
theorem g_F_block_16 : bm_gf me_F_block 16 2 5 := ⟨_, _, _, _, d_F_block_16, rfl, by decide, uw_F, fl_F_37⟩
theorem d_F_block_19 : decode me_F_block.2.1 19 = .ok (.iload_n 2, 1) := by decide +kernel
theorem d_F_block_20 : decode me_F_block.2.1 20 = .ok (.iconst 1, 1) := by decide +kernel
theorem d_F_block_21 : decode me_F_block.2.1 21 = .ok (.iastore, 1) := by decide +kernel
theorem d_F_block_22 : decode me_F_block.2.1 22 = .ok (.iinc 2 (1), 3) := by decide +kernel
theorem d_F_block_25 : decode me_F_block.2.1 25 = .ok (.goto (-23), 3) := by decide +kernel
theorem d_F_block_28 : decode me_F_block.2.1 28 = .ok (.return_, 1) := by decide +kernel
theorem d_F_amountOf_0 : decode me_F_amountOf.2.1 0 = .ok (.iconst 0, 1) := by decide +kernel
theorem d_F_amountOf_1 : decode me_F_amountOf.2.1 1 = .ok (.istore_n 2, 1) := by decide +kernel
theorem d_F_amountOf_2 : decode me_F_amountOf.2.1 2 = .ok (.iconst 0, 1) := by decide +kernel
theorem d_F_amountOf_3 : decode me_F_amountOf.2.1 3 = .ok (.istore_n 3, 1) := by decide +kernel
theorem d_F_amountOf_4 : decode me_F_amountOf.2.1 4 = .ok (.iload_n 3, 1) := by decide +kernel
theorem d_F_amountOf_5 : decode me_F_amountOf.2.1 5 = .ok (.bipush (6), 2) := by decide +kernel
theorem d_F_amountOf_7 : decode me_F_amountOf.2.1 7 = .ok (.if_icmp .ge (22), 3) := by decide +kernel
theorem d_F_amountOf_10 : decode me_F_amountOf.2.1 10 = .ok (.iload_n 2, 1) := by decide +kernel
theorem d_F_amountOf_11 : decode me_F_amountOf.2.1 11 = .ok (.aload_n 0, 1) := by decide +kernel
theorem d_F_amountOf_12 : decode me_F_amountOf.2.1 12 = .ok (.getfield 11, 3) := by decide +kernel
theorem g_F_amountOf_12 : bm_gf me_F_amountOf 12 2 0 := ⟨_, _, _, _, d_F_amountOf_12, rfl, by decide, uw_F, fl_F_11⟩
theorem d_F_amountOf_15 : decode me_F_amountOf.2.1 15 = .ok (.iload_n 3, 1) := by decide +kernel
theorem d_F_amountOf_16 : decode me_F_amountOf.2.1 16 = .ok (.aaload, 1) := by decide +kernel
theorem d_F_amountOf_17 : decode me_F_amountOf.2.1 17 = .ok (.iload_n 1, 1) := by decide +kernel
theorem d_F_amountOf_18 : decode me_F_amountOf.2.1 18 = .ok (.invokevirtual 42, 3) := by decide +kernel
theorem c_F_amountOf_18 : bm_iv me_F_amountOf me_U_amountOf 18 10 1 := ⟨_, d_F_amountOf_18, Or.inl ml_F_42, ⟨kc_U_amountOf, in_BatchHall_Unit, by decide +kernel, by decide, by decide⟩, ki_U_amountOf, ks_U_amountOf, _, _, rfl⟩
theorem d_F_amountOf_21 : decode me_F_amountOf.2.1 21 = .ok (.iadd, 1) := by decide +kernel
theorem d_F_amountOf_22 : decode me_F_amountOf.2.1 22 = .ok (.istore_n 2, 1) := by decide +kernel
theorem d_F_amountOf_23 : decode me_F_amountOf.2.1 23 = .ok (.iinc 3 (1), 3) := by decide +kernel
theorem d_F_amountOf_26 : decode me_F_amountOf.2.1 26 = .ok (.goto (-22), 3) := by decide +kernel
theorem d_F_amountOf_29 : decode me_F_amountOf.2.1 29 = .ok (.iload_n 2, 1) := by decide +kernel
theorem d_F_amountOf_30 : decode me_F_amountOf.2.1 30 = .ok (.ireturn, 1) := by decide +kernel
theorem d_F_enqueue_0 : decode me_F_enqueue.2.1 0 = .ok (.aload_n 0, 1) := by decide +kernel
theorem d_F_enqueue_1 : decode me_F_enqueue.2.1 1 = .ok (.getfield 46, 3) := by decide +kernel
theorem g_F_enqueue_1 : bm_gf me_F_enqueue 1 2 4 := ⟨_, _, _, _, d_F_enqueue_1, rfl, by decide, uw_F, fl_F_46⟩
theorem d_F_enqueue_4 : decode me_F_enqueue.2.1 4 = .ok (.bipush (16), 2) := by decide +kernel
theorem d_F_enqueue_6 : decode me_F_enqueue.2.1 6 = .ok (.if_icmp .ge (28), 3) := by decide +kernel
theorem d_F_enqueue_9 : decode me_F_enqueue.2.1 9 = .ok (.aload_n 1, 1) := by decide +kernel
theorem d_F_enqueue_10 : decode me_F_enqueue.2.1 10 = .ok (.iconst 1, 1) := by decide +kernel
theorem d_F_enqueue_11 : decode me_F_enqueue.2.1 11 = .ok (.putfield 50, 3) := by decide +kernel
theorem p_F_enqueue_11 : bm_pf me_F_enqueue 11 1 4 .int := ⟨_, _, _, _, ty_B, d_F_enqueue_11, rfl, by decide, uw_B, fl_F_50, tk_B, nm_B, rfl, Or.inl rfl⟩
theorem d_F_enqueue_14 : decode me_F_enqueue.2.1 14 = .ok (.aload_n 0, 1) := by decide +kernel
theorem d_F_enqueue_15 : decode me_F_enqueue.2.1 15 = .ok (.getfield 33, 3) := by decide +kernel
theorem g_F_enqueue_15 : bm_gf me_F_enqueue 15 2 3 := ⟨_, _, _, _, d_F_enqueue_15, rfl, by decide, uw_F, fl_F_33⟩
theorem d_F_enqueue_18 : decode me_F_enqueue.2.1 18 = .ok (.aload_n 0, 1) := by decide +kernel
theorem d_F_enqueue_19 : decode me_F_enqueue.2.1 19 = .ok (.getfield 46, 3) := by decide +kernel
theorem g_F_enqueue_19 : bm_gf me_F_enqueue 19 2 4 := ⟨_, _, _, _, d_F_enqueue_19, rfl, by decide, uw_F, fl_F_46⟩
theorem d_F_enqueue_22 : decode me_F_enqueue.2.1 22 = .ok (.aload_n 1, 1) := by decide +kernel
theorem d_F_enqueue_23 : decode me_F_enqueue.2.1 23 = .ok (.aastore, 1) := by decide +kernel
theorem d_F_enqueue_24 : decode me_F_enqueue.2.1 24 = .ok (.aload_n 0, 1) := by decide +kernel
theorem d_F_enqueue_25 : decode me_F_enqueue.2.1 25 = .ok (.dup, 1) := by decide +kernel
theorem d_F_enqueue_26 : decode me_F_enqueue.2.1 26 = .ok (.getfield 46, 3) := by decide +kernel
theorem g_F_enqueue_26 : bm_gf me_F_enqueue 26 2 4 := ⟨_, _, _, _, d_F_enqueue_26, rfl, by decide, uw_F, fl_F_46⟩
theorem d_F_enqueue_29 : decode me_F_enqueue.2.1 29 = .ok (.iconst 1, 1) := by decide +kernel
theorem d_F_enqueue_30 : decode me_F_enqueue.2.1 30 = .ok (.iadd, 1) := by decide +kernel
theorem d_F_enqueue_31 : decode me_F_enqueue.2.1 31 = .ok (.putfield 46, 3) := by decide +kernel
theorem p_F_enqueue_31 : bm_pf me_F_enqueue 31 2 4 .int := ⟨_, _, _, _, ty_F, d_F_enqueue_31, rfl, by decide, uw_F, fl_F_46, tk_F, nm_F, rfl, Or.inl rfl⟩
theorem d_F_enqueue_34 : decode me_F_enqueue.2.1 34 = .ok (.return_, 1) := by decide +kernel
