theorem d_K_init_0 : decode me_K_init.2.1 0 = .ok (.aload_n 0, 1) := by decide +kernel
theorem d_K_init_1 : decode me_K_init.2.1 1 = .ok (.invokespecial 3, 3) := by decide +kernel
theorem c_K_init_1 : bm_io me_K_init 1 := ⟨_, d_K_init_1, ml_K_3, ki_obj, kc_obj, by decide, by decide⟩
theorem d_K_init_4 : decode me_K_init.2.1 4 = .ok (.aload_n 0, 1) := by decide +kernel
theorem d_K_init_5 : decode me_K_init.2.1 5 = .ok (.bipush (100), 2) := by decide +kernel
theorem d_K_init_7 : decode me_K_init.2.1 7 = .ok (.anewarray 9, 3) := by decide +kernel
theorem n_K_init_7 : bm_nq me_K_init 7 6 := ⟨_, _, d_K_init_7, lc_K_9, by decide +kernel, rfl⟩
theorem d_K_init_10 : decode me_K_init.2.1 10 = .ok (.putfield 11, 3) := by decide +kernel
theorem p_K_init_10 : bm_pf me_K_init 10 4 1 (.array (.object "BatchHall$Lot")) := ⟨_, _, _, _, ty_K, d_K_init_10, rfl, by decide, uw_K, fl_K_11, tk_K, nm_K, rfl, Or.inr ⟨rfl, rfl, rfl⟩⟩
theorem d_K_init_13 : decode me_K_init.2.1 13 = .ok (.aload_n 0, 1) := by decide +kernel
theorem d_K_init_14 : decode me_K_init.2.1 14 = .ok (.bipush (100), 2) := by decide +kernel
theorem d_K_init_16 : decode me_K_init.2.1 16 = .ok (.newarray .int, 2) := by decide +kernel
theorem n_K_init_16 : bm_na me_K_init 16 0 .int := ⟨_, d_K_init_16, rfl, ac_int, rfl, by decide⟩
theorem d_K_init_18 : decode me_K_init.2.1 18 = .ok (.putfield 17, 3) := by decide +kernel
theorem p_K_init_18 : bm_pf me_K_init 18 4 2 (.array .int) := ⟨_, _, _, _, ty_K, d_K_init_18, rfl, by decide, uw_K, fl_K_17, tk_K, nm_K, rfl, Or.inr ⟨rfl, rfl, rfl⟩⟩
theorem d_K_init_21 : decode me_K_init.2.1 21 = .ok (.return_, 1) := by decide +kernel
theorem d_K_isFull_0 : decode me_K_isFull.2.1 0 = .ok (.aload_n 0, 1) := by decide +kernel
theorem d_K_isFull_1 : decode me_K_isFull.2.1 1 = .ok (.getfield 21, 3) := by decide +kernel
theorem g_K_isFull_1 : bm_gf me_K_isFull 1 4 0 := ⟨_, _, _, _, d_K_isFull_1, rfl, by decide, uw_K, fl_K_21⟩
theorem d_K_isFull_4 : decode me_K_isFull.2.1 4 = .ok (.bipush (100), 2) := by decide +kernel
theorem d_K_isFull_6 : decode me_K_isFull.2.1 6 = .ok (.if_icmp .lt (7), 3) := by decide +kernel
theorem d_K_isFull_9 : decode me_K_isFull.2.1 9 = .ok (.iconst 1, 1) := by decide +kernel
theorem d_K_isFull_10 : decode me_K_isFull.2.1 10 = .ok (.goto (4), 3) := by decide +kernel
theorem d_K_isFull_13 : decode me_K_isFull.2.1 13 = .ok (.iconst 0, 1) := by decide +kernel
theorem d_K_isFull_14 : decode me_K_isFull.2.1 14 = .ok (.ireturn, 1) := by decide +kernel
theorem d_K_open_0 : decode me_K_open.2.1 0 = .ok (.aload_n 0, 1) := by decide +kernel
theorem d_K_open_1 : decode me_K_open.2.1 1 = .ok (.getfield 21, 3) := by decide +kernel
theorem g_K_open_1 : bm_gf me_K_open 1 4 0 := ⟨_, _, _, _, d_K_open_1, rfl, by decide, uw_K, fl_K_21⟩
theorem d_K_open_4 : decode me_K_open.2.1 4 = .ok (.istore_n 3, 1) := by decide +kernel
theorem d_K_open_5 : decode me_K_open.2.1 5 = .ok (.aload_n 0, 1) := by decide +kernel
theorem d_K_open_6 : decode me_K_open.2.1 6 = .ok (.getfield 11, 3) := by decide +kernel
theorem g_K_open_6 : bm_gf me_K_open 6 4 1 := ⟨_, _, _, _, d_K_open_6, rfl, by decide, uw_K, fl_K_11⟩
theorem d_K_open_9 : decode me_K_open.2.1 9 = .ok (.iload_n 3, 1) := by decide +kernel
theorem d_K_open_10 : decode me_K_open.2.1 10 = .ok (.new 9, 3) := by decide +kernel
theorem n_K_open_10 : bm_nw me_K_open 10 3 [.int 0, .int 0, .null, .null, .int 0] := ⟨_, _, _, _, ty_L, d_K_open_10, rfl, uw_L, tk_L, lc_K_9, ic_BatchHall_Lot, in_BatchHall_Lot, by decide, rfl, by simp⟩
theorem d_K_open_13 : decode me_K_open.2.1 13 = .ok (.dup, 1) := by decide +kernel
theorem d_K_open_14 : decode me_K_open.2.1 14 = .ok (.iload_n 1, 1) := by decide +kernel
theorem d_K_open_15 : decode me_K_open.2.1 15 = .ok (.iload_n 2, 1) := by decide +kernel
theorem d_K_open_16 : decode me_K_open.2.1 16 = .ok (.invokespecial 25, 3) := by decide +kernel
theorem c_K_open_16 : bm_ii me_K_open me_L_init 16 2 := ⟨_, d_K_open_16, Or.inl ml_K_25, ⟨kc_L_init, in_BatchHall_Lot, by decide +kernel, by decide, by decide⟩, ki_L_init, rfl, rfl⟩
theorem d_K_open_19 : decode me_K_open.2.1 19 = .ok (.aastore, 1) := by decide +kernel
theorem d_K_open_20 : decode me_K_open.2.1 20 = .ok (.aload_n 0, 1) := by decide +kernel
theorem d_K_open_21 : decode me_K_open.2.1 21 = .ok (.dup, 1) := by decide +kernel
theorem d_K_open_22 : decode me_K_open.2.1 22 = .ok (.getfield 21, 3) := by decide +kernel
theorem g_K_open_22 : bm_gf me_K_open 22 4 0 := ⟨_, _, _, _, d_K_open_22, rfl, by decide, uw_K, fl_K_21⟩
theorem d_K_open_25 : decode me_K_open.2.1 25 = .ok (.iconst 1, 1) := by decide +kernel
theorem d_K_open_26 : decode me_K_open.2.1 26 = .ok (.iadd, 1) := by decide +kernel
theorem d_K_open_27 : decode me_K_open.2.1 27 = .ok (.putfield 21, 3) := by decide +kernel
theorem p_K_open_27 : bm_pf me_K_open 27 4 0 .int := ⟨_, _, _, _, ty_K, d_K_open_27, rfl, by decide, uw_K, fl_K_21, tk_K, nm_K, rfl, Or.inl rfl⟩
theorem d_K_open_30 : decode me_K_open.2.1 30 = .ok (.iload_n 3, 1) := by decide +kernel
theorem d_K_open_31 : decode me_K_open.2.1 31 = .ok (.ireturn, 1) := by decide +kernel
theorem d_K_putInto_0 : decode me_K_putInto.2.1 0 = .ok (.aload_n 0, 1) := by decide +kernel
theorem d_K_putInto_1 : decode me_K_putInto.2.1 1 = .ok (.getfield 11, 3) := by decide +kernel
theorem g_K_putInto_1 : bm_gf me_K_putInto 1 4 1 := ⟨_, _, _, _, d_K_putInto_1, rfl, by decide, uw_K, fl_K_11⟩
theorem d_K_putInto_4 : decode me_K_putInto.2.1 4 = .ok (.iload_n 1, 1) := by decide +kernel
theorem d_K_putInto_5 : decode me_K_putInto.2.1 5 = .ok (.aaload, 1) := by decide +kernel
theorem d_K_putInto_6 : decode me_K_putInto.2.1 6 = .ok (.aload_n 2, 1) := by decide +kernel
theorem d_K_putInto_7 : decode me_K_putInto.2.1 7 = .ok (.getfield 28, 3) := by decide +kernel
theorem g_K_putInto_7 : bm_gf me_K_putInto 7 10 3 := ⟨_, _, _, _, d_K_putInto_7, rfl, by decide, uw_U, fl_K_28⟩
theorem d_K_putInto_10 : decode me_K_putInto.2.1 10 = .ok (.aload_n 2, 1) := by decide +kernel
theorem d_K_putInto_11 : decode me_K_putInto.2.1 11 = .ok (.getfield 33, 3) := by decide +kernel
theorem g_K_putInto_11 : bm_gf me_K_putInto 11 10 2 := ⟨_, _, _, _, d_K_putInto_11, rfl, by decide, uw_U, fl_K_33⟩
theorem d_K_putInto_14 : decode me_K_putInto.2.1 14 = .ok (.invokestatic 36, 3) := by decide +kernel
theorem c_K_putInto_14 : bm_is me_K_putInto me_A_copyOf 14 2 := ⟨_, d_K_putInto_14, Or.inl ml_K_36, ⟨kc_A_copyOf, in_java_util_Arrays, by decide +kernel, by decide, by decide⟩, kt_A_copyOf⟩
theorem d_K_putInto_17 : decode me_K_putInto.2.1 17 = .ok (.putfield 42, 3) := by decide +kernel
theorem p_K_putInto_17 : bm_pf me_K_putInto 17 3 2 (.array .int) := ⟨_, _, _, _, ty_L, d_K_putInto_17, rfl, by decide, uw_L, fl_K_42, tk_L, nm_L, rfl, Or.inl rfl⟩
theorem d_K_putInto_20 : decode me_K_putInto.2.1 20 = .ok (.aload_n 0, 1) := by decide +kernel
theorem d_K_putInto_21 : decode me_K_putInto.2.1 21 = .ok (.getfield 11, 3) := by decide +kernel
theorem g_K_putInto_21 : bm_gf me_K_putInto 21 4 1 := ⟨_, _, _, _, d_K_putInto_21, rfl, by decide, uw_K, fl_K_11⟩
theorem d_K_putInto_24 : decode me_K_putInto.2.1 24 = .ok (.iload_n 1, 1) := by decide +kernel
theorem d_K_putInto_25 : decode me_K_putInto.2.1 25 = .ok (.aaload, 1) := by decide +kernel
theorem d_K_putInto_26 : decode me_K_putInto.2.1 26 = .ok (.aload_n 2, 1) := by decide +kernel
theorem d_K_putInto_27 : decode me_K_putInto.2.1 27 = .ok (.getfield 45, 3) := by decide +kernel
theorem g_K_putInto_27 : bm_gf me_K_putInto 27 10 4 := ⟨_, _, _, _, d_K_putInto_27, rfl, by decide, uw_U, fl_K_45⟩
theorem d_K_putInto_30 : decode me_K_putInto.2.1 30 = .ok (.aload_n 2, 1) := by decide +kernel
theorem d_K_putInto_31 : decode me_K_putInto.2.1 31 = .ok (.getfield 33, 3) := by decide +kernel
theorem g_K_putInto_31 : bm_gf me_K_putInto 31 10 2 := ⟨_, _, _, _, d_K_putInto_31, rfl, by decide, uw_U, fl_K_33⟩
theorem d_K_putInto_34 : decode me_K_putInto.2.1 34 = .ok (.invokestatic 36, 3) := by decide +kernel
theorem c_K_putInto_34 : bm_is me_K_putInto me_A_copyOf 34 2 := ⟨_, d_K_putInto_34, Or.inl ml_K_36, ⟨kc_A_copyOf, in_java_util_Arrays, by decide +kernel, by decide, by decide⟩, kt_A_copyOf⟩
theorem d_K_putInto_37 : decode me_K_putInto.2.1 37 = .ok (.putfield 48, 3) := by decide +kernel
theorem p_K_putInto_37 : bm_pf me_K_putInto 37 3 3 (.array .int) := ⟨_, _, _, _, ty_L, d_K_putInto_37, rfl, by decide, uw_L, fl_K_48, tk_L, nm_L, rfl, Or.inl rfl⟩
theorem d_K_putInto_40 : decode me_K_putInto.2.1 40 = .ok (.iconst 0, 1) := by decide +kernel
theorem d_K_putInto_41 : decode me_K_putInto.2.1 41 = .ok (.istore_n 3, 1) := by decide +kernel
theorem d_K_putInto_42 : decode me_K_putInto.2.1 42 = .ok (.iload_n 3, 1) := by decide +kernel
theorem d_K_putInto_43 : decode me_K_putInto.2.1 43 = .ok (.aload_n 2, 1) := by decide +kernel
theorem d_K_putInto_44 : decode me_K_putInto.2.1 44 = .ok (.getfield 33, 3) := by decide +kernel
theorem g_K_putInto_44 : bm_gf me_K_putInto 44 10 2 := ⟨_, _, _, _, d_K_putInto_44, rfl, by decide, uw_U, fl_K_33⟩
theorem d_K_putInto_47 : decode me_K_putInto.2.1 47 = .ok (.if_icmp .ge (29), 3) := by decide +kernel
theorem d_K_putInto_50 : decode me_K_putInto.2.1 50 = .ok (.aload_n 0, 1) := by decide +kernel
theorem d_K_putInto_51 : decode me_K_putInto.2.1 51 = .ok (.getfield 11, 3) := by decide +kernel
theorem g_K_putInto_51 : bm_gf me_K_putInto 51 4 1 := ⟨_, _, _, _, d_K_putInto_51, rfl, by decide, uw_K, fl_K_11⟩
theorem d_K_putInto_54 : decode me_K_putInto.2.1 54 = .ok (.aload_n 2, 1) := by decide +kernel
theorem d_K_putInto_55 : decode me_K_putInto.2.1 55 = .ok (.getfield 28, 3) := by decide +kernel
theorem g_K_putInto_55 : bm_gf me_K_putInto 55 10 3 := ⟨_, _, _, _, d_K_putInto_55, rfl, by decide, uw_U, fl_K_28⟩
theorem d_K_putInto_58 : decode me_K_putInto.2.1 58 = .ok (.iload_n 3, 1) := by decide +kernel
theorem d_K_putInto_59 : decode me_K_putInto.2.1 59 = .ok (.iaload, 1) := by decide +kernel
theorem d_K_putInto_60 : decode me_K_putInto.2.1 60 = .ok (.aaload, 1) := by decide +kernel
theorem d_K_putInto_61 : decode me_K_putInto.2.1 61 = .ok (.dup, 1) := by decide +kernel
theorem d_K_putInto_62 : decode me_K_putInto.2.1 62 = .ok (.getfield 51, 3) := by decide +kernel
theorem g_K_putInto_62 : bm_gf me_K_putInto 62 3 4 := ⟨_, _, _, _, d_K_putInto_62, rfl, by decide, uw_L, fl_K_51⟩
theorem d_K_putInto_65 : decode me_K_putInto.2.1 65 = .ok (.iconst 1, 1) := by decide +kernel
theorem d_K_putInto_66 : decode me_K_putInto.2.1 66 = .ok (.iadd, 1) := by decide +kernel
theorem d_K_putInto_67 : decode me_K_putInto.2.1 67 = .ok (.putfield 51, 3) := by decide +kernel
theorem p_K_putInto_67 : bm_pf me_K_putInto 67 3 4 .int := ⟨_, _, _, _, ty_L, d_K_putInto_67, rfl, by decide, uw_L, fl_K_51, tk_L, nm_L, rfl, Or.inl rfl⟩
theorem d_K_putInto_70 : decode me_K_putInto.2.1 70 = .ok (.iinc 3 (1), 3) := by decide +kernel
theorem d_K_putInto_73 : decode me_K_putInto.2.1 73 = .ok (.goto (-31), 3) := by decide +kernel
theorem d_K_putInto_76 : decode me_K_putInto.2.1 76 = .ok (.return_, 1) := by decide +kernel
theorem d_K_markOutcomes_0 : decode me_K_markOutcomes.2.1 0 = .ok (.aload_n 0, 1) := by decide +kernel
theorem d_K_markOutcomes_1 : decode me_K_markOutcomes.2.1 1 = .ok (.getfield 17, 3) := by decide +kernel
theorem g_K_markOutcomes_1 : bm_gf me_K_markOutcomes 1 4 2 := ⟨_, _, _, _, d_K_markOutcomes_1, rfl, by decide, uw_K, fl_K_17⟩
theorem d_K_markOutcomes_4 : decode me_K_markOutcomes.2.1 4 = .ok (.iconst 0, 1) := by decide +kernel
theorem d_K_markOutcomes_5 : decode me_K_markOutcomes.2.1 5 = .ok (.invokestatic 54, 3) := by decide +kernel
theorem c_K_markOutcomes_5 : bm_is me_K_markOutcomes me_A_fill 5 2 := ⟨_, d_K_markOutcomes_5, Or.inl ml_K_54, ⟨kc_A_fill, in_java_util_Arrays, by decide +kernel, by decide, by decide⟩, kt_A_fill⟩
theorem d_K_markOutcomes_8 : decode me_K_markOutcomes.2.1 8 = .ok (.aload_n 0, 1) := by decide +kernel
theorem d_K_markOutcomes_9 : decode me_K_markOutcomes.2.1 9 = .ok (.getfield 17, 3) := by decide +kernel
theorem g_K_markOutcomes_9 : bm_gf me_K_markOutcomes 9 4 2 := ⟨_, _, _, _, d_K_markOutcomes_9, rfl, by decide, uw_K, fl_K_17⟩
theorem d_K_markOutcomes_12 : decode me_K_markOutcomes.2.1 12 = .ok (.iload_n 1, 1) := by decide +kernel
theorem d_K_markOutcomes_13 : decode me_K_markOutcomes.2.1 13 = .ok (.iconst 1, 1) := by decide +kernel
theorem d_K_markOutcomes_14 : decode me_K_markOutcomes.2.1 14 = .ok (.iastore, 1) := by decide +kernel
theorem d_K_markOutcomes_15 : decode me_K_markOutcomes.2.1 15 = .ok (.iload_n 1, 1) := by decide +kernel
theorem d_K_markOutcomes_16 : decode me_K_markOutcomes.2.1 16 = .ok (.iconst 1, 1) := by decide +kernel
theorem d_K_markOutcomes_17 : decode me_K_markOutcomes.2.1 17 = .ok (.iadd, 1) := by decide +kernel
theorem d_K_markOutcomes_18 : decode me_K_markOutcomes.2.1 18 = .ok (.istore_n 2, 1) := by decide +kernel
theorem d_K_markOutcomes_19 : decode me_K_markOutcomes.2.1 19 = .ok (.iload_n 2, 1) := by decide +kernel
theorem d_K_markOutcomes_20 : decode me_K_markOutcomes.2.1 20 = .ok (.aload_n 0, 1) := by decide +kernel
theorem d_K_markOutcomes_21 : decode me_K_markOutcomes.2.1 21 = .ok (.getfield 21, 3) := by decide +kernel
theorem g_K_markOutcomes_21 : bm_gf me_K_markOutcomes 21 4 0 := ⟨_, _, _, _, d_K_markOutcomes_21, rfl, by decide, uw_K, fl_K_21⟩
theorem d_K_markOutcomes_24 : decode me_K_markOutcomes.2.1 24 = .ok (.if_icmp .ge (32), 3) := by decide +kernel
theorem d_K_markOutcomes_27 : decode me_K_markOutcomes.2.1 27 = .ok (.aload_n 0, 1) := by decide +kernel
theorem d_K_markOutcomes_28 : decode me_K_markOutcomes.2.1 28 = .ok (.aload_n 0, 1) := by decide +kernel
theorem d_K_markOutcomes_29 : decode me_K_markOutcomes.2.1 29 = .ok (.getfield 11, 3) := by decide +kernel
theorem g_K_markOutcomes_29 : bm_gf me_K_markOutcomes 29 4 1 := ⟨_, _, _, _, d_K_markOutcomes_29, rfl, by decide, uw_K, fl_K_11⟩
theorem d_K_markOutcomes_32 : decode me_K_markOutcomes.2.1 32 = .ok (.iload_n 2, 1) := by decide +kernel
theorem d_K_markOutcomes_33 : decode me_K_markOutcomes.2.1 33 = .ok (.aaload, 1) := by decide +kernel
theorem d_K_markOutcomes_34 : decode me_K_markOutcomes.2.1 34 = .ok (.getfield 42, 3) := by decide +kernel
theorem g_K_markOutcomes_34 : bm_gf me_K_markOutcomes 34 3 2 := ⟨_, _, _, _, d_K_markOutcomes_34, rfl, by decide, uw_L, fl_K_42⟩
theorem d_K_markOutcomes_37 : decode me_K_markOutcomes.2.1 37 = .ok (.invokevirtual 62, 3) := by decide +kernel
theorem c_K_markOutcomes_37 : bm_iv me_K_markOutcomes me_K_hasMarked 37 4 1 := ⟨_, d_K_markOutcomes_37, Or.inl ml_K_62, ⟨kc_K_hasMarked, in_BatchHall_LotBook, by decide +kernel, by decide, by decide⟩, ki_K_hasMarked, ks_K_hasMarked, _, _, rfl⟩
theorem d_K_markOutcomes_40 : decode me_K_markOutcomes.2.1 40 = .ok (.ifCond .eq (10), 3) := by decide +kernel
theorem d_K_markOutcomes_43 : decode me_K_markOutcomes.2.1 43 = .ok (.aload_n 0, 1) := by decide +kernel
theorem d_K_markOutcomes_44 : decode me_K_markOutcomes.2.1 44 = .ok (.getfield 17, 3) := by decide +kernel
theorem g_K_markOutcomes_44 : bm_gf me_K_markOutcomes 44 4 2 := ⟨_, _, _, _, d_K_markOutcomes_44, rfl, by decide, uw_K, fl_K_17⟩
theorem d_K_markOutcomes_47 : decode me_K_markOutcomes.2.1 47 = .ok (.iload_n 2, 1) := by decide +kernel
theorem d_K_markOutcomes_48 : decode me_K_markOutcomes.2.1 48 = .ok (.iconst 1, 1) := by decide +kernel
theorem d_K_markOutcomes_49 : decode me_K_markOutcomes.2.1 49 = .ok (.iastore, 1) := by decide +kernel
theorem d_K_markOutcomes_50 : decode me_K_markOutcomes.2.1 50 = .ok (.iinc 2 (1), 3) := by decide +kernel
theorem d_K_markOutcomes_53 : decode me_K_markOutcomes.2.1 53 = .ok (.goto (-34), 3) := by decide +kernel
theorem d_K_markOutcomes_56 : decode me_K_markOutcomes.2.1 56 = .ok (.aload_n 0, 1) := by decide +kernel
theorem d_K_markOutcomes_57 : decode me_K_markOutcomes.2.1 57 = .ok (.getfield 17, 3) := by decide +kernel
theorem g_K_markOutcomes_57 : bm_gf me_K_markOutcomes 57 4 2 := ⟨_, _, _, _, d_K_markOutcomes_57, rfl, by decide, uw_K, fl_K_17⟩
theorem d_K_markOutcomes_60 : decode me_K_markOutcomes.2.1 60 = .ok (.iload_n 1, 1) := by decide +kernel
theorem d_K_markOutcomes_61 : decode me_K_markOutcomes.2.1 61 = .ok (.iconst 0, 1) := by decide +kernel
theorem d_K_markOutcomes_62 : decode me_K_markOutcomes.2.1 62 = .ok (.iastore, 1) := by decide +kernel
theorem d_K_markOutcomes_63 : decode me_K_markOutcomes.2.1 63 = .ok (.return_, 1) := by decide +kernel
theorem d_K_hasMarked_0 : decode me_K_hasMarked.2.1 0 = .ok (.iconst 0, 1) := by decide +kernel
theorem d_K_hasMarked_1 : decode me_K_hasMarked.2.1 1 = .ok (.istore_n 2, 1) := by decide +kernel
theorem d_K_hasMarked_2 : decode me_K_hasMarked.2.1 2 = .ok (.iload_n 2, 1) := by decide +kernel
theorem d_K_hasMarked_3 : decode me_K_hasMarked.2.1 3 = .ok (.aload_n 1, 1) := by decide +kernel
theorem d_K_hasMarked_4 : decode me_K_hasMarked.2.1 4 = .ok (.arraylength, 1) := by decide +kernel
theorem d_K_hasMarked_5 : decode me_K_hasMarked.2.1 5 = .ok (.if_icmp .ge (23), 3) := by decide +kernel
theorem d_K_hasMarked_8 : decode me_K_hasMarked.2.1 8 = .ok (.aload_n 0, 1) := by decide +kernel
theorem d_K_hasMarked_9 : decode me_K_hasMarked.2.1 9 = .ok (.getfield 17, 3) := by decide +kernel
theorem g_K_hasMarked_9 : bm_gf me_K_hasMarked 9 4 2 := ⟨_, _, _, _, d_K_hasMarked_9, rfl, by decide, uw_K, fl_K_17⟩
theorem d_K_hasMarked_12 : decode me_K_hasMarked.2.1 12 = .ok (.aload_n 1, 1) := by decide +kernel
theorem d_K_hasMarked_13 : decode me_K_hasMarked.2.1 13 = .ok (.iload_n 2, 1) := by decide +kernel
theorem d_K_hasMarked_14 : decode me_K_hasMarked.2.1 14 = .ok (.iaload, 1) := by decide +kernel
theorem d_K_hasMarked_15 : decode me_K_hasMarked.2.1 15 = .ok (.iaload, 1) := by decide +kernel
theorem d_K_hasMarked_16 : decode me_K_hasMarked.2.1 16 = .ok (.iconst 1, 1) := by decide +kernel
theorem d_K_hasMarked_17 : decode me_K_hasMarked.2.1 17 = .ok (.if_icmp .ne (5), 3) := by decide +kernel
theorem d_K_hasMarked_20 : decode me_K_hasMarked.2.1 20 = .ok (.iconst 1, 1) := by decide +kernel
theorem d_K_hasMarked_21 : decode me_K_hasMarked.2.1 21 = .ok (.ireturn, 1) := by decide +kernel
theorem d_K_hasMarked_22 : decode me_K_hasMarked.2.1 22 = .ok (.iinc 2 (1), 3) := by decide +kernel
theorem d_K_hasMarked_25 : decode me_K_hasMarked.2.1 25 = .ok (.goto (-23), 3) := by decide +kernel
theorem d_K_hasMarked_28 : decode me_K_hasMarked.2.1 28 = .ok (.iconst 0, 1) := by decide +kernel
theorem d_K_hasMarked_29 : decode me_K_hasMarked.2.1 29 = .ok (.ireturn, 1) := by decide +kernel
theorem d_K_markOrigins_0 : decode me_K_markOrigins.2.1 0 = .ok (.aload_n 0, 1) := by decide +kernel
theorem d_K_markOrigins_1 : decode me_K_markOrigins.2.1 1 = .ok (.getfield 17, 3) := by decide +kernel
theorem g_K_markOrigins_1 : bm_gf me_K_markOrigins 1 4 2 := ⟨_, _, _, _, d_K_markOrigins_1, rfl, by decide, uw_K, fl_K_17⟩
theorem d_K_markOrigins_4 : decode me_K_markOrigins.2.1 4 = .ok (.iconst 0, 1) := by decide +kernel
theorem d_K_markOrigins_5 : decode me_K_markOrigins.2.1 5 = .ok (.invokestatic 54, 3) := by decide +kernel
theorem c_K_markOrigins_5 : bm_is me_K_markOrigins me_A_fill 5 2 := ⟨_, d_K_markOrigins_5, Or.inl ml_K_54, ⟨kc_A_fill, in_java_util_Arrays, by decide +kernel, by decide, by decide⟩, kt_A_fill⟩
theorem d_K_markOrigins_8 : decode me_K_markOrigins.2.1 8 = .ok (.aload_n 0, 1) := by decide +kernel
theorem d_K_markOrigins_9 : decode me_K_markOrigins.2.1 9 = .ok (.getfield 17, 3) := by decide +kernel
theorem g_K_markOrigins_9 : bm_gf me_K_markOrigins 9 4 2 := ⟨_, _, _, _, d_K_markOrigins_9, rfl, by decide, uw_K, fl_K_17⟩
theorem d_K_markOrigins_12 : decode me_K_markOrigins.2.1 12 = .ok (.iload_n 1, 1) := by decide +kernel
theorem d_K_markOrigins_13 : decode me_K_markOrigins.2.1 13 = .ok (.iconst 1, 1) := by decide +kernel
theorem d_K_markOrigins_14 : decode me_K_markOrigins.2.1 14 = .ok (.iastore, 1) := by decide +kernel
theorem d_K_markOrigins_15 : decode me_K_markOrigins.2.1 15 = .ok (.iload_n 1, 1) := by decide +kernel
theorem d_K_markOrigins_16 : decode me_K_markOrigins.2.1 16 = .ok (.istore_n 2, 1) := by decide +kernel
theorem d_K_markOrigins_17 : decode me_K_markOrigins.2.1 17 = .ok (.iload_n 2, 1) := by decide +kernel
theorem d_K_markOrigins_18 : decode me_K_markOrigins.2.1 18 = .ok (.ifCond .lt (32), 3) := by decide +kernel
theorem d_K_markOrigins_21 : decode me_K_markOrigins.2.1 21 = .ok (.aload_n 0, 1) := by decide +kernel
theorem d_K_markOrigins_22 : decode me_K_markOrigins.2.1 22 = .ok (.getfield 17, 3) := by decide +kernel
theorem g_K_markOrigins_22 : bm_gf me_K_markOrigins 22 4 2 := ⟨_, _, _, _, d_K_markOrigins_22, rfl, by decide, uw_K, fl_K_17⟩
theorem d_K_markOrigins_25 : decode me_K_markOrigins.2.1 25 = .ok (.iload_n 2, 1) := by decide +kernel
theorem d_K_markOrigins_26 : decode me_K_markOrigins.2.1 26 = .ok (.iaload, 1) := by decide +kernel
theorem d_K_markOrigins_27 : decode me_K_markOrigins.2.1 27 = .ok (.iconst 1, 1) := by decide +kernel
theorem d_K_markOrigins_28 : decode me_K_markOrigins.2.1 28 = .ok (.if_icmp .ne (16), 3) := by decide +kernel
theorem d_K_markOrigins_31 : decode me_K_markOrigins.2.1 31 = .ok (.aload_n 0, 1) := by decide +kernel
theorem d_K_markOrigins_32 : decode me_K_markOrigins.2.1 32 = .ok (.aload_n 0, 1) := by decide +kernel
theorem d_K_markOrigins_33 : decode me_K_markOrigins.2.1 33 = .ok (.getfield 11, 3) := by decide +kernel
theorem g_K_markOrigins_33 : bm_gf me_K_markOrigins 33 4 1 := ⟨_, _, _, _, d_K_markOrigins_33, rfl, by decide, uw_K, fl_K_11⟩
theorem d_K_markOrigins_36 : decode me_K_markOrigins.2.1 36 = .ok (.iload_n 2, 1) := by decide +kernel
theorem d_K_markOrigins_37 : decode me_K_markOrigins.2.1 37 = .ok (.aaload, 1) := by decide +kernel
theorem d_K_markOrigins_38 : decode me_K_markOrigins.2.1 38 = .ok (.getfield 42, 3) := by decide +kernel
theorem g_K_markOrigins_38 : bm_gf me_K_markOrigins 38 3 2 := ⟨_, _, _, _, d_K_markOrigins_38, rfl, by decide, uw_L, fl_K_42⟩
theorem d_K_markOrigins_41 : decode me_K_markOrigins.2.1 41 = .ok (.invokevirtual 58, 3) := by decide +kernel
theorem c_K_markOrigins_41 : bm_iv me_K_markOrigins me_K_markParts 41 4 1 := ⟨_, d_K_markOrigins_41, Or.inl ml_K_58, ⟨kc_K_markParts, in_BatchHall_LotBook, by decide +kernel, by decide, by decide⟩, ki_K_markParts, ks_K_markParts, _, _, rfl⟩
theorem d_K_markOrigins_44 : decode me_K_markOrigins.2.1 44 = .ok (.iinc 2 (-1), 3) := by decide +kernel
theorem d_K_markOrigins_47 : decode me_K_markOrigins.2.1 47 = .ok (.goto (-30), 3) := by decide +kernel
theorem d_K_markOrigins_50 : decode me_K_markOrigins.2.1 50 = .ok (.aload_n 0, 1) := by decide +kernel
theorem d_K_markOrigins_51 : decode me_K_markOrigins.2.1 51 = .ok (.getfield 17, 3) := by decide +kernel
theorem g_K_markOrigins_51 : bm_gf me_K_markOrigins 51 4 2 := ⟨_, _, _, _, d_K_markOrigins_51, rfl, by decide, uw_K, fl_K_17⟩
theorem d_K_markOrigins_54 : decode me_K_markOrigins.2.1 54 = .ok (.iload_n 1, 1) := by decide +kernel
theorem d_K_markOrigins_55 : decode me_K_markOrigins.2.1 55 = .ok (.iconst 0, 1) := by decide +kernel
theorem d_K_markOrigins_56 : decode me_K_markOrigins.2.1 56 = .ok (.iastore, 1) := by decide +kernel
theorem d_K_markOrigins_57 : decode me_K_markOrigins.2.1 57 = .ok (.return_, 1) := by decide +kernel
theorem d_K_markParts_0 : decode me_K_markParts.2.1 0 = .ok (.iconst 0, 1) := by decide +kernel
theorem d_K_markParts_1 : decode me_K_markParts.2.1 1 = .ok (.istore_n 2, 1) := by decide +kernel
theorem d_K_markParts_2 : decode me_K_markParts.2.1 2 = .ok (.iload_n 2, 1) := by decide +kernel
theorem d_K_markParts_3 : decode me_K_markParts.2.1 3 = .ok (.aload_n 1, 1) := by decide +kernel
theorem d_K_markParts_4 : decode me_K_markParts.2.1 4 = .ok (.arraylength, 1) := by decide +kernel
theorem d_K_markParts_5 : decode me_K_markParts.2.1 5 = .ok (.if_icmp .ge (18), 3) := by decide +kernel
theorem d_K_markParts_8 : decode me_K_markParts.2.1 8 = .ok (.aload_n 0, 1) := by decide +kernel
theorem d_K_markParts_9 : decode me_K_markParts.2.1 9 = .ok (.getfield 17, 3) := by decide +kernel
theorem g_K_markParts_9 : bm_gf me_K_markParts 9 4 2 := ⟨_, _, _, _, d_K_markParts_9, rfl, by decide, uw_K, fl_K_17⟩
theorem d_K_markParts_12 : decode me_K_markParts.2.1 12 = .ok (.aload_n 1, 1) := by decide +kernel
theorem d_K_markParts_13 : decode me_K_markParts.2.1 13 = .ok (.iload_n 2, 1) := by decide +kernel
theorem d_K_markParts_14 : decode me_K_markParts.2.1 14 = .ok (.iaload, 1) := by decide +kernel
theorem d_K_markParts_15 : decode me_K_markParts.2.1 15 = .ok (.iconst 1, 1) := by decide +kernel
theorem d_K_markParts_16 : decode me_K_markParts.2.1 16 = .ok (.iastore, 1) := by decide +kernel
theorem d_K_markParts_17 : decode me_K_markParts.2.1 17 = .ok (.iinc 2 (1), 3) := by decide +kernel
theorem d_K_markParts_20 : decode me_K_markParts.2.1 20 = .ok (.goto (-18), 3) := by decide +kernel
theorem d_K_markParts_23 : decode me_K_markParts.2.1 23 = .ok (.return_, 1) := by decide +kernel
theorem d_K_findMarked_0 : decode me_K_findMarked.2.1 0 = .ok (.iconst 0, 1) := by decide +kernel
theorem d_K_findMarked_1 : decode me_K_findMarked.2.1 1 = .ok (.istore_n 2, 1) := by decide +kernel
theorem d_K_findMarked_2 : decode me_K_findMarked.2.1 2 = .ok (.iconst 0, 1) := by decide +kernel
theorem d_K_findMarked_3 : decode me_K_findMarked.2.1 3 = .ok (.istore_n 3, 1) := by decide +kernel
theorem d_K_findMarked_4 : decode me_K_findMarked.2.1 4 = .ok (.iload_n 3, 1) := by decide +kernel
theorem d_K_findMarked_5 : decode me_K_findMarked.2.1 5 = .ok (.aload_n 0, 1) := by decide +kernel
theorem d_K_findMarked_6 : decode me_K_findMarked.2.1 6 = .ok (.getfield 21, 3) := by decide +kernel
theorem g_K_findMarked_6 : bm_gf me_K_findMarked 6 4 0 := ⟨_, _, _, _, d_K_findMarked_6, rfl, by decide, uw_K, fl_K_21⟩
theorem d_K_findMarked_9 : decode me_K_findMarked.2.1 9 = .ok (.if_icmp .ge (29), 3) := by decide +kernel
theorem d_K_findMarked_12 : decode me_K_findMarked.2.1 12 = .ok (.aload_n 0, 1) := by decide +kernel
theorem d_K_findMarked_13 : decode me_K_findMarked.2.1 13 = .ok (.getfield 17, 3) := by decide +kernel
theorem g_K_findMarked_13 : bm_gf me_K_findMarked 13 4 2 := ⟨_, _, _, _, d_K_findMarked_13, rfl, by decide, uw_K, fl_K_17⟩
theorem d_K_findMarked_16 : decode me_K_findMarked.2.1 16 = .ok (.iload_n 3, 1) := by decide +kernel
theorem d_K_findMarked_17 : decode me_K_findMarked.2.1 17 = .ok (.iaload, 1) := by decide +kernel
theorem d_K_findMarked_18 : decode me_K_findMarked.2.1 18 = .ok (.iconst 1, 1) := by decide +kernel
theorem d_K_findMarked_19 : decode me_K_findMarked.2.1 19 = .ok (.if_icmp .ne (13), 3) := by decide +kernel
theorem d_K_findMarked_22 : decode me_K_findMarked.2.1 22 = .ok (.iload_n 2, 1) := by decide +kernel
theorem d_K_findMarked_23 : decode me_K_findMarked.2.1 23 = .ok (.iload_n 1, 1) := by decide +kernel
theorem d_K_findMarked_24 : decode me_K_findMarked.2.1 24 = .ok (.if_icmp .ne (5), 3) := by decide +kernel
theorem d_K_findMarked_27 : decode me_K_findMarked.2.1 27 = .ok (.iload_n 3, 1) := by decide +kernel
theorem d_K_findMarked_28 : decode me_K_findMarked.2.1 28 = .ok (.ireturn, 1) := by decide +kernel
theorem d_K_findMarked_29 : decode me_K_findMarked.2.1 29 = .ok (.iinc 2 (1), 3) := by decide +kernel
theorem d_K_findMarked_32 : decode me_K_findMarked.2.1 32 = .ok (.iinc 3 (1), 3) := by decide +kernel
theorem d_K_findMarked_35 : decode me_K_findMarked.2.1 35 = .ok (.goto (-31), 3) := by decide +kernel
theorem d_K_findMarked_38 : decode me_K_findMarked.2.1 38 = .ok (.iconst (-1), 1) := by decide +kernel
theorem d_K_findMarked_39 : decode me_K_findMarked.2.1 39 = .ok (.ireturn, 1) := by decide +kernel
