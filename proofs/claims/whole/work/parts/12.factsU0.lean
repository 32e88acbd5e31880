theorem d_U_init_0 : decode me_U_init.2.1 0 = .ok (.aload_n 0, 1) := by decide +kernel
theorem d_U_init_1 : decode me_U_init.2.1 1 = .ok (.invokespecial 3, 3) := by decide +kernel
theorem c_U_init_1 : bm_io me_U_init 1 := ⟨_, d_U_init_1, ml_U_3, ki_obj, kc_obj, by decide, by decide⟩
theorem d_U_init_4 : decode me_U_init.2.1 4 = .ok (.aload_n 0, 1) := by decide +kernel
theorem d_U_init_5 : decode me_U_init.2.1 5 = .ok (.iconst (-1), 1) := by decide +kernel
theorem d_U_init_6 : decode me_U_init.2.1 6 = .ok (.putfield 9, 3) := by decide +kernel
theorem p_U_init_6 : bm_pf me_U_init 6 10 1 .int := ⟨_, _, _, _, ty_U, d_U_init_6, rfl, by decide, uw_U, fl_U_9, tk_U, nm_U, rfl, Or.inl rfl⟩
theorem d_U_init_9 : decode me_U_init.2.1 9 = .ok (.aload_n 0, 1) := by decide +kernel
theorem d_U_init_10 : decode me_U_init.2.1 10 = .ok (.bipush (100), 2) := by decide +kernel
theorem d_U_init_12 : decode me_U_init.2.1 12 = .ok (.newarray .int, 2) := by decide +kernel
theorem n_U_init_12 : bm_na me_U_init 12 0 .int := ⟨_, d_U_init_12, rfl, ac_int, rfl, by decide⟩
theorem d_U_init_14 : decode me_U_init.2.1 14 = .ok (.putfield 15, 3) := by decide +kernel
theorem p_U_init_14 : bm_pf me_U_init 14 10 3 (.array .int) := ⟨_, _, _, _, ty_U, d_U_init_14, rfl, by decide, uw_U, fl_U_15, tk_U, nm_U, rfl, Or.inr ⟨rfl, rfl, rfl⟩⟩
theorem d_U_init_17 : decode me_U_init.2.1 17 = .ok (.aload_n 0, 1) := by decide +kernel
theorem d_U_init_18 : decode me_U_init.2.1 18 = .ok (.bipush (100), 2) := by decide +kernel
theorem d_U_init_20 : decode me_U_init.2.1 20 = .ok (.newarray .int, 2) := by decide +kernel
theorem n_U_init_20 : bm_na me_U_init 20 0 .int := ⟨_, d_U_init_20, rfl, ac_int, rfl, by decide⟩
theorem d_U_init_22 : decode me_U_init.2.1 22 = .ok (.putfield 19, 3) := by decide +kernel
theorem p_U_init_22 : bm_pf me_U_init 22 10 4 (.array .int) := ⟨_, _, _, _, ty_U, d_U_init_22, rfl, by decide, uw_U, fl_U_19, tk_U, nm_U, rfl, Or.inr ⟨rfl, rfl, rfl⟩⟩
theorem d_U_init_25 : decode me_U_init.2.1 25 = .ok (.return_, 1) := by decide +kernel
theorem d_U_add_0 : decode me_U_add.2.1 0 = .ok (.iload_n 2, 1) := by decide +kernel
theorem d_U_add_1 : decode me_U_add.2.1 1 = .ok (.ifCond .gt (4), 3) := by decide +kernel
theorem d_U_add_4 : decode me_U_add.2.1 4 = .ok (.return_, 1) := by decide +kernel
theorem d_U_add_5 : decode me_U_add.2.1 5 = .ok (.aload_n 0, 1) := by decide +kernel
theorem d_U_add_6 : decode me_U_add.2.1 6 = .ok (.iload_n 1, 1) := by decide +kernel
theorem d_U_add_7 : decode me_U_add.2.1 7 = .ok (.invokevirtual 25, 3) := by decide +kernel
theorem c_U_add_7 : bm_iv me_U_add me_U_placeOf 7 10 1 := ⟨_, d_U_add_7, Or.inl ml_U_25, ⟨kc_U_placeOf, in_BatchHall_Unit, by decide +kernel, by decide, by decide⟩, ki_U_placeOf, ks_U_placeOf, _, _, rfl⟩
theorem d_U_add_10 : decode me_U_add.2.1 10 = .ok (.istore_n 3, 1) := by decide +kernel
theorem d_U_add_11 : decode me_U_add.2.1 11 = .ok (.iload_n 3, 1) := by decide +kernel
theorem d_U_add_12 : decode me_U_add.2.1 12 = .ok (.iconst (-1), 1) := by decide +kernel
theorem d_U_add_13 : decode me_U_add.2.1 13 = .ok (.if_icmp .eq (16), 3) := by decide +kernel
theorem d_U_add_16 : decode me_U_add.2.1 16 = .ok (.aload_n 0, 1) := by decide +kernel
theorem d_U_add_17 : decode me_U_add.2.1 17 = .ok (.getfield 19, 3) := by decide +kernel
theorem g_U_add_17 : bm_gf me_U_add 17 10 4 := ⟨_, _, _, _, d_U_add_17, rfl, by decide, uw_U, fl_U_19⟩
theorem d_U_add_20 : decode me_U_add.2.1 20 = .ok (.iload_n 3, 1) := by decide +kernel
theorem d_U_add_21 : decode me_U_add.2.1 21 = .ok (.dup2, 1) := by decide +kernel
theorem d_U_add_22 : decode me_U_add.2.1 22 = .ok (.iaload, 1) := by decide +kernel
theorem d_U_add_23 : decode me_U_add.2.1 23 = .ok (.iload_n 2, 1) := by decide +kernel
theorem d_U_add_24 : decode me_U_add.2.1 24 = .ok (.iadd, 1) := by decide +kernel
theorem d_U_add_25 : decode me_U_add.2.1 25 = .ok (.iastore, 1) := by decide +kernel
theorem d_U_add_26 : decode me_U_add.2.1 26 = .ok (.goto (42), 3) := by decide +kernel
theorem d_U_add_29 : decode me_U_add.2.1 29 = .ok (.aload_n 0, 1) := by decide +kernel
theorem d_U_add_30 : decode me_U_add.2.1 30 = .ok (.getfield 22, 3) := by decide +kernel
theorem g_U_add_30 : bm_gf me_U_add 30 10 2 := ⟨_, _, _, _, d_U_add_30, rfl, by decide, uw_U, fl_U_22⟩
theorem d_U_add_33 : decode me_U_add.2.1 33 = .ok (.bipush (100), 2) := by decide +kernel
theorem d_U_add_35 : decode me_U_add.2.1 35 = .ok (.if_icmp .ge (33), 3) := by decide +kernel
theorem d_U_add_38 : decode me_U_add.2.1 38 = .ok (.aload_n 0, 1) := by decide +kernel
theorem d_U_add_39 : decode me_U_add.2.1 39 = .ok (.getfield 15, 3) := by decide +kernel
theorem g_U_add_39 : bm_gf me_U_add 39 10 3 := ⟨_, _, _, _, d_U_add_39, rfl, by decide, uw_U, fl_U_15⟩
theorem d_U_add_42 : decode me_U_add.2.1 42 = .ok (.aload_n 0, 1) := by decide +kernel
theorem d_U_add_43 : decode me_U_add.2.1 43 = .ok (.getfield 22, 3) := by decide +kernel
theorem g_U_add_43 : bm_gf me_U_add 43 10 2 := ⟨_, _, _, _, d_U_add_43, rfl, by decide, uw_U, fl_U_22⟩
theorem d_U_add_46 : decode me_U_add.2.1 46 = .ok (.iload_n 1, 1) := by decide +kernel
theorem d_U_add_47 : decode me_U_add.2.1 47 = .ok (.iastore, 1) := by decide +kernel
theorem d_U_add_48 : decode me_U_add.2.1 48 = .ok (.aload_n 0, 1) := by decide +kernel
theorem d_U_add_49 : decode me_U_add.2.1 49 = .ok (.getfield 19, 3) := by decide +kernel
theorem g_U_add_49 : bm_gf me_U_add 49 10 4 := ⟨_, _, _, _, d_U_add_49, rfl, by decide, uw_U, fl_U_19⟩
theorem d_U_add_52 : decode me_U_add.2.1 52 = .ok (.aload_n 0, 1) := by decide +kernel
theorem d_U_add_53 : decode me_U_add.2.1 53 = .ok (.getfield 22, 3) := by decide +kernel
theorem g_U_add_53 : bm_gf me_U_add 53 10 2 := ⟨_, _, _, _, d_U_add_53, rfl, by decide, uw_U, fl_U_22⟩
theorem d_U_add_56 : decode me_U_add.2.1 56 = .ok (.iload_n 2, 1) := by decide +kernel
theorem d_U_add_57 : decode me_U_add.2.1 57 = .ok (.iastore, 1) := by decide +kernel
theorem d_U_add_58 : decode me_U_add.2.1 58 = .ok (.aload_n 0, 1) := by decide +kernel
theorem d_U_add_59 : decode me_U_add.2.1 59 = .ok (.dup, 1) := by decide +kernel
theorem d_U_add_60 : decode me_U_add.2.1 60 = .ok (.getfield 22, 3) := by decide +kernel
theorem g_U_add_60 : bm_gf me_U_add 60 10 2 := ⟨_, _, _, _, d_U_add_60, rfl, by decide, uw_U, fl_U_22⟩
theorem d_U_add_63 : decode me_U_add.2.1 63 = .ok (.iconst 1, 1) := by decide +kernel
theorem d_U_add_64 : decode me_U_add.2.1 64 = .ok (.iadd, 1) := by decide +kernel
theorem d_U_add_65 : decode me_U_add.2.1 65 = .ok (.putfield 22, 3) := by decide +kernel
theorem p_U_add_65 : bm_pf me_U_add 65 10 2 .int := ⟨_, _, _, _, ty_U, d_U_add_65, rfl, by decide, uw_U, fl_U_22, tk_U, nm_U, rfl, Or.inl rfl⟩
theorem d_U_add_68 : decode me_U_add.2.1 68 = .ok (.return_, 1) := by decide +kernel
theorem d_U_placeOf_0 : decode me_U_placeOf.2.1 0 = .ok (.iconst 0, 1) := by decide +kernel
theorem d_U_placeOf_1 : decode me_U_placeOf.2.1 1 = .ok (.istore_n 2, 1) := by decide +kernel
theorem d_U_placeOf_2 : decode me_U_placeOf.2.1 2 = .ok (.iload_n 2, 1) := by decide +kernel
theorem d_U_placeOf_3 : decode me_U_placeOf.2.1 3 = .ok (.aload_n 0, 1) := by decide +kernel
theorem d_U_placeOf_4 : decode me_U_placeOf.2.1 4 = .ok (.getfield 22, 3) := by decide +kernel
theorem g_U_placeOf_4 : bm_gf me_U_placeOf 4 10 2 := ⟨_, _, _, _, d_U_placeOf_4, rfl, by decide, uw_U, fl_U_22⟩
theorem d_U_placeOf_7 : decode me_U_placeOf.2.1 7 = .ok (.if_icmp .ge (21), 3) := by decide +kernel
theorem d_U_placeOf_10 : decode me_U_placeOf.2.1 10 = .ok (.aload_n 0, 1) := by decide +kernel
theorem d_U_placeOf_11 : decode me_U_placeOf.2.1 11 = .ok (.getfield 15, 3) := by decide +kernel
theorem g_U_placeOf_11 : bm_gf me_U_placeOf 11 10 3 := ⟨_, _, _, _, d_U_placeOf_11, rfl, by decide, uw_U, fl_U_15⟩
theorem d_U_placeOf_14 : decode me_U_placeOf.2.1 14 = .ok (.iload_n 2, 1) := by decide +kernel
theorem d_U_placeOf_15 : decode me_U_placeOf.2.1 15 = .ok (.iaload, 1) := by decide +kernel
theorem d_U_placeOf_16 : decode me_U_placeOf.2.1 16 = .ok (.iload_n 1, 1) := by decide +kernel
theorem d_U_placeOf_17 : decode me_U_placeOf.2.1 17 = .ok (.if_icmp .ne (5), 3) := by decide +kernel
theorem d_U_placeOf_20 : decode me_U_placeOf.2.1 20 = .ok (.iload_n 2, 1) := by decide +kernel
theorem d_U_placeOf_21 : decode me_U_placeOf.2.1 21 = .ok (.ireturn, 1) := by decide +kernel
theorem d_U_placeOf_22 : decode me_U_placeOf.2.1 22 = .ok (.iinc 2 (1), 3) := by decide +kernel
theorem d_U_placeOf_25 : decode me_U_placeOf.2.1 25 = .ok (.goto (-23), 3) := by decide +kernel
theorem d_U_placeOf_28 : decode me_U_placeOf.2.1 28 = .ok (.iconst (-1), 1) := by decide +kernel
theorem d_U_placeOf_29 : decode me_U_placeOf.2.1 29 = .ok (.ireturn, 1) := by decide +kernel
theorem d_U_total_0 : decode me_U_total.2.1 0 = .ok (.iconst 0, 1) := by decide +kernel
theorem d_U_total_1 : decode me_U_total.2.1 1 = .ok (.istore_n 1, 1) := by decide +kernel
theorem d_U_total_2 : decode me_U_total.2.1 2 = .ok (.iconst 0, 1) := by decide +kernel
theorem d_U_total_3 : decode me_U_total.2.1 3 = .ok (.istore_n 2, 1) := by decide +kernel
theorem d_U_total_4 : decode me_U_total.2.1 4 = .ok (.iload_n 2, 1) := by decide +kernel
theorem d_U_total_5 : decode me_U_total.2.1 5 = .ok (.aload_n 0, 1) := by decide +kernel
theorem d_U_total_6 : decode me_U_total.2.1 6 = .ok (.getfield 22, 3) := by decide +kernel
theorem g_U_total_6 : bm_gf me_U_total 6 10 2 := ⟨_, _, _, _, d_U_total_6, rfl, by decide, uw_U, fl_U_22⟩
theorem d_U_total_9 : decode me_U_total.2.1 9 = .ok (.if_icmp .ge (18), 3) := by decide +kernel
theorem d_U_total_12 : decode me_U_total.2.1 12 = .ok (.iload_n 1, 1) := by decide +kernel
theorem d_U_total_13 : decode me_U_total.2.1 13 = .ok (.aload_n 0, 1) := by decide +kernel
theorem d_U_total_14 : decode me_U_total.2.1 14 = .ok (.getfield 19, 3) := by decide +kernel
theorem g_U_total_14 : bm_gf me_U_total 14 10 4 := ⟨_, _, _, _, d_U_total_14, rfl, by decide, uw_U, fl_U_19⟩
theorem d_U_total_17 : decode me_U_total.2.1 17 = .ok (.iload_n 2, 1) := by decide +kernel
theorem d_U_total_18 : decode me_U_total.2.1 18 = .ok (.iaload, 1) := by decide +kernel
theorem d_U_total_19 : decode me_U_total.2.1 19 = .ok (.iadd, 1) := by decide +kernel
theorem d_U_total_20 : decode me_U_total.2.1 20 = .ok (.istore_n 1, 1) := by decide +kernel
theorem d_U_total_21 : decode me_U_total.2.1 21 = .ok (.iinc 2 (1), 3) := by decide +kernel
theorem d_U_total_24 : decode me_U_total.2.1 24 = .ok (.goto (-20), 3) := by decide +kernel
theorem d_U_total_27 : decode me_U_total.2.1 27 = .ok (.iload_n 1, 1) := by decide +kernel
theorem d_U_total_28 : decode me_U_total.2.1 28 = .ok (.ireturn, 1) := by decide +kernel
theorem d_U_dropEmptied_0 : decode me_U_dropEmptied.2.1 0 = .ok (.iconst 0, 1) := by decide +kernel
theorem d_U_dropEmptied_1 : decode me_U_dropEmptied.2.1 1 = .ok (.istore_n 1, 1) := by decide +kernel
theorem d_U_dropEmptied_2 : decode me_U_dropEmptied.2.1 2 = .ok (.iconst 0, 1) := by decide +kernel
theorem d_U_dropEmptied_3 : decode me_U_dropEmptied.2.1 3 = .ok (.istore_n 2, 1) := by decide +kernel
theorem d_U_dropEmptied_4 : decode me_U_dropEmptied.2.1 4 = .ok (.iload_n 2, 1) := by decide +kernel
theorem d_U_dropEmptied_5 : decode me_U_dropEmptied.2.1 5 = .ok (.aload_n 0, 1) := by decide +kernel
theorem d_U_dropEmptied_6 : decode me_U_dropEmptied.2.1 6 = .ok (.getfield 22, 3) := by decide +kernel
theorem g_U_dropEmptied_6 : bm_gf me_U_dropEmptied 6 10 2 := ⟨_, _, _, _, d_U_dropEmptied_6, rfl, by decide, uw_U, fl_U_22⟩
theorem d_U_dropEmptied_9 : decode me_U_dropEmptied.2.1 9 = .ok (.if_icmp .ge (45), 3) := by decide +kernel
theorem d_U_dropEmptied_12 : decode me_U_dropEmptied.2.1 12 = .ok (.aload_n 0, 1) := by decide +kernel
theorem d_U_dropEmptied_13 : decode me_U_dropEmptied.2.1 13 = .ok (.getfield 19, 3) := by decide +kernel
theorem g_U_dropEmptied_13 : bm_gf me_U_dropEmptied 13 10 4 := ⟨_, _, _, _, d_U_dropEmptied_13, rfl, by decide, uw_U, fl_U_19⟩
theorem d_U_dropEmptied_16 : decode me_U_dropEmptied.2.1 16 = .ok (.iload_n 2, 1) := by decide +kernel
theorem d_U_dropEmptied_17 : decode me_U_dropEmptied.2.1 17 = .ok (.iaload, 1) := by decide +kernel
theorem d_U_dropEmptied_18 : decode me_U_dropEmptied.2.1 18 = .ok (.ifCond .le (30), 3) := by decide +kernel
theorem d_U_dropEmptied_21 : decode me_U_dropEmptied.2.1 21 = .ok (.aload_n 0, 1) := by decide +kernel
theorem d_U_dropEmptied_22 : decode me_U_dropEmptied.2.1 22 = .ok (.getfield 15, 3) := by decide +kernel
theorem g_U_dropEmptied_22 : bm_gf me_U_dropEmptied 22 10 3 := ⟨_, _, _, _, d_U_dropEmptied_22, rfl, by decide, uw_U, fl_U_15⟩
theorem d_U_dropEmptied_25 : decode me_U_dropEmptied.2.1 25 = .ok (.iload_n 1, 1) := by decide +kernel
theorem d_U_dropEmptied_26 : decode me_U_dropEmptied.2.1 26 = .ok (.aload_n 0, 1) := by decide +kernel
theorem d_U_dropEmptied_27 : decode me_U_dropEmptied.2.1 27 = .ok (.getfield 15, 3) := by decide +kernel
theorem g_U_dropEmptied_27 : bm_gf me_U_dropEmptied 27 10 3 := ⟨_, _, _, _, d_U_dropEmptied_27, rfl, by decide, uw_U, fl_U_15⟩
theorem d_U_dropEmptied_30 : decode me_U_dropEmptied.2.1 30 = .ok (.iload_n 2, 1) := by decide +kernel
theorem d_U_dropEmptied_31 : decode me_U_dropEmptied.2.1 31 = .ok (.iaload, 1) := by decide +kernel
theorem d_U_dropEmptied_32 : decode me_U_dropEmptied.2.1 32 = .ok (.iastore, 1) := by decide +kernel
theorem d_U_dropEmptied_33 : decode me_U_dropEmptied.2.1 33 = .ok (.aload_n 0, 1) := by decide +kernel
theorem d_U_dropEmptied_34 : decode me_U_dropEmptied.2.1 34 = .ok (.getfield 19, 3) := by decide +kernel
theorem g_U_dropEmptied_34 : bm_gf me_U_dropEmptied 34 10 4 := ⟨_, _, _, _, d_U_dropEmptied_34, rfl, by decide, uw_U, fl_U_19⟩
theorem d_U_dropEmptied_37 : decode me_U_dropEmptied.2.1 37 = .ok (.iload_n 1, 1) := by decide +kernel
theorem d_U_dropEmptied_38 : decode me_U_dropEmptied.2.1 38 = .ok (.aload_n 0, 1) := by decide +kernel
theorem d_U_dropEmptied_39 : decode me_U_dropEmptied.2.1 39 = .ok (.getfield 19, 3) := by decide +kernel
theorem g_U_dropEmptied_39 : bm_gf me_U_dropEmptied 39 10 4 := ⟨_, _, _, _, d_U_dropEmptied_39, rfl, by decide, uw_U, fl_U_19⟩
theorem d_U_dropEmptied_42 : decode me_U_dropEmptied.2.1 42 = .ok (.iload_n 2, 1) := by decide +kernel
theorem d_U_dropEmptied_43 : decode me_U_dropEmptied.2.1 43 = .ok (.iaload, 1) := by decide +kernel
theorem d_U_dropEmptied_44 : decode me_U_dropEmptied.2.1 44 = .ok (.iastore, 1) := by decide +kernel
theorem d_U_dropEmptied_45 : decode me_U_dropEmptied.2.1 45 = .ok (.iinc 1 (1), 3) := by decide +kernel
theorem d_U_dropEmptied_48 : decode me_U_dropEmptied.2.1 48 = .ok (.iinc 2 (1), 3) := by decide +kernel
theorem d_U_dropEmptied_51 : decode me_U_dropEmptied.2.1 51 = .ok (.goto (-47), 3) := by decide +kernel
theorem d_U_dropEmptied_54 : decode me_U_dropEmptied.2.1 54 = .ok (.aload_n 0, 1) := by decide +kernel
theorem d_U_dropEmptied_55 : decode me_U_dropEmptied.2.1 55 = .ok (.iload_n 1, 1) := by decide +kernel
theorem d_U_dropEmptied_56 : decode me_U_dropEmptied.2.1 56 = .ok (.putfield 22, 3) := by decide +kernel
theorem p_U_dropEmptied_56 : bm_pf me_U_dropEmptied 56 10 2 .int := ⟨_, _, _, _, ty_U, d_U_dropEmptied_56, rfl, by decide, uw_U, fl_U_22, tk_U, nm_U, rfl, Or.inl rfl⟩
theorem d_U_dropEmptied_59 : decode me_U_dropEmptied.2.1 59 = .ok (.return_, 1) := by decide +kernel
theorem d_U_amountOf_0 : decode me_U_amountOf.2.1 0 = .ok (.aload_n 0, 1) := by decide +kernel
theorem d_U_amountOf_1 : decode me_U_amountOf.2.1 1 = .ok (.iload_n 1, 1) := by decide +kernel
theorem d_U_amountOf_2 : decode me_U_amountOf.2.1 2 = .ok (.invokevirtual 25, 3) := by decide +kernel
theorem c_U_amountOf_2 : bm_iv me_U_amountOf me_U_placeOf 2 10 1 := ⟨_, d_U_amountOf_2, Or.inl ml_U_25, ⟨kc_U_placeOf, in_BatchHall_Unit, by decide +kernel, by decide, by decide⟩, ki_U_placeOf, ks_U_placeOf, _, _, rfl⟩
theorem d_U_amountOf_5 : decode me_U_amountOf.2.1 5 = .ok (.istore_n 2, 1) := by decide +kernel
theorem d_U_amountOf_6 : decode me_U_amountOf.2.1 6 = .ok (.iload_n 2, 1) := by decide +kernel
theorem d_U_amountOf_7 : decode me_U_amountOf.2.1 7 = .ok (.iconst (-1), 1) := by decide +kernel
theorem d_U_amountOf_8 : decode me_U_amountOf.2.1 8 = .ok (.if_icmp .ne (7), 3) := by decide +kernel
theorem d_U_amountOf_11 : decode me_U_amountOf.2.1 11 = .ok (.iconst 0, 1) := by decide +kernel
theorem d_U_amountOf_12 : decode me_U_amountOf.2.1 12 = .ok (.goto (9), 3) := by decide +kernel
theorem d_U_amountOf_15 : decode me_U_amountOf.2.1 15 = .ok (.aload_n 0, 1) := by decide +kernel
theorem d_U_amountOf_16 : decode me_U_amountOf.2.1 16 = .ok (.getfield 19, 3) := by decide +kernel
theorem g_U_amountOf_16 : bm_gf me_U_amountOf 16 10 4 := ⟨_, _, _, _, d_U_amountOf_16, rfl, by decide, uw_U, fl_U_19⟩
theorem d_U_amountOf_19 : decode me_U_amountOf.2.1 19 = .ok (.iload_n 2, 1) := by decide +kernel
theorem d_U_amountOf_20 : decode me_U_amountOf.2.1 20 = .ok (.iaload, 1) := by decide +kernel
theorem d_U_amountOf_21 : decode me_U_amountOf.2.1 21 = .ok (.ireturn, 1) := by decide +kernel
