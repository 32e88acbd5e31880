theorem d_B_countBegun_0 : decode me_B_countBegun.2.1 0 = .ok (.iconst 0, 1) := by decide +kernel
theorem d_B_countBegun_1 : decode me_B_countBegun.2.1 1 = .ok (.istore_n 1, 1) := by decide +kernel
theorem d_B_countBegun_2 : decode me_B_countBegun.2.1 2 = .ok (.iconst 0, 1) := by decide +kernel
theorem d_B_countBegun_3 : decode me_B_countBegun.2.1 3 = .ok (.istore_n 2, 1) := by decide +kernel
theorem d_B_countBegun_4 : decode me_B_countBegun.2.1 4 = .ok (.iload_n 2, 1) := by decide +kernel
theorem d_B_countBegun_5 : decode me_B_countBegun.2.1 5 = .ok (.aload_n 0, 1) := by decide +kernel
theorem d_B_countBegun_6 : decode me_B_countBegun.2.1 6 = .ok (.getfield 45, 3) := by decide +kernel
theorem g_B_countBegun_6 : bm_gf me_B_countBegun 6 1 5 := ⟨_, _, _, _, d_B_countBegun_6, rfl, by decide, uw_B, fl_B_45⟩
theorem d_B_countBegun_9 : decode me_B_countBegun.2.1 9 = .ok (.if_icmp .ge (24), 3) := by decide +kernel
theorem d_B_countBegun_12 : decode me_B_countBegun.2.1 12 = .ok (.aload_n 0, 1) := by decide +kernel
theorem d_B_countBegun_13 : decode me_B_countBegun.2.1 13 = .ok (.getfield 17, 3) := by decide +kernel
theorem g_B_countBegun_13 : bm_gf me_B_countBegun 13 1 6 := ⟨_, _, _, _, d_B_countBegun_13, rfl, by decide, uw_B, fl_B_17⟩
theorem d_B_countBegun_16 : decode me_B_countBegun.2.1 16 = .ok (.iload_n 2, 1) := by decide +kernel
theorem d_B_countBegun_17 : decode me_B_countBegun.2.1 17 = .ok (.aaload, 1) := by decide +kernel
theorem d_B_countBegun_18 : decode me_B_countBegun.2.1 18 = .ok (.getfield 48, 3) := by decide +kernel
theorem g_B_countBegun_18 : bm_gf me_B_countBegun 18 9 1 := ⟨_, _, _, _, d_B_countBegun_18, rfl, by decide, uw_T, fl_B_48⟩
theorem d_B_countBegun_21 : decode me_B_countBegun.2.1 21 = .ok (.ifCond .eq (6), 3) := by decide +kernel
theorem d_B_countBegun_24 : decode me_B_countBegun.2.1 24 = .ok (.iinc 1 (1), 3) := by decide +kernel
theorem d_B_countBegun_27 : decode me_B_countBegun.2.1 27 = .ok (.iinc 2 (1), 3) := by decide +kernel
theorem d_B_countBegun_30 : decode me_B_countBegun.2.1 30 = .ok (.goto (-26), 3) := by decide +kernel
theorem d_B_countBegun_33 : decode me_B_countBegun.2.1 33 = .ok (.iload_n 1, 1) := by decide +kernel
theorem d_B_countBegun_34 : decode me_B_countBegun.2.1 34 = .ok (.ireturn, 1) := by decide +kernel
theorem d_B_addToken_0 : decode me_B_addToken.2.1 0 = .ok (.aload_n 0, 1) := by decide +kernel
theorem d_B_addToken_1 : decode me_B_addToken.2.1 1 = .ok (.getfield 45, 3) := by decide +kernel
theorem g_B_addToken_1 : bm_gf me_B_addToken 1 1 5 := ⟨_, _, _, _, d_B_addToken_1, rfl, by decide, uw_B, fl_B_45⟩
theorem d_B_addToken_4 : decode me_B_addToken.2.1 4 = .ok (.bipush (8), 2) := by decide +kernel
theorem d_B_addToken_6 : decode me_B_addToken.2.1 6 = .ok (.if_icmp .ge (39), 3) := by decide +kernel
theorem d_B_addToken_9 : decode me_B_addToken.2.1 9 = .ok (.aload_n 0, 1) := by decide +kernel
theorem d_B_addToken_10 : decode me_B_addToken.2.1 10 = .ok (.getfield 17, 3) := by decide +kernel
theorem g_B_addToken_10 : bm_gf me_B_addToken 10 1 6 := ⟨_, _, _, _, d_B_addToken_10, rfl, by decide, uw_B, fl_B_17⟩
theorem d_B_addToken_13 : decode me_B_addToken.2.1 13 = .ok (.aload_n 0, 1) := by decide +kernel
theorem d_B_addToken_14 : decode me_B_addToken.2.1 14 = .ok (.getfield 45, 3) := by decide +kernel
theorem g_B_addToken_14 : bm_gf me_B_addToken 14 1 5 := ⟨_, _, _, _, d_B_addToken_14, rfl, by decide, uw_B, fl_B_45⟩
theorem d_B_addToken_17 : decode me_B_addToken.2.1 17 = .ok (.aaload, 1) := by decide +kernel
theorem d_B_addToken_18 : decode me_B_addToken.2.1 18 = .ok (.iload_n 1, 1) := by decide +kernel
theorem d_B_addToken_19 : decode me_B_addToken.2.1 19 = .ok (.putfield 58, 3) := by decide +kernel
theorem p_B_addToken_19 : bm_pf me_B_addToken 19 9 0 .int := ⟨_, _, _, _, ty_T, d_B_addToken_19, rfl, by decide, uw_T, fl_B_58, tk_T, nm_T, rfl, Or.inl rfl⟩
theorem d_B_addToken_22 : decode me_B_addToken.2.1 22 = .ok (.aload_n 0, 1) := by decide +kernel
theorem d_B_addToken_23 : decode me_B_addToken.2.1 23 = .ok (.getfield 17, 3) := by decide +kernel
theorem g_B_addToken_23 : bm_gf me_B_addToken 23 1 6 := ⟨_, _, _, _, d_B_addToken_23, rfl, by decide, uw_B, fl_B_17⟩
theorem d_B_addToken_26 : decode me_B_addToken.2.1 26 = .ok (.aload_n 0, 1) := by decide +kernel
theorem d_B_addToken_27 : decode me_B_addToken.2.1 27 = .ok (.getfield 45, 3) := by decide +kernel
theorem g_B_addToken_27 : bm_gf me_B_addToken 27 1 5 := ⟨_, _, _, _, d_B_addToken_27, rfl, by decide, uw_B, fl_B_45⟩
theorem d_B_addToken_30 : decode me_B_addToken.2.1 30 = .ok (.aaload, 1) := by decide +kernel
theorem d_B_addToken_31 : decode me_B_addToken.2.1 31 = .ok (.iconst 0, 1) := by decide +kernel
theorem d_B_addToken_32 : decode me_B_addToken.2.1 32 = .ok (.putfield 48, 3) := by decide +kernel
theorem p_B_addToken_32 : bm_pf me_B_addToken 32 9 1 .boolean := ⟨_, _, _, _, ty_T, d_B_addToken_32, rfl, by decide, uw_T, fl_B_48, tk_T, nm_T, rfl, Or.inl rfl⟩
theorem d_B_addToken_35 : decode me_B_addToken.2.1 35 = .ok (.aload_n 0, 1) := by decide +kernel
theorem d_B_addToken_36 : decode me_B_addToken.2.1 36 = .ok (.dup, 1) := by decide +kernel
theorem d_B_addToken_37 : decode me_B_addToken.2.1 37 = .ok (.getfield 45, 3) := by decide +kernel
theorem g_B_addToken_37 : bm_gf me_B_addToken 37 1 5 := ⟨_, _, _, _, d_B_addToken_37, rfl, by decide, uw_B, fl_B_45⟩
theorem d_B_addToken_40 : decode me_B_addToken.2.1 40 = .ok (.iconst 1, 1) := by decide +kernel
theorem d_B_addToken_41 : decode me_B_addToken.2.1 41 = .ok (.iadd, 1) := by decide +kernel
theorem d_B_addToken_42 : decode me_B_addToken.2.1 42 = .ok (.putfield 45, 3) := by decide +kernel
theorem p_B_addToken_42 : bm_pf me_B_addToken 42 1 5 .int := ⟨_, _, _, _, ty_B, d_B_addToken_42, rfl, by decide, uw_B, fl_B_45, tk_B, nm_B, rfl, Or.inl rfl⟩
theorem d_B_addToken_45 : decode me_B_addToken.2.1 45 = .ok (.return_, 1) := by decide +kernel
theorem d_B_findPartner_0 : decode me_B_findPartner.2.1 0 = .ok (.iconst 0, 1) := by decide +kernel
theorem d_B_findPartner_1 : decode me_B_findPartner.2.1 1 = .ok (.istore_n 2, 1) := by decide +kernel
theorem d_B_findPartner_2 : decode me_B_findPartner.2.1 2 = .ok (.iload_n 2, 1) := by decide +kernel
theorem d_B_findPartner_3 : decode me_B_findPartner.2.1 3 = .ok (.aload_n 0, 1) := by decide +kernel
theorem d_B_findPartner_4 : decode me_B_findPartner.2.1 4 = .ok (.getfield 45, 3) := by decide +kernel
theorem g_B_findPartner_4 : bm_gf me_B_findPartner 4 1 5 := ⟨_, _, _, _, d_B_findPartner_4, rfl, by decide, uw_B, fl_B_45⟩
theorem d_B_findPartner_7 : decode me_B_findPartner.2.1 7 = .ok (.if_icmp .ge (42), 3) := by decide +kernel
theorem d_B_findPartner_10 : decode me_B_findPartner.2.1 10 = .ok (.aload_n 0, 1) := by decide +kernel
theorem d_B_findPartner_11 : decode me_B_findPartner.2.1 11 = .ok (.getfield 17, 3) := by decide +kernel
theorem g_B_findPartner_11 : bm_gf me_B_findPartner 11 1 6 := ⟨_, _, _, _, d_B_findPartner_11, rfl, by decide, uw_B, fl_B_17⟩
theorem d_B_findPartner_14 : decode me_B_findPartner.2.1 14 = .ok (.iload_n 2, 1) := by decide +kernel
theorem d_B_findPartner_15 : decode me_B_findPartner.2.1 15 = .ok (.aaload, 1) := by decide +kernel
theorem d_B_findPartner_16 : decode me_B_findPartner.2.1 16 = .ok (.aload_n 1, 1) := by decide +kernel
theorem d_B_findPartner_17 : decode me_B_findPartner.2.1 17 = .ok (.if_acmp .eq (26), 3) := by decide +kernel
theorem d_B_findPartner_20 : decode me_B_findPartner.2.1 20 = .ok (.aload_n 0, 1) := by decide +kernel
theorem d_B_findPartner_21 : decode me_B_findPartner.2.1 21 = .ok (.getfield 17, 3) := by decide +kernel
theorem g_B_findPartner_21 : bm_gf me_B_findPartner 21 1 6 := ⟨_, _, _, _, d_B_findPartner_21, rfl, by decide, uw_B, fl_B_17⟩
theorem d_B_findPartner_24 : decode me_B_findPartner.2.1 24 = .ok (.iload_n 2, 1) := by decide +kernel
theorem d_B_findPartner_25 : decode me_B_findPartner.2.1 25 = .ok (.aaload, 1) := by decide +kernel
theorem d_B_findPartner_26 : decode me_B_findPartner.2.1 26 = .ok (.getfield 58, 3) := by decide +kernel
theorem g_B_findPartner_26 : bm_gf me_B_findPartner 26 9 0 := ⟨_, _, _, _, d_B_findPartner_26, rfl, by decide, uw_T, fl_B_58⟩
theorem d_B_findPartner_29 : decode me_B_findPartner.2.1 29 = .ok (.aload_n 1, 1) := by decide +kernel
theorem d_B_findPartner_30 : decode me_B_findPartner.2.1 30 = .ok (.getfield 58, 3) := by decide +kernel
theorem g_B_findPartner_30 : bm_gf me_B_findPartner 30 9 0 := ⟨_, _, _, _, d_B_findPartner_30, rfl, by decide, uw_T, fl_B_58⟩
theorem d_B_findPartner_33 : decode me_B_findPartner.2.1 33 = .ok (.if_icmp .ne (10), 3) := by decide +kernel
theorem d_B_findPartner_36 : decode me_B_findPartner.2.1 36 = .ok (.aload_n 0, 1) := by decide +kernel
theorem d_B_findPartner_37 : decode me_B_findPartner.2.1 37 = .ok (.getfield 17, 3) := by decide +kernel
theorem g_B_findPartner_37 : bm_gf me_B_findPartner 37 1 6 := ⟨_, _, _, _, d_B_findPartner_37, rfl, by decide, uw_B, fl_B_17⟩
theorem d_B_findPartner_40 : decode me_B_findPartner.2.1 40 = .ok (.iload_n 2, 1) := by decide +kernel
theorem d_B_findPartner_41 : decode me_B_findPartner.2.1 41 = .ok (.aaload, 1) := by decide +kernel
theorem d_B_findPartner_42 : decode me_B_findPartner.2.1 42 = .ok (.areturn, 1) := by decide +kernel
theorem d_B_findPartner_43 : decode me_B_findPartner.2.1 43 = .ok (.iinc 2 (1), 3) := by decide +kernel
theorem d_B_findPartner_46 : decode me_B_findPartner.2.1 46 = .ok (.goto (-44), 3) := by decide +kernel
theorem d_B_findPartner_49 : decode me_B_findPartner.2.1 49 = .ok (.aconst_null, 1) := by decide +kernel
theorem d_B_findPartner_50 : decode me_B_findPartner.2.1 50 = .ok (.areturn, 1) := by decide +kernel
theorem d_B_removeToken_0 : decode me_B_removeToken.2.1 0 = .ok (.aload_n 0, 1) := by decide +kernel
theorem d_B_removeToken_1 : decode me_B_removeToken.2.1 1 = .ok (.aload_n 1, 1) := by decide +kernel
theorem d_B_removeToken_2 : decode me_B_removeToken.2.1 2 = .ok (.invokevirtual 72, 3) := by decide +kernel
theorem c_B_removeToken_2 : bm_iv me_B_removeToken me_B_placeOf 2 1 1 := ⟨_, d_B_removeToken_2, Or.inl ml_B_72, ⟨kc_B_placeOf, in_BatchHall_Batch, by decide +kernel, by decide, by decide⟩, ki_B_placeOf, ks_B_placeOf, _, _, rfl⟩
theorem d_B_removeToken_5 : decode me_B_removeToken.2.1 5 = .ok (.istore_n 2, 1) := by decide +kernel
theorem d_B_removeToken_6 : decode me_B_removeToken.2.1 6 = .ok (.iload_n 2, 1) := by decide +kernel
theorem d_B_removeToken_7 : decode me_B_removeToken.2.1 7 = .ok (.iconst (-1), 1) := by decide +kernel
theorem d_B_removeToken_8 : decode me_B_removeToken.2.1 8 = .ok (.if_icmp .ne (4), 3) := by decide +kernel
theorem d_B_removeToken_11 : decode me_B_removeToken.2.1 11 = .ok (.return_, 1) := by decide +kernel
theorem d_B_removeToken_12 : decode me_B_removeToken.2.1 12 = .ok (.iload_n 2, 1) := by decide +kernel
theorem d_B_removeToken_13 : decode me_B_removeToken.2.1 13 = .ok (.istore_n 3, 1) := by decide +kernel
theorem d_B_removeToken_14 : decode me_B_removeToken.2.1 14 = .ok (.iload_n 3, 1) := by decide +kernel
theorem d_B_removeToken_15 : decode me_B_removeToken.2.1 15 = .ok (.iconst 1, 1) := by decide +kernel
theorem d_B_removeToken_16 : decode me_B_removeToken.2.1 16 = .ok (.iadd, 1) := by decide +kernel
theorem d_B_removeToken_17 : decode me_B_removeToken.2.1 17 = .ok (.aload_n 0, 1) := by decide +kernel
theorem d_B_removeToken_18 : decode me_B_removeToken.2.1 18 = .ok (.getfield 45, 3) := by decide +kernel
theorem g_B_removeToken_18 : bm_gf me_B_removeToken 18 1 5 := ⟨_, _, _, _, d_B_removeToken_18, rfl, by decide, uw_B, fl_B_45⟩
theorem d_B_removeToken_21 : decode me_B_removeToken.2.1 21 = .ok (.if_icmp .ge (23), 3) := by decide +kernel
theorem d_B_removeToken_24 : decode me_B_removeToken.2.1 24 = .ok (.aload_n 0, 1) := by decide +kernel
theorem d_B_removeToken_25 : decode me_B_removeToken.2.1 25 = .ok (.getfield 17, 3) := by decide +kernel
theorem g_B_removeToken_25 : bm_gf me_B_removeToken 25 1 6 := ⟨_, _, _, _, d_B_removeToken_25, rfl, by decide, uw_B, fl_B_17⟩
theorem d_B_removeToken_28 : decode me_B_removeToken.2.1 28 = .ok (.iload_n 3, 1) := by decide +kernel
theorem d_B_removeToken_29 : decode me_B_removeToken.2.1 29 = .ok (.aload_n 0, 1) := by decide +kernel
theorem d_B_removeToken_30 : decode me_B_removeToken.2.1 30 = .ok (.getfield 17, 3) := by decide +kernel
theorem g_B_removeToken_30 : bm_gf me_B_removeToken 30 1 6 := ⟨_, _, _, _, d_B_removeToken_30, rfl, by decide, uw_B, fl_B_17⟩
theorem d_B_removeToken_33 : decode me_B_removeToken.2.1 33 = .ok (.iload_n 3, 1) := by decide +kernel
theorem d_B_removeToken_34 : decode me_B_removeToken.2.1 34 = .ok (.iconst 1, 1) := by decide +kernel
theorem d_B_removeToken_35 : decode me_B_removeToken.2.1 35 = .ok (.iadd, 1) := by decide +kernel
theorem d_B_removeToken_36 : decode me_B_removeToken.2.1 36 = .ok (.aaload, 1) := by decide +kernel
theorem d_B_removeToken_37 : decode me_B_removeToken.2.1 37 = .ok (.aastore, 1) := by decide +kernel
theorem d_B_removeToken_38 : decode me_B_removeToken.2.1 38 = .ok (.iinc 3 (1), 3) := by decide +kernel
theorem d_B_removeToken_41 : decode me_B_removeToken.2.1 41 = .ok (.goto (-27), 3) := by decide +kernel
theorem d_B_removeToken_44 : decode me_B_removeToken.2.1 44 = .ok (.aload_n 0, 1) := by decide +kernel
theorem d_B_removeToken_45 : decode me_B_removeToken.2.1 45 = .ok (.dup, 1) := by decide +kernel
theorem d_B_removeToken_46 : decode me_B_removeToken.2.1 46 = .ok (.getfield 45, 3) := by decide +kernel
theorem g_B_removeToken_46 : bm_gf me_B_removeToken 46 1 5 := ⟨_, _, _, _, d_B_removeToken_46, rfl, by decide, uw_B, fl_B_45⟩
theorem d_B_removeToken_49 : decode me_B_removeToken.2.1 49 = .ok (.iconst 1, 1) := by decide +kernel
theorem d_B_removeToken_50 : decode me_B_removeToken.2.1 50 = .ok (.isub, 1) := by decide +kernel
theorem d_B_removeToken_51 : decode me_B_removeToken.2.1 51 = .ok (.putfield 45, 3) := by decide +kernel
theorem p_B_removeToken_51 : bm_pf me_B_removeToken 51 1 5 .int := ⟨_, _, _, _, ty_B, d_B_removeToken_51, rfl, by decide, uw_B, fl_B_45, tk_B, nm_B, rfl, Or.inl rfl⟩
theorem d_B_removeToken_54 : decode me_B_removeToken.2.1 54 = .ok (.aload_n 0, 1) := by decide +kernel
theorem d_B_removeToken_55 : decode me_B_removeToken.2.1 55 = .ok (.getfield 17, 3) := by decide +kernel
theorem g_B_removeToken_55 : bm_gf me_B_removeToken 55 1 6 := ⟨_, _, _, _, d_B_removeToken_55, rfl, by decide, uw_B, fl_B_17⟩
theorem d_B_removeToken_58 : decode me_B_removeToken.2.1 58 = .ok (.aload_n 0, 1) := by decide +kernel
theorem d_B_removeToken_59 : decode me_B_removeToken.2.1 59 = .ok (.getfield 45, 3) := by decide +kernel
theorem g_B_removeToken_59 : bm_gf me_B_removeToken 59 1 5 := ⟨_, _, _, _, d_B_removeToken_59, rfl, by decide, uw_B, fl_B_45⟩
theorem d_B_removeToken_62 : decode me_B_removeToken.2.1 62 = .ok (.aload_n 1, 1) := by decide +kernel
theorem d_B_removeToken_63 : decode me_B_removeToken.2.1 63 = .ok (.aastore, 1) := by decide +kernel
theorem d_B_removeToken_64 : decode me_B_removeToken.2.1 64 = .ok (.return_, 1) := by decide +kernel
theorem d_B_placeOf_0 : decode me_B_placeOf.2.1 0 = .ok (.iconst 0, 1) := by decide +kernel
theorem d_B_placeOf_1 : decode me_B_placeOf.2.1 1 = .ok (.istore_n 2, 1) := by decide +kernel
theorem d_B_placeOf_2 : decode me_B_placeOf.2.1 2 = .ok (.iload_n 2, 1) := by decide +kernel
theorem d_B_placeOf_3 : decode me_B_placeOf.2.1 3 = .ok (.aload_n 0, 1) := by decide +kernel
theorem d_B_placeOf_4 : decode me_B_placeOf.2.1 4 = .ok (.getfield 45, 3) := by decide +kernel
theorem g_B_placeOf_4 : bm_gf me_B_placeOf 4 1 5 := ⟨_, _, _, _, d_B_placeOf_4, rfl, by decide, uw_B, fl_B_45⟩
theorem d_B_placeOf_7 : decode me_B_placeOf.2.1 7 = .ok (.if_icmp .ge (21), 3) := by decide +kernel
theorem d_B_placeOf_10 : decode me_B_placeOf.2.1 10 = .ok (.aload_n 0, 1) := by decide +kernel
theorem d_B_placeOf_11 : decode me_B_placeOf.2.1 11 = .ok (.getfield 17, 3) := by decide +kernel
theorem g_B_placeOf_11 : bm_gf me_B_placeOf 11 1 6 := ⟨_, _, _, _, d_B_placeOf_11, rfl, by decide, uw_B, fl_B_17⟩
theorem d_B_placeOf_14 : decode me_B_placeOf.2.1 14 = .ok (.iload_n 2, 1) := by decide +kernel
theorem d_B_placeOf_15 : decode me_B_placeOf.2.1 15 = .ok (.aaload, 1) := by decide +kernel
theorem d_B_placeOf_16 : decode me_B_placeOf.2.1 16 = .ok (.aload_n 1, 1) := by decide +kernel
theorem d_B_placeOf_17 : decode me_B_placeOf.2.1 17 = .ok (.if_acmp .ne (5), 3) := by decide +kernel
theorem d_B_placeOf_20 : decode me_B_placeOf.2.1 20 = .ok (.iload_n 2, 1) := by decide +kernel
theorem d_B_placeOf_21 : decode me_B_placeOf.2.1 21 = .ok (.ireturn, 1) := by decide +kernel
theorem d_B_placeOf_22 : decode me_B_placeOf.2.1 22 = .ok (.iinc 2 (1), 3) := by decide +kernel
theorem d_B_placeOf_25 : decode me_B_placeOf.2.1 25 = .ok (.goto (-23), 3) := by decide +kernel
theorem d_B_placeOf_28 : decode me_B_placeOf.2.1 28 = .ok (.iconst (-1), 1) := by decide +kernel
theorem d_B_placeOf_29 : decode me_B_placeOf.2.1 29 = .ok (.ireturn, 1) := by decide +kernel
theorem d_B_countRound_0 : decode me_B_countRound.2.1 0 = .ok (.aload_n 0, 1) := by decide +kernel
theorem d_B_countRound_1 : decode me_B_countRound.2.1 1 = .ok (.getfield 25, 3) := by decide +kernel
theorem g_B_countRound_1 : bm_gf me_B_countRound 1 1 8 := ⟨_, _, _, _, d_B_countRound_1, rfl, by decide, uw_B, fl_B_25⟩
theorem d_B_countRound_4 : decode me_B_countRound.2.1 4 = .ok (.iload_n 1, 1) := by decide +kernel
theorem d_B_countRound_5 : decode me_B_countRound.2.1 5 = .ok (.iaload, 1) := by decide +kernel
theorem d_B_countRound_6 : decode me_B_countRound.2.1 6 = .ok (.aload_n 2, 1) := by decide +kernel
theorem d_B_countRound_7 : decode me_B_countRound.2.1 7 = .ok (.getfield 84, 3) := by decide +kernel
theorem g_B_countRound_7 : bm_gf me_B_countRound 7 8 1 := ⟨_, _, _, _, d_B_countRound_7, rfl, by decide, uw_S, fl_B_84⟩
theorem d_B_countRound_10 : decode me_B_countRound.2.1 10 = .ok (.if_icmp .ge (18), 3) := by decide +kernel
theorem d_B_countRound_13 : decode me_B_countRound.2.1 13 = .ok (.aload_n 0, 1) := by decide +kernel
theorem d_B_countRound_14 : decode me_B_countRound.2.1 14 = .ok (.getfield 25, 3) := by decide +kernel
theorem g_B_countRound_14 : bm_gf me_B_countRound 14 1 8 := ⟨_, _, _, _, d_B_countRound_14, rfl, by decide, uw_B, fl_B_25⟩
theorem d_B_countRound_17 : decode me_B_countRound.2.1 17 = .ok (.iload_n 1, 1) := by decide +kernel
theorem d_B_countRound_18 : decode me_B_countRound.2.1 18 = .ok (.dup2, 1) := by decide +kernel
theorem d_B_countRound_19 : decode me_B_countRound.2.1 19 = .ok (.iaload, 1) := by decide +kernel
theorem d_B_countRound_20 : decode me_B_countRound.2.1 20 = .ok (.iconst 1, 1) := by decide +kernel
theorem d_B_countRound_21 : decode me_B_countRound.2.1 21 = .ok (.iadd, 1) := by decide +kernel
theorem d_B_countRound_22 : decode me_B_countRound.2.1 22 = .ok (.iastore, 1) := by decide +kernel
theorem d_B_countRound_23 : decode me_B_countRound.2.1 23 = .ok (.aload_n 2, 1) := by decide +kernel
theorem d_B_countRound_24 : decode me_B_countRound.2.1 24 = .ok (.getfield 87, 3) := by decide +kernel
theorem g_B_countRound_24 : bm_gf me_B_countRound 24 8 5 := ⟨_, _, _, _, d_B_countRound_24, rfl, by decide, uw_S, fl_B_87⟩
theorem d_B_countRound_27 : decode me_B_countRound.2.1 27 = .ok (.ireturn, 1) := by decide +kernel
theorem d_B_countRound_28 : decode me_B_countRound.2.1 28 = .ok (.aload_n 0, 1) := by decide +kernel
theorem d_B_countRound_29 : decode me_B_countRound.2.1 29 = .ok (.getfield 25, 3) := by decide +kernel
theorem g_B_countRound_29 : bm_gf me_B_countRound 29 1 8 := ⟨_, _, _, _, d_B_countRound_29, rfl, by decide, uw_B, fl_B_25⟩
theorem d_B_countRound_32 : decode me_B_countRound.2.1 32 = .ok (.iload_n 1, 1) := by decide +kernel
theorem d_B_countRound_33 : decode me_B_countRound.2.1 33 = .ok (.iconst 0, 1) := by decide +kernel
theorem d_B_countRound_34 : decode me_B_countRound.2.1 34 = .ok (.iastore, 1) := by decide +kernel
theorem d_B_countRound_35 : decode me_B_countRound.2.1 35 = .ok (.aload_n 2, 1) := by decide +kernel
theorem d_B_countRound_36 : decode me_B_countRound.2.1 36 = .ok (.getfield 90, 3) := by decide +kernel
theorem g_B_countRound_36 : bm_gf me_B_countRound 36 8 4 := ⟨_, _, _, _, d_B_countRound_36, rfl, by decide, uw_S, fl_B_90⟩
theorem d_B_countRound_39 : decode me_B_countRound.2.1 39 = .ok (.ireturn, 1) := by decide +kernel
theorem d_B_hasRolesFree_0 : decode me_B_hasRolesFree.2.1 0 = .ok (.iconst 0, 1) := by decide +kernel
theorem d_B_hasRolesFree_1 : decode me_B_hasRolesFree.2.1 1 = .ok (.istore_n 2, 1) := by decide +kernel
theorem d_B_hasRolesFree_2 : decode me_B_hasRolesFree.2.1 2 = .ok (.iload_n 2, 1) := by decide +kernel
theorem d_B_hasRolesFree_3 : decode me_B_hasRolesFree.2.1 3 = .ok (.aload_n 0, 1) := by decide +kernel
theorem d_B_hasRolesFree_4 : decode me_B_hasRolesFree.2.1 4 = .ok (.getfield 45, 3) := by decide +kernel
theorem g_B_hasRolesFree_4 : bm_gf me_B_hasRolesFree 4 1 5 := ⟨_, _, _, _, d_B_hasRolesFree_4, rfl, by decide, uw_B, fl_B_45⟩
theorem d_B_hasRolesFree_7 : decode me_B_hasRolesFree.2.1 7 = .ok (.if_icmp .ge (47), 3) := by decide +kernel
theorem d_B_hasRolesFree_10 : decode me_B_hasRolesFree.2.1 10 = .ok (.aload_n 0, 1) := by decide +kernel
theorem d_B_hasRolesFree_11 : decode me_B_hasRolesFree.2.1 11 = .ok (.getfield 17, 3) := by decide +kernel
theorem g_B_hasRolesFree_11 : bm_gf me_B_hasRolesFree 11 1 6 := ⟨_, _, _, _, d_B_hasRolesFree_11, rfl, by decide, uw_B, fl_B_17⟩
theorem d_B_hasRolesFree_14 : decode me_B_hasRolesFree.2.1 14 = .ok (.iload_n 2, 1) := by decide +kernel
theorem d_B_hasRolesFree_15 : decode me_B_hasRolesFree.2.1 15 = .ok (.aaload, 1) := by decide +kernel
theorem d_B_hasRolesFree_16 : decode me_B_hasRolesFree.2.1 16 = .ok (.getfield 48, 3) := by decide +kernel
theorem g_B_hasRolesFree_16 : bm_gf me_B_hasRolesFree 16 9 1 := ⟨_, _, _, _, d_B_hasRolesFree_16, rfl, by decide, uw_T, fl_B_48⟩
theorem d_B_hasRolesFree_19 : decode me_B_hasRolesFree.2.1 19 = .ok (.ifCond .eq (29), 3) := by decide +kernel
theorem d_B_hasRolesFree_22 : decode me_B_hasRolesFree.2.1 22 = .ok (.aload_n 1, 1) := by decide +kernel
theorem d_B_hasRolesFree_23 : decode me_B_hasRolesFree.2.1 23 = .ok (.aload_n 0, 1) := by decide +kernel
theorem d_B_hasRolesFree_24 : decode me_B_hasRolesFree.2.1 24 = .ok (.getfield 37, 3) := by decide +kernel
theorem g_B_hasRolesFree_24 : bm_gf me_B_hasRolesFree 24 1 2 := ⟨_, _, _, _, d_B_hasRolesFree_24, rfl, by decide, uw_B, fl_B_37⟩
theorem d_B_hasRolesFree_27 : decode me_B_hasRolesFree.2.1 27 = .ok (.getfield 52, 3) := by decide +kernel
theorem g_B_hasRolesFree_27 : bm_gf me_B_hasRolesFree 27 6 3 := ⟨_, _, _, _, d_B_hasRolesFree_27, rfl, by decide, uw_R, fl_B_52⟩
theorem d_B_hasRolesFree_30 : decode me_B_hasRolesFree.2.1 30 = .ok (.aload_n 0, 1) := by decide +kernel
theorem d_B_hasRolesFree_31 : decode me_B_hasRolesFree.2.1 31 = .ok (.getfield 17, 3) := by decide +kernel
theorem g_B_hasRolesFree_31 : bm_gf me_B_hasRolesFree 31 1 6 := ⟨_, _, _, _, d_B_hasRolesFree_31, rfl, by decide, uw_B, fl_B_17⟩
theorem d_B_hasRolesFree_34 : decode me_B_hasRolesFree.2.1 34 = .ok (.iload_n 2, 1) := by decide +kernel
theorem d_B_hasRolesFree_35 : decode me_B_hasRolesFree.2.1 35 = .ok (.aaload, 1) := by decide +kernel
theorem d_B_hasRolesFree_36 : decode me_B_hasRolesFree.2.1 36 = .ok (.getfield 58, 3) := by decide +kernel
theorem g_B_hasRolesFree_36 : bm_gf me_B_hasRolesFree 36 9 0 := ⟨_, _, _, _, d_B_hasRolesFree_36, rfl, by decide, uw_T, fl_B_58⟩
theorem d_B_hasRolesFree_39 : decode me_B_hasRolesFree.2.1 39 = .ok (.aaload, 1) := by decide +kernel
theorem d_B_hasRolesFree_40 : decode me_B_hasRolesFree.2.1 40 = .ok (.invokestatic 76, 3) := by decide +kernel
theorem c_B_hasRolesFree_40 : bm_is me_B_hasRolesFree me_B_sharesRole 40 2 := ⟨_, d_B_hasRolesFree_40, Or.inl ml_B_76, ⟨kc_B_sharesRole, in_BatchHall_Batch, by decide +kernel, by decide, by decide⟩, kt_B_sharesRole⟩
theorem d_B_hasRolesFree_43 : decode me_B_hasRolesFree.2.1 43 = .ok (.ifCond .eq (5), 3) := by decide +kernel
theorem d_B_hasRolesFree_46 : decode me_B_hasRolesFree.2.1 46 = .ok (.iconst 0, 1) := by decide +kernel
theorem d_B_hasRolesFree_47 : decode me_B_hasRolesFree.2.1 47 = .ok (.ireturn, 1) := by decide +kernel
theorem d_B_hasRolesFree_48 : decode me_B_hasRolesFree.2.1 48 = .ok (.iinc 2 (1), 3) := by decide +kernel
theorem d_B_hasRolesFree_51 : decode me_B_hasRolesFree.2.1 51 = .ok (.goto (-49), 3) := by decide +kernel
theorem d_B_hasRolesFree_54 : decode me_B_hasRolesFree.2.1 54 = .ok (.iconst 1, 1) := by decide +kernel
theorem d_B_hasRolesFree_55 : decode me_B_hasRolesFree.2.1 55 = .ok (.ireturn, 1) := by decide +kernel
theorem d_B_sharesRole_0 : decode me_B_sharesRole.2.1 0 = .ok (.iconst 0, 1) := by decide +kernel
theorem d_B_sharesRole_1 : decode me_B_sharesRole.2.1 1 = .ok (.istore_n 2, 1) := by decide +kernel
theorem d_B_sharesRole_2 : decode me_B_sharesRole.2.1 2 = .ok (.iload_n 2, 1) := by decide +kernel
theorem d_B_sharesRole_3 : decode me_B_sharesRole.2.1 3 = .ok (.iconst 3, 1) := by decide +kernel
theorem d_B_sharesRole_4 : decode me_B_sharesRole.2.1 4 = .ok (.if_icmp .ge (27), 3) := by decide +kernel
theorem d_B_sharesRole_7 : decode me_B_sharesRole.2.1 7 = .ok (.aload_n 0, 1) := by decide +kernel
theorem d_B_sharesRole_8 : decode me_B_sharesRole.2.1 8 = .ok (.iload_n 2, 1) := by decide +kernel
theorem d_B_sharesRole_9 : decode me_B_sharesRole.2.1 9 = .ok (.invokevirtual 80, 3) := by decide +kernel
theorem c_B_sharesRole_9 : bm_iv me_B_sharesRole me_S_usesRole 9 8 1 := ⟨_, d_B_sharesRole_9, Or.inl ml_B_80, ⟨kc_S_usesRole, in_BatchHall_Step, by decide +kernel, by decide, by decide⟩, ki_S_usesRole, ks_S_usesRole, _, _, rfl⟩
theorem d_B_sharesRole_12 : decode me_B_sharesRole.2.1 12 = .ok (.ifCond .eq (13), 3) := by decide +kernel
theorem d_B_sharesRole_15 : decode me_B_sharesRole.2.1 15 = .ok (.aload_n 1, 1) := by decide +kernel
theorem d_B_sharesRole_16 : decode me_B_sharesRole.2.1 16 = .ok (.iload_n 2, 1) := by decide +kernel
theorem d_B_sharesRole_17 : decode me_B_sharesRole.2.1 17 = .ok (.invokevirtual 80, 3) := by decide +kernel
theorem c_B_sharesRole_17 : bm_iv me_B_sharesRole me_S_usesRole 17 8 1 := ⟨_, d_B_sharesRole_17, Or.inl ml_B_80, ⟨kc_S_usesRole, in_BatchHall_Step, by decide +kernel, by decide, by decide⟩, ki_S_usesRole, ks_S_usesRole, _, _, rfl⟩
theorem d_B_sharesRole_20 : decode me_B_sharesRole.2.1 20 = .ok (.ifCond .eq (5), 3) := by decide +kernel
theorem d_B_sharesRole_23 : decode me_B_sharesRole.2.1 23 = .ok (.iconst 1, 1) := by decide +kernel
theorem d_B_sharesRole_24 : decode me_B_sharesRole.2.1 24 = .ok (.ireturn, 1) := by decide +kernel
theorem d_B_sharesRole_25 : decode me_B_sharesRole.2.1 25 = .ok (.iinc 2 (1), 3) := by decide +kernel
theorem d_B_sharesRole_28 : decode me_B_sharesRole.2.1 28 = .ok (.goto (-26), 3) := by decide +kernel
theorem d_B_sharesRole_31 : decode me_B_sharesRole.2.1 31 = .ok (.iconst 0, 1) := by decide +kernel
theorem d_B_sharesRole_32 : decode me_B_sharesRole.2.1 32 = .ok (.ireturn, 1) := by decide +kernel
theorem d_B_isOver_0 : decode me_B_isOver.2.1 0 = .ok (.aload_n 0, 1) := by decide +kernel
theorem d_B_isOver_1 : decode me_B_isOver.2.1 1 = .ok (.getfield 9, 3) := by decide +kernel
theorem g_B_isOver_1 : bm_gf me_B_isOver 1 1 4 := ⟨_, _, _, _, d_B_isOver_1, rfl, by decide, uw_B, fl_B_9⟩
theorem d_B_isOver_4 : decode me_B_isOver.2.1 4 = .ok (.iconst 5, 1) := by decide +kernel
theorem d_B_isOver_5 : decode me_B_isOver.2.1 5 = .ok (.if_icmp .eq (21), 3) := by decide +kernel
theorem d_B_isOver_8 : decode me_B_isOver.2.1 8 = .ok (.aload_n 0, 1) := by decide +kernel
theorem d_B_isOver_9 : decode me_B_isOver.2.1 9 = .ok (.getfield 9, 3) := by decide +kernel
theorem g_B_isOver_9 : bm_gf me_B_isOver 9 1 4 := ⟨_, _, _, _, d_B_isOver_9, rfl, by decide, uw_B, fl_B_9⟩
theorem d_B_isOver_12 : decode me_B_isOver.2.1 12 = .ok (.bipush (6), 2) := by decide +kernel
theorem d_B_isOver_14 : decode me_B_isOver.2.1 14 = .ok (.if_icmp .eq (12), 3) := by decide +kernel
theorem d_B_isOver_17 : decode me_B_isOver.2.1 17 = .ok (.aload_n 0, 1) := by decide +kernel
theorem d_B_isOver_18 : decode me_B_isOver.2.1 18 = .ok (.getfield 9, 3) := by decide +kernel
theorem g_B_isOver_18 : bm_gf me_B_isOver 18 1 4 := ⟨_, _, _, _, d_B_isOver_18, rfl, by decide, uw_B, fl_B_9⟩
theorem d_B_isOver_21 : decode me_B_isOver.2.1 21 = .ok (.bipush (7), 2) := by decide +kernel
theorem d_B_isOver_23 : decode me_B_isOver.2.1 23 = .ok (.if_icmp .ne (7), 3) := by decide +kernel
theorem d_B_isOver_26 : decode me_B_isOver.2.1 26 = .ok (.iconst 1, 1) := by decide +kernel
theorem d_B_isOver_27 : decode me_B_isOver.2.1 27 = .ok (.goto (4), 3) := by decide +kernel
theorem d_B_isOver_30 : decode me_B_isOver.2.1 30 = .ok (.iconst 0, 1) := by decide +kernel
theorem d_B_isOver_31 : decode me_B_isOver.2.1 31 = .ok (.ireturn, 1) := by decide +kernel
theorem d_B_noteMeasured_0 : decode me_B_noteMeasured.2.1 0 = .ok (.aload_n 0, 1) := by decide +kernel
theorem d_B_noteMeasured_1 : decode me_B_noteMeasured.2.1 1 = .ok (.getfield 21, 3) := by decide +kernel
theorem g_B_noteMeasured_1 : bm_gf me_B_noteMeasured 1 1 7 := ⟨_, _, _, _, d_B_noteMeasured_1, rfl, by decide, uw_B, fl_B_21⟩
theorem d_B_noteMeasured_4 : decode me_B_noteMeasured.2.1 4 = .ok (.iload_n 1, 1) := by decide +kernel
theorem d_B_noteMeasured_5 : decode me_B_noteMeasured.2.1 5 = .ok (.iload_n 2, 1) := by decide +kernel
theorem d_B_noteMeasured_6 : decode me_B_noteMeasured.2.1 6 = .ok (.iastore, 1) := by decide +kernel
theorem d_B_noteMeasured_7 : decode me_B_noteMeasured.2.1 7 = .ok (.iconst 0, 1) := by decide +kernel
theorem d_B_noteMeasured_8 : decode me_B_noteMeasured.2.1 8 = .ok (.istore_n 3, 1) := by decide +kernel
theorem d_B_noteMeasured_9 : decode me_B_noteMeasured.2.1 9 = .ok (.iload_n 3, 1) := by decide +kernel
theorem d_B_noteMeasured_10 : decode me_B_noteMeasured.2.1 10 = .ok (.aload_n 0, 1) := by decide +kernel
theorem d_B_noteMeasured_11 : decode me_B_noteMeasured.2.1 11 = .ok (.getfield 45, 3) := by decide +kernel
theorem g_B_noteMeasured_11 : bm_gf me_B_noteMeasured 11 1 5 := ⟨_, _, _, _, d_B_noteMeasured_11, rfl, by decide, uw_B, fl_B_45⟩
theorem d_B_noteMeasured_14 : decode me_B_noteMeasured.2.1 14 = .ok (.if_icmp .ge (68), 3) := by decide +kernel
theorem d_B_noteMeasured_17 : decode me_B_noteMeasured.2.1 17 = .ok (.aload_n 0, 1) := by decide +kernel
theorem d_B_noteMeasured_18 : decode me_B_noteMeasured.2.1 18 = .ok (.getfield 37, 3) := by decide +kernel
theorem g_B_noteMeasured_18 : bm_gf me_B_noteMeasured 18 1 2 := ⟨_, _, _, _, d_B_noteMeasured_18, rfl, by decide, uw_B, fl_B_37⟩
theorem d_B_noteMeasured_21 : decode me_B_noteMeasured.2.1 21 = .ok (.getfield 52, 3) := by decide +kernel
theorem g_B_noteMeasured_21 : bm_gf me_B_noteMeasured 21 6 3 := ⟨_, _, _, _, d_B_noteMeasured_21, rfl, by decide, uw_R, fl_B_52⟩
theorem d_B_noteMeasured_24 : decode me_B_noteMeasured.2.1 24 = .ok (.aload_n 0, 1) := by decide +kernel
theorem d_B_noteMeasured_25 : decode me_B_noteMeasured.2.1 25 = .ok (.getfield 17, 3) := by decide +kernel
theorem g_B_noteMeasured_25 : bm_gf me_B_noteMeasured 25 1 6 := ⟨_, _, _, _, d_B_noteMeasured_25, rfl, by decide, uw_B, fl_B_17⟩
theorem d_B_noteMeasured_28 : decode me_B_noteMeasured.2.1 28 = .ok (.iload_n 3, 1) := by decide +kernel
theorem d_B_noteMeasured_29 : decode me_B_noteMeasured.2.1 29 = .ok (.aaload, 1) := by decide +kernel
theorem d_B_noteMeasured_30 : decode me_B_noteMeasured.2.1 30 = .ok (.getfield 58, 3) := by decide +kernel
theorem g_B_noteMeasured_30 : bm_gf me_B_noteMeasured 30 9 0 := ⟨_, _, _, _, d_B_noteMeasured_30, rfl, by decide, uw_T, fl_B_58⟩
theorem d_B_noteMeasured_33 : decode me_B_noteMeasured.2.1 33 = .ok (.aaload, 1) := by decide +kernel
theorem d_B_noteMeasured_34 : decode me_B_noteMeasured.2.1 34 = .ok (.astore 4, 2) := by decide +kernel
theorem d_B_noteMeasured_36 : decode me_B_noteMeasured.2.1 36 = .ok (.aload_n 0, 1) := by decide +kernel
theorem d_B_noteMeasured_37 : decode me_B_noteMeasured.2.1 37 = .ok (.getfield 17, 3) := by decide +kernel
theorem g_B_noteMeasured_37 : bm_gf me_B_noteMeasured 37 1 6 := ⟨_, _, _, _, d_B_noteMeasured_37, rfl, by decide, uw_B, fl_B_17⟩
theorem d_B_noteMeasured_40 : decode me_B_noteMeasured.2.1 40 = .ok (.iload_n 3, 1) := by decide +kernel
theorem d_B_noteMeasured_41 : decode me_B_noteMeasured.2.1 41 = .ok (.aaload, 1) := by decide +kernel
theorem d_B_noteMeasured_42 : decode me_B_noteMeasured.2.1 42 = .ok (.getfield 48, 3) := by decide +kernel
theorem g_B_noteMeasured_42 : bm_gf me_B_noteMeasured 42 9 1 := ⟨_, _, _, _, d_B_noteMeasured_42, rfl, by decide, uw_T, fl_B_48⟩
theorem d_B_noteMeasured_45 : decode me_B_noteMeasured.2.1 45 = .ok (.ifCond .eq (31), 3) := by decide +kernel
theorem d_B_noteMeasured_48 : decode me_B_noteMeasured.2.1 48 = .ok (.aload 4, 2) := by decide +kernel
theorem d_B_noteMeasured_50 : decode me_B_noteMeasured.2.1 50 = .ok (.getfield 61, 3) := by decide +kernel
theorem g_B_noteMeasured_50 : bm_gf me_B_noteMeasured 50 8 0 := ⟨_, _, _, _, d_B_noteMeasured_50, rfl, by decide, uw_S, fl_B_61⟩
theorem d_B_noteMeasured_53 : decode me_B_noteMeasured.2.1 53 = .ok (.iconst 4, 1) := by decide +kernel
theorem d_B_noteMeasured_54 : decode me_B_noteMeasured.2.1 54 = .ok (.if_icmp .ne (22), 3) := by decide +kernel
theorem d_B_noteMeasured_57 : decode me_B_noteMeasured.2.1 57 = .ok (.aload 4, 2) := by decide +kernel
theorem d_B_noteMeasured_59 : decode me_B_noteMeasured.2.1 59 = .ok (.getfield 66, 3) := by decide +kernel
theorem g_B_noteMeasured_59 : bm_gf me_B_noteMeasured 59 8 2 := ⟨_, _, _, _, d_B_noteMeasured_59, rfl, by decide, uw_S, fl_B_66⟩
theorem d_B_noteMeasured_62 : decode me_B_noteMeasured.2.1 62 = .ok (.iload_n 1, 1) := by decide +kernel
theorem d_B_noteMeasured_63 : decode me_B_noteMeasured.2.1 63 = .ok (.if_icmp .ne (13), 3) := by decide +kernel
theorem d_B_noteMeasured_66 : decode me_B_noteMeasured.2.1 66 = .ok (.aload_n 0, 1) := by decide +kernel
theorem d_B_noteMeasured_67 : decode me_B_noteMeasured.2.1 67 = .ok (.getfield 17, 3) := by decide +kernel
theorem g_B_noteMeasured_67 : bm_gf me_B_noteMeasured 67 1 6 := ⟨_, _, _, _, d_B_noteMeasured_67, rfl, by decide, uw_B, fl_B_17⟩
theorem d_B_noteMeasured_70 : decode me_B_noteMeasured.2.1 70 = .ok (.iload_n 3, 1) := by decide +kernel
theorem d_B_noteMeasured_71 : decode me_B_noteMeasured.2.1 71 = .ok (.aaload, 1) := by decide +kernel
theorem d_B_noteMeasured_72 : decode me_B_noteMeasured.2.1 72 = .ok (.iconst 0, 1) := by decide +kernel
theorem d_B_noteMeasured_73 : decode me_B_noteMeasured.2.1 73 = .ok (.putfield 69, 3) := by decide +kernel
theorem p_B_noteMeasured_73 : bm_pf me_B_noteMeasured 73 9 2 .int := ⟨_, _, _, _, ty_T, d_B_noteMeasured_73, rfl, by decide, uw_T, fl_B_69, tk_T, nm_T, rfl, Or.inl rfl⟩
theorem d_B_noteMeasured_76 : decode me_B_noteMeasured.2.1 76 = .ok (.iinc 3 (1), 3) := by decide +kernel
theorem d_B_noteMeasured_79 : decode me_B_noteMeasured.2.1 79 = .ok (.goto (-70), 3) := by decide +kernel
theorem d_B_noteMeasured_82 : decode me_B_noteMeasured.2.1 82 = .ok (.return_, 1) := by decide +kernel
theorem d_B_init_0 : decode me_B_init.2.1 0 = .ok (.aload_n 0, 1) := by decide +kernel
theorem d_B_init_1 : decode me_B_init.2.1 1 = .ok (.invokespecial 3, 3) := by decide +kernel
theorem c_B_init_1 : bm_io me_B_init 1 := ⟨_, d_B_init_1, ml_B_3, ki_obj, kc_obj, by decide, by decide⟩
theorem d_B_init_4 : decode me_B_init.2.1 4 = .ok (.aload_n 0, 1) := by decide +kernel
theorem d_B_init_5 : decode me_B_init.2.1 5 = .ok (.iconst 0, 1) := by decide +kernel
theorem d_B_init_6 : decode me_B_init.2.1 6 = .ok (.putfield 9, 3) := by decide +kernel
theorem p_B_init_6 : bm_pf me_B_init 6 1 4 .int := ⟨_, _, _, _, ty_B, d_B_init_6, rfl, by decide, uw_B, fl_B_9, tk_B, nm_B, rfl, Or.inl rfl⟩
theorem d_B_init_9 : decode me_B_init.2.1 9 = .ok (.aload_n 0, 1) := by decide +kernel
theorem d_B_init_10 : decode me_B_init.2.1 10 = .ok (.bipush (8), 2) := by decide +kernel
theorem d_B_init_12 : decode me_B_init.2.1 12 = .ok (.anewarray 15, 3) := by decide +kernel
theorem n_B_init_12 : bm_nq me_B_init 12 8 := ⟨_, _, d_B_init_12, lc_B_15, by decide +kernel, rfl⟩
theorem d_B_init_15 : decode me_B_init.2.1 15 = .ok (.putfield 17, 3) := by decide +kernel
theorem p_B_init_15 : bm_pf me_B_init 15 1 6 (.array (.object "BatchHall$Token")) := ⟨_, _, _, _, ty_B, d_B_init_15, rfl, by decide, uw_B, fl_B_17, tk_B, nm_B, rfl, Or.inr ⟨rfl, rfl, rfl⟩⟩
theorem d_B_init_18 : decode me_B_init.2.1 18 = .ok (.aload_n 0, 1) := by decide +kernel
theorem d_B_init_19 : decode me_B_init.2.1 19 = .ok (.iconst 4, 1) := by decide +kernel
theorem d_B_init_20 : decode me_B_init.2.1 20 = .ok (.newarray .int, 2) := by decide +kernel
theorem n_B_init_20 : bm_na me_B_init 20 0 .int := ⟨_, d_B_init_20, rfl, ac_int, rfl, by decide⟩
theorem d_B_init_22 : decode me_B_init.2.1 22 = .ok (.putfield 21, 3) := by decide +kernel
theorem p_B_init_22 : bm_pf me_B_init 22 1 7 (.array .int) := ⟨_, _, _, _, ty_B, d_B_init_22, rfl, by decide, uw_B, fl_B_21, tk_B, nm_B, rfl, Or.inr ⟨rfl, rfl, rfl⟩⟩
theorem d_B_init_25 : decode me_B_init.2.1 25 = .ok (.aload_n 0, 1) := by decide +kernel
theorem d_B_init_26 : decode me_B_init.2.1 26 = .ok (.bipush (12), 2) := by decide +kernel
theorem d_B_init_28 : decode me_B_init.2.1 28 = .ok (.newarray .int, 2) := by decide +kernel
theorem n_B_init_28 : bm_na me_B_init 28 0 .int := ⟨_, d_B_init_28, rfl, ac_int, rfl, by decide⟩
theorem d_B_init_30 : decode me_B_init.2.1 30 = .ok (.putfield 25, 3) := by decide +kernel
theorem p_B_init_30 : bm_pf me_B_init 30 1 8 (.array .int) := ⟨_, _, _, _, ty_B, d_B_init_30, rfl, by decide, uw_B, fl_B_25, tk_B, nm_B, rfl, Or.inr ⟨rfl, rfl, rfl⟩⟩
theorem d_B_init_33 : decode me_B_init.2.1 33 = .ok (.aload_n 0, 1) := by decide +kernel
theorem d_B_init_34 : decode me_B_init.2.1 34 = .ok (.iconst 3, 1) := by decide +kernel
theorem d_B_init_35 : decode me_B_init.2.1 35 = .ok (.newarray .int, 2) := by decide +kernel
theorem n_B_init_35 : bm_na me_B_init 35 0 .int := ⟨_, d_B_init_35, rfl, ac_int, rfl, by decide⟩
theorem d_B_init_37 : decode me_B_init.2.1 37 = .ok (.dup, 1) := by decide +kernel
theorem d_B_init_38 : decode me_B_init.2.1 38 = .ok (.iconst 0, 1) := by decide +kernel
theorem d_B_init_39 : decode me_B_init.2.1 39 = .ok (.iconst (-1), 1) := by decide +kernel
theorem d_B_init_40 : decode me_B_init.2.1 40 = .ok (.iastore, 1) := by decide +kernel
theorem d_B_init_41 : decode me_B_init.2.1 41 = .ok (.dup, 1) := by decide +kernel
theorem d_B_init_42 : decode me_B_init.2.1 42 = .ok (.iconst 1, 1) := by decide +kernel
theorem d_B_init_43 : decode me_B_init.2.1 43 = .ok (.iconst (-1), 1) := by decide +kernel
theorem d_B_init_44 : decode me_B_init.2.1 44 = .ok (.iastore, 1) := by decide +kernel
theorem d_B_init_45 : decode me_B_init.2.1 45 = .ok (.dup, 1) := by decide +kernel
theorem d_B_init_46 : decode me_B_init.2.1 46 = .ok (.iconst 2, 1) := by decide +kernel
theorem d_B_init_47 : decode me_B_init.2.1 47 = .ok (.iconst (-1), 1) := by decide +kernel
theorem d_B_init_48 : decode me_B_init.2.1 48 = .ok (.iastore, 1) := by decide +kernel
theorem d_B_init_49 : decode me_B_init.2.1 49 = .ok (.putfield 28, 3) := by decide +kernel
theorem p_B_init_49 : bm_pf me_B_init 49 1 9 (.array .int) := ⟨_, _, _, _, ty_B, d_B_init_49, rfl, by decide, uw_B, fl_B_28, tk_B, nm_B, rfl, Or.inr ⟨rfl, rfl, rfl⟩⟩
theorem d_B_init_52 : decode me_B_init.2.1 52 = .ok (.aload_n 0, 1) := by decide +kernel
theorem d_B_init_53 : decode me_B_init.2.1 53 = .ok (.iload_n 1, 1) := by decide +kernel
theorem d_B_init_54 : decode me_B_init.2.1 54 = .ok (.putfield 31, 3) := by decide +kernel
theorem p_B_init_54 : bm_pf me_B_init 54 1 0 .int := ⟨_, _, _, _, ty_B, d_B_init_54, rfl, by decide, uw_B, fl_B_31, tk_B, nm_B, rfl, Or.inr ⟨rfl, rfl, rfl⟩⟩
theorem d_B_init_57 : decode me_B_init.2.1 57 = .ok (.aload_n 0, 1) := by decide +kernel
theorem d_B_init_58 : decode me_B_init.2.1 58 = .ok (.iload_n 2, 1) := by decide +kernel
theorem d_B_init_59 : decode me_B_init.2.1 59 = .ok (.putfield 34, 3) := by decide +kernel
theorem p_B_init_59 : bm_pf me_B_init 59 1 1 .int := ⟨_, _, _, _, ty_B, d_B_init_59, rfl, by decide, uw_B, fl_B_34, tk_B, nm_B, rfl, Or.inr ⟨rfl, rfl, rfl⟩⟩
theorem d_B_init_62 : decode me_B_init.2.1 62 = .ok (.aload_n 0, 1) := by decide +kernel
theorem d_B_init_63 : decode me_B_init.2.1 63 = .ok (.aload_n 3, 1) := by decide +kernel
theorem d_B_init_64 : decode me_B_init.2.1 64 = .ok (.putfield 37, 3) := by decide +kernel
theorem p_B_init_64 : bm_pf me_B_init 64 1 2 (.object "BatchHall$Recipe") := ⟨_, _, _, _, ty_B, d_B_init_64, rfl, by decide, uw_B, fl_B_37, tk_B, nm_B, rfl, Or.inr ⟨rfl, rfl, rfl⟩⟩
theorem d_B_init_67 : decode me_B_init.2.1 67 = .ok (.aload_n 0, 1) := by decide +kernel
theorem d_B_init_68 : decode me_B_init.2.1 68 = .ok (.iload 4, 2) := by decide +kernel
theorem d_B_init_70 : decode me_B_init.2.1 70 = .ok (.putfield 41, 3) := by decide +kernel
theorem p_B_init_70 : bm_pf me_B_init 70 1 3 .int := ⟨_, _, _, _, ty_B, d_B_init_70, rfl, by decide, uw_B, fl_B_41, tk_B, nm_B, rfl, Or.inr ⟨rfl, rfl, rfl⟩⟩
theorem d_B_init_73 : decode me_B_init.2.1 73 = .ok (.iconst 0, 1) := by decide +kernel
theorem d_B_init_74 : decode me_B_init.2.1 74 = .ok (.istore 5, 2) := by decide +kernel
theorem d_B_init_76 : decode me_B_init.2.1 76 = .ok (.iload 5, 2) := by decide +kernel
theorem d_B_init_78 : decode me_B_init.2.1 78 = .ok (.bipush (8), 2) := by decide +kernel
theorem d_B_init_80 : decode me_B_init.2.1 80 = .ok (.if_icmp .ge (23), 3) := by decide +kernel
theorem d_B_init_83 : decode me_B_init.2.1 83 = .ok (.aload_n 0, 1) := by decide +kernel
theorem d_B_init_84 : decode me_B_init.2.1 84 = .ok (.getfield 17, 3) := by decide +kernel
theorem g_B_init_84 : bm_gf me_B_init 84 1 6 := ⟨_, _, _, _, d_B_init_84, rfl, by decide, uw_B, fl_B_17⟩
theorem d_B_init_87 : decode me_B_init.2.1 87 = .ok (.iload 5, 2) := by decide +kernel
theorem d_B_init_89 : decode me_B_init.2.1 89 = .ok (.new 15, 3) := by decide +kernel
theorem n_B_init_89 : bm_nw me_B_init 89 9 [.int 0, .int 0, .int 0, .int 0] := ⟨_, _, _, _, ty_T, d_B_init_89, rfl, uw_T, tk_T, lc_B_15, ic_BatchHall_Token, in_BatchHall_Token, by decide, rfl, by simp⟩
theorem d_B_init_92 : decode me_B_init.2.1 92 = .ok (.dup, 1) := by decide +kernel
theorem d_B_init_93 : decode me_B_init.2.1 93 = .ok (.invokespecial 44, 3) := by decide +kernel
theorem c_B_init_93 : bm_ii me_B_init me_T_init 93 0 := ⟨_, d_B_init_93, Or.inr ⟨"BatchHall", by decide +kernel⟩, ⟨kc_T_init, in_BatchHall_Token, by decide +kernel, by decide, by decide⟩, ki_T_init, rfl, rfl⟩
theorem d_B_init_96 : decode me_B_init.2.1 96 = .ok (.aastore, 1) := by decide +kernel
theorem d_B_init_97 : decode me_B_init.2.1 97 = .ok (.iinc 5 (1), 3) := by decide +kernel
theorem d_B_init_100 : decode me_B_init.2.1 100 = .ok (.goto (-24), 3) := by decide +kernel
theorem d_B_init_103 : decode me_B_init.2.1 103 = .ok (.return_, 1) := by decide +kernel
