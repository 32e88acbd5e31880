theorem xa_12 : ∀ a ∈ xt_atoms "BatchHall" 93 "java/lang/IllegalArgumentException", a ∈ bm_Ts ∨ a ∈ bm_Nx ∨ a ∈ xt_four := by decide +kernel
theorem xa_13 : ∀ a ∈ xt_atoms "BatchHall" 104 "java/lang/IllegalStateException", a ∈ bm_Ts ∨ a ∈ bm_Nx ∨ a ∈ xt_four := by decide +kernel
theorem kc_H_release : Cond.code me_H_release.1 me_H_release.2.1 me_H_release.2.2.1 me_H_release.2.2.2.1 ∈ bm_Ts := bm_in 650 (by decide +kernel) (by decide +kernel)
theorem lc_H_89 : Cond.classLink "BatchHall" 89 "java/lang/IllegalArgumentException" ∈ bm_Ts := bm_in 651 (by decide +kernel) (by decide +kernel)
theorem ic_X_12 : Cond.instantiable "java/lang/IllegalArgumentException" 6 ∈ bm_Ts := bm_in 652 (by decide +kernel) (by decide +kernel)
theorem in_X_12 : Cond.initialized "java/lang/IllegalArgumentException" ∈ bm_Ts := bm_in 88 (by decide +kernel) (by decide +kernel)
theorem t_H_release_8 : bm_tw me_H_release 8 12 := ⟨_, _, _, _, "no such recipe", d_H_release_8, d_H_release_11, d_H_release_12, d_H_release_14, d_H_release_17, rfl, lc_H_89, ic_X_12, in_X_12, by decide, rfl, xa_12, by decide +kernel, by decide, by decide, by decide, kc_H_release⟩
theorem lc_H_100 : Cond.classLink "BatchHall" 100 "java/lang/IllegalStateException" ∈ bm_Ts := bm_in 718 (by decide +kernel) (by decide +kernel)
theorem ic_X_13 : Cond.instantiable "java/lang/IllegalStateException" 6 ∈ bm_Ts := bm_in 719 (by decide +kernel) (by decide +kernel)
theorem in_X_13 : Cond.initialized "java/lang/IllegalStateException" ∈ bm_Ts := bm_in 89 (by decide +kernel) (by decide +kernel)
theorem t_H_release_30 : bm_tw me_H_release 30 13 := ⟨_, _, _, _, "the recipe is released", d_H_release_30, d_H_release_33, d_H_release_34, d_H_release_36, d_H_release_39, rfl, lc_H_100, ic_X_13, in_X_13, by decide, rfl, xa_13, by decide +kernel, by decide, by decide, by decide, kc_H_release⟩
theorem kc_H_batch : Cond.code me_H_batch.1 me_H_batch.2.1 me_H_batch.2.2.1 me_H_batch.2.2.2.1 ∈ bm_Ts := bm_in 804 (by decide +kernel) (by decide +kernel)
theorem t_H_batch_18 : bm_tw me_H_batch 18 12 := ⟨_, _, _, _, "no such recipe or size", d_H_batch_18, d_H_batch_21, d_H_batch_22, d_H_batch_24, d_H_batch_27, rfl, lc_H_89, ic_X_12, in_X_12, by decide, rfl, xa_12, by decide +kernel, by decide, by decide, by decide, kc_H_batch⟩
theorem t_H_batch_49 : bm_tw me_H_batch 49 13 := ⟨_, _, _, _, "not released, or no batch left", d_H_batch_49, d_H_batch_52, d_H_batch_53, d_H_batch_55, d_H_batch_58, rfl, lc_H_100, ic_X_13, in_X_13, by decide, rfl, xa_13, by decide +kernel, by decide, by decide, by decide, kc_H_batch⟩
theorem kc_H_start : Cond.code me_H_start.1 me_H_start.2.1 me_H_start.2.2.1 me_H_start.2.2.2.1 ∈ bm_Ts := bm_in 888 (by decide +kernel) (by decide +kernel)
theorem x_H_start_2 : ∃ ix, decode me_H_start.2.1 2 = .ok (.invokevirtual ix, 3) ∧ Cond.methodLink me_H_start.1.cls ix me_H_findBatch.1 ∈ bm_Ts := ⟨_, d_H_start_2, ml_H_119⟩
theorem t_H_start_13 : bm_tw me_H_start 13 13 := ⟨_, _, _, _, "the batch is not MADE", d_H_start_13, d_H_start_16, d_H_start_17, d_H_start_19, d_H_start_22, rfl, lc_H_100, ic_X_13, in_X_13, by decide, rfl, xa_13, by decide +kernel, by decide, by decide, by decide, kc_H_start⟩
theorem t_H_findBatch_11 : bm_tw me_H_findBatch 11 12 := ⟨_, _, _, _, "no such batch", d_H_findBatch_11, d_H_findBatch_14, d_H_findBatch_15, d_H_findBatch_17, d_H_findBatch_20, rfl, lc_H_89, ic_X_12, in_X_12, by decide, rfl, xa_12, by decide +kernel, by decide, by decide, by decide, kc_H_findBatch⟩
theorem kc_H_hold : Cond.code me_H_hold.1 me_H_hold.2.1 me_H_hold.2.2.1 me_H_hold.2.2.2.1 ∈ bm_Ts := bm_in 905 (by decide +kernel) (by decide +kernel)
theorem x_H_hold_2 : ∃ ix, decode me_H_hold.2.1 2 = .ok (.invokevirtual ix, 3) ∧ Cond.methodLink me_H_hold.1.cls ix me_H_findBatch.1 ∈ bm_Ts := ⟨_, d_H_hold_2, ml_H_119⟩
theorem t_H_hold_14 : bm_tw me_H_hold 14 13 := ⟨_, _, _, _, "the batch is not RUNNING", d_H_hold_14, d_H_hold_17, d_H_hold_18, d_H_hold_20, d_H_hold_23, rfl, lc_H_100, ic_X_13, in_X_13, by decide, rfl, xa_13, by decide +kernel, by decide, by decide, by decide, kc_H_hold⟩
theorem kc_H_restart : Cond.code me_H_restart.1 me_H_restart.2.1 me_H_restart.2.2.1 me_H_restart.2.2.2.1 ∈ bm_Ts := bm_in 913 (by decide +kernel) (by decide +kernel)
theorem x_H_restart_2 : ∃ ix, decode me_H_restart.2.1 2 = .ok (.invokevirtual ix, 3) ∧ Cond.methodLink me_H_restart.1.cls ix me_H_findBatch.1 ∈ bm_Ts := ⟨_, d_H_restart_2, ml_H_119⟩
theorem t_H_restart_14 : bm_tw me_H_restart 14 13 := ⟨_, _, _, _, "the batch is not HELD", d_H_restart_14, d_H_restart_17, d_H_restart_18, d_H_restart_20, d_H_restart_23, rfl, lc_H_100, ic_X_13, in_X_13, by decide, rfl, xa_13, by decide +kernel, by decide, by decide, by decide, kc_H_restart⟩
theorem kc_H_stop : Cond.code me_H_stop.1 me_H_stop.2.1 me_H_stop.2.2.1 me_H_stop.2.2.2.1 ∈ bm_Ts := bm_in 921 (by decide +kernel) (by decide +kernel)
theorem x_H_stop_2 : ∃ ix, decode me_H_stop.2.1 2 = .ok (.invokevirtual ix, 3) ∧ Cond.methodLink me_H_stop.1.cls ix me_H_findBatch.1 ∈ bm_Ts := ⟨_, d_H_stop_2, ml_H_119⟩
theorem t_H_stop_22 : bm_tw me_H_stop 22 13 := ⟨_, _, _, _, "the batch is neither RUNNING nor HELD", d_H_stop_22, d_H_stop_25, d_H_stop_26, d_H_stop_28, d_H_stop_31, rfl, lc_H_100, ic_X_13, in_X_13, by decide, rfl, xa_13, by decide +kernel, by decide, by decide, by decide, kc_H_stop⟩
theorem kc_H_abort : Cond.code me_H_abort.1 me_H_abort.2.1 me_H_abort.2.2.1 me_H_abort.2.2.2.1 ∈ bm_Ts := bm_in 930 (by decide +kernel) (by decide +kernel)
theorem x_H_abort_2 : ∃ ix, decode me_H_abort.2.1 2 = .ok (.invokevirtual ix, 3) ∧ Cond.methodLink me_H_abort.1.cls ix me_H_findBatch.1 ∈ bm_Ts := ⟨_, d_H_abort_2, ml_H_119⟩
theorem t_H_abort_20 : bm_tw me_H_abort 20 13 := ⟨_, _, _, _, "the batch is MADE, or over", d_H_abort_20, d_H_abort_23, d_H_abort_24, d_H_abort_26, d_H_abort_29, rfl, lc_H_100, ic_X_13, in_X_13, by decide, rfl, xa_13, by decide +kernel, by decide, by decide, by decide, kc_H_abort⟩
