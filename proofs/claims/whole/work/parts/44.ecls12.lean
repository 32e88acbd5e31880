theorem E_H_abort {G : bm_G} (hfl : G.1.flags = pinnedFlags ++ [noTraceFlag]) {f : Nat} {l0 : Nat} {l1 : Int32} {s sz : cx_S} {r : (Nat ⊕ Int32)} {Q : bm_R → cx_S → Prop} (h : D_H_abort f l0 l1 s = some (r, sz)) (hq : Q (xr_v r) sz) : cx_T2 G me_H_abort [va_rf (some l0), .int (l1)] s Q := by
  refine cx_met2 (by decide) (List.forall_mem_cons.mpr ⟨cx_cat, (List.forall_mem_cons.mpr ⟨rfl, (fun _ q => nomatch q)⟩)⟩) (Nat.le_of_ble_eq_true rfl) ?_
  unfold D_H_abort at h
  refine cx_aload_n d_H_abort_0 rfl ?_
  refine cx_iload_n d_H_abort_1 rfl ?_
  obtain ⟨p1, ep1, hp1, h⟩ := oc_inv h
  obtain ⟨x2, s3, ex2, h⟩ := ob_inv h
  refine cx_callX1r c_H_abort_2 x_H_abort_2 kc_H_abort (cx_hst (fun _ q => nomatch q) (Nat.le_of_ble_eq_true rfl)) (by decide) ep1 hp1 (fun _ q => E_H_findBatch hfl ex2 q) (fun _ q => by subst q; exact ox_tv hq h) (fun b4 q => ?_)
  subst q
  refine cx_astore_n d_H_abort_5 (by decide) ?_
  refine cx_aload_n d_H_abort_6 rfl ?_
  obtain ⟨p5, ep5, hp5, h⟩ := oc_inv h
  refine cx_geti 20 rfl g_H_abort_7 rfl (by decide) ep5 hp5 ?_
  refine oj_step (P := fun J6 : cx_S → Option ((Nat ⊕ Int32) × cx_S) => ∀ (s7 : cx_S) (d0 : Option Value) (d1 : Option Value) (d2 : Option Value), J6 s7 = some (r, sz) → cx G me_H_abort 20 [d0, d1, d2] [] s7 Q) h ?_ ?_
  · intro s7 d0 d1 d2 h
    obtain ⟨hn20, h⟩ := on_inv h
    exact cx_throw hfl t_H_abort_20 (by decide) rfl rfl hn20 (ox_tv hq h)
  clear h
  intro J6 hJ1 h
  refine cx_if_eq (tgt := 20) d_H_abort_10 (by decide) (fun hc10 => ?_) (fun hc10 => ?_)
  · rw [if_pos hc10] at h
    exact hJ1 _ _ _ _ h
  · rw [if_neg hc10] at h
    refine cx_aload_n d_H_abort_13 rfl ?_
    obtain ⟨x8, s9, ex8, h⟩ := ob_inv h
    refine cx_callV0 c_H_abort_14 (cx_hst (fun _ q => nomatch q) (Nat.le_of_ble_eq_true rfl)) (by decide) ep5 hp5 (E_B_isOver ex8 ?_)
    refine cx_if_eq (tgt := 30) d_H_abort_17 (by decide) (fun hc17 => ?_) (fun hc17 => ?_)
    · rw [if_pos hc17] at h
      refine cx_aload_n d_H_abort_30 rfl ?_
      obtain ⟨p10, ep10, hp10, h⟩ := oc_inv h
      refine cx_getr 4 rfl g_H_abort_31 rfl (by decide) ep10 hp10 ?_
      refine cx_aload_n d_H_abort_34 rfl ?_
      refine cx_bipush (v := nI 6) d_H_abort_35 (by decide) ?_
      obtain ⟨p11, ep11, hp11, h⟩ := oc_inv h
      obtain ⟨x12, s13, ex12, h⟩ := ob_inv h
      refine cx_callV2v c_H_abort_37 (cx_hst (fun _ q => nomatch q) (Nat.le_of_ble_eq_true rfl)) (by decide) ep11 hp11 (E_F_finish ex12 ?_)
      refine cx_aload_n d_H_abort_40 rfl ?_
      obtain ⟨p14, ep14, hp14, h⟩ := oc_inv h
      refine cx_getr 4 rfl g_H_abort_41 rfl (by decide) ep14 hp14 ?_
      obtain ⟨p15, ep15, hp15, h⟩ := oc_inv h
      obtain ⟨x16, s17, ex16, h⟩ := ob_inv h
      refine cx_callV0v c_H_abort_44 (cx_hst (fun _ q => nomatch q) (Nat.le_of_ble_eq_true rfl)) (by decide) ep15 hp15 (E_F_serveWaiting ex16 ?_)
      exact cx_vret d_H_abort_47 rfl (ox_xv hq h)
    · rw [if_neg hc17] at h
      exact hJ1 _ _ _ _ h
