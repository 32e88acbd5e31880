theorem E_M_start {G : bm_G} {f : Nat} {l1 : Int32} {s sz : rx_S} {r : Int32} {Q : Int32 → rx_S → Prop} (h : D_M_start f l1 s = some (r, sz)) (hq : Q r sz) : rx_Ti G me_M_start [.ref rx_o, .int (l1)] s Q := by
  refine rx_meti (by decide) rfl (Nat.le_of_ble_eq_true rfl) ?_
  generalize hQ : (fun (v : bm_R) (s2 : rx_S) => ∃ x, v = .inl (some (.int x)) ∧ Q x s2) = Q2
  replace hq : Q2 (.inl (some (.int (r)))) sz := by rw [← hQ]; exact ⟨_, rfl, hq⟩
  clear hQ
  unfold D_M_start at h
  refine rx_aload_n d_M_start_0 rfl ?_
  refine rx_aload_n d_M_start_1 rfl ?_
  refine rx_iload_n d_M_start_2 rfl ?_
  obtain ⟨x1, s2, ex1, h⟩ := ob_inv h
  refine rx_callV1 c_M_start_3 (Nat.le_of_ble_eq_true rfl) (E_M_isBatch ex1 ?_)
  refine rx_aload_n d_M_start_6 rfl ?_
  refine rx_iload_n d_M_start_7 rfl ?_
  obtain ⟨x3, s4, ex3, h⟩ := ob_inv h
  refine rx_callV1 c_M_start_8 (Nat.le_of_ble_eq_true rfl) (E_M_isBatch ex3 ?_)
  refine oj_step (P := fun J5 : Int32 → Option (Int32 × rx_S) => ∀ (x6 : Int32), J5 x6 = some (r, sz) → rx G me_M_start 28 [some (.ref rx_o), some (.int (l1))] [.int (x6), .int (x1), .ref rx_o] s4 Q2) h ?_ ?_
  · intro x6 h
    obtain ⟨x7, s8, ex7, h⟩ := ob_inv h
    refine rx_callV2 c_M_start_28 (Nat.le_of_ble_eq_true rfl) (E_M_goes ex7 ?_)
    refine rx_if_ne (tgt := 36) d_M_start_31 (by decide) (fun hc31 => ?_) (fun hc31 => ?_)
    · rw [if_neg hc31] at h
      refine rx_aload_n d_M_start_36 rfl ?_
      refine rx_gaf g_M_start_37 (by decide) ?_
      refine rx_iload_n d_M_start_40 rfl ?_
      refine rx_iconst (v := nI 1) d_M_start_41 (by decide) ?_
      obtain ⟨j9, hj9, ej9, h⟩ := og_inv (by decide) h
      refine rx_iast d_M_start_42 rfl ej9 hj9 ?_
      refine rx_aload_n d_M_start_43 rfl ?_
      refine rx_gaf g_M_start_44 (by decide) ?_
      refine rx_aload_n d_M_start_47 rfl ?_
      refine rx_gsf g_M_start_48 (by decide) rfl ?_
      refine rx_iload_n d_M_start_51 rfl ?_
      obtain ⟨j10, hj10, ej10, h⟩ := og_inv (by decide) h
      refine rx_iast d_M_start_52 rfl ej10 hj10 ?_
      refine rx_aload_n d_M_start_53 rfl ?_
      refine rx_dup d_M_start_54 rfl ?_
      refine rx_gsf g_M_start_55 (by decide) rfl ?_
      refine rx_iconst (v := nI 1) d_M_start_58 (by decide) ?_
      refine rx_iadd d_M_start_59 ?_
      refine rx_psf p_M_start_60 (by decide) rfl rfl rfl ?_
      refine rx_aload_n d_M_start_63 rfl ?_
      obtain ⟨x11, s12, ex11, h⟩ := ob_inv h
      refine rx_callV0v c_M_start_64 (Nat.le_of_ble_eq_true rfl) (E_M_claim ex11 ?_)
      refine rx_aload_n d_M_start_67 rfl ?_
      refine rx_gaf g_M_start_68 (by decide) ?_
      refine rx_iload_n d_M_start_71 rfl ?_
      refine rx_iald d_M_start_72 rfl ej9 hj9 ?_
      exact rx_iret d_M_start_73 rfl (ox_i hq h)
    · rw [if_pos hc31] at h
      refine rx_iconst (v := nI 0) d_M_start_34 (by decide) ?_
      exact rx_iret d_M_start_35 rfl (ox_i hq h)
  clear h
  intro J5 hJ1 h
  refine oj_step (P := fun J13 : Unit → Option (Int32 × rx_S) => ∀ (_u : Unit), J13 () = some (r, sz) → rx G me_M_start 27 [some (.ref rx_o), some (.int (l1))] [.int (x1), .ref rx_o] s4 Q2) h ?_ ?_
  · intro _u h
    refine rx_iconst (v := nI 0) d_M_start_27 (by decide) ?_
    exact hJ1 _ h
  clear h
  intro J13 hJ2 h
  refine rx_if_eq (tgt := 27) d_M_start_11 (by decide) (fun hc11 => ?_) (fun hc11 => ?_)
  · rw [if_pos hc11] at h
    exact hJ2 () h
  · rw [if_neg hc11] at h
    refine rx_aload_n d_M_start_14 rfl ?_
    refine rx_gaf g_M_start_15 (by decide) ?_
    refine rx_iload_n d_M_start_18 rfl ?_
    obtain ⟨j14, hj14, ej14, h⟩ := og_inv (by decide) h
    refine rx_iald d_M_start_19 rfl ej14 hj14 ?_
    refine rx_if_ne (tgt := 27) d_M_start_20 (by decide) (fun hc20 => ?_) (fun hc20 => ?_)
    · rw [if_neg hc20] at h
      exact hJ2 () h
    · rw [if_pos hc20] at h
      refine rx_iconst (v := nI 1) d_M_start_23 (by decide) ?_
      refine rx_goto (tgt := 28) d_M_start_24 (by decide) ?_
      exact hJ1 _ h
theorem E_M_hold {G : bm_G} {f : Nat} {l1 : Int32} {s sz : rx_S} {r : Int32} {Q : rx_S → Prop} (h : D_M_hold f l1 s = some (r, sz)) (hq : Q sz) : rx_Tv G me_M_hold [.ref rx_o, .int (l1)] s Q := by
  refine rx_metv (by decide) rfl (Nat.le_of_ble_eq_true rfl) ?_
  generalize hQ : (fun (v : bm_R) (s2 : rx_S) => v = .inl none ∧ Q s2) = Q2
  replace hq : Q2 (.inl none) sz := by rw [← hQ]; exact ⟨rfl, hq⟩
  clear hQ
  unfold D_M_hold at h
  refine rx_aload_n d_M_hold_0 rfl ?_
  refine rx_aload_n d_M_hold_1 rfl ?_
  refine rx_iload_n d_M_hold_2 rfl ?_
  obtain ⟨x1, s2, ex1, h⟩ := ob_inv h
  refine rx_callV1 c_M_hold_3 (Nat.le_of_ble_eq_true rfl) (E_M_isBatch ex1 ?_)
  refine rx_aload_n d_M_hold_6 rfl ?_
  refine rx_iload_n d_M_hold_7 rfl ?_
  obtain ⟨x3, s4, ex3, h⟩ := ob_inv h
  refine rx_callV1 c_M_hold_8 (Nat.le_of_ble_eq_true rfl) (E_M_isBatch ex3 ?_)
  refine oj_step (P := fun J5 : Int32 → Option (Int32 × rx_S) => ∀ (x6 : Int32), J5 x6 = some (r, sz) → rx G me_M_hold 29 [some (.ref rx_o), some (.int (l1))] [.int (x6), .int (x1), .ref rx_o] s4 Q2) h ?_ ?_
  · intro x6 h
    obtain ⟨x7, s8, ex7, h⟩ := ob_inv h
    refine rx_callV2 c_M_hold_29 (Nat.le_of_ble_eq_true rfl) (E_M_goes ex7 ?_)
    refine oj_step (P := fun J9 : rx_S → Option (Int32 × rx_S) => ∀ (s10 : rx_S) (d0 : Option Value) (d1 : Option Value), J9 s10 = some (r, sz) → rx G me_M_hold 42 [d0, d1] [] s10 Q2) h ?_ ?_
    · intro s10 d0 d1 h
      exact rx_vret d_M_hold_42 rfl (ox_v hq h)
    clear h
    intro J9 hJ1 h
    refine rx_if_eq (tgt := 42) d_M_hold_32 (by decide) (fun hc32 => ?_) (fun hc32 => ?_)
    · rw [if_pos hc32] at h
      exact hJ1 _ _ _ h
    · rw [if_neg hc32] at h
      refine rx_aload_n d_M_hold_35 rfl ?_
      refine rx_gaf g_M_hold_36 (by decide) ?_
      refine rx_iload_n d_M_hold_39 rfl ?_
      refine rx_iconst (v := nI 3) d_M_hold_40 (by decide) ?_
      obtain ⟨j11, hj11, ej11, h⟩ := og_inv (by decide) h
      refine rx_iast d_M_hold_41 rfl ej11 hj11 ?_
      exact hJ1 _ _ _ h
  clear h
  intro J5 hJ2 h
  refine oj_step (P := fun J12 : Unit → Option (Int32 × rx_S) => ∀ (_u : Unit), J12 () = some (r, sz) → rx G me_M_hold 28 [some (.ref rx_o), some (.int (l1))] [.int (x1), .ref rx_o] s4 Q2) h ?_ ?_
  · intro _u h
    refine rx_iconst (v := nI 0) d_M_hold_28 (by decide) ?_
    exact hJ2 _ h
  clear h
  intro J12 hJ3 h
  refine rx_if_eq (tgt := 28) d_M_hold_11 (by decide) (fun hc11 => ?_) (fun hc11 => ?_)
  · rw [if_pos hc11] at h
    exact hJ3 () h
  · rw [if_neg hc11] at h
    refine rx_aload_n d_M_hold_14 rfl ?_
    refine rx_gaf g_M_hold_15 (by decide) ?_
    refine rx_iload_n d_M_hold_18 rfl ?_
    obtain ⟨j13, hj13, ej13, h⟩ := og_inv (by decide) h
    refine rx_iald d_M_hold_19 rfl ej13 hj13 ?_
    refine rx_iconst (v := nI 2) d_M_hold_20 (by decide) ?_
    refine rx_icmp_ne (tgt := 28) d_M_hold_21 (by decide) (fun hc21 => ?_) (fun hc21 => ?_)
    · rw [if_neg hc21] at h
      exact hJ3 () h
    · rw [if_pos hc21] at h
      refine rx_iconst (v := nI 1) d_M_hold_24 (by decide) ?_
      refine rx_goto (tgt := 29) d_M_hold_25 (by decide) ?_
      exact hJ2 _ h
theorem E_M_restart {G : bm_G} {f : Nat} {l1 : Int32} {s sz : rx_S} {r : Int32} {Q : Int32 → rx_S → Prop} (h : D_M_restart f l1 s = some (r, sz)) (hq : Q r sz) : rx_Ti G me_M_restart [.ref rx_o, .int (l1)] s Q := by
  refine rx_meti (by decide) rfl (Nat.le_of_ble_eq_true rfl) ?_
  generalize hQ : (fun (v : bm_R) (s2 : rx_S) => ∃ x, v = .inl (some (.int x)) ∧ Q x s2) = Q2
  replace hq : Q2 (.inl (some (.int (r)))) sz := by rw [← hQ]; exact ⟨_, rfl, hq⟩
  clear hQ
  unfold D_M_restart at h
  refine rx_aload_n d_M_restart_0 rfl ?_
  refine rx_aload_n d_M_restart_1 rfl ?_
  refine rx_iload_n d_M_restart_2 rfl ?_
  obtain ⟨x1, s2, ex1, h⟩ := ob_inv h
  refine rx_callV1 c_M_restart_3 (Nat.le_of_ble_eq_true rfl) (E_M_isBatch ex1 ?_)
  refine rx_aload_n d_M_restart_6 rfl ?_
  refine rx_iload_n d_M_restart_7 rfl ?_
  obtain ⟨x3, s4, ex3, h⟩ := ob_inv h
  refine rx_callV1 c_M_restart_8 (Nat.le_of_ble_eq_true rfl) (E_M_isBatch ex3 ?_)
  refine oj_step (P := fun J5 : Int32 → Option (Int32 × rx_S) => ∀ (x6 : Int32), J5 x6 = some (r, sz) → rx G me_M_restart 29 [some (.ref rx_o), some (.int (l1))] [.int (x6), .int (x1), .ref rx_o] s4 Q2) h ?_ ?_
  · intro x6 h
    obtain ⟨x7, s8, ex7, h⟩ := ob_inv h
    refine rx_callV2 c_M_restart_29 (Nat.le_of_ble_eq_true rfl) (E_M_goes ex7 ?_)
    refine rx_if_ne (tgt := 37) d_M_restart_32 (by decide) (fun hc32 => ?_) (fun hc32 => ?_)
    · rw [if_neg hc32] at h
      refine rx_aload_n d_M_restart_37 rfl ?_
      refine rx_gaf g_M_restart_38 (by decide) ?_
      refine rx_iload_n d_M_restart_41 rfl ?_
      refine rx_iconst (v := nI 2) d_M_restart_42 (by decide) ?_
      obtain ⟨j9, hj9, ej9, h⟩ := og_inv (by decide) h
      refine rx_iast d_M_restart_43 rfl ej9 hj9 ?_
      refine rx_aload_n d_M_restart_44 rfl ?_
      refine rx_gaf g_M_restart_45 (by decide) ?_
      refine rx_iload_n d_M_restart_48 rfl ?_
      refine rx_iald d_M_restart_49 rfl ej9 hj9 ?_
      exact rx_iret d_M_restart_50 rfl (ox_i hq h)
    · rw [if_pos hc32] at h
      refine rx_iconst (v := nI 0) d_M_restart_35 (by decide) ?_
      exact rx_iret d_M_restart_36 rfl (ox_i hq h)
  clear h
  intro J5 hJ1 h
  refine oj_step (P := fun J10 : Unit → Option (Int32 × rx_S) => ∀ (_u : Unit), J10 () = some (r, sz) → rx G me_M_restart 28 [some (.ref rx_o), some (.int (l1))] [.int (x1), .ref rx_o] s4 Q2) h ?_ ?_
  · intro _u h
    refine rx_iconst (v := nI 0) d_M_restart_28 (by decide) ?_
    exact hJ1 _ h
  clear h
  intro J10 hJ2 h
  refine rx_if_eq (tgt := 28) d_M_restart_11 (by decide) (fun hc11 => ?_) (fun hc11 => ?_)
  · rw [if_pos hc11] at h
    exact hJ2 () h
  · rw [if_neg hc11] at h
    refine rx_aload_n d_M_restart_14 rfl ?_
    refine rx_gaf g_M_restart_15 (by decide) ?_
    refine rx_iload_n d_M_restart_18 rfl ?_
    obtain ⟨j11, hj11, ej11, h⟩ := og_inv (by decide) h
    refine rx_iald d_M_restart_19 rfl ej11 hj11 ?_
    refine rx_iconst (v := nI 3) d_M_restart_20 (by decide) ?_
    refine rx_icmp_ne (tgt := 28) d_M_restart_21 (by decide) (fun hc21 => ?_) (fun hc21 => ?_)
    · rw [if_neg hc21] at h
      exact hJ2 () h
    · rw [if_pos hc21] at h
      refine rx_iconst (v := nI 1) d_M_restart_24 (by decide) ?_
      refine rx_goto (tgt := 29) d_M_restart_25 (by decide) ?_
      exact hJ1 _ h
theorem E_M_stop {G : bm_G} {f : Nat} {l1 : Int32} {s sz : rx_S} {r : Int32} {Q : Int32 → rx_S → Prop} (h : D_M_stop f l1 s = some (r, sz)) (hq : Q r sz) : rx_Ti G me_M_stop [.ref rx_o, .int (l1)] s Q := by
  refine rx_meti (by decide) rfl (Nat.le_of_ble_eq_true rfl) ?_
  generalize hQ : (fun (v : bm_R) (s2 : rx_S) => ∃ x, v = .inl (some (.int x)) ∧ Q x s2) = Q2
  replace hq : Q2 (.inl (some (.int (r)))) sz := by rw [← hQ]; exact ⟨_, rfl, hq⟩
  clear hQ
  unfold D_M_stop at h
  refine rx_aload_n d_M_stop_0 rfl ?_
  refine rx_aload_n d_M_stop_1 rfl ?_
  refine rx_iload_n d_M_stop_2 rfl ?_
  obtain ⟨x1, s2, ex1, h⟩ := ob_inv h
  refine rx_callV1 c_M_stop_3 (Nat.le_of_ble_eq_true rfl) (E_M_isBatch ex1 ?_)
  refine rx_aload_n d_M_stop_6 rfl ?_
  refine rx_iload_n d_M_stop_7 rfl ?_
  obtain ⟨x3, s4, ex3, h⟩ := ob_inv h
  refine rx_callV1 c_M_stop_8 (Nat.le_of_ble_eq_true rfl) (E_M_isBatch ex3 ?_)
  refine oj_step (P := fun J5 : Int32 → Option (Int32 × rx_S) => ∀ (x6 : Int32), J5 x6 = some (r, sz) → rx G me_M_stop 39 [some (.ref rx_o), some (.int (l1))] [.int (x6), .int (x1), .ref rx_o] s4 Q2) h ?_ ?_
  · intro x6 h
    obtain ⟨x7, s8, ex7, h⟩ := ob_inv h
    refine rx_callV2 c_M_stop_39 (Nat.le_of_ble_eq_true rfl) (E_M_goes ex7 ?_)
    refine rx_if_ne (tgt := 47) d_M_stop_42 (by decide) (fun hc42 => ?_) (fun hc42 => ?_)
    · rw [if_neg hc42] at h
      refine rx_aload_n d_M_stop_47 rfl ?_
      refine rx_gaf g_M_stop_48 (by decide) ?_
      refine rx_iload_n d_M_stop_51 rfl ?_
      refine rx_iconst (v := nI 4) d_M_stop_52 (by decide) ?_
      obtain ⟨j9, hj9, ej9, h⟩ := og_inv (by decide) h
      refine rx_iast d_M_stop_53 rfl ej9 hj9 ?_
      refine rx_aload_n d_M_stop_54 rfl ?_
      refine rx_iload_n d_M_stop_55 rfl ?_
      obtain ⟨x10, s11, ex10, h⟩ := ob_inv h
      refine rx_callV1 c_M_stop_56 (Nat.le_of_ble_eq_true rfl) (E_M_running ex10 ?_)
      refine oj_step (P := fun J12 : rx_S → Option (Int32 × rx_S) => ∀ (s13 : rx_S), J12 s13 = some (r, sz) → rx G me_M_stop 72 [some (.ref rx_o), some (.int (l1))] [] s13 Q2) h ?_ ?_
      · intro s13 h
        refine rx_aload_n d_M_stop_72 rfl ?_
        refine rx_gaf g_M_stop_73 (by decide) ?_
        refine rx_iload_n d_M_stop_76 rfl ?_
        refine rx_iald d_M_stop_77 rfl ej9 hj9 ?_
        exact rx_iret d_M_stop_78 rfl (ox_i hq h)
      clear h
      intro J12 hJ1 h
      refine rx_if_ne (tgt := 72) d_M_stop_59 (by decide) (fun hc59 => ?_) (fun hc59 => ?_)
      · rw [if_neg hc59] at h
        exact hJ1 _ h
      · rw [if_pos hc59] at h
        refine rx_aload_n d_M_stop_62 rfl ?_
        refine rx_iload_n d_M_stop_63 rfl ?_
        refine rx_iconst (v := nI 5) d_M_stop_64 (by decide) ?_
        obtain ⟨x14, s15, ex14, h⟩ := ob_inv h
        refine rx_callV2v c_M_stop_65 (Nat.le_of_ble_eq_true rfl) (E_M_close ex14 ?_)
        refine rx_aload_n d_M_stop_68 rfl ?_
        obtain ⟨x16, s17, ex16, h⟩ := ob_inv h
        refine rx_callV0v c_M_stop_69 (Nat.le_of_ble_eq_true rfl) (E_M_claim ex16 ?_)
        exact hJ1 _ h
    · rw [if_pos hc42] at h
      refine rx_iconst (v := nI 0) d_M_stop_45 (by decide) ?_
      exact rx_iret d_M_stop_46 rfl (ox_i hq h)
  clear h
  intro J5 hJ2 h
  refine oj_step (P := fun J18 : Unit → Option (Int32 × rx_S) => ∀ (_u : Unit), J18 () = some (r, sz) → rx G me_M_stop 38 [some (.ref rx_o), some (.int (l1))] [.int (x1), .ref rx_o] s4 Q2) h ?_ ?_
  · intro _u h
    refine rx_iconst (v := nI 0) d_M_stop_38 (by decide) ?_
    exact hJ2 _ h
  clear h
  intro J18 hJ3 h
  refine rx_if_eq (tgt := 38) d_M_stop_11 (by decide) (fun hc11 => ?_) (fun hc11 => ?_)
  · rw [if_pos hc11] at h
    exact hJ3 () h
  · rw [if_neg hc11] at h
    refine rx_aload_n d_M_stop_14 rfl ?_
    refine rx_gaf g_M_stop_15 (by decide) ?_
    refine rx_iload_n d_M_stop_18 rfl ?_
    obtain ⟨j19, hj19, ej19, h⟩ := og_inv (by decide) h
    refine rx_iald d_M_stop_19 rfl ej19 hj19 ?_
    refine rx_iconst (v := nI 2) d_M_stop_20 (by decide) ?_
    refine oj_step (P := fun J20 : Unit → Option (Int32 × rx_S) => ∀ (_u : Unit), J20 () = some (r, sz) → rx G me_M_stop 34 [some (.ref rx_o), some (.int (l1))] [.int (x1), .ref rx_o] s4 Q2) h ?_ ?_
    · intro _u h
      refine rx_iconst (v := nI 1) d_M_stop_34 (by decide) ?_
      refine rx_goto (tgt := 39) d_M_stop_35 (by decide) ?_
      exact hJ2 _ h
    clear h
    intro J20 hJ4 h
    refine rx_icmp_eq (tgt := 34) d_M_stop_21 (by decide) (fun hc21 => ?_) (fun hc21 => ?_)
    · rw [if_pos hc21] at h
      exact hJ4 () h
    · rw [if_neg hc21] at h
      refine rx_aload_n d_M_stop_24 rfl ?_
      refine rx_gaf g_M_stop_25 (by decide) ?_
      refine rx_iload_n d_M_stop_28 rfl ?_
      refine rx_iald d_M_stop_29 rfl ej19 hj19 ?_
      refine rx_iconst (v := nI 3) d_M_stop_30 (by decide) ?_
      refine rx_icmp_ne (tgt := 38) d_M_stop_31 (by decide) (fun hc31 => ?_) (fun hc31 => ?_)
      · rw [if_neg hc31] at h
        exact hJ3 () h
      · rw [if_pos hc31] at h
        exact hJ4 () h
theorem E_M_abort {G : bm_G} {f : Nat} {l1 : Int32} {s sz : rx_S} {r : Int32} {Q : rx_S → Prop} (h : D_M_abort f l1 s = some (r, sz)) (hq : Q sz) : rx_Tv G me_M_abort [.ref rx_o, .int (l1)] s Q := by
  refine rx_metv (by decide) rfl (Nat.le_of_ble_eq_true rfl) ?_
  generalize hQ : (fun (v : bm_R) (s2 : rx_S) => v = .inl none ∧ Q s2) = Q2
  replace hq : Q2 (.inl none) sz := by rw [← hQ]; exact ⟨rfl, hq⟩
  clear hQ
  unfold D_M_abort at h
  refine rx_aload_n d_M_abort_0 rfl ?_
  refine rx_aload_n d_M_abort_1 rfl ?_
  refine rx_iload_n d_M_abort_2 rfl ?_
  obtain ⟨x1, s2, ex1, h⟩ := ob_inv h
  refine rx_callV1 c_M_abort_3 (Nat.le_of_ble_eq_true rfl) (E_M_isBatch ex1 ?_)
  refine rx_aload_n d_M_abort_6 rfl ?_
  refine rx_iload_n d_M_abort_7 rfl ?_
  obtain ⟨x3, s4, ex3, h⟩ := ob_inv h
  refine rx_callV1 c_M_abort_8 (Nat.le_of_ble_eq_true rfl) (E_M_isBatch ex3 ?_)
  refine oj_step (P := fun J5 : Int32 → rx_S → Option (Int32 × rx_S) => ∀ (x6 : Int32) (s7 : rx_S), J5 x6 s7 = some (r, sz) → rx G me_M_abort 33 [some (.ref rx_o), some (.int (l1))] [.int (x6), .int (x1), .ref rx_o] s7 Q2) h ?_ ?_
  · intro x6 s7 h
    obtain ⟨x8, s9, ex8, h⟩ := ob_inv h
    refine rx_callV2 c_M_abort_33 (Nat.le_of_ble_eq_true rfl) (E_M_goes ex8 ?_)
    refine oj_step (P := fun J10 : rx_S → Option (Int32 × rx_S) => ∀ (s11 : rx_S) (d0 : Option Value) (d1 : Option Value), J10 s11 = some (r, sz) → rx G me_M_abort 50 [d0, d1] [] s11 Q2) h ?_ ?_
    · intro s11 d0 d1 h
      exact rx_vret d_M_abort_50 rfl (ox_v hq h)
    clear h
    intro J10 hJ1 h
    refine rx_if_eq (tgt := 50) d_M_abort_36 (by decide) (fun hc36 => ?_) (fun hc36 => ?_)
    · rw [if_pos hc36] at h
      exact hJ1 _ _ _ h
    · rw [if_neg hc36] at h
      refine rx_aload_n d_M_abort_39 rfl ?_
      refine rx_iload_n d_M_abort_40 rfl ?_
      refine rx_bipush (v := nI 6) d_M_abort_41 (by decide) ?_
      obtain ⟨x12, s13, ex12, h⟩ := ob_inv h
      refine rx_callV2v c_M_abort_43 (Nat.le_of_ble_eq_true rfl) (E_M_close ex12 ?_)
      refine rx_aload_n d_M_abort_46 rfl ?_
      obtain ⟨x14, s15, ex14, h⟩ := ob_inv h
      refine rx_callV0v c_M_abort_47 (Nat.le_of_ble_eq_true rfl) (E_M_claim ex14 ?_)
      exact hJ1 _ _ _ h
  clear h
  intro J5 hJ2 h
  refine oj_step (P := fun J16 : rx_S → Option (Int32 × rx_S) => ∀ (s17 : rx_S), J16 s17 = some (r, sz) → rx G me_M_abort 32 [some (.ref rx_o), some (.int (l1))] [.int (x1), .ref rx_o] s17 Q2) h ?_ ?_
  · intro s17 h
    refine rx_iconst (v := nI 0) d_M_abort_32 (by decide) ?_
    exact hJ2 _ _ h
  clear h
  intro J16 hJ3 h
  refine rx_if_eq (tgt := 32) d_M_abort_11 (by decide) (fun hc11 => ?_) (fun hc11 => ?_)
  · rw [if_pos hc11] at h
    exact hJ3 _ h
  · rw [if_neg hc11] at h
    refine rx_aload_n d_M_abort_14 rfl ?_
    refine rx_gaf g_M_abort_15 (by decide) ?_
    refine rx_iload_n d_M_abort_18 rfl ?_
    obtain ⟨j18, hj18, ej18, h⟩ := og_inv (by decide) h
    refine rx_iald d_M_abort_19 rfl ej18 hj18 ?_
    refine rx_iconst (v := nI 1) d_M_abort_20 (by decide) ?_
    refine rx_iconst (v := nI 4) d_M_abort_21 (by decide) ?_
    obtain ⟨x19, s20, ex19, h⟩ := ob_inv h
    refine rx_callS3 c_M_abort_22 (Nat.le_of_ble_eq_true rfl) (E_M_in ex19 ?_)
    refine rx_if_eq (tgt := 32) d_M_abort_25 (by decide) (fun hc25 => ?_) (fun hc25 => ?_)
    · rw [if_pos hc25] at h
      exact hJ3 _ h
    · rw [if_neg hc25] at h
      refine rx_iconst (v := nI 1) d_M_abort_28 (by decide) ?_
      refine rx_goto (tgt := 33) d_M_abort_29 (by decide) ?_
      exact hJ2 _ _ h
theorem E_M_measure_48 {G : bm_G} {f : Nat} {l1 : Int32} {l2 : Int32} {r : Int32} {sz : rx_S} {Q : bm_R → rx_S → Prop} (hq : Q (.inl (some (.int (r)))) sz) : ∀ (n : Nat) (l4 : Int32) (d3 : Option Value) (d5 : Option Value) (s : rx_S), D_M_measure_48 f l1 l2 n l4 s = some (r, sz) → rx G me_M_measure 48 [some (.ref rx_o), some (.int (l1)), some (.int (l2)), d3, some (.int (l4)), d5] [] s Q := by
  intro n
  induction n with
  | zero =>
    intro l4 d3 d5 s h
    rw [D_M_measure_48] at h
    exact absurd h (by simp)
  | succ n ih =>
    intro l4 d3 d5 s h
    rw [D_M_measure_48] at h
    refine rx_iload d_M_measure_48 rfl ?_
    refine rx_aload_n d_M_measure_50 rfl ?_
    refine rx_gaf g_M_measure_51 (by decide) ?_
    refine rx_iload_n d_M_measure_54 rfl ?_
    obtain ⟨j9, hj9, ej9, h⟩ := og_inv (by decide) h
    refine rx_iald d_M_measure_55 rfl ej9 hj9 ?_
    refine rx_icmp_ge (tgt := 128) d_M_measure_56 (by decide) (fun hc56 => ?_) (fun hc56 => ?_)
    · rw [if_pos hc56] at h
      refine rx_iconst (v := nI 1) d_M_measure_128 (by decide) ?_
      exact rx_zret d_M_measure_129 rfl (by decide) (ox_i hq h)
    · rw [if_neg hc56] at h
      refine rx_aload_n d_M_measure_59 rfl ?_
      refine rx_iload_n d_M_measure_60 rfl ?_
      refine rx_iload d_M_measure_61 rfl ?_
      obtain ⟨x10, s11, ex10, h⟩ := ob_inv h
      refine rx_callV2 c_M_measure_63 (Nat.le_of_ble_eq_true rfl) (E_M_stepAt ex10 ?_)
      refine rx_istore d_M_measure_66 (by decide) ?_
      refine rx_aload_n d_M_measure_68 rfl ?_
      refine rx_gaf g_M_measure_69 (by decide) ?_
      refine rx_bipush (v := nI 8) d_M_measure_72 (by decide) ?_
      refine rx_iload_n d_M_measure_74 rfl ?_
      refine rx_imul d_M_measure_75 ?_
      refine rx_iload d_M_measure_76 rfl ?_
      refine rx_iadd d_M_measure_78 ?_
      refine rx_aload_n d_M_measure_79 rfl ?_
      refine rx_gaf g_M_measure_80 (by decide) ?_
      refine rx_bipush (v := nI 8) d_M_measure_83 (by decide) ?_
      refine rx_iload_n d_M_measure_85 rfl ?_
      refine rx_imul d_M_measure_86 ?_
      refine rx_iload d_M_measure_87 rfl ?_
      refine rx_iadd d_M_measure_89 ?_
      obtain ⟨j12, hj12, ej12, h⟩ := og_inv (by decide) h
      refine rx_zald d_M_measure_90 rfl ej12 hj12 ?_
      refine oj_step (P := fun J13 : Int32 → Option (Int32 × rx_S) => ∀ (x14 : Int32) (d3 : Option Value) (d5 : Option Value), J13 x14 = some (r, sz) → rx G me_M_measure 121 [some (.ref rx_o), some (.int (l1)), some (.int (l2)), d3, some (.int (l4)), d5] [.int (x14), .int (((nI 8) * l1) + l4), .ref (rx_a 27)] s11 Q) h ?_ ?_
      · intro x14 d3 d5 h
        obtain ⟨hz121, h⟩ := ozb_inv h
        refine rx_zast d_M_measure_121 rfl ej12 hj12 (ozb_vn hz121) ?_
        refine rx_iincP d_M_measure_122 (by decide) rfl ?_
        refine rx_goto (tgt := 48) d_M_measure_125 (by decide) ?_
        exact ih _ _ _ _ h
      clear h
      intro J13 hJ2 h
      refine oj_step (P := fun J15 : Unit → Option (Int32 × rx_S) => ∀ (_u : Unit) (d3 : Option Value) (d5 : Option Value), J15 () = some (r, sz) → rx G me_M_measure 116 [some (.ref rx_o), some (.int (l1)), some (.int (l2)), d3, some (.int (l4)), d5] [.int (((nI 8) * l1) + l4), .ref (rx_a 27)] s11 Q) h ?_ ?_
      · intro _u d3 d5 h
        refine rx_iconst (v := nI 1) d_M_measure_116 (by decide) ?_
        refine rx_goto (tgt := 121) d_M_measure_117 (by decide) ?_
        exact hJ2 _ _ _ h
      clear h
      intro J15 hJ3 h
      refine rx_if_ne (tgt := 116) d_M_measure_91 (by decide) (fun hc91 => ?_) (fun hc91 => ?_)
      · rw [if_neg hc91] at h
        exact hJ3 () _ _ h
      · rw [if_pos hc91] at h
        refine rx_aload_n d_M_measure_94 rfl ?_
        refine rx_gaf g_M_measure_95 (by decide) ?_
        refine rx_iload d_M_measure_98 rfl ?_
        obtain ⟨j16, hj16, ej16, h⟩ := og_inv (by decide) h
        refine rx_iald d_M_measure_100 rfl ej16 hj16 ?_
        refine rx_iconst (v := nI 4) d_M_measure_101 (by decide) ?_
        refine oj_step (P := fun J17 : Unit → Option (Int32 × rx_S) => ∀ (_u : Unit) (d3 : Option Value) (d5 : Option Value), J17 () = some (r, sz) → rx G me_M_measure 120 [some (.ref rx_o), some (.int (l1)), some (.int (l2)), d3, some (.int (l4)), d5] [.int (((nI 8) * l1) + l4), .ref (rx_a 27)] s11 Q) h ?_ ?_
        · intro _u d3 d5 h
          refine rx_iconst (v := nI 0) d_M_measure_120 (by decide) ?_
          exact hJ2 _ _ _ h
        clear h
        intro J17 hJ4 h
        refine rx_icmp_ne (tgt := 120) d_M_measure_102 (by decide) (fun hc102 => ?_) (fun hc102 => ?_)
        · rw [if_neg hc102] at h
          exact hJ4 () _ _ h
        · rw [if_pos hc102] at h
          refine rx_aload_n d_M_measure_105 rfl ?_
          refine rx_gaf g_M_measure_106 (by decide) ?_
          refine rx_iload d_M_measure_109 rfl ?_
          refine rx_iald d_M_measure_111 rfl ej16 hj16 ?_
          refine rx_iload_n d_M_measure_112 rfl ?_
          refine rx_icmp_ne (tgt := 120) d_M_measure_113 (by decide) (fun hc113 => ?_) (fun hc113 => ?_)
          · rw [if_neg hc113] at h
            exact hJ4 () _ _ h
          · rw [if_pos hc113] at h
            exact hJ3 () _ _ h
theorem E_M_measure {G : bm_G} {f : Nat} {l1 : Int32} {l2 : Int32} {l3 : Int32} {s sz : rx_S} {r : Int32} {Q : Int32 → rx_S → Prop} (h : D_M_measure f l1 l2 l3 s = some (r, sz)) (hq : Q r sz) : rx_Ti G me_M_measure [.ref rx_o, .int (l1), .int (l2), .int (l3)] s Q := by
  refine rx_meti (by decide) rfl (Nat.le_of_ble_eq_true rfl) ?_
  generalize hQ : (fun (v : bm_R) (s2 : rx_S) => ∃ x, v = .inl (some (.int x)) ∧ Q x s2) = Q2
  replace hq : Q2 (.inl (some (.int (r)))) sz := by rw [← hQ]; exact ⟨_, rfl, hq⟩
  clear hQ
  unfold D_M_measure at h
  refine rx_aload_n d_M_measure_0 rfl ?_
  refine rx_iconst (v := nI 0) d_M_measure_1 (by decide) ?_
  refine rx_psf p_M_measure_2 (by decide) rfl rfl rfl ?_
  refine rx_aload_n d_M_measure_5 rfl ?_
  refine rx_iload_n d_M_measure_6 rfl ?_
  obtain ⟨x1, s2, ex1, h⟩ := ob_inv h
  refine rx_callV1 c_M_measure_7 (Nat.le_of_ble_eq_true rfl) (E_M_isBatch ex1 ?_)
  refine oj_step (P := fun J3 : rx_S → Option (Int32 × rx_S) => ∀ (s4 : rx_S) (d0 : Option Value) (d1 : Option Value) (d2 : Option Value) (d3 : Option Value) (d4 : Option Value) (d5 : Option Value), J3 s4 = some (r, sz) → rx G me_M_measure 32 [d0, d1, d2, d3, d4, d5] [] s4 Q2) h ?_ ?_
  · intro s4 d0 d1 d2 d3 d4 d5 h
    refine rx_iconst (v := nI 0) d_M_measure_32 (by decide) ?_
    exact rx_zret d_M_measure_33 rfl (by decide) (ox_i hq h)
  clear h
  intro J3 hJ1 h
  refine rx_if_eq (tgt := 32) d_M_measure_10 (by decide) (fun hc10 => ?_) (fun hc10 => ?_)
  · rw [if_pos hc10] at h
    exact hJ1 _ _ _ _ _ _ _ h
  · rw [if_neg hc10] at h
    refine rx_iload_n d_M_measure_13 rfl ?_
    refine rx_iconst (v := nI 0) d_M_measure_14 (by decide) ?_
    refine rx_iconst (v := nI 3) d_M_measure_15 (by decide) ?_
    obtain ⟨x5, s6, ex5, h⟩ := ob_inv h
    refine rx_callS3 c_M_measure_16 (Nat.le_of_ble_eq_true rfl) (E_M_in ex5 ?_)
    refine rx_if_eq (tgt := 32) d_M_measure_19 (by decide) (fun hc19 => ?_) (fun hc19 => ?_)
    · rw [if_pos hc19] at h
      exact hJ1 _ _ _ _ _ _ _ h
    · rw [if_neg hc19] at h
      refine rx_aload_n d_M_measure_22 rfl ?_
      refine rx_gaf g_M_measure_23 (by decide) ?_
      refine rx_iload_n d_M_measure_26 rfl ?_
      obtain ⟨j7, hj7, ej7, h⟩ := og_inv (by decide) h
      refine rx_iald d_M_measure_27 rfl ej7 hj7 ?_
      refine rx_iconst (v := nI 4) d_M_measure_28 (by decide) ?_
      refine rx_icmp_le (tgt := 34) d_M_measure_29 (by decide) (fun hc29 => ?_) (fun hc29 => ?_)
      · rw [if_pos hc29] at h
        refine rx_aload_n d_M_measure_34 rfl ?_
        refine rx_gaf g_M_measure_35 (by decide) ?_
        refine rx_iconst (v := nI 4) d_M_measure_38 (by decide) ?_
        refine rx_iload_n d_M_measure_39 rfl ?_
        refine rx_imul d_M_measure_40 ?_
        refine rx_iload_n d_M_measure_41 rfl ?_
        refine rx_iadd d_M_measure_42 ?_
        refine rx_iload_n d_M_measure_43 rfl ?_
        obtain ⟨j8, hj8, ej8, h⟩ := og_inv (by decide) h
        refine rx_iast d_M_measure_44 rfl ej8 hj8 ?_
        refine rx_iconst (v := nI 0) d_M_measure_45 (by decide) ?_
        refine rx_istore d_M_measure_46 (by decide) ?_
        refine E_M_measure_48 (r := r) (sz := sz) hq _ _ _ _ _ h
      · rw [if_neg hc29] at h
        exact hJ1 _ _ _ _ _ _ _ h
theorem E_M_batchIs {G : bm_G} {f : Nat} {l1 : Int32} {l2 : Int32} {s sz : rx_S} {r : Int32} {Q : Int32 → rx_S → Prop} (h : D_M_batchIs f l1 l2 s = some (r, sz)) (hq : Q r sz) : rx_Ti G me_M_batchIs [.ref rx_o, .int (l1), .int (l2)] s Q := by
  refine rx_meti (by decide) rfl (Nat.le_of_ble_eq_true rfl) ?_
  generalize hQ : (fun (v : bm_R) (s2 : rx_S) => ∃ x, v = .inl (some (.int x)) ∧ Q x s2) = Q2
  replace hq : Q2 (.inl (some (.int (r)))) sz := by rw [← hQ]; exact ⟨_, rfl, hq⟩
  clear hQ
  unfold D_M_batchIs at h
  refine rx_aload_n d_M_batchIs_0 rfl ?_
  refine rx_iconst (v := nI 0) d_M_batchIs_1 (by decide) ?_
  refine rx_psf p_M_batchIs_2 (by decide) rfl rfl rfl ?_
  refine rx_aload_n d_M_batchIs_5 rfl ?_
  refine rx_iload_n d_M_batchIs_6 rfl ?_
  obtain ⟨x1, s2, ex1, h⟩ := ob_inv h
  refine rx_callV1 c_M_batchIs_7 (Nat.le_of_ble_eq_true rfl) (E_M_isBatch ex1 ?_)
  refine rx_if_ne (tgt := 15) d_M_batchIs_10 (by decide) (fun hc10 => ?_) (fun hc10 => ?_)
  · rw [if_neg hc10] at h
    refine rx_iload_n d_M_batchIs_15 rfl ?_
    by_cases e16_0 : l2 = nI 0
    · rw [if_pos e16_0] at h
      refine rx_tab (tgt := 52) d_M_batchIs_16 0 e16_0 (by decide) (by decide) (by rfl) (by decide) ?_
      refine rx_aload_n d_M_batchIs_52 rfl ?_
      refine rx_gaf g_M_batchIs_53 (by decide) ?_
      refine rx_iload_n d_M_batchIs_56 rfl ?_
      obtain ⟨j3, hj3, ej3, h⟩ := og_inv (by decide) h
      refine rx_iald d_M_batchIs_57 rfl ej3 hj3 ?_
      exact rx_iret d_M_batchIs_58 rfl (ox_i hq h)
    rw [if_neg e16_0] at h
    by_cases e16_1 : l2 = nI 1
    · rw [if_pos e16_1] at h
      refine rx_tab (tgt := 59) d_M_batchIs_16 1 e16_1 (by decide) (by decide) (by rfl) (by decide) ?_
      refine rx_aload_n d_M_batchIs_59 rfl ?_
      refine rx_gaf g_M_batchIs_60 (by decide) ?_
      refine rx_iload_n d_M_batchIs_63 rfl ?_
      obtain ⟨j4, hj4, ej4, h⟩ := og_inv (by decide) h
      refine rx_iald d_M_batchIs_64 rfl ej4 hj4 ?_
      exact rx_iret d_M_batchIs_65 rfl (ox_i hq h)
    rw [if_neg e16_1] at h
    by_cases e16_2 : l2 = nI 2
    · rw [if_pos e16_2] at h
      refine rx_tab (tgt := 66) d_M_batchIs_16 2 e16_2 (by decide) (by decide) (by rfl) (by decide) ?_
      refine rx_aload_n d_M_batchIs_66 rfl ?_
      refine rx_gaf g_M_batchIs_67 (by decide) ?_
      refine rx_iload_n d_M_batchIs_70 rfl ?_
      obtain ⟨j5, hj5, ej5, h⟩ := og_inv (by decide) h
      refine rx_iald d_M_batchIs_71 rfl ej5 hj5 ?_
      exact rx_iret d_M_batchIs_72 rfl (ox_i hq h)
    rw [if_neg e16_2] at h
    by_cases e16_3 : l2 = nI 3
    · rw [if_pos e16_3] at h
      refine rx_tab (tgt := 73) d_M_batchIs_16 3 e16_3 (by decide) (by decide) (by rfl) (by decide) ?_
      refine rx_aload_n d_M_batchIs_73 rfl ?_
      refine rx_gaf g_M_batchIs_74 (by decide) ?_
      refine rx_iload_n d_M_batchIs_77 rfl ?_
      obtain ⟨j6, hj6, ej6, h⟩ := og_inv (by decide) h
      refine rx_iald d_M_batchIs_78 rfl ej6 hj6 ?_
      exact rx_iret d_M_batchIs_79 rfl (ox_i hq h)
    rw [if_neg e16_3] at h
    by_cases e16_4 : l2 = nI 4
    · rw [if_pos e16_4] at h
      refine rx_tab (tgt := 80) d_M_batchIs_16 4 e16_4 (by decide) (by decide) (by rfl) (by decide) ?_
      refine rx_aload_n d_M_batchIs_80 rfl ?_
      refine rx_iload_n d_M_batchIs_81 rfl ?_
      obtain ⟨x7, s8, ex7, h⟩ := ob_inv h
      refine rx_callV1 c_M_batchIs_82 (Nat.le_of_ble_eq_true rfl) (E_M_running ex7 ?_)
      exact rx_iret d_M_batchIs_85 rfl (ox_i hq h)
    rw [if_neg e16_4] at h
    have hsw : ∀ j, j ≤ 4 → ¬ l2 = nI j := by
      intro j hj
      have hj2 : j = 0 ∨ j = 1 ∨ j = 2 ∨ j = 3 ∨ j = 4 := by omega
      rcases hj2 with rfl | rfl | rfl | rfl | rfl <;> assumption
    refine rx_tableOut (tgt := 86) d_M_batchIs_16 (sw_out 4 (by decide) hsw) (by decide) ?_
    refine rx_iconst (v := (-1)) d_M_batchIs_86 (by decide) ?_
    exact rx_iret d_M_batchIs_87 rfl (ox_i hq h)
  · rw [if_pos hc10] at h
    refine rx_iconst (v := (-1)) d_M_batchIs_13 (by decide) ?_
    exact rx_iret d_M_batchIs_14 rfl (ox_i hq h)
