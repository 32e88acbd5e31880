theorem E_M_token {G : bm_G} {f : Nat} {l1 : Int32} {l2 : Int32} {s sz : rx_S} {r : Int32} {Q : Int32 → rx_S → Prop} (h : D_M_token f l1 l2 s = some (r, sz)) (hq : Q r sz) : rx_Ti G me_M_token [.ref rx_o, .int (l1), .int (l2)] s Q := by
  refine rx_meti (by decide) rfl (Nat.le_of_ble_eq_true rfl) ?_
  generalize hQ : (fun (v : bm_R) (s2 : rx_S) => ∃ x, v = .inl (some (.int x)) ∧ Q x s2) = Q2
  replace hq : Q2 (.inl (some (.int (r)))) sz := by rw [← hQ]; exact ⟨_, rfl, hq⟩
  clear hQ
  unfold D_M_token at h
  refine rx_aload_n d_M_token_0 rfl ?_
  refine rx_iconst (v := nI 0) d_M_token_1 (by decide) ?_
  refine rx_psf p_M_token_2 (by decide) rfl rfl rfl ?_
  refine rx_aload_n d_M_token_5 rfl ?_
  refine rx_iload_n d_M_token_6 rfl ?_
  obtain ⟨x1, s2, ex1, h⟩ := ob_inv h
  refine rx_callV1 c_M_token_7 (Nat.le_of_ble_eq_true rfl) (E_M_isBatch ex1 ?_)
  refine oj_step (P := fun J3 : rx_S → Option (Int32 × rx_S) => ∀ (s4 : rx_S) (d0 : Option Value) (d1 : Option Value) (d2 : Option Value), J3 s4 = some (r, sz) → rx G me_M_token 29 [d0, d1, d2] [] s4 Q2) h ?_ ?_
  · intro s4 d0 d1 d2 h
    refine rx_iconst (v := (-1)) d_M_token_29 (by decide) ?_
    exact rx_iret d_M_token_30 rfl (ox_i hq h)
  clear h
  intro J3 hJ1 h
  refine rx_if_eq (tgt := 29) d_M_token_10 (by decide) (fun hc10 => ?_) (fun hc10 => ?_)
  · rw [if_pos hc10] at h
    exact hJ1 _ _ _ _ h
  · rw [if_neg hc10] at h
    refine rx_iload_n d_M_token_13 rfl ?_
    refine rx_iconst (v := nI 0) d_M_token_14 (by decide) ?_
    refine rx_aload_n d_M_token_15 rfl ?_
    refine rx_gaf g_M_token_16 (by decide) ?_
    refine rx_iload_n d_M_token_19 rfl ?_
    obtain ⟨j5, hj5, ej5, h⟩ := og_inv (by decide) h
    refine rx_iald d_M_token_20 rfl ej5 hj5 ?_
    refine rx_iconst (v := nI 1) d_M_token_21 (by decide) ?_
    refine rx_isub d_M_token_22 ?_
    obtain ⟨x6, s7, ex6, h⟩ := ob_inv h
    refine rx_callS3 c_M_token_23 (Nat.le_of_ble_eq_true rfl) (E_M_in ex6 ?_)
    refine rx_if_ne (tgt := 31) d_M_token_26 (by decide) (fun hc26 => ?_) (fun hc26 => ?_)
    · rw [if_neg hc26] at h
      refine rx_aload_n d_M_token_31 rfl ?_
      refine rx_gaf g_M_token_32 (by decide) ?_
      refine rx_bipush (v := nI 8) d_M_token_35 (by decide) ?_
      refine rx_iload_n d_M_token_37 rfl ?_
      refine rx_imul d_M_token_38 ?_
      refine rx_iload_n d_M_token_39 rfl ?_
      refine rx_iadd d_M_token_40 ?_
      obtain ⟨j8, hj8, ej8, h⟩ := og_inv (by decide) h
      refine rx_zald d_M_token_41 rfl ej8 hj8 ?_
      refine oj_step (P := fun J9 : Int32 → Option (Int32 × rx_S) => ∀ (x10 : Int32) (d0 : Option Value) (d1 : Option Value) (d2 : Option Value), J9 x10 = some (r, sz) → rx G me_M_token 73 [d0, d1, d2] [.int (x10)] s7 Q2) h ?_ ?_
      · intro x10 d0 d1 d2 h
        exact rx_iret d_M_token_73 rfl (ox_i hq h)
      clear h
      intro J9 hJ2 h
      refine rx_if_eq (tgt := 62) d_M_token_42 (by decide) (fun hc42 => ?_) (fun hc42 => ?_)
      · rw [if_pos hc42] at h
        refine rx_aload_n d_M_token_62 rfl ?_
        refine rx_gaf g_M_token_63 (by decide) ?_
        refine rx_bipush (v := nI 8) d_M_token_66 (by decide) ?_
        refine rx_iload_n d_M_token_68 rfl ?_
        refine rx_imul d_M_token_69 ?_
        refine rx_iload_n d_M_token_70 rfl ?_
        refine rx_iadd d_M_token_71 ?_
        refine rx_iald d_M_token_72 rfl ej8 hj8 ?_
        exact hJ2 _ _ _ _ h
      · rw [if_neg hc42] at h
        refine rx_aload_n d_M_token_45 rfl ?_
        refine rx_gaf g_M_token_46 (by decide) ?_
        refine rx_bipush (v := nI 8) d_M_token_49 (by decide) ?_
        refine rx_iload_n d_M_token_51 rfl ?_
        refine rx_imul d_M_token_52 ?_
        refine rx_iload_n d_M_token_53 rfl ?_
        refine rx_iadd d_M_token_54 ?_
        refine rx_iald d_M_token_55 rfl ej8 hj8 ?_
        refine rx_bipush (v := nI 16) d_M_token_56 (by decide) ?_
        refine rx_iadd d_M_token_58 ?_
        refine rx_goto (tgt := 73) d_M_token_59 (by decide) ?_
        exact hJ2 _ _ _ _ h
    · rw [if_pos hc26] at h
      exact hJ1 _ _ _ _ h
theorem E_M_unitOf {G : bm_G} {f : Nat} {l1 : Int32} {l2 : Int32} {s sz : rx_S} {r : Int32} {Q : Int32 → rx_S → Prop} (h : D_M_unitOf f l1 l2 s = some (r, sz)) (hq : Q r sz) : rx_Ti G me_M_unitOf [.ref rx_o, .int (l1), .int (l2)] s Q := by
  refine rx_meti (by decide) rfl (Nat.le_of_ble_eq_true rfl) ?_
  generalize hQ : (fun (v : bm_R) (s2 : rx_S) => ∃ x, v = .inl (some (.int x)) ∧ Q x s2) = Q2
  replace hq : Q2 (.inl (some (.int (r)))) sz := by rw [← hQ]; exact ⟨_, rfl, hq⟩
  clear hQ
  unfold D_M_unitOf at h
  refine rx_aload_n d_M_unitOf_0 rfl ?_
  refine rx_iconst (v := nI 0) d_M_unitOf_1 (by decide) ?_
  refine rx_psf p_M_unitOf_2 (by decide) rfl rfl rfl ?_
  refine rx_aload_n d_M_unitOf_5 rfl ?_
  refine rx_iload_n d_M_unitOf_6 rfl ?_
  obtain ⟨x1, s2, ex1, h⟩ := ob_inv h
  refine rx_callV1 c_M_unitOf_7 (Nat.le_of_ble_eq_true rfl) (E_M_isBatch ex1 ?_)
  refine oj_step (P := fun J3 : Int32 → rx_S → Option (Int32 × rx_S) => ∀ (x4 : Int32) (s5 : rx_S) (d0 : Option Value) (d1 : Option Value) (d2 : Option Value), J3 x4 s5 = some (r, sz) → rx G me_M_unitOf 36 [d0, d1, d2] [.int (x4)] s5 Q2) h ?_ ?_
  · intro x4 s5 d0 d1 d2 h
    exact rx_iret d_M_unitOf_36 rfl (ox_i hq h)
  clear h
  intro J3 hJ1 h
  refine oj_step (P := fun J6 : rx_S → Option (Int32 × rx_S) => ∀ (s7 : rx_S) (d0 : Option Value) (d1 : Option Value) (d2 : Option Value), J6 s7 = some (r, sz) → rx G me_M_unitOf 35 [d0, d1, d2] [] s7 Q2) h ?_ ?_
  · intro s7 d0 d1 d2 h
    refine rx_iconst (v := (-1)) d_M_unitOf_35 (by decide) ?_
    exact hJ1 _ _ _ _ _ h
  clear h
  intro J6 hJ2 h
  refine rx_if_eq (tgt := 35) d_M_unitOf_10 (by decide) (fun hc10 => ?_) (fun hc10 => ?_)
  · rw [if_pos hc10] at h
    exact hJ2 _ _ _ _ h
  · rw [if_neg hc10] at h
    refine rx_iload_n d_M_unitOf_13 rfl ?_
    refine rx_iconst (v := nI 0) d_M_unitOf_14 (by decide) ?_
    refine rx_iconst (v := nI 2) d_M_unitOf_15 (by decide) ?_
    obtain ⟨x8, s9, ex8, h⟩ := ob_inv h
    refine rx_callS3 c_M_unitOf_16 (Nat.le_of_ble_eq_true rfl) (E_M_in ex8 ?_)
    refine rx_if_eq (tgt := 35) d_M_unitOf_19 (by decide) (fun hc19 => ?_) (fun hc19 => ?_)
    · rw [if_pos hc19] at h
      exact hJ2 _ _ _ _ h
    · rw [if_neg hc19] at h
      refine rx_aload_n d_M_unitOf_22 rfl ?_
      refine rx_gaf g_M_unitOf_23 (by decide) ?_
      refine rx_iconst (v := nI 3) d_M_unitOf_26 (by decide) ?_
      refine rx_iload_n d_M_unitOf_27 rfl ?_
      refine rx_imul d_M_unitOf_28 ?_
      refine rx_iload_n d_M_unitOf_29 rfl ?_
      refine rx_iadd d_M_unitOf_30 ?_
      obtain ⟨j10, hj10, ej10, h⟩ := og_inv (by decide) h
      refine rx_iald d_M_unitOf_31 rfl ej10 hj10 ?_
      refine rx_goto (tgt := 36) d_M_unitOf_32 (by decide) ?_
      exact hJ1 _ _ _ _ _ h
theorem E_M_unitIs {G : bm_G} {f : Nat} {l1 : Int32} {l2 : Int32} {s sz : rx_S} {r : Int32} {Q : Int32 → rx_S → Prop} (h : D_M_unitIs f l1 l2 s = some (r, sz)) (hq : Q r sz) : rx_Ti G me_M_unitIs [.ref rx_o, .int (l1), .int (l2)] s Q := by
  refine rx_meti (by decide) rfl (Nat.le_of_ble_eq_true rfl) ?_
  generalize hQ : (fun (v : bm_R) (s2 : rx_S) => ∃ x, v = .inl (some (.int x)) ∧ Q x s2) = Q2
  replace hq : Q2 (.inl (some (.int (r)))) sz := by rw [← hQ]; exact ⟨_, rfl, hq⟩
  clear hQ
  unfold D_M_unitIs at h
  refine rx_aload_n d_M_unitIs_0 rfl ?_
  refine rx_iconst (v := nI 0) d_M_unitIs_1 (by decide) ?_
  refine rx_psf p_M_unitIs_2 (by decide) rfl rfl rfl ?_
  refine rx_iload_n d_M_unitIs_5 rfl ?_
  refine rx_iconst (v := nI 0) d_M_unitIs_6 (by decide) ?_
  refine rx_iconst (v := nI 5) d_M_unitIs_7 (by decide) ?_
  obtain ⟨x1, s2, ex1, h⟩ := ob_inv h
  refine rx_callS3 c_M_unitIs_8 (Nat.le_of_ble_eq_true rfl) (E_M_in ex1 ?_)
  refine rx_if_ne (tgt := 16) d_M_unitIs_11 (by decide) (fun hc11 => ?_) (fun hc11 => ?_)
  · rw [if_neg hc11] at h
    refine rx_iload_n d_M_unitIs_16 rfl ?_
    by_cases e17_0 : l2 = nI 0
    · rw [if_pos e17_0] at h
      refine rx_tab (tgt := 48) d_M_unitIs_17 0 e17_0 (by decide) (by decide) (by rfl) (by decide) ?_
      refine rx_aload_n d_M_unitIs_48 rfl ?_
      refine rx_gaf g_M_unitIs_49 (by decide) ?_
      refine rx_iload_n d_M_unitIs_52 rfl ?_
      obtain ⟨j3, hj3, ej3, h⟩ := og_inv (by decide) h
      refine rx_iald d_M_unitIs_53 rfl ej3 hj3 ?_
      exact rx_iret d_M_unitIs_54 rfl (ox_i hq h)
    rw [if_neg e17_0] at h
    by_cases e17_1 : l2 = nI 1
    · rw [if_pos e17_1] at h
      refine rx_tab (tgt := 55) d_M_unitIs_17 1 e17_1 (by decide) (by decide) (by rfl) (by decide) ?_
      refine rx_aload_n d_M_unitIs_55 rfl ?_
      refine rx_gaf g_M_unitIs_56 (by decide) ?_
      refine rx_iload_n d_M_unitIs_59 rfl ?_
      obtain ⟨j4, hj4, ej4, h⟩ := og_inv (by decide) h
      refine rx_iald d_M_unitIs_60 rfl ej4 hj4 ?_
      exact rx_iret d_M_unitIs_61 rfl (ox_i hq h)
    rw [if_neg e17_1] at h
    by_cases e17_2 : l2 = nI 2
    · rw [if_pos e17_2] at h
      refine rx_tab (tgt := 62) d_M_unitIs_17 2 e17_2 (by decide) (by decide) (by rfl) (by decide) ?_
      refine rx_aload_n d_M_unitIs_62 rfl ?_
      refine rx_gaf g_M_unitIs_63 (by decide) ?_
      refine rx_iload_n d_M_unitIs_66 rfl ?_
      obtain ⟨j5, hj5, ej5, h⟩ := og_inv (by decide) h
      refine rx_iald d_M_unitIs_67 rfl ej5 hj5 ?_
      exact rx_iret d_M_unitIs_68 rfl (ox_i hq h)
    rw [if_neg e17_2] at h
    by_cases e17_3 : l2 = nI 3
    · rw [if_pos e17_3] at h
      refine rx_tab (tgt := 69) d_M_unitIs_17 3 e17_3 (by decide) (by decide) (by rfl) (by decide) ?_
      refine rx_aload_n d_M_unitIs_69 rfl ?_
      refine rx_iload_n d_M_unitIs_70 rfl ?_
      obtain ⟨x6, s7, ex6, h⟩ := ob_inv h
      refine rx_callV1 c_M_unitIs_71 (Nat.le_of_ble_eq_true rfl) (E_M_total ex6 ?_)
      exact rx_iret d_M_unitIs_74 rfl (ox_i hq h)
    rw [if_neg e17_3] at h
    have hsw : ∀ j, j ≤ 3 → ¬ l2 = nI j := by
      intro j hj
      have hj2 : j = 0 ∨ j = 1 ∨ j = 2 ∨ j = 3 := by omega
      rcases hj2 with rfl | rfl | rfl | rfl <;> assumption
    refine rx_tableOut (tgt := 75) d_M_unitIs_17 (sw_out 3 (by decide) hsw) (by decide) ?_
    refine rx_iconst (v := (-1)) d_M_unitIs_75 (by decide) ?_
    exact rx_iret d_M_unitIs_76 rfl (ox_i hq h)
  · rw [if_pos hc11] at h
    refine rx_iconst (v := (-1)) d_M_unitIs_14 (by decide) ?_
    exact rx_iret d_M_unitIs_15 rfl (ox_i hq h)
theorem E_M_content {G : bm_G} {f : Nat} {l1 : Int32} {l2 : Int32} {l3 : Int32} {s sz : rx_S} {r : Int32} {Q : Int32 → rx_S → Prop} (h : D_M_content f l1 l2 l3 s = some (r, sz)) (hq : Q r sz) : rx_Ti G me_M_content [.ref rx_o, .int (l1), .int (l2), .int (l3)] s Q := by
  refine rx_meti (by decide) rfl (Nat.le_of_ble_eq_true rfl) ?_
  generalize hQ : (fun (v : bm_R) (s2 : rx_S) => ∃ x, v = .inl (some (.int x)) ∧ Q x s2) = Q2
  replace hq : Q2 (.inl (some (.int (r)))) sz := by rw [← hQ]; exact ⟨_, rfl, hq⟩
  clear hQ
  unfold D_M_content at h
  refine rx_aload_n d_M_content_0 rfl ?_
  refine rx_iconst (v := nI 0) d_M_content_1 (by decide) ?_
  refine rx_psf p_M_content_2 (by decide) rfl rfl rfl ?_
  refine rx_iload_n d_M_content_5 rfl ?_
  refine rx_iconst (v := nI 0) d_M_content_6 (by decide) ?_
  refine rx_iconst (v := nI 5) d_M_content_7 (by decide) ?_
  obtain ⟨x1, s2, ex1, h⟩ := ob_inv h
  refine rx_callS3 c_M_content_8 (Nat.le_of_ble_eq_true rfl) (E_M_in ex1 ?_)
  refine oj_step (P := fun J3 : rx_S → Option (Int32 × rx_S) => ∀ (s4 : rx_S) (d0 : Option Value) (d1 : Option Value) (d2 : Option Value) (d3 : Option Value), J3 s4 = some (r, sz) → rx G me_M_content 39 [d0, d1, d2, d3] [] s4 Q2) h ?_ ?_
  · intro s4 d0 d1 d2 d3 h
    refine rx_iconst (v := (-1)) d_M_content_39 (by decide) ?_
    exact rx_iret d_M_content_40 rfl (ox_i hq h)
  clear h
  intro J3 hJ1 h
  refine rx_if_eq (tgt := 39) d_M_content_11 (by decide) (fun hc11 => ?_) (fun hc11 => ?_)
  · rw [if_pos hc11] at h
    exact hJ1 _ _ _ _ _ h
  · rw [if_neg hc11] at h
    refine rx_iload_n d_M_content_14 rfl ?_
    refine rx_iconst (v := nI 0) d_M_content_15 (by decide) ?_
    refine rx_aload_n d_M_content_16 rfl ?_
    refine rx_gaf g_M_content_17 (by decide) ?_
    refine rx_iload_n d_M_content_20 rfl ?_
    obtain ⟨j5, hj5, ej5, h⟩ := og_inv (by decide) h
    refine rx_iald d_M_content_21 rfl ej5 hj5 ?_
    refine rx_iconst (v := nI 1) d_M_content_22 (by decide) ?_
    refine rx_isub d_M_content_23 ?_
    obtain ⟨x6, s7, ex6, h⟩ := ob_inv h
    refine rx_callS3 c_M_content_24 (Nat.le_of_ble_eq_true rfl) (E_M_in ex6 ?_)
    refine rx_if_eq (tgt := 39) d_M_content_27 (by decide) (fun hc27 => ?_) (fun hc27 => ?_)
    · rw [if_pos hc27] at h
      exact hJ1 _ _ _ _ _ h
    · rw [if_neg hc27] at h
      refine rx_iload_n d_M_content_30 rfl ?_
      refine rx_iconst (v := nI 0) d_M_content_31 (by decide) ?_
      refine rx_iconst (v := nI 1) d_M_content_32 (by decide) ?_
      obtain ⟨x8, s9, ex8, h⟩ := ob_inv h
      refine rx_callS3 c_M_content_33 (Nat.le_of_ble_eq_true rfl) (E_M_in ex8 ?_)
      refine rx_if_ne (tgt := 41) d_M_content_36 (by decide) (fun hc36 => ?_) (fun hc36 => ?_)
      · rw [if_neg hc36] at h
        refine rx_iload_n d_M_content_41 rfl ?_
        refine oj_step (P := fun J10 : Int32 → Option (Int32 × rx_S) => ∀ (x11 : Int32) (d0 : Option Value) (d1 : Option Value) (d2 : Option Value) (d3 : Option Value), J10 x11 = some (r, sz) → rx G me_M_content 70 [d0, d1, d2, d3] [.int (x11)] s9 Q2) h ?_ ?_
        · intro x11 d0 d1 d2 d3 h
          exact rx_iret d_M_content_70 rfl (ox_i hq h)
        clear h
        intro J10 hJ2 h
        refine rx_if_ne (tgt := 59) d_M_content_42 (by decide) (fun hc42 => ?_) (fun hc42 => ?_)
        · rw [if_neg hc42] at h
          refine rx_aload_n d_M_content_59 rfl ?_
          refine rx_gaf g_M_content_60 (by decide) ?_
          refine rx_bipush (v := nI 100) d_M_content_63 (by decide) ?_
          refine rx_iload_n d_M_content_65 rfl ?_
          refine rx_imul d_M_content_66 ?_
          refine rx_iload_n d_M_content_67 rfl ?_
          refine rx_iadd d_M_content_68 ?_
          obtain ⟨j13, hj13, ej13, h⟩ := og_inv (by decide) h
          refine rx_iald d_M_content_69 rfl ej13 hj13 ?_
          exact hJ2 _ _ _ _ _ h
        · rw [if_pos hc42] at h
          refine rx_aload_n d_M_content_45 rfl ?_
          refine rx_gaf g_M_content_46 (by decide) ?_
          refine rx_bipush (v := nI 100) d_M_content_49 (by decide) ?_
          refine rx_iload_n d_M_content_51 rfl ?_
          refine rx_imul d_M_content_52 ?_
          refine rx_iload_n d_M_content_53 rfl ?_
          refine rx_iadd d_M_content_54 ?_
          obtain ⟨j12, hj12, ej12, h⟩ := og_inv (by decide) h
          refine rx_iald d_M_content_55 rfl ej12 hj12 ?_
          refine rx_goto (tgt := 70) d_M_content_56 (by decide) ?_
          exact hJ2 _ _ _ _ _ h
      · rw [if_pos hc36] at h
        exact hJ1 _ _ _ _ _ h
theorem E_M_amount_13 {G : bm_G} {f : Nat} {l1 : Int32} {l3 : Int32} {k65 : Int32 → rx_S → Option (Int32 × rx_S)} {r : Int32} {sz : rx_S} {Q : bm_R → rx_S → Prop} (hq : Q (.inl (some (.int (r)))) sz) (hk65 : ∀ (q2 : Int32) (d4 : Option Value) (s : rx_S), k65 q2 s = some (r, sz) → rx G me_M_amount 65 [some (.ref rx_o), some (.int (l1)), some (.int (q2)), some (.int (l3)), d4] [] s Q) : ∀ (n : Nat) (l2 : Int32) (l4 : Int32) (s : rx_S), D_M_amount_13 f l1 l3 k65 n l2 l4 s = some (r, sz) → rx G me_M_amount 13 [some (.ref rx_o), some (.int (l1)), some (.int (l2)), some (.int (l3)), some (.int (l4))] [] s Q := by
  intro n
  induction n with
  | zero =>
    intro l2 l4 s h
    rw [D_M_amount_13] at h
    exact absurd h (by simp)
  | succ n ih =>
    intro l2 l4 s h
    rw [D_M_amount_13] at h
    refine rx_iload d_M_amount_13 rfl ?_
    refine rx_aload_n d_M_amount_15 rfl ?_
    refine rx_gaf g_M_amount_16 (by decide) ?_
    refine rx_iload_n d_M_amount_19 rfl ?_
    obtain ⟨j1, hj1, ej1, h⟩ := og_inv (by decide) h
    refine rx_iald d_M_amount_20 rfl ej1 hj1 ?_
    refine rx_icmp_ge (tgt := 65) d_M_amount_21 (by decide) (fun hc21 => ?_) (fun hc21 => ?_)
    · rw [if_pos hc21] at h
      exact hk65 _ _ _ h
    · rw [if_neg hc21] at h
      refine rx_aload_n d_M_amount_24 rfl ?_
      refine rx_gaf g_M_amount_25 (by decide) ?_
      refine rx_bipush (v := nI 100) d_M_amount_28 (by decide) ?_
      refine rx_iload_n d_M_amount_30 rfl ?_
      refine rx_imul d_M_amount_31 ?_
      refine rx_iload d_M_amount_32 rfl ?_
      refine rx_iadd d_M_amount_34 ?_
      obtain ⟨j2, hj2, ej2, h⟩ := og_inv (by decide) h
      refine rx_iald d_M_amount_35 rfl ej2 hj2 ?_
      refine rx_iload_n d_M_amount_36 rfl ?_
      refine oj_step (P := fun J3 : Int32 → Option (Int32 × rx_S) => ∀ (x4 : Int32) (d2 : Option Value), J3 x4 = some (r, sz) → rx G me_M_amount 58 [some (.ref rx_o), some (.int (l1)), d2, some (.int (l3)), some (.int (l4))] [.int (x4)] s Q) h ?_ ?_
      · intro x4 d2 h
        refine rx_istore_n d_M_amount_58 (by decide) ?_
        refine rx_iincP d_M_amount_59 (by decide) rfl ?_
        refine rx_goto (tgt := 13) d_M_amount_62 (by decide) ?_
        exact ih _ _ _ h
      clear h
      intro J3 hJ1 h
      refine rx_icmp_ne (tgt := 57) d_M_amount_37 (by decide) (fun hc37 => ?_) (fun hc37 => ?_)
      · rw [if_neg hc37] at h
        refine rx_iload_n d_M_amount_57 rfl ?_
        exact hJ1 _ _ h
      · rw [if_pos hc37] at h
        refine rx_iload_n d_M_amount_40 rfl ?_
        refine rx_aload_n d_M_amount_41 rfl ?_
        refine rx_gaf g_M_amount_42 (by decide) ?_
        refine rx_bipush (v := nI 100) d_M_amount_45 (by decide) ?_
        refine rx_iload_n d_M_amount_47 rfl ?_
        refine rx_imul d_M_amount_48 ?_
        refine rx_iload d_M_amount_49 rfl ?_
        refine rx_iadd d_M_amount_51 ?_
        refine rx_iald d_M_amount_52 rfl ej2 hj2 ?_
        refine rx_iadd d_M_amount_53 ?_
        refine rx_goto (tgt := 58) d_M_amount_54 (by decide) ?_
        exact hJ1 _ _ h
theorem E_M_amount_4 {G : bm_G} {f : Nat} {l1 : Int32} {r : Int32} {sz : rx_S} {Q : bm_R → rx_S → Prop} (hq : Q (.inl (some (.int (r)))) sz) : ∀ (n : Nat) (l2 : Int32) (l3 : Int32) (d4 : Option Value) (s : rx_S), D_M_amount_4 f l1 n l2 l3 s = some (r, sz) → rx G me_M_amount 4 [some (.ref rx_o), some (.int (l1)), some (.int (l2)), some (.int (l3)), d4] [] s Q := by
  intro n
  induction n with
  | zero =>
    intro l2 l3 d4 s h
    rw [D_M_amount_4] at h
    exact absurd h (by simp)
  | succ n ih =>
    intro l2 l3 d4 s h
    rw [D_M_amount_4] at h
    refine rx_iload_n d_M_amount_4 rfl ?_
    refine rx_bipush (v := nI 6) d_M_amount_5 (by decide) ?_
    refine rx_icmp_ge (tgt := 71) d_M_amount_7 (by decide) (fun hc7 => ?_) (fun hc7 => ?_)
    · rw [if_pos hc7] at h
      refine rx_iload_n d_M_amount_71 rfl ?_
      exact rx_iret d_M_amount_72 rfl (ox_i hq h)
    · rw [if_neg hc7] at h
      refine rx_iconst (v := nI 0) d_M_amount_10 (by decide) ?_
      refine rx_istore d_M_amount_11 (by decide) ?_
      refine E_M_amount_13 (r := r) (sz := sz) hq ?_ _ _ _ _ h
      · intro v5 d4 s6 h
        refine rx_iincP d_M_amount_65 (by decide) rfl ?_
        refine rx_goto (tgt := 4) d_M_amount_68 (by decide) ?_
        exact ih _ _ _ _ h
theorem E_M_amount {G : bm_G} {f : Nat} {l1 : Int32} {s sz : rx_S} {r : Int32} {Q : Int32 → rx_S → Prop} (h : D_M_amount f l1 s = some (r, sz)) (hq : Q r sz) : rx_Ti G me_M_amount [.ref rx_o, .int (l1)] s Q := by
  refine rx_meti (by decide) rfl (Nat.le_of_ble_eq_true rfl) ?_
  generalize hQ : (fun (v : bm_R) (s2 : rx_S) => ∃ x, v = .inl (some (.int x)) ∧ Q x s2) = Q2
  replace hq : Q2 (.inl (some (.int (r)))) sz := by rw [← hQ]; exact ⟨_, rfl, hq⟩
  clear hQ
  unfold D_M_amount at h
  refine rx_iconst (v := nI 0) d_M_amount_0 (by decide) ?_
  refine rx_istore_n d_M_amount_1 (by decide) ?_
  refine rx_iconst (v := nI 0) d_M_amount_2 (by decide) ?_
  refine rx_istore_n d_M_amount_3 (by decide) ?_
  refine E_M_amount_4 (r := r) (sz := sz) hq _ _ _ _ _ h
theorem E_M_lot_26 {G : bm_G} {f : Nat} {l1 : Int32} {l2 : Int32} {k60 : Int32 → rx_S → Option (Int32 × rx_S)} {r : Int32} {sz : rx_S} {Q : bm_R → rx_S → Prop} (hq : Q (.inl (some (.int (r)))) sz) (hk60 : ∀ (q3 : Int32) (d4 : Option Value) (s : rx_S), k60 q3 s = some (r, sz) → rx G me_M_lot 60 [some (.ref rx_o), some (.int (l1)), some (.int (l2)), some (.int (q3)), d4] [] s Q) : ∀ (n : Nat) (l3 : Int32) (l4 : Int32) (s : rx_S), D_M_lot_26 f l1 l2 k60 n l3 l4 s = some (r, sz) → rx G me_M_lot 26 [some (.ref rx_o), some (.int (l1)), some (.int (l2)), some (.int (l3)), some (.int (l4))] [] s Q := by
  intro n
  induction n with
  | zero =>
    intro l3 l4 s h
    rw [D_M_lot_26] at h
    exact absurd h (by simp)
  | succ n ih =>
    intro l3 l4 s h
    rw [D_M_lot_26] at h
    refine rx_iload d_M_lot_26 rfl ?_
    refine rx_aload_n d_M_lot_28 rfl ?_
    refine rx_gsf g_M_lot_29 (by decide) rfl ?_
    refine rx_icmp_ge (tgt := 60) d_M_lot_32 (by decide) (fun hc32 => ?_) (fun hc32 => ?_)
    · rw [if_pos hc32] at h
      exact hk60 _ _ _ h
    · rw [if_neg hc32] at h
      refine rx_aload_n d_M_lot_35 rfl ?_
      refine rx_gaf g_M_lot_36 (by decide) ?_
      refine rx_iload d_M_lot_39 rfl ?_
      obtain ⟨j3, hj3, ej3, h⟩ := og_inv (by decide) h
      refine rx_iald d_M_lot_41 rfl ej3 hj3 ?_
      refine rx_iload_n d_M_lot_42 rfl ?_
      refine oj_step (P := fun J4 : Int32 → Option (Int32 × rx_S) => ∀ (x5 : Int32) (d3 : Option Value), J4 x5 = some (r, sz) → rx G me_M_lot 53 [some (.ref rx_o), some (.int (l1)), some (.int (l2)), d3, some (.int (l4))] [.int (x5)] s Q) h ?_ ?_
      · intro x5 d3 h
        refine rx_istore_n d_M_lot_53 (by decide) ?_
        refine rx_iincP d_M_lot_54 (by decide) rfl ?_
        refine rx_goto (tgt := 26) d_M_lot_57 (by decide) ?_
        exact ih _ _ _ h
      clear h
      intro J4 hJ1 h
      refine rx_icmp_ne (tgt := 52) d_M_lot_43 (by decide) (fun hc43 => ?_) (fun hc43 => ?_)
      · rw [if_neg hc43] at h
        refine rx_iload_n d_M_lot_52 rfl ?_
        exact hJ1 _ _ h
      · rw [if_pos hc43] at h
        refine rx_iload_n d_M_lot_46 rfl ?_
        refine rx_iconst (v := nI 1) d_M_lot_47 (by decide) ?_
        refine rx_iadd d_M_lot_48 ?_
        refine rx_goto (tgt := 53) d_M_lot_49 (by decide) ?_
        exact hJ1 _ _ h
theorem E_M_lot {G : bm_G} {f : Nat} {l1 : Int32} {l2 : Int32} {s sz : rx_S} {r : Int32} {Q : Int32 → rx_S → Prop} (h : D_M_lot f l1 l2 s = some (r, sz)) (hq : Q r sz) : rx_Ti G me_M_lot [.ref rx_o, .int (l1), .int (l2)] s Q := by
  refine rx_meti (by decide) rfl (Nat.le_of_ble_eq_true rfl) ?_
  generalize hQ : (fun (v : bm_R) (s2 : rx_S) => ∃ x, v = .inl (some (.int x)) ∧ Q x s2) = Q2
  replace hq : Q2 (.inl (some (.int (r)))) sz := by rw [← hQ]; exact ⟨_, rfl, hq⟩
  clear hQ
  unfold D_M_lot at h
  refine rx_aload_n d_M_lot_0 rfl ?_
  refine rx_iconst (v := nI 0) d_M_lot_1 (by decide) ?_
  refine rx_psf p_M_lot_2 (by decide) rfl rfl rfl ?_
  refine rx_iload_n d_M_lot_5 rfl ?_
  refine rx_iconst (v := nI 0) d_M_lot_6 (by decide) ?_
  refine rx_aload_n d_M_lot_7 rfl ?_
  refine rx_gsf g_M_lot_8 (by decide) rfl ?_
  refine rx_iconst (v := nI 1) d_M_lot_11 (by decide) ?_
  refine rx_isub d_M_lot_12 ?_
  obtain ⟨x1, s2, ex1, h⟩ := ob_inv h
  refine rx_callS3 c_M_lot_13 (Nat.le_of_ble_eq_true rfl) (E_M_in ex1 ?_)
  refine rx_if_ne (tgt := 21) d_M_lot_16 (by decide) (fun hc16 => ?_) (fun hc16 => ?_)
  · rw [if_neg hc16] at h
    refine rx_iconst (v := nI 0) d_M_lot_21 (by decide) ?_
    refine rx_istore_n d_M_lot_22 (by decide) ?_
    refine rx_iconst (v := nI 0) d_M_lot_23 (by decide) ?_
    refine rx_istore d_M_lot_24 (by decide) ?_
    refine E_M_lot_26 (r := r) (sz := sz) hq ?_ _ _ _ _ h
    · intro v6 d4 s7 h
      refine rx_iload_n d_M_lot_60 rfl ?_
      by_cases e61_0 : l2 = nI 0
      · rw [if_pos e61_0] at h
        refine rx_tab (tgt := 96) d_M_lot_61 0 e61_0 (by decide) (by decide) (by rfl) (by decide) ?_
        refine rx_aload_n d_M_lot_96 rfl ?_
        refine rx_gaf g_M_lot_97 (by decide) ?_
        refine rx_iload_n d_M_lot_100 rfl ?_
        obtain ⟨j8, hj8, ej8, h⟩ := og_inv (by decide) h
        refine rx_iald d_M_lot_101 rfl ej8 hj8 ?_
        exact rx_iret d_M_lot_102 rfl (ox_i hq h)
      rw [if_neg e61_0] at h
      by_cases e61_1 : l2 = nI 1
      · rw [if_pos e61_1] at h
        refine rx_tab (tgt := 103) d_M_lot_61 1 e61_1 (by decide) (by decide) (by rfl) (by decide) ?_
        refine rx_aload_n d_M_lot_103 rfl ?_
        refine rx_gaf g_M_lot_104 (by decide) ?_
        refine rx_iload_n d_M_lot_107 rfl ?_
        obtain ⟨j9, hj9, ej9, h⟩ := og_inv (by decide) h
        refine rx_iald d_M_lot_108 rfl ej9 hj9 ?_
        exact rx_iret d_M_lot_109 rfl (ox_i hq h)
      rw [if_neg e61_1] at h
      by_cases e61_2 : l2 = nI 2
      · rw [if_pos e61_2] at h
        refine rx_tab (tgt := 110) d_M_lot_61 2 e61_2 (by decide) (by decide) (by rfl) (by decide) ?_
        refine rx_aload_n d_M_lot_110 rfl ?_
        refine rx_iload_n d_M_lot_111 rfl ?_
        obtain ⟨x10, s11, ex10, h⟩ := ob_inv h
        refine rx_callV1 c_M_lot_112 (Nat.le_of_ble_eq_true rfl) (E_M_amount ex10 ?_)
        exact rx_iret d_M_lot_115 rfl (ox_i hq h)
      rw [if_neg e61_2] at h
      by_cases e61_3 : l2 = nI 3
      · rw [if_pos e61_3] at h
        refine rx_tab (tgt := 116) d_M_lot_61 3 e61_3 (by decide) (by decide) (by rfl) (by decide) ?_
        refine rx_aload_n d_M_lot_116 rfl ?_
        refine rx_gaf g_M_lot_117 (by decide) ?_
        refine rx_iload_n d_M_lot_120 rfl ?_
        refine rx_iconst (v := nI 1) d_M_lot_121 (by decide) ?_
        refine rx_iadd d_M_lot_122 ?_
        obtain ⟨j12, hj12, ej12, h⟩ := og_inv (by decide) h
        refine rx_iald d_M_lot_123 rfl ej12 hj12 ?_
        refine rx_aload_n d_M_lot_124 rfl ?_
        refine rx_gaf g_M_lot_125 (by decide) ?_
        refine rx_iload_n d_M_lot_128 rfl ?_
        obtain ⟨j13, hj13, ej13, h⟩ := og_inv (by decide) h
        refine rx_iald d_M_lot_129 rfl ej13 hj13 ?_
        refine rx_isub d_M_lot_130 ?_
        exact rx_iret d_M_lot_131 rfl (ox_i hq h)
      rw [if_neg e61_3] at h
      by_cases e61_4 : l2 = nI 4
      · rw [if_pos e61_4] at h
        refine rx_tab (tgt := 132) d_M_lot_61 4 e61_4 (by decide) (by decide) (by rfl) (by decide) ?_
        refine rx_iload_n d_M_lot_132 rfl ?_
        exact rx_iret d_M_lot_133 rfl (ox_i hq h)
      rw [if_neg e61_4] at h
      have hsw : ∀ j, j ≤ 4 → ¬ l2 = nI j := by
        intro j hj
        have hj2 : j = 0 ∨ j = 1 ∨ j = 2 ∨ j = 3 ∨ j = 4 := by omega
        rcases hj2 with rfl | rfl | rfl | rfl | rfl <;> assumption
      refine rx_tableOut (tgt := 134) d_M_lot_61 (sw_out 4 (by decide) hsw) (by decide) ?_
      refine rx_iconst (v := (-1)) d_M_lot_134 (by decide) ?_
      exact rx_iret d_M_lot_135 rfl (ox_i hq h)
  · rw [if_pos hc16] at h
    refine rx_iconst (v := (-1)) d_M_lot_19 (by decide) ?_
    exact rx_iret d_M_lot_20 rfl (ox_i hq h)
theorem E_M_from {G : bm_G} {f : Nat} {l1 : Int32} {l2 : Int32} {l3 : Int32} {s sz : rx_S} {r : Int32} {Q : Int32 → rx_S → Prop} (h : D_M_from f l1 l2 l3 s = some (r, sz)) (hq : Q r sz) : rx_Ti G me_M_from [.ref rx_o, .int (l1), .int (l2), .int (l3)] s Q := by
  refine rx_meti (by decide) rfl (Nat.le_of_ble_eq_true rfl) ?_
  generalize hQ : (fun (v : bm_R) (s2 : rx_S) => ∃ x, v = .inl (some (.int x)) ∧ Q x s2) = Q2
  replace hq : Q2 (.inl (some (.int (r)))) sz := by rw [← hQ]; exact ⟨_, rfl, hq⟩
  clear hQ
  unfold D_M_from at h
  refine rx_aload_n d_M_from_0 rfl ?_
  refine rx_iconst (v := nI 0) d_M_from_1 (by decide) ?_
  refine rx_psf p_M_from_2 (by decide) rfl rfl rfl ?_
  refine rx_iload_n d_M_from_5 rfl ?_
  refine rx_iconst (v := nI 0) d_M_from_6 (by decide) ?_
  refine rx_aload_n d_M_from_7 rfl ?_
  refine rx_gsf g_M_from_8 (by decide) rfl ?_
  refine rx_iconst (v := nI 1) d_M_from_11 (by decide) ?_
  refine rx_isub d_M_from_12 ?_
  obtain ⟨x1, s2, ex1, h⟩ := ob_inv h
  refine rx_callS3 c_M_from_13 (Nat.le_of_ble_eq_true rfl) (E_M_in ex1 ?_)
  refine oj_step (P := fun J3 : rx_S → Option (Int32 × rx_S) => ∀ (s4 : rx_S) (d0 : Option Value) (d1 : Option Value) (d2 : Option Value) (d3 : Option Value), J3 s4 = some (r, sz) → rx G me_M_from 53 [d0, d1, d2, d3] [] s4 Q2) h ?_ ?_
  · intro s4 d0 d1 d2 d3 h
    refine rx_iconst (v := (-1)) d_M_from_53 (by decide) ?_
    exact rx_iret d_M_from_54 rfl (ox_i hq h)
  clear h
  intro J3 hJ1 h
  refine rx_if_eq (tgt := 53) d_M_from_16 (by decide) (fun hc16 => ?_) (fun hc16 => ?_)
  · rw [if_pos hc16] at h
    exact hJ1 _ _ _ _ _ h
  · rw [if_neg hc16] at h
    refine rx_iload_n d_M_from_19 rfl ?_
    refine rx_iconst (v := nI 0) d_M_from_20 (by decide) ?_
    refine rx_aload_n d_M_from_21 rfl ?_
    refine rx_gaf g_M_from_22 (by decide) ?_
    refine rx_iload_n d_M_from_25 rfl ?_
    refine rx_iconst (v := nI 1) d_M_from_26 (by decide) ?_
    refine rx_iadd d_M_from_27 ?_
    obtain ⟨j5, hj5, ej5, h⟩ := og_inv (by decide) h
    refine rx_iald d_M_from_28 rfl ej5 hj5 ?_
    refine rx_aload_n d_M_from_29 rfl ?_
    refine rx_gaf g_M_from_30 (by decide) ?_
    refine rx_iload_n d_M_from_33 rfl ?_
    obtain ⟨j6, hj6, ej6, h⟩ := og_inv (by decide) h
    refine rx_iald d_M_from_34 rfl ej6 hj6 ?_
    refine rx_isub d_M_from_35 ?_
    refine rx_iconst (v := nI 1) d_M_from_36 (by decide) ?_
    refine rx_isub d_M_from_37 ?_
    obtain ⟨x7, s8, ex7, h⟩ := ob_inv h
    refine rx_callS3 c_M_from_38 (Nat.le_of_ble_eq_true rfl) (E_M_in ex7 ?_)
    refine rx_if_eq (tgt := 53) d_M_from_41 (by decide) (fun hc41 => ?_) (fun hc41 => ?_)
    · rw [if_pos hc41] at h
      exact hJ1 _ _ _ _ _ h
    · rw [if_neg hc41] at h
      refine rx_iload_n d_M_from_44 rfl ?_
      refine rx_iconst (v := nI 0) d_M_from_45 (by decide) ?_
      refine rx_iconst (v := nI 1) d_M_from_46 (by decide) ?_
      obtain ⟨x9, s10, ex9, h⟩ := ob_inv h
      refine rx_callS3 c_M_from_47 (Nat.le_of_ble_eq_true rfl) (E_M_in ex9 ?_)
      refine rx_if_ne (tgt := 55) d_M_from_50 (by decide) (fun hc50 => ?_) (fun hc50 => ?_)
      · rw [if_neg hc50] at h
        refine rx_iload_n d_M_from_55 rfl ?_
        refine oj_step (P := fun J11 : Int32 → Option (Int32 × rx_S) => ∀ (x12 : Int32) (d0 : Option Value) (d1 : Option Value) (d2 : Option Value) (d3 : Option Value), J11 x12 = some (r, sz) → rx G me_M_from 88 [d0, d1, d2, d3] [.int (x12)] s10 Q2) h ?_ ?_
        · intro x12 d0 d1 d2 d3 h
          exact rx_iret d_M_from_88 rfl (ox_i hq h)
        clear h
        intro J11 hJ2 h
        refine rx_if_ne (tgt := 75) d_M_from_56 (by decide) (fun hc56 => ?_) (fun hc56 => ?_)
        · rw [if_neg hc56] at h
          refine rx_aload_n d_M_from_75 rfl ?_
          refine rx_gaf g_M_from_76 (by decide) ?_
          refine rx_aload_n d_M_from_79 rfl ?_
          refine rx_gaf g_M_from_80 (by decide) ?_
          refine rx_iload_n d_M_from_83 rfl ?_
          refine rx_iald d_M_from_84 rfl ej6 hj6 ?_
          refine rx_iload_n d_M_from_85 rfl ?_
          refine rx_iadd d_M_from_86 ?_
          obtain ⟨j14, hj14, ej14, h⟩ := og_inv (by decide) h
          refine rx_iald d_M_from_87 rfl ej14 hj14 ?_
          exact hJ2 _ _ _ _ _ h
        · rw [if_pos hc56] at h
          refine rx_aload_n d_M_from_59 rfl ?_
          refine rx_gaf g_M_from_60 (by decide) ?_
          refine rx_aload_n d_M_from_63 rfl ?_
          refine rx_gaf g_M_from_64 (by decide) ?_
          refine rx_iload_n d_M_from_67 rfl ?_
          refine rx_iald d_M_from_68 rfl ej6 hj6 ?_
          refine rx_iload_n d_M_from_69 rfl ?_
          refine rx_iadd d_M_from_70 ?_
          obtain ⟨j13, hj13, ej13, h⟩ := og_inv (by decide) h
          refine rx_iald d_M_from_71 rfl ej13 hj13 ?_
          refine rx_goto (tgt := 88) d_M_from_72 (by decide) ?_
          exact hJ2 _ _ _ _ _ h
      · rw [if_pos hc50] at h
        exact hJ1 _ _ _ _ _ h
