theorem E_R_hasRole {G : bm_G} {f : Nat} {l0 : Nat} {l1 : Int32} {s sz : cx_S} {r : Int32} {Q : Int32 → cx_S → Prop} (h : D_R_hasRole f l0 l1 s = some (r, sz)) (hq : Q r sz) : cx_Ti G me_R_hasRole [va_rf (some l0), .int (l1)] s Q := by
  refine cx_meti (by decide) (List.forall_mem_cons.mpr ⟨cx_cat, (List.forall_mem_cons.mpr ⟨rfl, (fun _ q => nomatch q)⟩)⟩) (Nat.le_of_ble_eq_true rfl) ?_
  generalize hQ : (fun (v : bm_R) (s2 : cx_S) => ∃ x, v = .inl (some (.int x)) ∧ Q x s2) = Q2
  replace hq : Q2 (.inl (some (.int (r)))) sz := by rw [← hQ]; exact ⟨_, rfl, hq⟩
  clear hQ
  unfold D_R_hasRole at h
  refine cx_iload_n d_R_hasRole_0 rfl ?_
  refine cx_iconst (v := nI 3) d_R_hasRole_1 (by decide) ?_
  obtain ⟨x1, s2, ex1, h⟩ := ob_inv h
  refine cx_callS2 c_R_hasRole_2 (cx_hst (fun _ q => nomatch q) (Nat.le_of_ble_eq_true rfl)) (E_H_isBelow ex1 ?_)
  refine oj_step (P := fun J3 : Int32 → Option (Int32 × cx_S) => ∀ (x4 : Int32) (d0 : Option Value) (d1 : Option Value), J3 x4 = some (r, sz) → cx G me_R_hasRole 23 [d0, d1] [.int (x4)] s2 Q2) h ?_ ?_
  · intro x4 d0 d1 h
    obtain ⟨hz, h⟩ := ozb_inv h
    exact cx_zret d_R_hasRole_23 rfl (ozb_nar hz) (ox_i hq h)
  clear h
  intro J3 hJ1 h
  refine oj_step (P := fun J5 : Unit → Option (Int32 × cx_S) => ∀ (_u : Unit) (d0 : Option Value) (d1 : Option Value), J5 () = some (r, sz) → cx G me_R_hasRole 22 [d0, d1] [] s2 Q2) h ?_ ?_
  · intro _u d0 d1 h
    refine cx_iconst (v := nI 0) d_R_hasRole_22 (by decide) ?_
    exact hJ1 _ _ _ h
  clear h
  intro J5 hJ2 h
  refine cx_if_eq (tgt := 22) d_R_hasRole_5 (by decide) (fun hc5 => ?_) (fun hc5 => ?_)
  · rw [if_pos hc5] at h
    exact hJ2 () _ _ h
  · rw [if_neg hc5] at h
    refine cx_aload_n d_R_hasRole_8 rfl ?_
    obtain ⟨p6, ep6, hp6, h⟩ := oc_inv h
    refine cx_getr 98 rfl g_R_hasRole_9 rfl (by decide) ep6 hp6 ?_
    refine cx_iload_n d_R_hasRole_12 rfl ?_
    obtain ⟨a7, na7, j8, ea7, ha7, hj8, gj8, ej8, h⟩ := oa_inv h
    refine cx_iald d_R_hasRole_13 ea7 ha7 hj8 gj8 ej8 ?_
    refine cx_iconst (v := nI 3) d_R_hasRole_14 (by decide) ?_
    refine cx_icmp_eq (tgt := 22) d_R_hasRole_15 (by decide) (fun hc15 => ?_) (fun hc15 => ?_)
    · rw [if_pos hc15] at h
      exact hJ2 () _ _ h
    · rw [if_neg hc15] at h
      refine cx_iconst (v := nI 1) d_R_hasRole_18 (by decide) ?_
      refine cx_goto (tgt := 23) d_R_hasRole_19 (by decide) ?_
      exact hJ1 _ _ _ h
theorem E_F_takeLeastUnit_2 {G : bm_G} {f : Nat} {l0 : Nat} {l1 : Option Nat} {l2 : Int32} {k42 : Int32 → cx_S → Option (Int32 × cx_S)} {r : Int32} {sz : cx_S} {Q : bm_R → cx_S → Prop} (hq : Q (.inl none) sz) (hk42 : ∀ (q3 : Int32) (s : cx_S), k42 q3 s = some (r, sz) → cx G me_F_takeLeastUnit 42 [some (va_rf (some l0)), some (va_rf (l1)), some (.int (l2)), some (.int (q3))] [] s Q) : ∀ (n : Nat) (l3 : Int32) (s : cx_S), D_F_takeLeastUnit_2 f l0 l1 l2 k42 n l3 s = some (r, sz) → cx G me_F_takeLeastUnit 2 [some (va_rf (some l0)), some (va_rf (l1)), some (.int (l2)), some (.int (l3))] [] s Q := by
  intro n
  induction n with
  | zero =>
    intro l3 s h
    rw [D_F_takeLeastUnit_2] at h
    exact absurd h (by simp)
  | succ n ih =>
    intro l3 s h
    rw [D_F_takeLeastUnit_2] at h
    refine cx_iload_n d_F_takeLeastUnit_2 rfl ?_
    refine cx_bipush (v := nI 6) d_F_takeLeastUnit_3 (by decide) ?_
    refine cx_icmp_ge (tgt := 69) d_F_takeLeastUnit_5 (by decide) (fun hc5 => ?_) (fun hc5 => ?_)
    · rw [if_pos hc5] at h
      exact cx_vret d_F_takeLeastUnit_69 rfl (ox_v hq h)
    · rw [if_neg hc5] at h
      refine cx_aload_n d_F_takeLeastUnit_8 rfl ?_
      obtain ⟨p1, ep1, hp1, h⟩ := oc_inv h
      refine cx_getr 32 rfl g_F_takeLeastUnit_9 rfl (by decide) ep1 hp1 ?_
      refine cx_iload_n d_F_takeLeastUnit_12 rfl ?_
      obtain ⟨a2, na2, j3, ea2, ha2, hj3, gj3, ej3, h⟩ := oa_inv h
      refine cx_aald (t := 5) 405 rfl d_F_takeLeastUnit_13 (by decide) rfl ea2 ha2 hj3 gj3 ej3 ?_
      obtain ⟨p4, ep4, hp4, h⟩ := oc_inv h
      refine cx_geti 160 rfl g_F_takeLeastUnit_14 rfl (by decide) ep4 hp4 ?_
      refine cx_aload_n d_F_takeLeastUnit_17 rfl ?_
      obtain ⟨p5, ep5, hp5, h⟩ := oc_inv h
      refine cx_getr 18 rfl g_F_takeLeastUnit_18 rfl (by decide) ep5 hp5 ?_
      obtain ⟨p6, ep6, hp6, h⟩ := oc_inv h
      refine cx_getr 98 rfl g_F_takeLeastUnit_21 rfl (by decide) ep6 hp6 ?_
      refine cx_iload_n d_F_takeLeastUnit_24 rfl ?_
      obtain ⟨a7, na7, j8, ea7, ha7, hj8, gj8, ej8, h⟩ := oa_inv h
      refine cx_iald d_F_takeLeastUnit_25 ea7 ha7 hj8 gj8 ej8 ?_
      refine oj_step (P := fun J9 : Unit → Option (Int32 × cx_S) => ∀ (_u : Unit), J9 () = some (r, sz) → cx G me_F_takeLeastUnit 63 [some (va_rf (some l0)), some (va_rf (l1)), some (.int (l2)), some (.int (l3))] [] s Q) h ?_ ?_
      · intro _u h
        refine cx_iincP d_F_takeLeastUnit_63 (by decide) rfl ?_
        refine cx_goto (tgt := 2) d_F_takeLeastUnit_66 (by decide) ?_
        exact ih _ _ h
      clear h
      intro J9 hJ1 h
      refine cx_icmp_ne (tgt := 63) d_F_takeLeastUnit_26 (by decide) (fun hc26 => ?_) (fun hc26 => ?_)
      · rw [if_neg hc26] at h
        exact hJ1 () h
      · rw [if_pos hc26] at h
        refine cx_aload_n d_F_takeLeastUnit_29 rfl ?_
        refine cx_getr 32 rfl g_F_takeLeastUnit_30 rfl (by decide) ep1 hp1 ?_
        refine cx_iload_n d_F_takeLeastUnit_33 rfl ?_
        refine cx_aald (t := 5) 405 rfl d_F_takeLeastUnit_34 (by decide) rfl ea2 ha2 hj3 gj3 ej3 ?_
        refine cx_geti 161 rfl g_F_takeLeastUnit_35 rfl (by decide) ep4 hp4 ?_
        refine cx_iconst (v := (-1)) d_F_takeLeastUnit_38 (by decide) ?_
        refine cx_icmp_ne (tgt := 63) d_F_takeLeastUnit_39 (by decide) (fun hc39 => ?_) (fun hc39 => ?_)
        · rw [if_neg hc39] at h
          exact hJ1 () h
        · rw [if_pos hc39] at h
          exact hk42 _ _ h
theorem E_F_takeLeastUnit {G : bm_G} {f : Nat} {l0 : Nat} {l1 : Option Nat} {l2 : Int32} {s sz : cx_S} {r : Int32} {Q : cx_S → Prop} (h : D_F_takeLeastUnit f l0 l1 l2 s = some (r, sz)) (hq : Q sz) : cx_Tv G me_F_takeLeastUnit [va_rf (some l0), va_rf (l1), .int (l2)] s Q := by
  refine cx_metv (by decide) (List.forall_mem_cons.mpr ⟨cx_cat, (List.forall_mem_cons.mpr ⟨cx_cat, (List.forall_mem_cons.mpr ⟨rfl, (fun _ q => nomatch q)⟩)⟩)⟩) (Nat.le_of_ble_eq_true rfl) ?_
  generalize hQ : (fun (v : bm_R) (s2 : cx_S) => v = .inl none ∧ Q s2) = Q2
  replace hq : Q2 (.inl none) sz := by rw [← hQ]; exact ⟨rfl, hq⟩
  clear hQ
  unfold D_F_takeLeastUnit at h
  refine cx_iconst (v := nI 0) d_F_takeLeastUnit_0 (by decide) ?_
  refine cx_istore_n d_F_takeLeastUnit_1 (by decide) ?_
  refine E_F_takeLeastUnit_2 (r := r) (sz := sz) hq ?_ _ _ _ h
  · intro v10 s11 h
    refine cx_aload_n d_F_takeLeastUnit_42 rfl ?_
    obtain ⟨p12, ep12, hp12, h⟩ := oc_inv h
    refine cx_getr 32 rfl g_F_takeLeastUnit_43 rfl (by decide) ep12 hp12 ?_
    refine cx_iload_n d_F_takeLeastUnit_46 rfl ?_
    obtain ⟨a13, na13, j14, ea13, ha13, hj14, gj14, ej14, h⟩ := oa_inv h
    refine cx_aald (t := 5) 405 rfl d_F_takeLeastUnit_47 (by decide) rfl ea13 ha13 hj14 gj14 ej14 ?_
    refine cx_aload_n d_F_takeLeastUnit_48 rfl ?_
    obtain ⟨p15, ep15, hp15, h⟩ := oc_inv h
    refine cx_geti 16 rfl g_F_takeLeastUnit_49 rfl (by decide) ep15 hp15 ?_
    obtain ⟨p16, ep16, hp16, h⟩ := oc_inv h
    refine cx_puti 161 rfl p_F_takeLeastUnit_52 rfl (by decide) rfl rfl ep16 hp16 ?_
    refine cx_aload_n d_F_takeLeastUnit_55 rfl ?_
    refine cx_getr 25 rfl g_F_takeLeastUnit_56 rfl (by decide) ep15 hp15 ?_
    refine cx_iload_n d_F_takeLeastUnit_59 rfl ?_
    refine cx_iload_n d_F_takeLeastUnit_60 rfl ?_
    obtain ⟨a17, na17, j18, ea17, ha17, hj18, gj18, ej18, h⟩ := oa_inv h
    refine cx_iast d_F_takeLeastUnit_61 ea17 ha17 hj18 gj18 ej18 ?_
    exact cx_vret d_F_takeLeastUnit_62 rfl (ox_v hq h)
theorem E_F_takeUnits_2 {G : bm_G} {f : Nat} {l0 : Nat} {l1 : Option Nat} {r : Int32} {sz : cx_S} {Q : bm_R → cx_S → Prop} (hq : Q (.inl none) sz) : ∀ (n : Nat) (l2 : Int32) (s : cx_S), D_F_takeUnits_2 f l0 l1 n l2 s = some (r, sz) → cx G me_F_takeUnits 2 [some (va_rf (some l0)), some (va_rf (l1)), some (.int (l2))] [] s Q := by
  intro n
  induction n with
  | zero =>
    intro l2 s h
    rw [D_F_takeUnits_2] at h
    exact absurd h (by simp)
  | succ n ih =>
    intro l2 s h
    rw [D_F_takeUnits_2] at h
    refine cx_iload_n d_F_takeUnits_2 rfl ?_
    refine cx_iconst (v := nI 3) d_F_takeUnits_3 (by decide) ?_
    refine cx_icmp_ge (tgt := 30) d_F_takeUnits_4 (by decide) (fun hc4 => ?_) (fun hc4 => ?_)
    · rw [if_pos hc4] at h
      exact cx_vret d_F_takeUnits_30 rfl (ox_v hq h)
    · rw [if_neg hc4] at h
      refine cx_aload_n d_F_takeUnits_7 rfl ?_
      obtain ⟨p1, ep1, hp1, h⟩ := oc_inv h
      refine cx_getr 18 rfl g_F_takeUnits_8 rfl (by decide) ep1 hp1 ?_
      refine cx_iload_n d_F_takeUnits_11 rfl ?_
      obtain ⟨p2, ep2, hp2, h⟩ := oc_inv h
      obtain ⟨x3, s4, ex3, h⟩ := ob_inv h
      refine cx_callV1 c_F_takeUnits_12 (cx_hst (fun _ q => nomatch q) (Nat.le_of_ble_eq_true rfl)) (by decide) ep2 hp2 (E_R_hasRole ex3 ?_)
      refine oj_step (P := fun J5 : cx_S → Option (Int32 × cx_S) => ∀ (s6 : cx_S), J5 s6 = some (r, sz) → cx G me_F_takeUnits 24 [some (va_rf (some l0)), some (va_rf (l1)), some (.int (l2))] [] s6 Q) h ?_ ?_
      · intro s6 h
        refine cx_iincP d_F_takeUnits_24 (by decide) rfl ?_
        refine cx_goto (tgt := 2) d_F_takeUnits_27 (by decide) ?_
        exact ih _ _ h
      clear h
      intro J5 hJ1 h
      refine cx_if_eq (tgt := 24) d_F_takeUnits_15 (by decide) (fun hc15 => ?_) (fun hc15 => ?_)
      · rw [if_pos hc15] at h
        exact hJ1 _ h
      · rw [if_neg hc15] at h
        refine cx_aload_n d_F_takeUnits_18 rfl ?_
        refine cx_aload_n d_F_takeUnits_19 rfl ?_
        refine cx_iload_n d_F_takeUnits_20 rfl ?_
        obtain ⟨p7, ep7, hp7, h⟩ := oc_inv h
        obtain ⟨x8, s9, ex8, h⟩ := ob_inv h
        refine cx_callV2v c_F_takeUnits_21 (cx_hst (fun _ q => nomatch q) (Nat.le_of_ble_eq_true rfl)) (by decide) ep7 hp7 (E_F_takeLeastUnit ex8 ?_)
        exact hJ1 _ h
theorem E_F_takeUnits {G : bm_G} {f : Nat} {l0 : Nat} {l1 : Option Nat} {s sz : cx_S} {r : Int32} {Q : cx_S → Prop} (h : D_F_takeUnits f l0 l1 s = some (r, sz)) (hq : Q sz) : cx_Tv G me_F_takeUnits [va_rf (some l0), va_rf (l1)] s Q := by
  refine cx_metv (by decide) (List.forall_mem_cons.mpr ⟨cx_cat, (List.forall_mem_cons.mpr ⟨cx_cat, (fun _ q => nomatch q)⟩)⟩) (Nat.le_of_ble_eq_true rfl) ?_
  generalize hQ : (fun (v : bm_R) (s2 : cx_S) => v = .inl none ∧ Q s2) = Q2
  replace hq : Q2 (.inl none) sz := by rw [← hQ]; exact ⟨rfl, hq⟩
  clear hQ
  unfold D_F_takeUnits at h
  refine cx_iconst (v := nI 0) d_F_takeUnits_0 (by decide) ?_
  refine cx_istore_n d_F_takeUnits_1 (by decide) ?_
  refine E_F_takeUnits_2 (r := r) (sz := sz) hq _ _ _ h
theorem E_F_block_2 {G : bm_G} {f : Nat} {l0 : Nat} {l1 : Option Nat} {r : Int32} {sz : cx_S} {Q : bm_R → cx_S → Prop} (hq : Q (.inl none) sz) : ∀ (n : Nat) (l2 : Int32) (s : cx_S), D_F_block_2 f l0 l1 n l2 s = some (r, sz) → cx G me_F_block 2 [some (va_rf (some l0)), some (va_rf (l1)), some (.int (l2))] [] s Q := by
  intro n
  induction n with
  | zero =>
    intro l2 s h
    rw [D_F_block_2] at h
    exact absurd h (by simp)
  | succ n ih =>
    intro l2 s h
    rw [D_F_block_2] at h
    refine cx_iload_n d_F_block_2 rfl ?_
    refine cx_iconst (v := nI 3) d_F_block_3 (by decide) ?_
    refine cx_icmp_ge (tgt := 28) d_F_block_4 (by decide) (fun hc4 => ?_) (fun hc4 => ?_)
    · rw [if_pos hc4] at h
      exact cx_vret d_F_block_28 rfl (ox_v hq h)
    · rw [if_neg hc4] at h
      refine cx_aload_n d_F_block_7 rfl ?_
      refine cx_iload_n d_F_block_8 rfl ?_
      obtain ⟨p1, ep1, hp1, h⟩ := oc_inv h
      obtain ⟨x2, s3, ex2, h⟩ := ob_inv h
      refine cx_callV1 c_F_block_9 (cx_hst (fun _ q => nomatch q) (Nat.le_of_ble_eq_true rfl)) (by decide) ep1 hp1 (E_R_countRoles ex2 ?_)
      refine oj_step (P := fun J4 : cx_S → Option (Int32 × cx_S) => ∀ (s5 : cx_S), J4 s5 = some (r, sz) → cx G me_F_block 22 [some (va_rf (some l0)), some (va_rf (l1)), some (.int (l2))] [] s5 Q) h ?_ ?_
      · intro s5 h
        refine cx_iincP d_F_block_22 (by decide) rfl ?_
        refine cx_goto (tgt := 2) d_F_block_25 (by decide) ?_
        exact ih _ _ h
      clear h
      intro J4 hJ1 h
      refine cx_if_le (tgt := 22) d_F_block_12 (by decide) (fun hc12 => ?_) (fun hc12 => ?_)
      · rw [if_pos hc12] at h
        exact hJ1 _ h
      · rw [if_neg hc12] at h
        refine cx_aload_n d_F_block_15 rfl ?_
        obtain ⟨p6, ep6, hp6, h⟩ := oc_inv h
        refine cx_getr 37 rfl g_F_block_16 rfl (by decide) ep6 hp6 ?_
        refine cx_iload_n d_F_block_19 rfl ?_
        refine cx_iconst (v := nI 1) d_F_block_20 (by decide) ?_
        obtain ⟨a7, na7, j8, ea7, ha7, hj8, gj8, ej8, h⟩ := oa_inv h
        refine cx_iast d_F_block_21 ea7 ha7 hj8 gj8 ej8 ?_
        exact hJ1 _ h
theorem E_F_block {G : bm_G} {f : Nat} {l0 : Nat} {l1 : Option Nat} {s sz : cx_S} {r : Int32} {Q : cx_S → Prop} (h : D_F_block f l0 l1 s = some (r, sz)) (hq : Q sz) : cx_Tv G me_F_block [va_rf (some l0), va_rf (l1)] s Q := by
  refine cx_metv (by decide) (List.forall_mem_cons.mpr ⟨cx_cat, (List.forall_mem_cons.mpr ⟨cx_cat, (fun _ q => nomatch q)⟩)⟩) (Nat.le_of_ble_eq_true rfl) ?_
  generalize hQ : (fun (v : bm_R) (s2 : cx_S) => v = .inl none ∧ Q s2) = Q2
  replace hq : Q2 (.inl none) sz := by rw [← hQ]; exact ⟨rfl, hq⟩
  clear hQ
  unfold D_F_block at h
  refine cx_iconst (v := nI 0) d_F_block_0 (by decide) ?_
  refine cx_istore_n d_F_block_1 (by decide) ?_
  refine E_F_block_2 (r := r) (sz := sz) hq _ _ _ h
theorem E_F_serveWaiting_10 {G : bm_G} {f : Nat} {l0 : Nat} {r : Int32} {sz : cx_S} {Q : bm_R → cx_S → Prop} (hq : Q (.inl none) sz) : ∀ (n : Nat) (l1 : Int32) (d2 : Option Value) (s : cx_S), D_F_serveWaiting_10 f l0 n l1 s = some (r, sz) → cx G me_F_serveWaiting 10 [some (va_rf (some l0)), some (.int (l1)), d2] [] s Q := by
  intro n
  induction n with
  | zero =>
    intro l1 d2 s h
    rw [D_F_serveWaiting_10] at h
    exact absurd h (by simp)
  | succ n ih =>
    intro l1 d2 s h
    rw [D_F_serveWaiting_10] at h
    refine cx_iload_n d_F_serveWaiting_10 rfl ?_
    refine cx_aload_n d_F_serveWaiting_11 rfl ?_
    obtain ⟨p4, ep4, hp4, h⟩ := oc_inv h
    refine cx_geti 36 rfl g_F_serveWaiting_12 rfl (by decide) ep4 hp4 ?_
    refine cx_icmp_ge (tgt := 84) d_F_serveWaiting_15 (by decide) (fun hc15 => ?_) (fun hc15 => ?_)
    · rw [if_pos hc15] at h
      exact cx_vret d_F_serveWaiting_84 rfl (ox_v hq h)
    · rw [if_neg hc15] at h
      refine cx_aload_n d_F_serveWaiting_18 rfl ?_
      refine cx_getr 35 rfl g_F_serveWaiting_19 rfl (by decide) ep4 hp4 ?_
      refine cx_iload_n d_F_serveWaiting_22 rfl ?_
      obtain ⟨a5, na5, j6, ea5, ha5, hj6, gj6, ej6, h⟩ := oa_inv h
      refine cx_aald (t := 4) 404 rfl d_F_serveWaiting_23 (by decide) rfl ea5 ha5 hj6 gj6 ej6 ?_
      refine cx_astore_n d_F_serveWaiting_24 (by decide) ?_
      refine cx_aload_n d_F_serveWaiting_25 rfl ?_
      obtain ⟨p7, ep7, hp7, h⟩ := oc_inv h
      refine cx_geti 20 rfl g_F_serveWaiting_26 rfl (by decide) ep7 hp7 ?_
      refine cx_iconst (v := nI 1) d_F_serveWaiting_29 (by decide) ?_
      refine oj_step (P := fun J8 : cx_S → Option (Int32 × cx_S) => ∀ (s9 : cx_S) (d2 : Option Value), J8 s9 = some (r, sz) → cx G me_F_serveWaiting 78 [some (va_rf (some l0)), some (.int (l1)), d2] [] s9 Q) h ?_ ?_
      · intro s9 d2 h
        refine cx_iincP d_F_serveWaiting_78 (by decide) rfl ?_
        refine cx_goto (tgt := 10) d_F_serveWaiting_81 (by decide) ?_
        exact ih _ _ _ h
      clear h
      intro J8 hJ1 h
      refine cx_icmp_eq (tgt := 36) d_F_serveWaiting_30 (by decide) (fun hc30 => ?_) (fun hc30 => ?_)
      · rw [if_pos hc30] at h
        refine cx_aload_n d_F_serveWaiting_36 rfl ?_
        refine cx_aload_n d_F_serveWaiting_37 rfl ?_
        refine cx_getr 18 rfl g_F_serveWaiting_38 rfl (by decide) ep7 hp7 ?_
        obtain ⟨x10, s11, ex10, h⟩ := ob_inv h
        refine cx_callV1 c_F_serveWaiting_41 (cx_hst (fun _ q => nomatch q) (Nat.le_of_ble_eq_true rfl)) (by decide) ep4 hp4 (E_F_mayClaim ex10 ?_)
        refine cx_if_eq (tgt := 70) d_F_serveWaiting_44 (by decide) (fun hc44 => ?_) (fun hc44 => ?_)
        · rw [if_pos hc44] at h
          refine cx_aload_n d_F_serveWaiting_70 rfl ?_
          refine cx_aload_n d_F_serveWaiting_71 rfl ?_
          obtain ⟨p12, ep12, hp12, h⟩ := oc_inv h
          refine cx_getr 18 rfl g_F_serveWaiting_72 rfl (by decide) ep12 hp12 ?_
          obtain ⟨p13, ep13, hp13, h⟩ := oc_inv h
          obtain ⟨x14, s15, ex14, h⟩ := ob_inv h
          refine cx_callV1v c_F_serveWaiting_75 (cx_hst (fun _ q => nomatch q) (Nat.le_of_ble_eq_true rfl)) (by decide) ep13 hp13 (E_F_block ex14 ?_)
          exact hJ1 _ _ h
        · rw [if_neg hc44] at h
          refine cx_aload_n d_F_serveWaiting_47 rfl ?_
          refine cx_aload_n d_F_serveWaiting_48 rfl ?_
          obtain ⟨p16, ep16, hp16, h⟩ := oc_inv h
          obtain ⟨x17, s18, ex17, h⟩ := ob_inv h
          refine cx_callV1v c_F_serveWaiting_49 (cx_hst (fun _ q => nomatch q) (Nat.le_of_ble_eq_true rfl)) (by decide) ep16 hp16 (E_F_takeUnits ex17 ?_)
          refine cx_aload_n d_F_serveWaiting_52 rfl ?_
          refine cx_iconst (v := nI 2) d_F_serveWaiting_53 (by decide) ?_
          obtain ⟨p19, ep19, hp19, h⟩ := oc_inv h
          refine cx_puti 20 rfl p_F_serveWaiting_54 rfl (by decide) rfl rfl ep19 hp19 ?_
          refine cx_aload_n d_F_serveWaiting_57 rfl ?_
          refine cx_iconst (v := nI 0) d_F_serveWaiting_58 (by decide) ?_
          obtain ⟨x20, s21, ex20, h⟩ := ob_inv h
          refine cx_callV1v c_F_serveWaiting_59 (cx_hst (fun _ q => nomatch q) (Nat.le_of_ble_eq_true rfl)) (by decide) ep19 hp19 (E_B_addToken ex20 ?_)
          refine cx_aload_n d_F_serveWaiting_62 rfl ?_
          refine cx_aload_n d_F_serveWaiting_63 rfl ?_
          obtain ⟨p22, ep22, hp22, h⟩ := oc_inv h
          obtain ⟨x23, s24, ex23, h⟩ := ob_inv h
          refine cx_callV1v c_F_serveWaiting_64 (cx_hst (fun _ q => nomatch q) (Nat.le_of_ble_eq_true rfl)) (by decide) ep22 hp22 (E_F_moveTokens ex23 ?_)
          refine cx_goto (tgt := 78) d_F_serveWaiting_67 (by decide) ?_
          exact hJ1 _ _ h
      · rw [if_neg hc30] at h
        refine cx_goto (tgt := 78) d_F_serveWaiting_33 (by decide) ?_
        exact hJ1 _ _ h
theorem E_F_serveWaiting {G : bm_G} {f : Nat} {l0 : Nat} {s sz : cx_S} {r : Int32} {Q : cx_S → Prop} (h : D_F_serveWaiting f l0 s = some (r, sz)) (hq : Q sz) : cx_Tv G me_F_serveWaiting [va_rf (some l0)] s Q := by
  refine cx_metv (by decide) (List.forall_mem_cons.mpr ⟨cx_cat, (fun _ q => nomatch q)⟩) (Nat.le_of_ble_eq_true rfl) ?_
  generalize hQ : (fun (v : bm_R) (s2 : cx_S) => v = .inl none ∧ Q s2) = Q2
  replace hq : Q2 (.inl none) sz := by rw [← hQ]; exact ⟨rfl, hq⟩
  clear hQ
  unfold D_F_serveWaiting at h
  refine cx_aload_n d_F_serveWaiting_0 rfl ?_
  obtain ⟨p1, ep1, hp1, h⟩ := oc_inv h
  refine cx_getr 37 rfl g_F_serveWaiting_1 rfl (by decide) ep1 hp1 ?_
  refine cx_iconst (v := nI 0) d_F_serveWaiting_4 (by decide) ?_
  obtain ⟨x2, s3, ex2, h⟩ := ob_inv h
  refine cx_callS2v c_F_serveWaiting_5 (cx_hst (fun _ q => nomatch q) (Nat.le_of_ble_eq_true rfl)) (E_A_fill ex2 ?_)
  refine cx_iconst (v := nI 0) d_F_serveWaiting_8 (by decide) ?_
  refine cx_istore_n d_F_serveWaiting_9 (by decide) ?_
  refine E_F_serveWaiting_10 (r := r) (sz := sz) hq _ _ _ _ h
theorem E_H_countBusy_4 {G : bm_G} {f : Nat} {l0 : Nat} {r : Int32} {sz : cx_S} {Q : bm_R → cx_S → Prop} (hq : Q (.inl (some (.int (r)))) sz) : ∀ (n : Nat) (l1 : Int32) (l2 : Int32) (d3 : Option Value) (s : cx_S), D_H_countBusy_4 f l0 n l1 l2 s = some (r, sz) → cx G me_H_countBusy 4 [some (va_rf (some l0)), some (.int (l1)), some (.int (l2)), d3] [] s Q := by
  intro n
  induction n with
  | zero =>
    intro l1 l2 d3 s h
    rw [D_H_countBusy_4] at h
    exact absurd h (by simp)
  | succ n ih =>
    intro l1 l2 d3 s h
    rw [D_H_countBusy_4] at h
    refine cx_iload_n d_H_countBusy_4 rfl ?_
    refine cx_aload_n d_H_countBusy_5 rfl ?_
    obtain ⟨p1, ep1, hp1, h⟩ := oc_inv h
    refine cx_geti 2 rfl g_H_countBusy_6 rfl (by decide) ep1 hp1 ?_
    refine cx_icmp_ge (tgt := 46) d_H_countBusy_9 (by decide) (fun hc9 => ?_) (fun hc9 => ?_)
    · rw [if_pos hc9] at h
      refine cx_iload_n d_H_countBusy_46 rfl ?_
      exact cx_iret d_H_countBusy_47 rfl (ox_i hq h)
    · rw [if_neg hc9] at h
      refine cx_aload_n d_H_countBusy_12 rfl ?_
      refine cx_getr 1 rfl g_H_countBusy_13 rfl (by decide) ep1 hp1 ?_
      refine cx_iload_n d_H_countBusy_16 rfl ?_
      obtain ⟨a2, na2, j3, ea2, ha2, hj3, gj3, ej3, h⟩ := oa_inv h
      refine cx_aald (t := 4) 404 rfl d_H_countBusy_17 (by decide) rfl ea2 ha2 hj3 gj3 ej3 ?_
      obtain ⟨p4, ep4, hp4, h⟩ := oc_inv h
      refine cx_geti 20 rfl g_H_countBusy_18 rfl (by decide) ep4 hp4 ?_
      refine cx_istore_n d_H_countBusy_21 (by decide) ?_
      refine cx_iload_n d_H_countBusy_22 rfl ?_
      refine cx_iconst (v := nI 2) d_H_countBusy_23 (by decide) ?_
      refine oj_step (P := fun J5 : Int32 → Option (Int32 × cx_S) => ∀ (v6 : Int32) (d3 : Option Value), J5 v6 = some (r, sz) → cx G me_H_countBusy 40 [some (va_rf (some l0)), some (.int (v6)), some (.int (l2)), d3] [] s Q) h ?_ ?_
      · intro v6 d3 h
        refine cx_iincP d_H_countBusy_40 (by decide) rfl ?_
        refine cx_goto (tgt := 4) d_H_countBusy_43 (by decide) ?_
        exact ih _ _ _ _ h
      clear h
      intro J5 hJ1 h
      refine oj_step (P := fun J7 : Unit → Option (Int32 × cx_S) => ∀ (_u : Unit) (d3 : Option Value), J7 () = some (r, sz) → cx G me_H_countBusy 37 [some (va_rf (some l0)), some (.int (l1)), some (.int (l2)), d3] [] s Q) h ?_ ?_
      · intro _u d3 h
        refine cx_iincP d_H_countBusy_37 (by decide) rfl ?_
        exact hJ1 _ _ h
      clear h
      intro J7 hJ2 h
      refine cx_icmp_eq (tgt := 37) d_H_countBusy_24 (by decide) (fun hc24 => ?_) (fun hc24 => ?_)
      · rw [if_pos hc24] at h
        exact hJ2 () _ h
      · rw [if_neg hc24] at h
        refine cx_iload_n d_H_countBusy_27 rfl ?_
        refine cx_iconst (v := nI 3) d_H_countBusy_28 (by decide) ?_
        refine cx_icmp_eq (tgt := 37) d_H_countBusy_29 (by decide) (fun hc29 => ?_) (fun hc29 => ?_)
        · rw [if_pos hc29] at h
          exact hJ2 () _ h
        · rw [if_neg hc29] at h
          refine cx_iload_n d_H_countBusy_32 rfl ?_
          refine cx_iconst (v := nI 4) d_H_countBusy_33 (by decide) ?_
          refine cx_icmp_ne (tgt := 40) d_H_countBusy_34 (by decide) (fun hc34 => ?_) (fun hc34 => ?_)
          · rw [if_neg hc34] at h
            exact hJ1 _ _ h
          · rw [if_pos hc34] at h
            exact hJ2 () _ h
theorem E_H_countBusy {G : bm_G} {f : Nat} {l0 : Nat} {s sz : cx_S} {r : Int32} {Q : Int32 → cx_S → Prop} (h : D_H_countBusy f l0 s = some (r, sz)) (hq : Q r sz) : cx_Ti G me_H_countBusy [va_rf (some l0)] s Q := by
  refine cx_meti (by decide) (List.forall_mem_cons.mpr ⟨cx_cat, (fun _ q => nomatch q)⟩) (Nat.le_of_ble_eq_true rfl) ?_
  generalize hQ : (fun (v : bm_R) (s2 : cx_S) => ∃ x, v = .inl (some (.int x)) ∧ Q x s2) = Q2
  replace hq : Q2 (.inl (some (.int (r)))) sz := by rw [← hQ]; exact ⟨_, rfl, hq⟩
  clear hQ
  unfold D_H_countBusy at h
  refine cx_iconst (v := nI 0) d_H_countBusy_0 (by decide) ?_
  refine cx_istore_n d_H_countBusy_1 (by decide) ?_
  refine cx_iconst (v := nI 0) d_H_countBusy_2 (by decide) ?_
  refine cx_istore_n d_H_countBusy_3 (by decide) ?_
  refine E_H_countBusy_4 (r := r) (sz := sz) hq _ _ _ _ _ h
theorem E_H_tick_2 {G : bm_G} {f : Nat} {l0 : Nat} {k61 : cx_S → Option (Int32 × cx_S)} {r : Int32} {sz : cx_S} {Q : bm_R → cx_S → Prop} (hq : Q (.inl (some (.int (r)))) sz) (hk61 : ∀ (d1 : Option Value) (d2 : Option Value) (s : cx_S), k61 s = some (r, sz) → cx G me_H_tick 61 [some (va_rf (some l0)), d1, d2] [] s Q) : ∀ (n : Nat) (l1 : Int32) (d2 : Option Value) (s : cx_S), D_H_tick_2 f l0 k61 n l1 s = some (r, sz) → cx G me_H_tick 2 [some (va_rf (some l0)), some (.int (l1)), d2] [] s Q := by
  intro n
  induction n with
  | zero =>
    intro l1 d2 s h
    rw [D_H_tick_2] at h
    exact absurd h (by simp)
  | succ n ih =>
    intro l1 d2 s h
    rw [D_H_tick_2] at h
    refine cx_iload_n d_H_tick_2 rfl ?_
    refine cx_aload_n d_H_tick_3 rfl ?_
    obtain ⟨p1, ep1, hp1, h⟩ := oc_inv h
    refine cx_geti 2 rfl g_H_tick_4 rfl (by decide) ep1 hp1 ?_
    refine cx_icmp_ge (tgt := 61) d_H_tick_7 (by decide) (fun hc7 => ?_) (fun hc7 => ?_)
    · rw [if_pos hc7] at h
      exact hk61 _ _ _ h
    · rw [if_neg hc7] at h
      refine cx_aload_n d_H_tick_10 rfl ?_
      refine cx_getr 1 rfl g_H_tick_11 rfl (by decide) ep1 hp1 ?_
      refine cx_iload_n d_H_tick_14 rfl ?_
      obtain ⟨a2, na2, j3, ea2, ha2, hj3, gj3, ej3, h⟩ := oa_inv h
      refine cx_aald (t := 4) 404 rfl d_H_tick_15 (by decide) rfl ea2 ha2 hj3 gj3 ej3 ?_
      refine cx_astore_n d_H_tick_16 (by decide) ?_
      refine cx_aload_n d_H_tick_17 rfl ?_
      obtain ⟨p4, ep4, hp4, h⟩ := oc_inv h
      refine cx_geti 20 rfl g_H_tick_18 rfl (by decide) ep4 hp4 ?_
      refine cx_iconst (v := nI 2) d_H_tick_21 (by decide) ?_
      refine oj_step (P := fun J5 : cx_S → Option (Int32 × cx_S) => ∀ (s6 : cx_S) (d2 : Option Value), J5 s6 = some (r, sz) → cx G me_H_tick 55 [some (va_rf (some l0)), some (.int (l1)), d2] [] s6 Q) h ?_ ?_
      · intro s6 d2 h
        refine cx_iincP d_H_tick_55 (by decide) rfl ?_
        refine cx_goto (tgt := 2) d_H_tick_58 (by decide) ?_
        exact ih _ _ _ h
      clear h
      intro J5 hJ1 h
      refine oj_step (P := fun J7 : Unit → Option (Int32 × cx_S) => ∀ (_u : Unit), J7 () = some (r, sz) → cx G me_H_tick 33 [some (va_rf (some l0)), some (.int (l1)), some (va_rf (cR s 404 a2 j3))] [] s Q) h ?_ ?_
      · intro _u h
        refine cx_aload_n d_H_tick_33 rfl ?_
        refine cx_getr 4 rfl g_H_tick_34 rfl (by decide) ep1 hp1 ?_
        refine cx_aload_n d_H_tick_37 rfl ?_
        obtain ⟨p8, ep8, hp8, h⟩ := oc_inv h
        obtain ⟨x9, s10, ex9, h⟩ := ob_inv h
        refine cx_callV1v c_H_tick_38 (cx_hst (fun _ q => nomatch q) (Nat.le_of_ble_eq_true rfl)) (by decide) ep8 hp8 (E_F_advance ex9 ?_)
        refine cx_aload_n d_H_tick_41 rfl ?_
        obtain ⟨p11, ep11, hp11, h⟩ := oc_inv h
        obtain ⟨x12, s13, ex12, h⟩ := ob_inv h
        refine cx_callV0 c_H_tick_42 (cx_hst (fun _ q => nomatch q) (Nat.le_of_ble_eq_true rfl)) (by decide) ep11 hp11 (E_B_isOver ex12 ?_)
        refine cx_if_eq (tgt := 55) d_H_tick_45 (by decide) (fun hc45 => ?_) (fun hc45 => ?_)
        · rw [if_pos hc45] at h
          exact hJ1 _ _ h
        · rw [if_neg hc45] at h
          refine cx_aload_n d_H_tick_48 rfl ?_
          obtain ⟨p14, ep14, hp14, h⟩ := oc_inv h
          refine cx_getr 4 rfl g_H_tick_49 rfl (by decide) ep14 hp14 ?_
          obtain ⟨p15, ep15, hp15, h⟩ := oc_inv h
          obtain ⟨x16, s17, ex16, h⟩ := ob_inv h
          refine cx_callV0v c_H_tick_52 (cx_hst (fun _ q => nomatch q) (Nat.le_of_ble_eq_true rfl)) (by decide) ep15 hp15 (E_F_serveWaiting ex16 ?_)
          exact hJ1 _ _ h
      clear h
      intro J7 hJ2 h
      refine cx_icmp_eq (tgt := 33) d_H_tick_22 (by decide) (fun hc22 => ?_) (fun hc22 => ?_)
      · rw [if_pos hc22] at h
        exact hJ2 () h
      · rw [if_neg hc22] at h
        refine cx_aload_n d_H_tick_25 rfl ?_
        refine cx_geti 20 rfl g_H_tick_26 rfl (by decide) ep4 hp4 ?_
        refine cx_iconst (v := nI 4) d_H_tick_29 (by decide) ?_
        refine cx_icmp_ne (tgt := 55) d_H_tick_30 (by decide) (fun hc30 => ?_) (fun hc30 => ?_)
        · rw [if_neg hc30] at h
          exact hJ1 _ _ h
        · rw [if_pos hc30] at h
          exact hJ2 () h
theorem E_H_tick {G : bm_G} {f : Nat} {l0 : Nat} {s sz : cx_S} {r : Int32} {Q : Int32 → cx_S → Prop} (h : D_H_tick f l0 s = some (r, sz)) (hq : Q r sz) : cx_Ti G me_H_tick [va_rf (some l0)] s Q := by
  refine cx_meti (by decide) (List.forall_mem_cons.mpr ⟨cx_cat, (fun _ q => nomatch q)⟩) (Nat.le_of_ble_eq_true rfl) ?_
  generalize hQ : (fun (v : bm_R) (s2 : cx_S) => ∃ x, v = .inl (some (.int x)) ∧ Q x s2) = Q2
  replace hq : Q2 (.inl (some (.int (r)))) sz := by rw [← hQ]; exact ⟨_, rfl, hq⟩
  clear hQ
  unfold D_H_tick at h
  refine cx_iconst (v := nI 0) d_H_tick_0 (by decide) ?_
  refine cx_istore_n d_H_tick_1 (by decide) ?_
  refine E_H_tick_2 (r := r) (sz := sz) hq ?_ _ _ _ _ h
  · intro d1 d2 s18 h
    refine cx_aload_n d_H_tick_61 rfl ?_
    obtain ⟨p19, ep19, hp19, h⟩ := oc_inv h
    obtain ⟨x20, s21, ex20, h⟩ := ob_inv h
    refine cx_callV0 c_H_tick_62 (cx_hst (fun _ q => nomatch q) (Nat.le_of_ble_eq_true rfl)) (by decide) ep19 hp19 (E_H_countBusy ex20 ?_)
    exact cx_iret d_H_tick_65 rfl (ox_i hq h)
theorem E_B_noteMeasured_9 {G : bm_G} {f : Nat} {l0 : Nat} {l1 : Int32} {r : Int32} {sz : cx_S} {Q : bm_R → cx_S → Prop} (hq : Q (.inl none) sz) : ∀ (n : Nat) (l3 : Int32) (d2 : Option Value) (d4 : Option Value) (s : cx_S), D_B_noteMeasured_9 f l0 l1 n l3 s = some (r, sz) → cx G me_B_noteMeasured 9 [some (va_rf (some l0)), some (.int (l1)), d2, some (.int (l3)), d4] [] s Q := by
  intro n
  induction n with
  | zero =>
    intro l3 d2 d4 s h
    rw [D_B_noteMeasured_9] at h
    exact absurd h (by simp)
  | succ n ih =>
    intro l3 d2 d4 s h
    rw [D_B_noteMeasured_9] at h
    refine cx_iload_n d_B_noteMeasured_9 rfl ?_
    refine cx_aload_n d_B_noteMeasured_10 rfl ?_
    obtain ⟨p4, ep4, hp4, h⟩ := oc_inv h
    refine cx_geti 21 rfl g_B_noteMeasured_11 rfl (by decide) ep4 hp4 ?_
    refine cx_icmp_ge (tgt := 82) d_B_noteMeasured_14 (by decide) (fun hc14 => ?_) (fun hc14 => ?_)
    · rw [if_pos hc14] at h
      exact cx_vret d_B_noteMeasured_82 rfl (ox_v hq h)
    · rw [if_neg hc14] at h
      refine cx_aload_n d_B_noteMeasured_17 rfl ?_
      refine cx_getr 18 rfl g_B_noteMeasured_18 rfl (by decide) ep4 hp4 ?_
      obtain ⟨p5, ep5, hp5, h⟩ := oc_inv h
      refine cx_getr 99 rfl g_B_noteMeasured_21 rfl (by decide) ep5 hp5 ?_
      refine cx_aload_n d_B_noteMeasured_24 rfl ?_
      refine cx_getr 22 rfl g_B_noteMeasured_25 rfl (by decide) ep4 hp4 ?_
      refine cx_iload_n d_B_noteMeasured_28 rfl ?_
      obtain ⟨a6, na6, j7, ea6, ha6, hj7, gj7, ej7, h⟩ := oa_inv h
      refine cx_aald (t := 8) 408 rfl d_B_noteMeasured_29 (by decide) rfl ea6 ha6 hj7 gj7 ej7 ?_
      obtain ⟨p8, ep8, hp8, h⟩ := oc_inv h
      refine cx_geti 144 rfl g_B_noteMeasured_30 rfl (by decide) ep8 hp8 ?_
      obtain ⟨a9, na9, j10, ea9, ha9, hj10, gj10, ej10, h⟩ := oa_inv h
      refine cx_aald (t := 7) 407 rfl d_B_noteMeasured_33 (by decide) rfl ea9 ha9 hj10 gj10 ej10 ?_
      refine cx_astore d_B_noteMeasured_34 (by decide) ?_
      refine cx_aload_n d_B_noteMeasured_36 rfl ?_
      refine cx_getr 22 rfl g_B_noteMeasured_37 rfl (by decide) ep4 hp4 ?_
      refine cx_iload_n d_B_noteMeasured_40 rfl ?_
      refine cx_aald (t := 8) 408 rfl d_B_noteMeasured_41 (by decide) rfl ea6 ha6 hj7 gj7 ej7 ?_
      refine cx_geti 145 rfl g_B_noteMeasured_42 rfl (by decide) ep8 hp8 ?_
      refine oj_step (P := fun J11 : cx_S → Option (Int32 × cx_S) => ∀ (s12 : cx_S) (d2 : Option Value) (d4 : Option Value), J11 s12 = some (r, sz) → cx G me_B_noteMeasured 76 [some (va_rf (some l0)), some (.int (l1)), d2, some (.int (l3)), d4] [] s12 Q) h ?_ ?_
      · intro s12 d2 d4 h
        refine cx_iincP d_B_noteMeasured_76 (by decide) rfl ?_
        refine cx_goto (tgt := 9) d_B_noteMeasured_79 (by decide) ?_
        exact ih _ _ _ _ h
      clear h
      intro J11 hJ1 h
      refine cx_if_eq (tgt := 76) d_B_noteMeasured_45 (by decide) (fun hc45 => ?_) (fun hc45 => ?_)
      · rw [if_pos hc45] at h
        exact hJ1 _ _ _ h
      · rw [if_neg hc45] at h
        refine cx_aload d_B_noteMeasured_48 rfl ?_
        obtain ⟨p13, ep13, hp13, h⟩ := oc_inv h
        refine cx_geti 128 rfl g_B_noteMeasured_50 rfl (by decide) ep13 hp13 ?_
        refine cx_iconst (v := nI 4) d_B_noteMeasured_53 (by decide) ?_
        refine cx_icmp_ne (tgt := 76) d_B_noteMeasured_54 (by decide) (fun hc54 => ?_) (fun hc54 => ?_)
        · rw [if_neg hc54] at h
          exact hJ1 _ _ _ h
        · rw [if_pos hc54] at h
          refine cx_aload d_B_noteMeasured_57 rfl ?_
          refine cx_geti 130 rfl g_B_noteMeasured_59 rfl (by decide) ep13 hp13 ?_
          refine cx_iload_n d_B_noteMeasured_62 rfl ?_
          refine cx_icmp_ne (tgt := 76) d_B_noteMeasured_63 (by decide) (fun hc63 => ?_) (fun hc63 => ?_)
          · rw [if_neg hc63] at h
            exact hJ1 _ _ _ h
          · rw [if_pos hc63] at h
            refine cx_aload_n d_B_noteMeasured_66 rfl ?_
            refine cx_getr 22 rfl g_B_noteMeasured_67 rfl (by decide) ep4 hp4 ?_
            refine cx_iload_n d_B_noteMeasured_70 rfl ?_
            refine cx_aald (t := 8) 408 rfl d_B_noteMeasured_71 (by decide) rfl ea6 ha6 hj7 gj7 ej7 ?_
            refine cx_iconst (v := nI 0) d_B_noteMeasured_72 (by decide) ?_
            refine cx_puti 146 rfl p_B_noteMeasured_73 rfl (by decide) rfl rfl ep8 hp8 ?_
            exact hJ1 _ _ _ h
theorem E_B_noteMeasured {G : bm_G} {f : Nat} {l0 : Nat} {l1 : Int32} {l2 : Int32} {s sz : cx_S} {r : Int32} {Q : cx_S → Prop} (h : D_B_noteMeasured f l0 l1 l2 s = some (r, sz)) (hq : Q sz) : cx_Tv G me_B_noteMeasured [va_rf (some l0), .int (l1), .int (l2)] s Q := by
  refine cx_metv (by decide) (List.forall_mem_cons.mpr ⟨cx_cat, (List.forall_mem_cons.mpr ⟨rfl, (List.forall_mem_cons.mpr ⟨rfl, (fun _ q => nomatch q)⟩)⟩)⟩) (Nat.le_of_ble_eq_true rfl) ?_
  generalize hQ : (fun (v : bm_R) (s2 : cx_S) => v = .inl none ∧ Q s2) = Q2
  replace hq : Q2 (.inl none) sz := by rw [← hQ]; exact ⟨rfl, hq⟩
  clear hQ
  unfold D_B_noteMeasured at h
  refine cx_aload_n d_B_noteMeasured_0 rfl ?_
  obtain ⟨p1, ep1, hp1, h⟩ := oc_inv h
  refine cx_getr 23 rfl g_B_noteMeasured_1 rfl (by decide) ep1 hp1 ?_
  refine cx_iload_n d_B_noteMeasured_4 rfl ?_
  refine cx_iload_n d_B_noteMeasured_5 rfl ?_
  obtain ⟨a2, na2, j3, ea2, ha2, hj3, gj3, ej3, h⟩ := oa_inv h
  refine cx_iast d_B_noteMeasured_6 ea2 ha2 hj3 gj3 ej3 ?_
  refine cx_iconst (v := nI 0) d_B_noteMeasured_7 (by decide) ?_
  refine cx_istore_n d_B_noteMeasured_8 (by decide) ?_
  refine E_B_noteMeasured_9 (r := r) (sz := sz) hq _ _ _ _ _ h
