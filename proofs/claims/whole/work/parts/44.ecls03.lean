theorem E_B_findPartner_2 {G : bm_G} {f : Nat} {l0 : Nat} {l1 : Option Nat} {k49 : cx_S → Option (Option Nat × cx_S)} {k36 : Int32 → cx_S → Option (Option Nat × cx_S)} {r : Option Nat} {sz : cx_S} {Q : bm_R → cx_S → Prop} (hq : Q (.inl (some (va_rf (r)))) sz) (hk49 : ∀ (d0 : Option Value) (d1 : Option Value) (d2 : Option Value) (s : cx_S), k49 s = some (r, sz) → cx G me_B_findPartner 49 [d0, d1, d2] [] s Q) (hk36 : ∀ (q2 : Int32) (d1 : Option Value) (s : cx_S), k36 q2 s = some (r, sz) → cx G me_B_findPartner 36 [some (va_rf (some l0)), d1, some (.int (q2))] [] s Q) : ∀ (n : Nat) (l2 : Int32) (s : cx_S), D_B_findPartner_2 f l0 l1 k49 k36 n l2 s = some (r, sz) → cx G me_B_findPartner 2 [some (va_rf (some l0)), some (va_rf (l1)), some (.int (l2))] [] s Q := by
  intro n
  induction n with
  | zero =>
    intro l2 s h
    rw [D_B_findPartner_2] at h
    exact absurd h (by simp)
  | succ n ih =>
    intro l2 s h
    rw [D_B_findPartner_2] at h
    refine cx_iload_n d_B_findPartner_2 rfl ?_
    refine cx_aload_n d_B_findPartner_3 rfl ?_
    obtain ⟨p1, ep1, hp1, h⟩ := oc_inv h
    refine cx_geti 21 rfl g_B_findPartner_4 rfl (by decide) ep1 hp1 ?_
    refine cx_icmp_ge (tgt := 49) d_B_findPartner_7 (by decide) (fun hc7 => ?_) (fun hc7 => ?_)
    · rw [if_pos hc7] at h
      exact hk49 _ _ _ _ h
    · rw [if_neg hc7] at h
      refine cx_aload_n d_B_findPartner_10 rfl ?_
      refine cx_getr 22 rfl g_B_findPartner_11 rfl (by decide) ep1 hp1 ?_
      refine cx_iload_n d_B_findPartner_14 rfl ?_
      obtain ⟨a2, na2, j3, ea2, ha2, hj3, gj3, ej3, h⟩ := oa_inv h
      refine cx_aald (t := 8) 408 rfl d_B_findPartner_15 (by decide) rfl ea2 ha2 hj3 gj3 ej3 ?_
      refine cx_aload_n d_B_findPartner_16 rfl ?_
      refine oj_step (P := fun J4 : Unit → Option (Option Nat × cx_S) => ∀ (_u : Unit), J4 () = some (r, sz) → cx G me_B_findPartner 43 [some (va_rf (some l0)), some (va_rf (l1)), some (.int (l2))] [] s Q) h ?_ ?_
      · intro _u h
        refine cx_iincP d_B_findPartner_43 (by decide) rfl ?_
        refine cx_goto (tgt := 2) d_B_findPartner_46 (by decide) ?_
        exact ih _ _ h
      clear h
      intro J4 hJ1 h
      obtain ⟨hv17, h⟩ := o2_inv h
      obtain ⟨hw17, h⟩ := o2_inv h
      refine cx_acmp_eq (tgt := 43) d_B_findPartner_17 (by decide) hv17 hw17 (fun hc17 => ?_) (fun hc17 => ?_)
      · rw [if_pos hc17] at h
        exact hJ1 () h
      · rw [if_neg hc17] at h
        refine cx_aload_n d_B_findPartner_20 rfl ?_
        refine cx_getr 22 rfl g_B_findPartner_21 rfl (by decide) ep1 hp1 ?_
        refine cx_iload_n d_B_findPartner_24 rfl ?_
        refine cx_aald (t := 8) 408 rfl d_B_findPartner_25 (by decide) rfl ea2 ha2 hj3 gj3 ej3 ?_
        obtain ⟨p5, ep5, hp5, h⟩ := oc_inv h
        refine cx_geti 144 rfl g_B_findPartner_26 rfl (by decide) ep5 hp5 ?_
        refine cx_aload_n d_B_findPartner_29 rfl ?_
        obtain ⟨p6, ep6, hp6, h⟩ := oc_inv h
        refine cx_geti 144 rfl g_B_findPartner_30 rfl (by decide) ep6 hp6 ?_
        refine cx_icmp_ne (tgt := 43) d_B_findPartner_33 (by decide) (fun hc33 => ?_) (fun hc33 => ?_)
        · rw [if_neg hc33] at h
          exact hJ1 () h
        · rw [if_pos hc33] at h
          exact hk36 _ _ _ h
theorem E_B_findPartner {G : bm_G} {f : Nat} {l0 : Nat} {l1 : Option Nat} {s sz : cx_S} {r : Option Nat} {Q : Option Nat → cx_S → Prop} (h : D_B_findPartner f l0 l1 s = some (r, sz)) (hq : Q r sz) : cx_Tr G me_B_findPartner [va_rf (some l0), va_rf (l1)] s Q := by
  refine cx_metr (by decide) (List.forall_mem_cons.mpr ⟨cx_cat, (List.forall_mem_cons.mpr ⟨cx_cat, (fun _ q => nomatch q)⟩)⟩) (Nat.le_of_ble_eq_true rfl) ?_
  generalize hQ : (fun (v : bm_R) (s2 : cx_S) => ∃ x, v = .inl (some (va_rf (x))) ∧ Q x s2) = Q2
  replace hq : Q2 (.inl (some (va_rf (r)))) sz := by rw [← hQ]; exact ⟨_, rfl, hq⟩
  clear hQ
  unfold D_B_findPartner at h
  refine cx_iconst (v := nI 0) d_B_findPartner_0 (by decide) ?_
  refine cx_istore_n d_B_findPartner_1 (by decide) ?_
  refine E_B_findPartner_2 (r := r) (sz := sz) hq ?_ ?_ _ _ _ h
  · intro d0 d1 d2 s7 h
    refine cx_null d_B_findPartner_49 ?_
    exact cx_aret d_B_findPartner_50 rfl (Or.inl ⟨_, rfl⟩) (ox_r hq h)
  · intro v8 d1 s9 h
    refine cx_aload_n d_B_findPartner_36 rfl ?_
    obtain ⟨p10, ep10, hp10, h⟩ := oc_inv h
    refine cx_getr 22 rfl g_B_findPartner_37 rfl (by decide) ep10 hp10 ?_
    refine cx_iload_n d_B_findPartner_40 rfl ?_
    obtain ⟨a11, na11, j12, ea11, ha11, hj12, gj12, ej12, h⟩ := oa_inv h
    refine cx_aald (t := 8) 408 rfl d_B_findPartner_41 (by decide) rfl ea11 ha11 hj12 gj12 ej12 ?_
    exact cx_aret d_B_findPartner_42 rfl (Or.inl ⟨_, rfl⟩) (ox_r hq h)
theorem E_B_placeOf_2 {G : bm_G} {f : Nat} {l0 : Nat} {l1 : Option Nat} {r : Int32} {sz : cx_S} {Q : bm_R → cx_S → Prop} (hq : Q (.inl (some (.int (r)))) sz) : ∀ (n : Nat) (l2 : Int32) (s : cx_S), D_B_placeOf_2 f l0 l1 n l2 s = some (r, sz) → cx G me_B_placeOf 2 [some (va_rf (some l0)), some (va_rf (l1)), some (.int (l2))] [] s Q := by
  intro n
  induction n with
  | zero =>
    intro l2 s h
    rw [D_B_placeOf_2] at h
    exact absurd h (by simp)
  | succ n ih =>
    intro l2 s h
    rw [D_B_placeOf_2] at h
    refine cx_iload_n d_B_placeOf_2 rfl ?_
    refine cx_aload_n d_B_placeOf_3 rfl ?_
    obtain ⟨p1, ep1, hp1, h⟩ := oc_inv h
    refine cx_geti 21 rfl g_B_placeOf_4 rfl (by decide) ep1 hp1 ?_
    refine cx_icmp_ge (tgt := 28) d_B_placeOf_7 (by decide) (fun hc7 => ?_) (fun hc7 => ?_)
    · rw [if_pos hc7] at h
      refine cx_iconst (v := (-1)) d_B_placeOf_28 (by decide) ?_
      exact cx_iret d_B_placeOf_29 rfl (ox_i hq h)
    · rw [if_neg hc7] at h
      refine cx_aload_n d_B_placeOf_10 rfl ?_
      refine cx_getr 22 rfl g_B_placeOf_11 rfl (by decide) ep1 hp1 ?_
      refine cx_iload_n d_B_placeOf_14 rfl ?_
      obtain ⟨a2, na2, j3, ea2, ha2, hj3, gj3, ej3, h⟩ := oa_inv h
      refine cx_aald (t := 8) 408 rfl d_B_placeOf_15 (by decide) rfl ea2 ha2 hj3 gj3 ej3 ?_
      refine cx_aload_n d_B_placeOf_16 rfl ?_
      obtain ⟨hv17, h⟩ := o2_inv h
      obtain ⟨hw17, h⟩ := o2_inv h
      refine cx_acmp_ne (tgt := 22) d_B_placeOf_17 (by decide) hv17 hw17 (fun hc17 => ?_) (fun hc17 => ?_)
      · rw [if_neg hc17] at h
        refine cx_iincP d_B_placeOf_22 (by decide) rfl ?_
        refine cx_goto (tgt := 2) d_B_placeOf_25 (by decide) ?_
        exact ih _ _ h
      · rw [if_pos hc17] at h
        refine cx_iload_n d_B_placeOf_20 rfl ?_
        exact cx_iret d_B_placeOf_21 rfl (ox_i hq h)
theorem E_B_placeOf {G : bm_G} {f : Nat} {l0 : Nat} {l1 : Option Nat} {s sz : cx_S} {r : Int32} {Q : Int32 → cx_S → Prop} (h : D_B_placeOf f l0 l1 s = some (r, sz)) (hq : Q r sz) : cx_Ti G me_B_placeOf [va_rf (some l0), va_rf (l1)] s Q := by
  refine cx_meti (by decide) (List.forall_mem_cons.mpr ⟨cx_cat, (List.forall_mem_cons.mpr ⟨cx_cat, (fun _ q => nomatch q)⟩)⟩) (Nat.le_of_ble_eq_true rfl) ?_
  generalize hQ : (fun (v : bm_R) (s2 : cx_S) => ∃ x, v = .inl (some (.int x)) ∧ Q x s2) = Q2
  replace hq : Q2 (.inl (some (.int (r)))) sz := by rw [← hQ]; exact ⟨_, rfl, hq⟩
  clear hQ
  unfold D_B_placeOf at h
  refine cx_iconst (v := nI 0) d_B_placeOf_0 (by decide) ?_
  refine cx_istore_n d_B_placeOf_1 (by decide) ?_
  refine E_B_placeOf_2 (r := r) (sz := sz) hq _ _ _ h
theorem E_B_removeToken_14 {G : bm_G} {f : Nat} {l0 : Nat} {l1 : Option Nat} {k44 : cx_S → Option (Int32 × cx_S)} {r : Int32} {sz : cx_S} {Q : bm_R → cx_S → Prop} (hq : Q (.inl none) sz) (hk44 : ∀ (d2 : Option Value) (d3 : Option Value) (s : cx_S), k44 s = some (r, sz) → cx G me_B_removeToken 44 [some (va_rf (some l0)), some (va_rf (l1)), d2, d3] [] s Q) : ∀ (n : Nat) (l3 : Int32) (d2 : Option Value) (s : cx_S), D_B_removeToken_14 f l0 l1 k44 n l3 s = some (r, sz) → cx G me_B_removeToken 14 [some (va_rf (some l0)), some (va_rf (l1)), d2, some (.int (l3))] [] s Q := by
  intro n
  induction n with
  | zero =>
    intro l3 d2 s h
    rw [D_B_removeToken_14] at h
    exact absurd h (by simp)
  | succ n ih =>
    intro l3 d2 s h
    rw [D_B_removeToken_14] at h
    refine cx_iload_n d_B_removeToken_14 rfl ?_
    refine cx_iconst (v := nI 1) d_B_removeToken_15 (by decide) ?_
    refine cx_iadd d_B_removeToken_16 ?_
    refine cx_aload_n d_B_removeToken_17 rfl ?_
    obtain ⟨p4, ep4, hp4, h⟩ := oc_inv h
    refine cx_geti 21 rfl g_B_removeToken_18 rfl (by decide) ep4 hp4 ?_
    refine cx_icmp_ge (tgt := 44) d_B_removeToken_21 (by decide) (fun hc21 => ?_) (fun hc21 => ?_)
    · rw [if_pos hc21] at h
      exact hk44 _ _ _ h
    · rw [if_neg hc21] at h
      refine cx_aload_n d_B_removeToken_24 rfl ?_
      refine cx_getr 22 rfl g_B_removeToken_25 rfl (by decide) ep4 hp4 ?_
      refine cx_iload_n d_B_removeToken_28 rfl ?_
      refine cx_aload_n d_B_removeToken_29 rfl ?_
      refine cx_getr 22 rfl g_B_removeToken_30 rfl (by decide) ep4 hp4 ?_
      refine cx_iload_n d_B_removeToken_33 rfl ?_
      refine cx_iconst (v := nI 1) d_B_removeToken_34 (by decide) ?_
      refine cx_iadd d_B_removeToken_35 ?_
      obtain ⟨a5, na5, j6, ea5, ha5, hj6, gj6, ej6, h⟩ := oa_inv h
      refine cx_aald (t := 8) 408 rfl d_B_removeToken_36 (by decide) rfl ea5 ha5 hj6 gj6 ej6 ?_
      obtain ⟨p7, ep7, hp7, h⟩ := oc_inv h
      obtain ⟨a8, na8, j9, ea8, ha8, hj9, gj9, ej9, h⟩ := oa_inv h
      refine cx_aast (t := 8) (ci := 9) 408 rfl d_B_removeToken_37 (by decide) rfl rfl (by decide) ep7 hp7 ea8 ha8 hj9 gj9 ej9 ?_
      refine cx_iincP d_B_removeToken_38 (by decide) rfl ?_
      refine cx_goto (tgt := 14) d_B_removeToken_41 (by decide) ?_
      exact ih _ _ _ h
theorem E_B_removeToken {G : bm_G} {f : Nat} {l0 : Nat} {l1 : Option Nat} {s sz : cx_S} {r : Int32} {Q : cx_S → Prop} (h : D_B_removeToken f l0 l1 s = some (r, sz)) (hq : Q sz) : cx_Tv G me_B_removeToken [va_rf (some l0), va_rf (l1)] s Q := by
  refine cx_metv (by decide) (List.forall_mem_cons.mpr ⟨cx_cat, (List.forall_mem_cons.mpr ⟨cx_cat, (fun _ q => nomatch q)⟩)⟩) (Nat.le_of_ble_eq_true rfl) ?_
  generalize hQ : (fun (v : bm_R) (s2 : cx_S) => v = .inl none ∧ Q s2) = Q2
  replace hq : Q2 (.inl none) sz := by rw [← hQ]; exact ⟨rfl, hq⟩
  clear hQ
  unfold D_B_removeToken at h
  refine cx_aload_n d_B_removeToken_0 rfl ?_
  refine cx_aload_n d_B_removeToken_1 rfl ?_
  obtain ⟨p1, ep1, hp1, h⟩ := oc_inv h
  obtain ⟨x2, s3, ex2, h⟩ := ob_inv h
  refine cx_callV1 c_B_removeToken_2 (cx_hst (fun _ q => nomatch q) (Nat.le_of_ble_eq_true rfl)) (by decide) ep1 hp1 (E_B_placeOf ex2 ?_)
  refine cx_istore_n d_B_removeToken_5 (by decide) ?_
  refine cx_iload_n d_B_removeToken_6 rfl ?_
  refine cx_iconst (v := (-1)) d_B_removeToken_7 (by decide) ?_
  refine cx_icmp_ne (tgt := 12) d_B_removeToken_8 (by decide) (fun hc8 => ?_) (fun hc8 => ?_)
  · rw [if_neg hc8] at h
    refine cx_iload_n d_B_removeToken_12 rfl ?_
    refine cx_istore_n d_B_removeToken_13 (by decide) ?_
    refine E_B_removeToken_14 (r := r) (sz := sz) hq ?_ _ _ _ _ h
    · intro d2 d3 s10 h
      refine cx_aload_n d_B_removeToken_44 rfl ?_
      refine cx_dup d_B_removeToken_45 (by first | rfl | exact cx_cat) ?_
      obtain ⟨p11, ep11, hp11, h⟩ := oc_inv h
      refine cx_geti 21 rfl g_B_removeToken_46 rfl (by decide) ep11 hp11 ?_
      refine cx_iconst (v := nI 1) d_B_removeToken_49 (by decide) ?_
      refine cx_isub d_B_removeToken_50 ?_
      refine cx_puti 21 rfl p_B_removeToken_51 rfl (by decide) rfl rfl ep11 hp11 ?_
      refine cx_aload_n d_B_removeToken_54 rfl ?_
      refine cx_getr 22 rfl g_B_removeToken_55 rfl (by decide) ep11 hp11 ?_
      refine cx_aload_n d_B_removeToken_58 rfl ?_
      refine cx_geti 21 rfl g_B_removeToken_59 rfl (by decide) ep11 hp11 ?_
      refine cx_aload_n d_B_removeToken_62 rfl ?_
      obtain ⟨p12, ep12, hp12, h⟩ := oc_inv h
      obtain ⟨a13, na13, j14, ea13, ha13, hj14, gj14, ej14, h⟩ := oa_inv h
      refine cx_aast (t := 8) (ci := 9) 408 rfl d_B_removeToken_63 (by decide) rfl rfl (by decide) ep12 hp12 ea13 ha13 hj14 gj14 ej14 ?_
      exact cx_vret d_B_removeToken_64 rfl (ox_v hq h)
  · rw [if_pos hc8] at h
    exact cx_vret d_B_removeToken_11 rfl (ox_v hq h)
theorem E_B_countRound {G : bm_G} {f : Nat} {l0 : Nat} {l1 : Int32} {l2 : Option Nat} {s sz : cx_S} {r : Int32} {Q : Int32 → cx_S → Prop} (h : D_B_countRound f l0 l1 l2 s = some (r, sz)) (hq : Q r sz) : cx_Ti G me_B_countRound [va_rf (some l0), .int (l1), va_rf (l2)] s Q := by
  refine cx_meti (by decide) (List.forall_mem_cons.mpr ⟨cx_cat, (List.forall_mem_cons.mpr ⟨rfl, (List.forall_mem_cons.mpr ⟨cx_cat, (fun _ q => nomatch q)⟩)⟩)⟩) (Nat.le_of_ble_eq_true rfl) ?_
  generalize hQ : (fun (v : bm_R) (s2 : cx_S) => ∃ x, v = .inl (some (.int x)) ∧ Q x s2) = Q2
  replace hq : Q2 (.inl (some (.int (r)))) sz := by rw [← hQ]; exact ⟨_, rfl, hq⟩
  clear hQ
  unfold D_B_countRound at h
  refine cx_aload_n d_B_countRound_0 rfl ?_
  obtain ⟨p1, ep1, hp1, h⟩ := oc_inv h
  refine cx_getr 24 rfl g_B_countRound_1 rfl (by decide) ep1 hp1 ?_
  refine cx_iload_n d_B_countRound_4 rfl ?_
  obtain ⟨a2, na2, j3, ea2, ha2, hj3, gj3, ej3, h⟩ := oa_inv h
  refine cx_iald d_B_countRound_5 ea2 ha2 hj3 gj3 ej3 ?_
  refine cx_aload_n d_B_countRound_6 rfl ?_
  obtain ⟨p4, ep4, hp4, h⟩ := oc_inv h
  refine cx_geti 129 rfl g_B_countRound_7 rfl (by decide) ep4 hp4 ?_
  refine cx_icmp_ge (tgt := 28) d_B_countRound_10 (by decide) (fun hc10 => ?_) (fun hc10 => ?_)
  · rw [if_pos hc10] at h
    refine cx_aload_n d_B_countRound_28 rfl ?_
    refine cx_getr 24 rfl g_B_countRound_29 rfl (by decide) ep1 hp1 ?_
    refine cx_iload_n d_B_countRound_32 rfl ?_
    refine cx_iconst (v := nI 0) d_B_countRound_33 (by decide) ?_
    refine cx_iast d_B_countRound_34 ea2 ha2 hj3 gj3 ej3 ?_
    refine cx_aload_n d_B_countRound_35 rfl ?_
    refine cx_geti 132 rfl g_B_countRound_36 rfl (by decide) ep4 hp4 ?_
    exact cx_iret d_B_countRound_39 rfl (ox_i hq h)
  · rw [if_neg hc10] at h
    refine cx_aload_n d_B_countRound_13 rfl ?_
    refine cx_getr 24 rfl g_B_countRound_14 rfl (by decide) ep1 hp1 ?_
    refine cx_iload_n d_B_countRound_17 rfl ?_
    refine cx_dup2 d_B_countRound_18 (by first | rfl | exact cx_cat) (by first | rfl | exact cx_cat) ?_
    refine cx_iald d_B_countRound_19 ea2 ha2 hj3 gj3 ej3 ?_
    refine cx_iconst (v := nI 1) d_B_countRound_20 (by decide) ?_
    refine cx_iadd d_B_countRound_21 ?_
    refine cx_iast d_B_countRound_22 ea2 ha2 hj3 gj3 ej3 ?_
    refine cx_aload_n d_B_countRound_23 rfl ?_
    refine cx_geti 133 rfl g_B_countRound_24 rfl (by decide) ep4 hp4 ?_
    exact cx_iret d_B_countRound_27 rfl (ox_i hq h)
theorem E_S_usesRole {G : bm_G} {f : Nat} {l0 : Nat} {l1 : Int32} {s sz : cx_S} {r : Int32} {Q : Int32 → cx_S → Prop} (h : D_S_usesRole f l0 l1 s = some (r, sz)) (hq : Q r sz) : cx_Ti G me_S_usesRole [va_rf (some l0), .int (l1)] s Q := by
  refine cx_meti (by decide) (List.forall_mem_cons.mpr ⟨cx_cat, (List.forall_mem_cons.mpr ⟨rfl, (fun _ q => nomatch q)⟩)⟩) (Nat.le_of_ble_eq_true rfl) ?_
  generalize hQ : (fun (v : bm_R) (s2 : cx_S) => ∃ x, v = .inl (some (.int x)) ∧ Q x s2) = Q2
  replace hq : Q2 (.inl (some (.int (r)))) sz := by rw [← hQ]; exact ⟨_, rfl, hq⟩
  clear hQ
  unfold D_S_usesRole at h
  refine cx_aload_n d_S_usesRole_0 rfl ?_
  obtain ⟨p1, ep1, hp1, h⟩ := oc_inv h
  refine cx_geti 128 rfl g_S_usesRole_1 rfl (by decide) ep1 hp1 ?_
  refine cx_iconst (v := nI 4) d_S_usesRole_4 (by decide) ?_
  refine oj_step (P := fun J2 : Int32 → Option (Int32 × cx_S) => ∀ (x3 : Int32) (d0 : Option Value) (d1 : Option Value), J2 x3 = some (r, sz) → cx G me_S_usesRole 37 [d0, d1] [.int (x3)] s Q2) h ?_ ?_
  · intro x3 d0 d1 h
    obtain ⟨hz, h⟩ := ozb_inv h
    exact cx_zret d_S_usesRole_37 rfl (ozb_nar hz) (ox_i hq h)
  clear h
  intro J2 hJ1 h
  refine oj_step (P := fun J4 : Unit → Option (Int32 × cx_S) => ∀ (_u : Unit) (d0 : Option Value) (d1 : Option Value), J4 () = some (r, sz) → cx G me_S_usesRole 36 [d0, d1] [] s Q2) h ?_ ?_
  · intro _u d0 d1 h
    refine cx_iconst (v := nI 0) d_S_usesRole_36 (by decide) ?_
    exact hJ1 _ _ _ h
  clear h
  intro J4 hJ2 h
  refine cx_icmp_gt (tgt := 36) d_S_usesRole_5 (by decide) (fun hc5 => ?_) (fun hc5 => ?_)
  · rw [if_pos hc5] at h
    exact hJ2 () _ _ h
  · rw [if_neg hc5] at h
    refine cx_aload_n d_S_usesRole_8 rfl ?_
    refine cx_geti 129 rfl g_S_usesRole_9 rfl (by decide) ep1 hp1 ?_
    refine cx_iload_n d_S_usesRole_12 rfl ?_
    refine oj_step (P := fun J5 : Unit → Option (Int32 × cx_S) => ∀ (_u : Unit) (d0 : Option Value) (d1 : Option Value), J5 () = some (r, sz) → cx G me_S_usesRole 32 [d0, d1] [] s Q2) h ?_ ?_
    · intro _u d0 d1 h
      refine cx_iconst (v := nI 1) d_S_usesRole_32 (by decide) ?_
      refine cx_goto (tgt := 37) d_S_usesRole_33 (by decide) ?_
      exact hJ1 _ _ _ h
    clear h
    intro J5 hJ3 h
    refine cx_icmp_eq (tgt := 32) d_S_usesRole_13 (by decide) (fun hc13 => ?_) (fun hc13 => ?_)
    · rw [if_pos hc13] at h
      exact hJ3 () _ _ h
    · rw [if_neg hc13] at h
      refine cx_aload_n d_S_usesRole_16 rfl ?_
      refine cx_geti 128 rfl g_S_usesRole_17 rfl (by decide) ep1 hp1 ?_
      refine cx_iconst (v := nI 2) d_S_usesRole_20 (by decide) ?_
      refine cx_icmp_ne (tgt := 36) d_S_usesRole_21 (by decide) (fun hc21 => ?_) (fun hc21 => ?_)
      · rw [if_neg hc21] at h
        exact hJ2 () _ _ h
      · rw [if_pos hc21] at h
        refine cx_aload_n d_S_usesRole_24 rfl ?_
        refine cx_geti 130 rfl g_S_usesRole_25 rfl (by decide) ep1 hp1 ?_
        refine cx_iload_n d_S_usesRole_28 rfl ?_
        refine cx_icmp_ne (tgt := 36) d_S_usesRole_29 (by decide) (fun hc29 => ?_) (fun hc29 => ?_)
        · rw [if_neg hc29] at h
          exact hJ2 () _ _ h
        · rw [if_pos hc29] at h
          exact hJ3 () _ _ h
theorem E_B_sharesRole_2 {G : bm_G} {f : Nat} {l0 : Option Nat} {l1 : Option Nat} {r : Int32} {sz : cx_S} {Q : bm_R → cx_S → Prop} (hq : Q (.inl (some (.int (r)))) sz) : ∀ (n : Nat) (l2 : Int32) (s : cx_S), D_B_sharesRole_2 f l0 l1 n l2 s = some (r, sz) → cx G me_B_sharesRole 2 [some (va_rf (l0)), some (va_rf (l1)), some (.int (l2))] [] s Q := by
  intro n
  induction n with
  | zero =>
    intro l2 s h
    rw [D_B_sharesRole_2] at h
    exact absurd h (by simp)
  | succ n ih =>
    intro l2 s h
    rw [D_B_sharesRole_2] at h
    refine cx_iload_n d_B_sharesRole_2 rfl ?_
    refine cx_iconst (v := nI 3) d_B_sharesRole_3 (by decide) ?_
    refine cx_icmp_ge (tgt := 31) d_B_sharesRole_4 (by decide) (fun hc4 => ?_) (fun hc4 => ?_)
    · rw [if_pos hc4] at h
      refine cx_iconst (v := nI 0) d_B_sharesRole_31 (by decide) ?_
      exact cx_zret d_B_sharesRole_32 rfl (by decide) (ox_i hq h)
    · rw [if_neg hc4] at h
      refine cx_aload_n d_B_sharesRole_7 rfl ?_
      refine cx_iload_n d_B_sharesRole_8 rfl ?_
      obtain ⟨p1, ep1, hp1, h⟩ := oc_inv h
      obtain ⟨x2, s3, ex2, h⟩ := ob_inv h
      refine cx_callV1 c_B_sharesRole_9 (cx_hst (fun _ q => nomatch q) (Nat.le_of_ble_eq_true rfl)) (by decide) ep1 hp1 (E_S_usesRole ex2 ?_)
      refine oj_step (P := fun J4 : cx_S → Option (Int32 × cx_S) => ∀ (s5 : cx_S), J4 s5 = some (r, sz) → cx G me_B_sharesRole 25 [some (va_rf (l0)), some (va_rf (l1)), some (.int (l2))] [] s5 Q) h ?_ ?_
      · intro s5 h
        refine cx_iincP d_B_sharesRole_25 (by decide) rfl ?_
        refine cx_goto (tgt := 2) d_B_sharesRole_28 (by decide) ?_
        exact ih _ _ h
      clear h
      intro J4 hJ1 h
      refine cx_if_eq (tgt := 25) d_B_sharesRole_12 (by decide) (fun hc12 => ?_) (fun hc12 => ?_)
      · rw [if_pos hc12] at h
        exact hJ1 _ h
      · rw [if_neg hc12] at h
        refine cx_aload_n d_B_sharesRole_15 rfl ?_
        refine cx_iload_n d_B_sharesRole_16 rfl ?_
        obtain ⟨p6, ep6, hp6, h⟩ := oc_inv h
        obtain ⟨x7, s8, ex7, h⟩ := ob_inv h
        refine cx_callV1 c_B_sharesRole_17 (cx_hst (fun _ q => nomatch q) (Nat.le_of_ble_eq_true rfl)) (by decide) ep6 hp6 (E_S_usesRole ex7 ?_)
        refine cx_if_eq (tgt := 25) d_B_sharesRole_20 (by decide) (fun hc20 => ?_) (fun hc20 => ?_)
        · rw [if_pos hc20] at h
          exact hJ1 _ h
        · rw [if_neg hc20] at h
          refine cx_iconst (v := nI 1) d_B_sharesRole_23 (by decide) ?_
          exact cx_zret d_B_sharesRole_24 rfl (by decide) (ox_i hq h)
theorem E_B_sharesRole {G : bm_G} {f : Nat} {l0 : Option Nat} {l1 : Option Nat} {s sz : cx_S} {r : Int32} {Q : Int32 → cx_S → Prop} (h : D_B_sharesRole f l0 l1 s = some (r, sz)) (hq : Q r sz) : cx_Ti G me_B_sharesRole [va_rf (l0), va_rf (l1)] s Q := by
  refine cx_meti (by decide) (List.forall_mem_cons.mpr ⟨cx_cat, (List.forall_mem_cons.mpr ⟨cx_cat, (fun _ q => nomatch q)⟩)⟩) (Nat.le_of_ble_eq_true rfl) ?_
  generalize hQ : (fun (v : bm_R) (s2 : cx_S) => ∃ x, v = .inl (some (.int x)) ∧ Q x s2) = Q2
  replace hq : Q2 (.inl (some (.int (r)))) sz := by rw [← hQ]; exact ⟨_, rfl, hq⟩
  clear hQ
  unfold D_B_sharesRole at h
  refine cx_iconst (v := nI 0) d_B_sharesRole_0 (by decide) ?_
  refine cx_istore_n d_B_sharesRole_1 (by decide) ?_
  refine E_B_sharesRole_2 (r := r) (sz := sz) hq _ _ _ h
theorem E_B_hasRolesFree_2 {G : bm_G} {f : Nat} {l0 : Nat} {l1 : Option Nat} {r : Int32} {sz : cx_S} {Q : bm_R → cx_S → Prop} (hq : Q (.inl (some (.int (r)))) sz) : ∀ (n : Nat) (l2 : Int32) (s : cx_S), D_B_hasRolesFree_2 f l0 l1 n l2 s = some (r, sz) → cx G me_B_hasRolesFree 2 [some (va_rf (some l0)), some (va_rf (l1)), some (.int (l2))] [] s Q := by
  intro n
  induction n with
  | zero =>
    intro l2 s h
    rw [D_B_hasRolesFree_2] at h
    exact absurd h (by simp)
  | succ n ih =>
    intro l2 s h
    rw [D_B_hasRolesFree_2] at h
    refine cx_iload_n d_B_hasRolesFree_2 rfl ?_
    refine cx_aload_n d_B_hasRolesFree_3 rfl ?_
    obtain ⟨p1, ep1, hp1, h⟩ := oc_inv h
    refine cx_geti 21 rfl g_B_hasRolesFree_4 rfl (by decide) ep1 hp1 ?_
    refine cx_icmp_ge (tgt := 54) d_B_hasRolesFree_7 (by decide) (fun hc7 => ?_) (fun hc7 => ?_)
    · rw [if_pos hc7] at h
      refine cx_iconst (v := nI 1) d_B_hasRolesFree_54 (by decide) ?_
      exact cx_zret d_B_hasRolesFree_55 rfl (by decide) (ox_i hq h)
    · rw [if_neg hc7] at h
      refine cx_aload_n d_B_hasRolesFree_10 rfl ?_
      refine cx_getr 22 rfl g_B_hasRolesFree_11 rfl (by decide) ep1 hp1 ?_
      refine cx_iload_n d_B_hasRolesFree_14 rfl ?_
      obtain ⟨a2, na2, j3, ea2, ha2, hj3, gj3, ej3, h⟩ := oa_inv h
      refine cx_aald (t := 8) 408 rfl d_B_hasRolesFree_15 (by decide) rfl ea2 ha2 hj3 gj3 ej3 ?_
      obtain ⟨p4, ep4, hp4, h⟩ := oc_inv h
      refine cx_geti 145 rfl g_B_hasRolesFree_16 rfl (by decide) ep4 hp4 ?_
      refine oj_step (P := fun J5 : cx_S → Option (Int32 × cx_S) => ∀ (s6 : cx_S), J5 s6 = some (r, sz) → cx G me_B_hasRolesFree 48 [some (va_rf (some l0)), some (va_rf (l1)), some (.int (l2))] [] s6 Q) h ?_ ?_
      · intro s6 h
        refine cx_iincP d_B_hasRolesFree_48 (by decide) rfl ?_
        refine cx_goto (tgt := 2) d_B_hasRolesFree_51 (by decide) ?_
        exact ih _ _ h
      clear h
      intro J5 hJ1 h
      refine cx_if_eq (tgt := 48) d_B_hasRolesFree_19 (by decide) (fun hc19 => ?_) (fun hc19 => ?_)
      · rw [if_pos hc19] at h
        exact hJ1 _ h
      · rw [if_neg hc19] at h
        refine cx_aload_n d_B_hasRolesFree_22 rfl ?_
        refine cx_aload_n d_B_hasRolesFree_23 rfl ?_
        refine cx_getr 18 rfl g_B_hasRolesFree_24 rfl (by decide) ep1 hp1 ?_
        obtain ⟨p7, ep7, hp7, h⟩ := oc_inv h
        refine cx_getr 99 rfl g_B_hasRolesFree_27 rfl (by decide) ep7 hp7 ?_
        refine cx_aload_n d_B_hasRolesFree_30 rfl ?_
        refine cx_getr 22 rfl g_B_hasRolesFree_31 rfl (by decide) ep1 hp1 ?_
        refine cx_iload_n d_B_hasRolesFree_34 rfl ?_
        refine cx_aald (t := 8) 408 rfl d_B_hasRolesFree_35 (by decide) rfl ea2 ha2 hj3 gj3 ej3 ?_
        refine cx_geti 144 rfl g_B_hasRolesFree_36 rfl (by decide) ep4 hp4 ?_
        obtain ⟨a8, na8, j9, ea8, ha8, hj9, gj9, ej9, h⟩ := oa_inv h
        refine cx_aald (t := 7) 407 rfl d_B_hasRolesFree_39 (by decide) rfl ea8 ha8 hj9 gj9 ej9 ?_
        obtain ⟨x10, s11, ex10, h⟩ := ob_inv h
        refine cx_callS2 c_B_hasRolesFree_40 (cx_hst (fun _ q => nomatch q) (Nat.le_of_ble_eq_true rfl)) (E_B_sharesRole ex10 ?_)
        refine cx_if_eq (tgt := 48) d_B_hasRolesFree_43 (by decide) (fun hc43 => ?_) (fun hc43 => ?_)
        · rw [if_pos hc43] at h
          exact hJ1 _ h
        · rw [if_neg hc43] at h
          refine cx_iconst (v := nI 0) d_B_hasRolesFree_46 (by decide) ?_
          exact cx_zret d_B_hasRolesFree_47 rfl (by decide) (ox_i hq h)
theorem E_B_hasRolesFree {G : bm_G} {f : Nat} {l0 : Nat} {l1 : Option Nat} {s sz : cx_S} {r : Int32} {Q : Int32 → cx_S → Prop} (h : D_B_hasRolesFree f l0 l1 s = some (r, sz)) (hq : Q r sz) : cx_Ti G me_B_hasRolesFree [va_rf (some l0), va_rf (l1)] s Q := by
  refine cx_meti (by decide) (List.forall_mem_cons.mpr ⟨cx_cat, (List.forall_mem_cons.mpr ⟨cx_cat, (fun _ q => nomatch q)⟩)⟩) (Nat.le_of_ble_eq_true rfl) ?_
  generalize hQ : (fun (v : bm_R) (s2 : cx_S) => ∃ x, v = .inl (some (.int x)) ∧ Q x s2) = Q2
  replace hq : Q2 (.inl (some (.int (r)))) sz := by rw [← hQ]; exact ⟨_, rfl, hq⟩
  clear hQ
  unfold D_B_hasRolesFree at h
  refine cx_iconst (v := nI 0) d_B_hasRolesFree_0 (by decide) ?_
  refine cx_istore_n d_B_hasRolesFree_1 (by decide) ?_
  refine E_B_hasRolesFree_2 (r := r) (sz := sz) hq _ _ _ h
theorem E_F_begin {G : bm_G} {f : Nat} {l0 : Nat} {l1 : Option Nat} {l2 : Option Nat} {l3 : Option Nat} {s sz : cx_S} {r : Int32} {Q : cx_S → Prop} (h : D_F_begin f l0 l1 l2 l3 s = some (r, sz)) (hq : Q sz) : cx_Tv G me_F_begin [va_rf (some l0), va_rf (l1), va_rf (l2), va_rf (l3)] s Q := by
  refine cx_metv (by decide) (List.forall_mem_cons.mpr ⟨cx_cat, (List.forall_mem_cons.mpr ⟨cx_cat, (List.forall_mem_cons.mpr ⟨cx_cat, (List.forall_mem_cons.mpr ⟨cx_cat, (fun _ q => nomatch q)⟩)⟩)⟩)⟩) (Nat.le_of_ble_eq_true rfl) ?_
  generalize hQ : (fun (v : bm_R) (s2 : cx_S) => v = .inl none ∧ Q s2) = Q2
  replace hq : Q2 (.inl none) sz := by rw [← hQ]; exact ⟨rfl, hq⟩
  clear hQ
  unfold D_F_begin at h
  refine cx_aload_n d_F_begin_0 rfl ?_
  obtain ⟨p1, ep1, hp1, h⟩ := oc_inv h
  refine cx_geti 128 rfl g_F_begin_1 rfl (by decide) ep1 hp1 ?_
  refine oj_step (P := fun J2 : cx_S → Option (Int32 × cx_S) => ∀ (s3 : cx_S) (d0 : Option Value) (d1 : Option Value) (d3 : Option Value), J2 s3 = some (r, sz) → cx G me_F_begin 144 [d0, d1, some (va_rf (l2)), d3] [] s3 Q2) h ?_ ?_
  · intro s3 d0 d1 d3 h
    refine cx_aload_n d_F_begin_144 rfl ?_
    refine cx_iconst (v := nI 1) d_F_begin_145 (by decide) ?_
    obtain ⟨p4, ep4, hp4, h⟩ := oc_inv h
    refine cx_puti 145 rfl p_F_begin_146 rfl (by decide) rfl rfl ep4 hp4 ?_
    exact cx_vret d_F_begin_149 rfl (ox_v hq h)
  clear h
  intro J2 hJ1 h
  by_cases e4_0 : (cI s 128 p1 0) = nI 0
  · rw [if_pos e4_0] at h
    refine cx_tab (tgt := 40) d_F_begin_4 0 e4_0 (by decide) (by decide) (by rfl) (by decide) ?_
    refine cx_aload_n d_F_begin_40 rfl ?_
    obtain ⟨p5, ep5, hp5, h⟩ := oc_inv h
    refine cx_getr 33 rfl g_F_begin_41 rfl (by decide) ep5 hp5 ?_
    obtain ⟨p6, ep6, hp6, h⟩ := oc_inv h
    obtain ⟨x7, s8, ex7, h⟩ := ob_inv h
    refine cx_callV0 c_F_begin_44 (cx_hst (fun _ q => nomatch q) (Nat.le_of_ble_eq_true rfl)) (by decide) ep6 hp6 (E_K_isFull ex7 ?_)
    refine cx_if_eq (tgt := 58) d_F_begin_47 (by decide) (fun hc47 => ?_) (fun hc47 => ?_)
    · rw [if_pos hc47] at h
      refine cx_aload_n d_F_begin_58 rfl ?_
      refine cx_aload_n d_F_begin_59 rfl ?_
      obtain ⟨p9, ep9, hp9, h⟩ := oc_inv h
      refine cx_getr 33 rfl g_F_begin_60 rfl (by decide) ep9 hp9 ?_
      refine cx_aload_n d_F_begin_63 rfl ?_
      obtain ⟨p10, ep10, hp10, h⟩ := oc_inv h
      refine cx_geti 16 rfl g_F_begin_64 rfl (by decide) ep10 hp10 ?_
      refine cx_aload_n d_F_begin_67 rfl ?_
      obtain ⟨p11, ep11, hp11, h⟩ := oc_inv h
      refine cx_geti 144 rfl g_F_begin_68 rfl (by decide) ep11 hp11 ?_
      obtain ⟨p12, ep12, hp12, h⟩ := oc_inv h
      obtain ⟨x13, s14, ex13, h⟩ := ob_inv h
      refine cx_callV2 c_F_begin_71 (cx_hst (List.forall_mem_cons.mpr ⟨cx_cat, (fun _ q => nomatch q)⟩) (Nat.le_of_ble_eq_true rfl)) (by decide) ep12 hp12 (E_K_open ex13 ?_)
      obtain ⟨p15, ep15, hp15, h⟩ := oc_inv h
      refine cx_puti 147 rfl p_F_begin_74 rfl (by decide) rfl rfl ep15 hp15 ?_
      refine cx_aload_n d_F_begin_77 rfl ?_
      refine cx_aload_n d_F_begin_78 rfl ?_
      obtain ⟨p16, ep16, hp16, h⟩ := oc_inv h
      refine cx_geti 130 rfl g_F_begin_79 rfl (by decide) ep16 hp16 ?_
      refine cx_aload_n d_F_begin_82 rfl ?_
      refine cx_geti 131 rfl g_F_begin_83 rfl (by decide) ep16 hp16 ?_
      refine cx_aload_n d_F_begin_86 rfl ?_
      obtain ⟨p17, ep17, hp17, h⟩ := oc_inv h
      refine cx_geti 19 rfl g_F_begin_87 rfl (by decide) ep17 hp17 ?_
      refine cx_imul d_F_begin_90 ?_
      refine cx_bipush (v := nI 100) d_F_begin_91 (by decide) ?_
      obtain ⟨hy93, h⟩ := od_inv h
      refine cx_idiv d_F_begin_93 hy93 ?_
      refine cx_iadd d_F_begin_94 ?_
      refine cx_puti 146 rfl p_F_begin_95 rfl (by decide) rfl rfl ep15 hp15 ?_
      refine cx_goto (tgt := 144) d_F_begin_98 (by decide) ?_
      exact hJ1 _ _ _ _ h
    · rw [if_neg hc47] at h
      refine cx_aload_n d_F_begin_50 rfl ?_
      refine cx_aload_n d_F_begin_51 rfl ?_
      refine cx_bipush (v := nI 6) d_F_begin_52 (by decide) ?_
      obtain ⟨p18, ep18, hp18, h⟩ := oc_inv h
      obtain ⟨x19, s20, ex19, h⟩ := ob_inv h
      refine cx_callV2v c_F_begin_54 (cx_hst (fun _ q => nomatch q) (Nat.le_of_ble_eq_true rfl)) (by decide) ep18 hp18 (E_F_finish ex19 ?_)
      exact cx_vret d_F_begin_57 rfl (ox_v hq h)
  rw [if_neg e4_0] at h
  by_cases e4_1 : (cI s 128 p1 0) = nI 1
  · rw [if_pos e4_1] at h
    refine cx_tab (tgt := 136) d_F_begin_4 1 e4_1 (by decide) (by decide) (by rfl) (by decide) ?_
    refine cx_aload_n d_F_begin_136 rfl ?_
    refine cx_aload_n d_F_begin_137 rfl ?_
    refine cx_geti 130 rfl g_F_begin_138 rfl (by decide) ep1 hp1 ?_
    obtain ⟨p21, ep21, hp21, h⟩ := oc_inv h
    refine cx_puti 146 rfl p_F_begin_141 rfl (by decide) rfl rfl ep21 hp21 ?_
    exact hJ1 _ _ _ _ h
  rw [if_neg e4_1] at h
  by_cases e4_2 : (cI s 128 p1 0) = nI 2
  · rw [if_pos e4_2] at h
    refine cx_tab (tgt := 101) d_F_begin_4 2 e4_2 (by decide) (by decide) (by rfl) (by decide) ?_
    refine cx_aload_n d_F_begin_101 rfl ?_
    refine cx_aload_n d_F_begin_102 rfl ?_
    refine cx_geti 131 rfl g_F_begin_103 rfl (by decide) ep1 hp1 ?_
    refine cx_aload_n d_F_begin_106 rfl ?_
    refine cx_aload_n d_F_begin_107 rfl ?_
    refine cx_aload_n d_F_begin_108 rfl ?_
    refine cx_geti 129 rfl g_F_begin_109 rfl (by decide) ep1 hp1 ?_
    obtain ⟨p22, ep22, hp22, h⟩ := oc_inv h
    obtain ⟨x23, s24, ex23, h⟩ := ob_inv h
    refine cx_callV2r c_F_begin_112 (cx_hst (List.forall_mem_cons.mpr ⟨rfl, (List.forall_mem_cons.mpr ⟨cx_cat, (fun _ q => nomatch q)⟩)⟩) (Nat.le_of_ble_eq_true rfl)) (by decide) ep22 hp22 (E_F_unitFor ex23 ?_)
    obtain ⟨p25, ep25, hp25, h⟩ := oc_inv h
    obtain ⟨x26, s27, ex26, h⟩ := ob_inv h
    refine cx_callV0 c_F_begin_115 (cx_hst (List.forall_mem_cons.mpr ⟨rfl, (List.forall_mem_cons.mpr ⟨cx_cat, (fun _ q => nomatch q)⟩)⟩) (Nat.le_of_ble_eq_true rfl)) (by decide) ep25 hp25 (E_U_total ex26 ?_)
    refine cx_imul d_F_begin_118 ?_
    refine cx_bipush (v := nI 100) d_F_begin_119 (by decide) ?_
    obtain ⟨hy121, h⟩ := od_inv h
    refine cx_idiv d_F_begin_121 hy121 ?_
    obtain ⟨p28, ep28, hp28, h⟩ := oc_inv h
    refine cx_puti 146 rfl p_F_begin_122 rfl (by decide) rfl rfl ep28 hp28 ?_
    refine cx_goto (tgt := 144) d_F_begin_125 (by decide) ?_
    exact hJ1 _ _ _ _ h
  rw [if_neg e4_2] at h
  by_cases e4_3 : (cI s 128 p1 0) = nI 3
  · rw [if_pos e4_3] at h
    refine cx_tab (tgt := 136) d_F_begin_4 3 e4_3 (by decide) (by decide) (by rfl) (by decide) ?_
    refine cx_aload_n d_F_begin_136 rfl ?_
    refine cx_aload_n d_F_begin_137 rfl ?_
    refine cx_geti 130 rfl g_F_begin_138 rfl (by decide) ep1 hp1 ?_
    obtain ⟨p29, ep29, hp29, h⟩ := oc_inv h
    refine cx_puti 146 rfl p_F_begin_141 rfl (by decide) rfl rfl ep29 hp29 ?_
    exact hJ1 _ _ _ _ h
  rw [if_neg e4_3] at h
  by_cases e4_4 : (cI s 128 p1 0) = nI 4
  · rw [if_pos e4_4] at h
    refine cx_tab (tgt := 128) d_F_begin_4 4 e4_4 (by decide) (by decide) (by rfl) (by decide) ?_
    refine cx_aload_n d_F_begin_128 rfl ?_
    refine cx_iconst (v := nI 1) d_F_begin_129 (by decide) ?_
    obtain ⟨p30, ep30, hp30, h⟩ := oc_inv h
    refine cx_puti 146 rfl p_F_begin_130 rfl (by decide) rfl rfl ep30 hp30 ?_
    refine cx_goto (tgt := 144) d_F_begin_133 (by decide) ?_
    exact hJ1 _ _ _ _ h
  rw [if_neg e4_4] at h
  have hsw : ∀ j, j ≤ 4 → ¬ (cI s 128 p1 0) = nI j := by
    intro j hj
    have hj2 : j = 0 ∨ j = 1 ∨ j = 2 ∨ j = 3 ∨ j = 4 := by omega
    rcases hj2 with rfl | rfl | rfl | rfl | rfl <;> assumption
  refine cx_tableOut (tgt := 136) d_F_begin_4 (sw_out 4 (by decide) hsw) (by decide) ?_
  refine cx_aload_n d_F_begin_136 rfl ?_
  refine cx_aload_n d_F_begin_137 rfl ?_
  refine cx_geti 130 rfl g_F_begin_138 rfl (by decide) ep1 hp1 ?_
  obtain ⟨p31, ep31, hp31, h⟩ := oc_inv h
  refine cx_puti 146 rfl p_F_begin_141 rfl (by decide) rfl rfl ep31 hp31 ?_
  exact hJ1 _ _ _ _ h
