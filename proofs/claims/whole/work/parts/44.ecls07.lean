theorem E_H_from {G : bm_G} {f : Nat} {l0 : Nat} {l1 : Int32} {l2 : Int32} {l3 : Int32} {s sz : cx_S} {r : Int32} {Q : Int32 → cx_S → Prop} (h : D_H_from f l0 l1 l2 l3 s = some (r, sz)) (hq : Q r sz) : cx_Ti G me_H_from [va_rf (some l0), .int (l1), .int (l2), .int (l3)] s Q := by
  refine cx_meti (by decide) (List.forall_mem_cons.mpr ⟨cx_cat, (List.forall_mem_cons.mpr ⟨rfl, (List.forall_mem_cons.mpr ⟨rfl, (List.forall_mem_cons.mpr ⟨rfl, (fun _ q => nomatch q)⟩)⟩)⟩)⟩) (Nat.le_of_ble_eq_true rfl) ?_
  generalize hQ : (fun (v : bm_R) (s2 : cx_S) => ∃ x, v = .inl (some (.int x)) ∧ Q x s2) = Q2
  replace hq : Q2 (.inl (some (.int (r)))) sz := by rw [← hQ]; exact ⟨_, rfl, hq⟩
  clear hQ
  unfold D_H_from at h
  refine cx_iload_n d_H_from_0 rfl ?_
  refine cx_aload_n d_H_from_1 rfl ?_
  obtain ⟨p1, ep1, hp1, h⟩ := oc_inv h
  refine cx_getr 6 rfl g_H_from_2 rfl (by decide) ep1 hp1 ?_
  obtain ⟨p2, ep2, hp2, h⟩ := oc_inv h
  refine cx_geti 64 rfl g_H_from_5 rfl (by decide) ep2 hp2 ?_
  obtain ⟨x3, s4, ex3, h⟩ := ob_inv h
  refine cx_callS2 c_H_from_8 (cx_hst (fun _ q => nomatch q) (Nat.le_of_ble_eq_true rfl)) (E_H_isBelow ex3 ?_)
  refine oj_step (P := fun J5 : cx_S → Option (Int32 × cx_S) => ∀ (s6 : cx_S) (d0 : Option Value) (d1 : Option Value) (d2 : Option Value) (d3 : Option Value), J5 s6 = some (r, sz) → cx G me_H_from 34 [d0, d1, d2, d3] [] s6 Q2) h ?_ ?_
  · intro s6 d0 d1 d2 d3 h
    refine cx_iconst (v := (-1)) d_H_from_34 (by decide) ?_
    exact cx_iret d_H_from_35 rfl (ox_i hq h)
  clear h
  intro J5 hJ1 h
  refine cx_if_eq (tgt := 34) d_H_from_11 (by decide) (fun hc11 => ?_) (fun hc11 => ?_)
  · rw [if_pos hc11] at h
    exact hJ1 _ _ _ _ _ h
  · rw [if_neg hc11] at h
    refine cx_iload_n d_H_from_14 rfl ?_
    refine cx_aload_n d_H_from_15 rfl ?_
    obtain ⟨p7, ep7, hp7, h⟩ := oc_inv h
    refine cx_getr 6 rfl g_H_from_16 rfl (by decide) ep7 hp7 ?_
    obtain ⟨p8, ep8, hp8, h⟩ := oc_inv h
    refine cx_getr 65 rfl g_H_from_19 rfl (by decide) ep8 hp8 ?_
    refine cx_iload_n d_H_from_22 rfl ?_
    obtain ⟨a9, na9, j10, ea9, ha9, hj10, gj10, ej10, h⟩ := oa_inv h
    refine cx_aald (t := 6) 406 rfl d_H_from_23 (by decide) rfl ea9 ha9 hj10 gj10 ej10 ?_
    obtain ⟨p11, ep11, hp11, h⟩ := oc_inv h
    refine cx_getr 50 rfl g_H_from_24 rfl (by decide) ep11 hp11 ?_
    obtain ⟨a12, na12, ea12, ha12, h⟩ := oq_inv h
    refine cx_alen d_H_from_27 ea12 ha12 ?_
    obtain ⟨x13, s14, ex13, h⟩ := ob_inv h
    refine cx_callS2 c_H_from_28 (cx_hst (fun _ q => nomatch q) (Nat.le_of_ble_eq_true rfl)) (E_H_isBelow ex13 ?_)
    refine cx_if_ne (tgt := 36) d_H_from_31 (by decide) (fun hc31 => ?_) (fun hc31 => ?_)
    · rw [if_neg hc31] at h
      refine cx_iload_n d_H_from_36 rfl ?_
      by_cases e37_0 : l3 = nI 0
      · rw [if_pos e37_0] at h
        refine cx_look (tgt := 64) (27) d_H_from_37 (by decide) (by rw [e37_0]; decide) (by decide) ?_
        refine cx_aload_n d_H_from_64 rfl ?_
        obtain ⟨p15, ep15, hp15, h⟩ := oc_inv h
        refine cx_getr 6 rfl g_H_from_65 rfl (by decide) ep15 hp15 ?_
        obtain ⟨p16, ep16, hp16, h⟩ := oc_inv h
        refine cx_getr 65 rfl g_H_from_68 rfl (by decide) ep16 hp16 ?_
        refine cx_iload_n d_H_from_71 rfl ?_
        obtain ⟨a17, na17, j18, ea17, ha17, hj18, gj18, ej18, h⟩ := oa_inv h
        refine cx_aald (t := 6) 406 rfl d_H_from_72 (by decide) rfl ea17 ha17 hj18 gj18 ej18 ?_
        obtain ⟨p19, ep19, hp19, h⟩ := oc_inv h
        refine cx_getr 50 rfl g_H_from_73 rfl (by decide) ep19 hp19 ?_
        refine cx_iload_n d_H_from_76 rfl ?_
        obtain ⟨a20, na20, j21, ea20, ha20, hj21, gj21, ej21, h⟩ := oa_inv h
        refine cx_iald d_H_from_77 ea20 ha20 hj21 gj21 ej21 ?_
        exact cx_iret d_H_from_78 rfl (ox_i hq h)
      rw [if_neg e37_0] at h
      by_cases e37_1 : l3 = nI 1
      · rw [if_pos e37_1] at h
        refine cx_look (tgt := 79) (42) d_H_from_37 (by decide) (by rw [e37_1]; decide) (by decide) ?_
        refine cx_aload_n d_H_from_79 rfl ?_
        obtain ⟨p22, ep22, hp22, h⟩ := oc_inv h
        refine cx_getr 6 rfl g_H_from_80 rfl (by decide) ep22 hp22 ?_
        obtain ⟨p23, ep23, hp23, h⟩ := oc_inv h
        refine cx_getr 65 rfl g_H_from_83 rfl (by decide) ep23 hp23 ?_
        refine cx_iload_n d_H_from_86 rfl ?_
        obtain ⟨a24, na24, j25, ea24, ha24, hj25, gj25, ej25, h⟩ := oa_inv h
        refine cx_aald (t := 6) 406 rfl d_H_from_87 (by decide) rfl ea24 ha24 hj25 gj25 ej25 ?_
        obtain ⟨p26, ep26, hp26, h⟩ := oc_inv h
        refine cx_getr 51 rfl g_H_from_88 rfl (by decide) ep26 hp26 ?_
        refine cx_iload_n d_H_from_91 rfl ?_
        obtain ⟨a27, na27, j28, ea27, ha27, hj28, gj28, ej28, h⟩ := oa_inv h
        refine cx_iald d_H_from_92 ea27 ha27 hj28 gj28 ej28 ?_
        exact cx_iret d_H_from_93 rfl (ox_i hq h)
      rw [if_neg e37_1] at h
      refine cx_look (tgt := 94) (57) d_H_from_37 (by decide) (look_out2 e37_0 e37_1) (by decide) ?_
      refine cx_iconst (v := (-1)) d_H_from_94 (by decide) ?_
      exact cx_iret d_H_from_95 rfl (ox_i hq h)
    · rw [if_pos hc31] at h
      exact hJ1 _ _ _ _ _ h
theorem E_K_hasMarked_2 {G : bm_G} {f : Nat} {l0 : Nat} {l1 : Option Nat} {r : Int32} {sz : cx_S} {Q : bm_R → cx_S → Prop} (hq : Q (.inl (some (.int (r)))) sz) : ∀ (n : Nat) (l2 : Int32) (s : cx_S), D_K_hasMarked_2 f l0 l1 n l2 s = some (r, sz) → cx G me_K_hasMarked 2 [some (va_rf (some l0)), some (va_rf (l1)), some (.int (l2))] [] s Q := by
  intro n
  induction n with
  | zero =>
    intro l2 s h
    rw [D_K_hasMarked_2] at h
    exact absurd h (by simp)
  | succ n ih =>
    intro l2 s h
    rw [D_K_hasMarked_2] at h
    refine cx_iload_n d_K_hasMarked_2 rfl ?_
    refine cx_aload_n d_K_hasMarked_3 rfl ?_
    obtain ⟨a1, na1, ea1, ha1, h⟩ := oq_inv h
    refine cx_alen d_K_hasMarked_4 ea1 ha1 ?_
    refine cx_icmp_ge (tgt := 28) d_K_hasMarked_5 (by decide) (fun hc5 => ?_) (fun hc5 => ?_)
    · rw [if_pos hc5] at h
      refine cx_iconst (v := nI 0) d_K_hasMarked_28 (by decide) ?_
      exact cx_zret d_K_hasMarked_29 rfl (by decide) (ox_i hq h)
    · rw [if_neg hc5] at h
      refine cx_aload_n d_K_hasMarked_8 rfl ?_
      obtain ⟨p2, ep2, hp2, h⟩ := oc_inv h
      refine cx_getr 66 rfl g_K_hasMarked_9 rfl (by decide) ep2 hp2 ?_
      refine cx_aload_n d_K_hasMarked_12 rfl ?_
      refine cx_iload_n d_K_hasMarked_13 rfl ?_
      obtain ⟨a3, na3, j4, ea3, ha3, hj4, gj4, ej4, h⟩ := oa_inv h
      refine cx_iald d_K_hasMarked_14 ea3 ha3 hj4 gj4 ej4 ?_
      obtain ⟨a5, na5, j6, ea5, ha5, hj6, gj6, ej6, h⟩ := oa_inv h
      refine cx_iald d_K_hasMarked_15 ea5 ha5 hj6 gj6 ej6 ?_
      refine cx_iconst (v := nI 1) d_K_hasMarked_16 (by decide) ?_
      refine cx_icmp_ne (tgt := 22) d_K_hasMarked_17 (by decide) (fun hc17 => ?_) (fun hc17 => ?_)
      · rw [if_neg hc17] at h
        refine cx_iincP d_K_hasMarked_22 (by decide) rfl ?_
        refine cx_goto (tgt := 2) d_K_hasMarked_25 (by decide) ?_
        exact ih _ _ h
      · rw [if_pos hc17] at h
        refine cx_iconst (v := nI 1) d_K_hasMarked_20 (by decide) ?_
        exact cx_zret d_K_hasMarked_21 rfl (by decide) (ox_i hq h)
theorem E_K_hasMarked {G : bm_G} {f : Nat} {l0 : Nat} {l1 : Option Nat} {s sz : cx_S} {r : Int32} {Q : Int32 → cx_S → Prop} (h : D_K_hasMarked f l0 l1 s = some (r, sz)) (hq : Q r sz) : cx_Ti G me_K_hasMarked [va_rf (some l0), va_rf (l1)] s Q := by
  refine cx_meti (by decide) (List.forall_mem_cons.mpr ⟨cx_cat, (List.forall_mem_cons.mpr ⟨cx_cat, (fun _ q => nomatch q)⟩)⟩) (Nat.le_of_ble_eq_true rfl) ?_
  generalize hQ : (fun (v : bm_R) (s2 : cx_S) => ∃ x, v = .inl (some (.int x)) ∧ Q x s2) = Q2
  replace hq : Q2 (.inl (some (.int (r)))) sz := by rw [← hQ]; exact ⟨_, rfl, hq⟩
  clear hQ
  unfold D_K_hasMarked at h
  refine cx_iconst (v := nI 0) d_K_hasMarked_0 (by decide) ?_
  refine cx_istore_n d_K_hasMarked_1 (by decide) ?_
  refine E_K_hasMarked_2 (r := r) (sz := sz) hq _ _ _ h
theorem E_K_markOutcomes_19 {G : bm_G} {f : Nat} {l0 : Nat} {l1 : Int32} {k56 : cx_S → Option (Int32 × cx_S)} {r : Int32} {sz : cx_S} {Q : bm_R → cx_S → Prop} (hq : Q (.inl none) sz) (hk56 : ∀ (d2 : Option Value) (s : cx_S), k56 s = some (r, sz) → cx G me_K_markOutcomes 56 [some (va_rf (some l0)), some (.int (l1)), d2] [] s Q) : ∀ (n : Nat) (l2 : Int32) (s : cx_S), D_K_markOutcomes_19 f l0 l1 k56 n l2 s = some (r, sz) → cx G me_K_markOutcomes 19 [some (va_rf (some l0)), some (.int (l1)), some (.int (l2))] [] s Q := by
  intro n
  induction n with
  | zero =>
    intro l2 s h
    rw [D_K_markOutcomes_19] at h
    exact absurd h (by simp)
  | succ n ih =>
    intro l2 s h
    rw [D_K_markOutcomes_19] at h
    refine cx_iload_n d_K_markOutcomes_19 rfl ?_
    refine cx_aload_n d_K_markOutcomes_20 rfl ?_
    obtain ⟨p7, ep7, hp7, h⟩ := oc_inv h
    refine cx_geti 64 rfl g_K_markOutcomes_21 rfl (by decide) ep7 hp7 ?_
    refine cx_icmp_ge (tgt := 56) d_K_markOutcomes_24 (by decide) (fun hc24 => ?_) (fun hc24 => ?_)
    · rw [if_pos hc24] at h
      exact hk56 _ _ h
    · rw [if_neg hc24] at h
      refine cx_aload_n d_K_markOutcomes_27 rfl ?_
      refine cx_aload_n d_K_markOutcomes_28 rfl ?_
      refine cx_getr 65 rfl g_K_markOutcomes_29 rfl (by decide) ep7 hp7 ?_
      refine cx_iload_n d_K_markOutcomes_32 rfl ?_
      obtain ⟨a8, na8, j9, ea8, ha8, hj9, gj9, ej9, h⟩ := oa_inv h
      refine cx_aald (t := 6) 406 rfl d_K_markOutcomes_33 (by decide) rfl ea8 ha8 hj9 gj9 ej9 ?_
      obtain ⟨p10, ep10, hp10, h⟩ := oc_inv h
      refine cx_getr 50 rfl g_K_markOutcomes_34 rfl (by decide) ep10 hp10 ?_
      obtain ⟨x11, s12, ex11, h⟩ := ob_inv h
      refine cx_callV1 c_K_markOutcomes_37 (cx_hst (fun _ q => nomatch q) (Nat.le_of_ble_eq_true rfl)) (by decide) ep7 hp7 (E_K_hasMarked ex11 ?_)
      refine oj_step (P := fun J13 : cx_S → Option (Int32 × cx_S) => ∀ (s14 : cx_S), J13 s14 = some (r, sz) → cx G me_K_markOutcomes 50 [some (va_rf (some l0)), some (.int (l1)), some (.int (l2))] [] s14 Q) h ?_ ?_
      · intro s14 h
        refine cx_iincP d_K_markOutcomes_50 (by decide) rfl ?_
        refine cx_goto (tgt := 19) d_K_markOutcomes_53 (by decide) ?_
        exact ih _ _ h
      clear h
      intro J13 hJ1 h
      refine cx_if_eq (tgt := 50) d_K_markOutcomes_40 (by decide) (fun hc40 => ?_) (fun hc40 => ?_)
      · rw [if_pos hc40] at h
        exact hJ1 _ h
      · rw [if_neg hc40] at h
        refine cx_aload_n d_K_markOutcomes_43 rfl ?_
        obtain ⟨p15, ep15, hp15, h⟩ := oc_inv h
        refine cx_getr 66 rfl g_K_markOutcomes_44 rfl (by decide) ep15 hp15 ?_
        refine cx_iload_n d_K_markOutcomes_47 rfl ?_
        refine cx_iconst (v := nI 1) d_K_markOutcomes_48 (by decide) ?_
        obtain ⟨a16, na16, j17, ea16, ha16, hj17, gj17, ej17, h⟩ := oa_inv h
        refine cx_iast d_K_markOutcomes_49 ea16 ha16 hj17 gj17 ej17 ?_
        exact hJ1 _ h
theorem E_K_markOutcomes {G : bm_G} {f : Nat} {l0 : Nat} {l1 : Int32} {s sz : cx_S} {r : Int32} {Q : cx_S → Prop} (h : D_K_markOutcomes f l0 l1 s = some (r, sz)) (hq : Q sz) : cx_Tv G me_K_markOutcomes [va_rf (some l0), .int (l1)] s Q := by
  refine cx_metv (by decide) (List.forall_mem_cons.mpr ⟨cx_cat, (List.forall_mem_cons.mpr ⟨rfl, (fun _ q => nomatch q)⟩)⟩) (Nat.le_of_ble_eq_true rfl) ?_
  generalize hQ : (fun (v : bm_R) (s2 : cx_S) => v = .inl none ∧ Q s2) = Q2
  replace hq : Q2 (.inl none) sz := by rw [← hQ]; exact ⟨rfl, hq⟩
  clear hQ
  unfold D_K_markOutcomes at h
  refine cx_aload_n d_K_markOutcomes_0 rfl ?_
  obtain ⟨p1, ep1, hp1, h⟩ := oc_inv h
  refine cx_getr 66 rfl g_K_markOutcomes_1 rfl (by decide) ep1 hp1 ?_
  refine cx_iconst (v := nI 0) d_K_markOutcomes_4 (by decide) ?_
  obtain ⟨x2, s3, ex2, h⟩ := ob_inv h
  refine cx_callS2v c_K_markOutcomes_5 (cx_hst (fun _ q => nomatch q) (Nat.le_of_ble_eq_true rfl)) (E_A_fill ex2 ?_)
  refine cx_aload_n d_K_markOutcomes_8 rfl ?_
  obtain ⟨p4, ep4, hp4, h⟩ := oc_inv h
  refine cx_getr 66 rfl g_K_markOutcomes_9 rfl (by decide) ep4 hp4 ?_
  refine cx_iload_n d_K_markOutcomes_12 rfl ?_
  refine cx_iconst (v := nI 1) d_K_markOutcomes_13 (by decide) ?_
  obtain ⟨a5, na5, j6, ea5, ha5, hj6, gj6, ej6, h⟩ := oa_inv h
  refine cx_iast d_K_markOutcomes_14 ea5 ha5 hj6 gj6 ej6 ?_
  refine cx_iload_n d_K_markOutcomes_15 rfl ?_
  refine cx_iconst (v := nI 1) d_K_markOutcomes_16 (by decide) ?_
  refine cx_iadd d_K_markOutcomes_17 ?_
  refine cx_istore_n d_K_markOutcomes_18 (by decide) ?_
  refine E_K_markOutcomes_19 (r := r) (sz := sz) hq ?_ _ _ _ h
  · intro d2 s18 h
    refine cx_aload_n d_K_markOutcomes_56 rfl ?_
    obtain ⟨p19, ep19, hp19, h⟩ := oc_inv h
    refine cx_getr 66 rfl g_K_markOutcomes_57 rfl (by decide) ep19 hp19 ?_
    refine cx_iload_n d_K_markOutcomes_60 rfl ?_
    refine cx_iconst (v := nI 0) d_K_markOutcomes_61 (by decide) ?_
    obtain ⟨a20, na20, j21, ea20, ha20, hj21, gj21, ej21, h⟩ := oa_inv h
    refine cx_iast d_K_markOutcomes_62 ea20 ha20 hj21 gj21 ej21 ?_
    exact cx_vret d_K_markOutcomes_63 rfl (ox_v hq h)
theorem E_K_markParts_2 {G : bm_G} {f : Nat} {l0 : Nat} {l1 : Option Nat} {r : Int32} {sz : cx_S} {Q : bm_R → cx_S → Prop} (hq : Q (.inl none) sz) : ∀ (n : Nat) (l2 : Int32) (s : cx_S), D_K_markParts_2 f l0 l1 n l2 s = some (r, sz) → cx G me_K_markParts 2 [some (va_rf (some l0)), some (va_rf (l1)), some (.int (l2))] [] s Q := by
  intro n
  induction n with
  | zero =>
    intro l2 s h
    rw [D_K_markParts_2] at h
    exact absurd h (by simp)
  | succ n ih =>
    intro l2 s h
    rw [D_K_markParts_2] at h
    refine cx_iload_n d_K_markParts_2 rfl ?_
    refine cx_aload_n d_K_markParts_3 rfl ?_
    obtain ⟨a1, na1, ea1, ha1, h⟩ := oq_inv h
    refine cx_alen d_K_markParts_4 ea1 ha1 ?_
    refine cx_icmp_ge (tgt := 23) d_K_markParts_5 (by decide) (fun hc5 => ?_) (fun hc5 => ?_)
    · rw [if_pos hc5] at h
      exact cx_vret d_K_markParts_23 rfl (ox_v hq h)
    · rw [if_neg hc5] at h
      refine cx_aload_n d_K_markParts_8 rfl ?_
      obtain ⟨p2, ep2, hp2, h⟩ := oc_inv h
      refine cx_getr 66 rfl g_K_markParts_9 rfl (by decide) ep2 hp2 ?_
      refine cx_aload_n d_K_markParts_12 rfl ?_
      refine cx_iload_n d_K_markParts_13 rfl ?_
      obtain ⟨a3, na3, j4, ea3, ha3, hj4, gj4, ej4, h⟩ := oa_inv h
      refine cx_iald d_K_markParts_14 ea3 ha3 hj4 gj4 ej4 ?_
      refine cx_iconst (v := nI 1) d_K_markParts_15 (by decide) ?_
      obtain ⟨a5, na5, j6, ea5, ha5, hj6, gj6, ej6, h⟩ := oa_inv h
      refine cx_iast d_K_markParts_16 ea5 ha5 hj6 gj6 ej6 ?_
      refine cx_iincP d_K_markParts_17 (by decide) rfl ?_
      refine cx_goto (tgt := 2) d_K_markParts_20 (by decide) ?_
      exact ih _ _ h
theorem E_K_markParts {G : bm_G} {f : Nat} {l0 : Nat} {l1 : Option Nat} {s sz : cx_S} {r : Int32} {Q : cx_S → Prop} (h : D_K_markParts f l0 l1 s = some (r, sz)) (hq : Q sz) : cx_Tv G me_K_markParts [va_rf (some l0), va_rf (l1)] s Q := by
  refine cx_metv (by decide) (List.forall_mem_cons.mpr ⟨cx_cat, (List.forall_mem_cons.mpr ⟨cx_cat, (fun _ q => nomatch q)⟩)⟩) (Nat.le_of_ble_eq_true rfl) ?_
  generalize hQ : (fun (v : bm_R) (s2 : cx_S) => v = .inl none ∧ Q s2) = Q2
  replace hq : Q2 (.inl none) sz := by rw [← hQ]; exact ⟨rfl, hq⟩
  clear hQ
  unfold D_K_markParts at h
  refine cx_iconst (v := nI 0) d_K_markParts_0 (by decide) ?_
  refine cx_istore_n d_K_markParts_1 (by decide) ?_
  refine E_K_markParts_2 (r := r) (sz := sz) hq _ _ _ h
theorem E_K_markOrigins_17 {G : bm_G} {f : Nat} {l0 : Nat} {l1 : Int32} {k50 : cx_S → Option (Int32 × cx_S)} {r : Int32} {sz : cx_S} {Q : bm_R → cx_S → Prop} (hq : Q (.inl none) sz) (hk50 : ∀ (d2 : Option Value) (s : cx_S), k50 s = some (r, sz) → cx G me_K_markOrigins 50 [some (va_rf (some l0)), some (.int (l1)), d2] [] s Q) : ∀ (n : Nat) (l2 : Int32) (s : cx_S), D_K_markOrigins_17 f l0 l1 k50 n l2 s = some (r, sz) → cx G me_K_markOrigins 17 [some (va_rf (some l0)), some (.int (l1)), some (.int (l2))] [] s Q := by
  intro n
  induction n with
  | zero =>
    intro l2 s h
    rw [D_K_markOrigins_17] at h
    exact absurd h (by simp)
  | succ n ih =>
    intro l2 s h
    rw [D_K_markOrigins_17] at h
    refine cx_iload_n d_K_markOrigins_17 rfl ?_
    refine cx_if_lt (tgt := 50) d_K_markOrigins_18 (by decide) (fun hc18 => ?_) (fun hc18 => ?_)
    · rw [if_pos hc18] at h
      exact hk50 _ _ h
    · rw [if_neg hc18] at h
      refine cx_aload_n d_K_markOrigins_21 rfl ?_
      obtain ⟨p7, ep7, hp7, h⟩ := oc_inv h
      refine cx_getr 66 rfl g_K_markOrigins_22 rfl (by decide) ep7 hp7 ?_
      refine cx_iload_n d_K_markOrigins_25 rfl ?_
      obtain ⟨a8, na8, j9, ea8, ha8, hj9, gj9, ej9, h⟩ := oa_inv h
      refine cx_iald d_K_markOrigins_26 ea8 ha8 hj9 gj9 ej9 ?_
      refine cx_iconst (v := nI 1) d_K_markOrigins_27 (by decide) ?_
      refine oj_step (P := fun J10 : cx_S → Option (Int32 × cx_S) => ∀ (s11 : cx_S), J10 s11 = some (r, sz) → cx G me_K_markOrigins 44 [some (va_rf (some l0)), some (.int (l1)), some (.int (l2))] [] s11 Q) h ?_ ?_
      · intro s11 h
        refine cx_iincM d_K_markOrigins_44 (by decide) rfl ?_
        refine cx_goto (tgt := 17) d_K_markOrigins_47 (by decide) ?_
        exact ih _ _ h
      clear h
      intro J10 hJ1 h
      refine cx_icmp_ne (tgt := 44) d_K_markOrigins_28 (by decide) (fun hc28 => ?_) (fun hc28 => ?_)
      · rw [if_neg hc28] at h
        exact hJ1 _ h
      · rw [if_pos hc28] at h
        refine cx_aload_n d_K_markOrigins_31 rfl ?_
        refine cx_aload_n d_K_markOrigins_32 rfl ?_
        refine cx_getr 65 rfl g_K_markOrigins_33 rfl (by decide) ep7 hp7 ?_
        refine cx_iload_n d_K_markOrigins_36 rfl ?_
        obtain ⟨a12, na12, j13, ea12, ha12, hj13, gj13, ej13, h⟩ := oa_inv h
        refine cx_aald (t := 6) 406 rfl d_K_markOrigins_37 (by decide) rfl ea12 ha12 hj13 gj13 ej13 ?_
        obtain ⟨p14, ep14, hp14, h⟩ := oc_inv h
        refine cx_getr 50 rfl g_K_markOrigins_38 rfl (by decide) ep14 hp14 ?_
        obtain ⟨x15, s16, ex15, h⟩ := ob_inv h
        refine cx_callV1v c_K_markOrigins_41 (cx_hst (fun _ q => nomatch q) (Nat.le_of_ble_eq_true rfl)) (by decide) ep7 hp7 (E_K_markParts ex15 ?_)
        exact hJ1 _ h
theorem E_K_markOrigins {G : bm_G} {f : Nat} {l0 : Nat} {l1 : Int32} {s sz : cx_S} {r : Int32} {Q : cx_S → Prop} (h : D_K_markOrigins f l0 l1 s = some (r, sz)) (hq : Q sz) : cx_Tv G me_K_markOrigins [va_rf (some l0), .int (l1)] s Q := by
  refine cx_metv (by decide) (List.forall_mem_cons.mpr ⟨cx_cat, (List.forall_mem_cons.mpr ⟨rfl, (fun _ q => nomatch q)⟩)⟩) (Nat.le_of_ble_eq_true rfl) ?_
  generalize hQ : (fun (v : bm_R) (s2 : cx_S) => v = .inl none ∧ Q s2) = Q2
  replace hq : Q2 (.inl none) sz := by rw [← hQ]; exact ⟨rfl, hq⟩
  clear hQ
  unfold D_K_markOrigins at h
  refine cx_aload_n d_K_markOrigins_0 rfl ?_
  obtain ⟨p1, ep1, hp1, h⟩ := oc_inv h
  refine cx_getr 66 rfl g_K_markOrigins_1 rfl (by decide) ep1 hp1 ?_
  refine cx_iconst (v := nI 0) d_K_markOrigins_4 (by decide) ?_
  obtain ⟨x2, s3, ex2, h⟩ := ob_inv h
  refine cx_callS2v c_K_markOrigins_5 (cx_hst (fun _ q => nomatch q) (Nat.le_of_ble_eq_true rfl)) (E_A_fill ex2 ?_)
  refine cx_aload_n d_K_markOrigins_8 rfl ?_
  obtain ⟨p4, ep4, hp4, h⟩ := oc_inv h
  refine cx_getr 66 rfl g_K_markOrigins_9 rfl (by decide) ep4 hp4 ?_
  refine cx_iload_n d_K_markOrigins_12 rfl ?_
  refine cx_iconst (v := nI 1) d_K_markOrigins_13 (by decide) ?_
  obtain ⟨a5, na5, j6, ea5, ha5, hj6, gj6, ej6, h⟩ := oa_inv h
  refine cx_iast d_K_markOrigins_14 ea5 ha5 hj6 gj6 ej6 ?_
  refine cx_iload_n d_K_markOrigins_15 rfl ?_
  refine cx_istore_n d_K_markOrigins_16 (by decide) ?_
  refine E_K_markOrigins_17 (r := r) (sz := sz) hq ?_ _ _ _ h
  · intro d2 s17 h
    refine cx_aload_n d_K_markOrigins_50 rfl ?_
    obtain ⟨p18, ep18, hp18, h⟩ := oc_inv h
    refine cx_getr 66 rfl g_K_markOrigins_51 rfl (by decide) ep18 hp18 ?_
    refine cx_iload_n d_K_markOrigins_54 rfl ?_
    refine cx_iconst (v := nI 0) d_K_markOrigins_55 (by decide) ?_
    obtain ⟨a19, na19, j20, ea19, ha19, hj20, gj20, ej20, h⟩ := oa_inv h
    refine cx_iast d_K_markOrigins_56 ea19 ha19 hj20 gj20 ej20 ?_
    exact cx_vret d_K_markOrigins_57 rfl (ox_v hq h)
theorem E_K_findMarked_4 {G : bm_G} {f : Nat} {l0 : Nat} {l1 : Int32} {r : Int32} {sz : cx_S} {Q : bm_R → cx_S → Prop} (hq : Q (.inl (some (.int (r)))) sz) : ∀ (n : Nat) (l2 : Int32) (l3 : Int32) (s : cx_S), D_K_findMarked_4 f l0 l1 n l2 l3 s = some (r, sz) → cx G me_K_findMarked 4 [some (va_rf (some l0)), some (.int (l1)), some (.int (l2)), some (.int (l3))] [] s Q := by
  intro n
  induction n with
  | zero =>
    intro l2 l3 s h
    rw [D_K_findMarked_4] at h
    exact absurd h (by simp)
  | succ n ih =>
    intro l2 l3 s h
    rw [D_K_findMarked_4] at h
    refine cx_iload_n d_K_findMarked_4 rfl ?_
    refine cx_aload_n d_K_findMarked_5 rfl ?_
    obtain ⟨p1, ep1, hp1, h⟩ := oc_inv h
    refine cx_geti 64 rfl g_K_findMarked_6 rfl (by decide) ep1 hp1 ?_
    refine cx_icmp_ge (tgt := 38) d_K_findMarked_9 (by decide) (fun hc9 => ?_) (fun hc9 => ?_)
    · rw [if_pos hc9] at h
      refine cx_iconst (v := (-1)) d_K_findMarked_38 (by decide) ?_
      exact cx_iret d_K_findMarked_39 rfl (ox_i hq h)
    · rw [if_neg hc9] at h
      refine cx_aload_n d_K_findMarked_12 rfl ?_
      refine cx_getr 66 rfl g_K_findMarked_13 rfl (by decide) ep1 hp1 ?_
      refine cx_iload_n d_K_findMarked_16 rfl ?_
      obtain ⟨a2, na2, j3, ea2, ha2, hj3, gj3, ej3, h⟩ := oa_inv h
      refine cx_iald d_K_findMarked_17 ea2 ha2 hj3 gj3 ej3 ?_
      refine cx_iconst (v := nI 1) d_K_findMarked_18 (by decide) ?_
      refine oj_step (P := fun J4 : Int32 → Option (Int32 × cx_S) => ∀ (v5 : Int32), J4 v5 = some (r, sz) → cx G me_K_findMarked 32 [some (va_rf (some l0)), some (.int (l1)), some (.int (v5)), some (.int (l3))] [] s Q) h ?_ ?_
      · intro v5 h
        refine cx_iincP d_K_findMarked_32 (by decide) rfl ?_
        refine cx_goto (tgt := 4) d_K_findMarked_35 (by decide) ?_
        exact ih _ _ _ h
      clear h
      intro J4 hJ1 h
      refine cx_icmp_ne (tgt := 32) d_K_findMarked_19 (by decide) (fun hc19 => ?_) (fun hc19 => ?_)
      · rw [if_neg hc19] at h
        exact hJ1 _ h
      · rw [if_pos hc19] at h
        refine cx_iload_n d_K_findMarked_22 rfl ?_
        refine cx_iload_n d_K_findMarked_23 rfl ?_
        refine cx_icmp_ne (tgt := 29) d_K_findMarked_24 (by decide) (fun hc24 => ?_) (fun hc24 => ?_)
        · rw [if_neg hc24] at h
          refine cx_iincP d_K_findMarked_29 (by decide) rfl ?_
          exact hJ1 _ h
        · rw [if_pos hc24] at h
          refine cx_iload_n d_K_findMarked_27 rfl ?_
          exact cx_iret d_K_findMarked_28 rfl (ox_i hq h)
theorem E_K_findMarked {G : bm_G} {f : Nat} {l0 : Nat} {l1 : Int32} {s sz : cx_S} {r : Int32} {Q : Int32 → cx_S → Prop} (h : D_K_findMarked f l0 l1 s = some (r, sz)) (hq : Q r sz) : cx_Ti G me_K_findMarked [va_rf (some l0), .int (l1)] s Q := by
  refine cx_meti (by decide) (List.forall_mem_cons.mpr ⟨cx_cat, (List.forall_mem_cons.mpr ⟨rfl, (fun _ q => nomatch q)⟩)⟩) (Nat.le_of_ble_eq_true rfl) ?_
  generalize hQ : (fun (v : bm_R) (s2 : cx_S) => ∃ x, v = .inl (some (.int x)) ∧ Q x s2) = Q2
  replace hq : Q2 (.inl (some (.int (r)))) sz := by rw [← hQ]; exact ⟨_, rfl, hq⟩
  clear hQ
  unfold D_K_findMarked at h
  refine cx_iconst (v := nI 0) d_K_findMarked_0 (by decide) ?_
  refine cx_istore_n d_K_findMarked_1 (by decide) ?_
  refine cx_iconst (v := nI 0) d_K_findMarked_2 (by decide) ?_
  refine cx_istore_n d_K_findMarked_3 (by decide) ?_
  refine E_K_findMarked_4 (r := r) (sz := sz) hq _ _ _ _ h
theorem E_H_trace {G : bm_G} {f : Nat} {l0 : Nat} {l1 : Int32} {l2 : Int32} {l3 : Int32} {s sz : cx_S} {r : Int32} {Q : Int32 → cx_S → Prop} (h : D_H_trace f l0 l1 l2 l3 s = some (r, sz)) (hq : Q r sz) : cx_Ti G me_H_trace [va_rf (some l0), .int (l1), .int (l2), .int (l3)] s Q := by
  refine cx_meti (by decide) (List.forall_mem_cons.mpr ⟨cx_cat, (List.forall_mem_cons.mpr ⟨rfl, (List.forall_mem_cons.mpr ⟨rfl, (List.forall_mem_cons.mpr ⟨rfl, (fun _ q => nomatch q)⟩)⟩)⟩)⟩) (Nat.le_of_ble_eq_true rfl) ?_
  generalize hQ : (fun (v : bm_R) (s2 : cx_S) => ∃ x, v = .inl (some (.int x)) ∧ Q x s2) = Q2
  replace hq : Q2 (.inl (some (.int (r)))) sz := by rw [← hQ]; exact ⟨_, rfl, hq⟩
  clear hQ
  unfold D_H_trace at h
  refine cx_iload_n d_H_trace_0 rfl ?_
  refine cx_aload_n d_H_trace_1 rfl ?_
  obtain ⟨p1, ep1, hp1, h⟩ := oc_inv h
  refine cx_getr 6 rfl g_H_trace_2 rfl (by decide) ep1 hp1 ?_
  obtain ⟨p2, ep2, hp2, h⟩ := oc_inv h
  refine cx_geti 64 rfl g_H_trace_5 rfl (by decide) ep2 hp2 ?_
  obtain ⟨x3, s4, ex3, h⟩ := ob_inv h
  refine cx_callS2 c_H_trace_8 (cx_hst (fun _ q => nomatch q) (Nat.le_of_ble_eq_true rfl)) (E_H_isBelow ex3 ?_)
  refine oj_step (P := fun J5 : cx_S → Option (Int32 × cx_S) => ∀ (s6 : cx_S) (d0 : Option Value) (d1 : Option Value) (d2 : Option Value) (d3 : Option Value), J5 s6 = some (r, sz) → cx G me_H_trace 28 [d0, d1, d2, d3] [] s6 Q2) h ?_ ?_
  · intro s6 d0 d1 d2 d3 h
    refine cx_iconst (v := (-1)) d_H_trace_28 (by decide) ?_
    exact cx_iret d_H_trace_29 rfl (ox_i hq h)
  clear h
  intro J5 hJ1 h
  refine cx_if_eq (tgt := 28) d_H_trace_11 (by decide) (fun hc11 => ?_) (fun hc11 => ?_)
  · rw [if_pos hc11] at h
    exact hJ1 _ _ _ _ _ h
  · rw [if_neg hc11] at h
    refine cx_iload_n d_H_trace_14 rfl ?_
    refine cx_aload_n d_H_trace_15 rfl ?_
    obtain ⟨p7, ep7, hp7, h⟩ := oc_inv h
    refine cx_getr 6 rfl g_H_trace_16 rfl (by decide) ep7 hp7 ?_
    obtain ⟨p8, ep8, hp8, h⟩ := oc_inv h
    refine cx_geti 64 rfl g_H_trace_19 rfl (by decide) ep8 hp8 ?_
    obtain ⟨x9, s10, ex9, h⟩ := ob_inv h
    refine cx_callS2 c_H_trace_22 (cx_hst (fun _ q => nomatch q) (Nat.le_of_ble_eq_true rfl)) (E_H_isBelow ex9 ?_)
    refine cx_if_ne (tgt := 30) d_H_trace_25 (by decide) (fun hc25 => ?_) (fun hc25 => ?_)
    · rw [if_neg hc25] at h
      refine cx_iload_n d_H_trace_30 rfl ?_
      refine oj_step (P := fun J11 : cx_S → Option (Int32 × cx_S) => ∀ (s12 : cx_S) (d1 : Option Value) (d2 : Option Value), J11 s12 = some (r, sz) → cx G me_H_trace 53 [some (va_rf (some l0)), d1, d2, some (.int (l3))] [] s12 Q2) h ?_ ?_
      · intro s12 d1 d2 h
        refine cx_aload_n d_H_trace_53 rfl ?_
        obtain ⟨p13, ep13, hp13, h⟩ := oc_inv h
        refine cx_getr 6 rfl g_H_trace_54 rfl (by decide) ep13 hp13 ?_
        refine cx_iload_n d_H_trace_57 rfl ?_
        obtain ⟨p14, ep14, hp14, h⟩ := oc_inv h
        obtain ⟨x15, s16, ex15, h⟩ := ob_inv h
        refine cx_callV1 c_H_trace_58 (cx_hst (fun _ q => nomatch q) (Nat.le_of_ble_eq_true rfl)) (by decide) ep14 hp14 (E_K_findMarked ex15 ?_)
        exact cx_iret d_H_trace_61 rfl (ox_i hq h)
      clear h
      intro J11 hJ2 h
      refine cx_if_eq (tgt := 45) d_H_trace_31 (by decide) (fun hc31 => ?_) (fun hc31 => ?_)
      · rw [if_pos hc31] at h
        refine cx_aload_n d_H_trace_45 rfl ?_
        obtain ⟨p17, ep17, hp17, h⟩ := oc_inv h
        refine cx_getr 6 rfl g_H_trace_46 rfl (by decide) ep17 hp17 ?_
        refine cx_iload_n d_H_trace_49 rfl ?_
        obtain ⟨p18, ep18, hp18, h⟩ := oc_inv h
        obtain ⟨x19, s20, ex19, h⟩ := ob_inv h
        refine cx_callV1v c_H_trace_50 (cx_hst (fun _ q => nomatch q) (Nat.le_of_ble_eq_true rfl)) (by decide) ep18 hp18 (E_K_markOrigins ex19 ?_)
        exact hJ2 _ _ _ h
      · rw [if_neg hc31] at h
        refine cx_aload_n d_H_trace_34 rfl ?_
        obtain ⟨p21, ep21, hp21, h⟩ := oc_inv h
        refine cx_getr 6 rfl g_H_trace_35 rfl (by decide) ep21 hp21 ?_
        refine cx_iload_n d_H_trace_38 rfl ?_
        obtain ⟨p22, ep22, hp22, h⟩ := oc_inv h
        obtain ⟨x23, s24, ex23, h⟩ := ob_inv h
        refine cx_callV1v c_H_trace_39 (cx_hst (fun _ q => nomatch q) (Nat.le_of_ble_eq_true rfl)) (by decide) ep22 hp22 (E_K_markOutcomes ex23 ?_)
        refine cx_goto (tgt := 53) d_H_trace_42 (by decide) ?_
        exact hJ2 _ _ _ h
    · rw [if_pos hc25] at h
      exact hJ1 _ _ _ _ _ h
theorem E_H_lots {G : bm_G} {f : Nat} {l0 : Nat} {s sz : cx_S} {r : Int32} {Q : Int32 → cx_S → Prop} (h : D_H_lots f l0 s = some (r, sz)) (hq : Q r sz) : cx_Ti G me_H_lots [va_rf (some l0)] s Q := by
  refine cx_meti (by decide) (List.forall_mem_cons.mpr ⟨cx_cat, (fun _ q => nomatch q)⟩) (Nat.le_of_ble_eq_true rfl) ?_
  generalize hQ : (fun (v : bm_R) (s2 : cx_S) => ∃ x, v = .inl (some (.int x)) ∧ Q x s2) = Q2
  replace hq : Q2 (.inl (some (.int (r)))) sz := by rw [← hQ]; exact ⟨_, rfl, hq⟩
  clear hQ
  unfold D_H_lots at h
  refine cx_aload_n d_H_lots_0 rfl ?_
  obtain ⟨p1, ep1, hp1, h⟩ := oc_inv h
  refine cx_getr 6 rfl g_H_lots_1 rfl (by decide) ep1 hp1 ?_
  obtain ⟨p2, ep2, hp2, h⟩ := oc_inv h
  refine cx_geti 64 rfl g_H_lots_4 rfl (by decide) ep2 hp2 ?_
  exact cx_iret d_H_lots_7 rfl (ox_i hq h)
