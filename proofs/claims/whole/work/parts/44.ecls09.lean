theorem E_C_reach {G : bm_G} {f : Nat} {l0 : Nat} {l1 : Int32} {s sz : cx_S} {r : Int32} {Q : cx_S → Prop} (h : D_C_reach f l0 l1 s = some (r, sz)) (hq : Q sz) : cx_Tv G me_C_reach [va_rf (some l0), .int (l1)] s Q := by
  refine cx_metv (by decide) (List.forall_mem_cons.mpr ⟨cx_cat, (List.forall_mem_cons.mpr ⟨rfl, (fun _ q => nomatch q)⟩)⟩) (Nat.le_of_ble_eq_true rfl) ?_
  generalize hQ : (fun (v : bm_R) (s2 : cx_S) => v = .inl none ∧ Q s2) = Q2
  replace hq : Q2 (.inl none) sz := by rw [← hQ]; exact ⟨rfl, hq⟩
  clear hQ
  unfold D_C_reach at h
  refine cx_iload_n d_C_reach_0 rfl ?_
  refine cx_bipush (v := nI 12) d_C_reach_1 (by decide) ?_
  obtain ⟨x1, s2, ex1, h⟩ := ob_inv h
  refine cx_callS2 c_C_reach_3 (cx_hst (fun _ q => nomatch q) (Nat.le_of_ble_eq_true rfl)) (E_H_isBelow ex1 ?_)
  refine oj_step (P := fun J3 : cx_S → Option (Int32 × cx_S) => ∀ (s4 : cx_S) (d0 : Option Value) (d1 : Option Value), J3 s4 = some (r, sz) → cx G me_C_reach 16 [d0, d1] [] s4 Q2) h ?_ ?_
  · intro s4 d0 d1 h
    exact cx_vret d_C_reach_16 rfl (ox_v hq h)
  clear h
  intro J3 hJ1 h
  refine cx_if_eq (tgt := 16) d_C_reach_6 (by decide) (fun hc6 => ?_) (fun hc6 => ?_)
  · rw [if_pos hc6] at h
    exact hJ1 _ _ _ h
  · rw [if_neg hc6] at h
    refine cx_aload_n d_C_reach_9 rfl ?_
    obtain ⟨p5, ep5, hp5, h⟩ := oc_inv h
    refine cx_getr 112 rfl g_C_reach_10 rfl (by decide) ep5 hp5 ?_
    refine cx_iload_n d_C_reach_13 rfl ?_
    refine cx_iconst (v := nI 1) d_C_reach_14 (by decide) ?_
    obtain ⟨a6, na6, j7, ea6, ha6, hj7, gj7, ej7, h⟩ := oa_inv h
    refine cx_iast d_C_reach_15 ea6 ha6 hj7 gj7 ej7 ?_
    exact hJ1 _ _ _ h
theorem E_C_isAllReached_27 {G : bm_G} {f : Nat} {l0 : Nat} {l1 : Option Nat} {l2 : Int32} {k79 : cx_S → Option (Int32 × cx_S)} {r : Int32} {sz : cx_S} {Q : bm_R → cx_S → Prop} (hq : Q (.inl (some (.int (r)))) sz) (hk79 : ∀ (d3 : Option Value) (s : cx_S), k79 s = some (r, sz) → cx G me_C_isAllReached 79 [some (va_rf (some l0)), some (va_rf (l1)), some (.int (l2)), d3] [] s Q) : ∀ (n : Nat) (l3 : Int32) (s : cx_S), D_C_isAllReached_27 f l0 l1 l2 k79 n l3 s = some (r, sz) → cx G me_C_isAllReached 27 [some (va_rf (some l0)), some (va_rf (l1)), some (.int (l2)), some (.int (l3))] [] s Q := by
  intro n
  induction n with
  | zero =>
    intro l3 s h
    rw [D_C_isAllReached_27] at h
    exact absurd h (by simp)
  | succ n ih =>
    intro l3 s h
    rw [D_C_isAllReached_27] at h
    refine cx_iload_n d_C_isAllReached_27 rfl ?_
    refine cx_aload_n d_C_isAllReached_28 rfl ?_
    obtain ⟨p8, ep8, hp8, h⟩ := oc_inv h
    refine cx_geti 97 rfl g_C_isAllReached_29 rfl (by decide) ep8 hp8 ?_
    refine cx_icmp_ge (tgt := 79) d_C_isAllReached_32 (by decide) (fun hc32 => ?_) (fun hc32 => ?_)
    · rw [if_pos hc32] at h
      exact hk79 _ _ h
    · rw [if_neg hc32] at h
      refine cx_aload_n d_C_isAllReached_35 rfl ?_
      obtain ⟨p9, ep9, hp9, h⟩ := oc_inv h
      refine cx_getr 112 rfl g_C_isAllReached_36 rfl (by decide) ep9 hp9 ?_
      refine cx_iload_n d_C_isAllReached_39 rfl ?_
      obtain ⟨a10, na10, j11, ea10, ha10, hj11, gj11, ej11, h⟩ := oa_inv h
      refine cx_iald d_C_isAllReached_40 ea10 ha10 hj11 gj11 ej11 ?_
      refine cx_iconst (v := nI 1) d_C_isAllReached_41 (by decide) ?_
      refine oj_step (P := fun J12 : cx_S → Option (Int32 × cx_S) => ∀ (s13 : cx_S), J12 s13 = some (r, sz) → cx G me_C_isAllReached 73 [some (va_rf (some l0)), some (va_rf (l1)), some (.int (l2)), some (.int (l3))] [] s13 Q) h ?_ ?_
      · intro s13 h
        refine cx_iincP d_C_isAllReached_73 (by decide) rfl ?_
        refine cx_goto (tgt := 27) d_C_isAllReached_76 (by decide) ?_
        exact ih _ _ h
      clear h
      intro J12 hJ1 h
      refine cx_icmp_ne (tgt := 73) d_C_isAllReached_42 (by decide) (fun hc42 => ?_) (fun hc42 => ?_)
      · rw [if_neg hc42] at h
        exact hJ1 _ h
      · rw [if_pos hc42] at h
        refine cx_aload_n d_C_isAllReached_45 rfl ?_
        refine cx_aload_n d_C_isAllReached_46 rfl ?_
        refine cx_getr 99 rfl g_C_isAllReached_47 rfl (by decide) ep8 hp8 ?_
        refine cx_iload_n d_C_isAllReached_50 rfl ?_
        obtain ⟨a14, na14, j15, ea14, ha14, hj15, gj15, ej15, h⟩ := oa_inv h
        refine cx_aald (t := 7) 407 rfl d_C_isAllReached_51 (by decide) rfl ea14 ha14 hj15 gj15 ej15 ?_
        refine cx_iconst (v := nI 0) d_C_isAllReached_52 (by decide) ?_
        obtain ⟨p16, ep16, hp16, h⟩ := oc_inv h
        obtain ⟨x17, s18, ex17, h⟩ := ob_inv h
        refine cx_callV1 c_C_isAllReached_53 (cx_hst (List.forall_mem_cons.mpr ⟨cx_cat, (fun _ q => nomatch q)⟩) (Nat.le_of_ble_eq_true rfl)) (by decide) ep16 hp16 (E_S_wayOut ex17 ?_)
        obtain ⟨p19, ep19, hp19, h⟩ := oc_inv h
        obtain ⟨x20, s21, ex20, h⟩ := ob_inv h
        refine cx_callV1v c_C_isAllReached_56 (cx_hst (fun _ q => nomatch q) (Nat.le_of_ble_eq_true rfl)) (by decide) ep19 hp19 (E_C_reach ex20 ?_)
        refine cx_aload_n d_C_isAllReached_59 rfl ?_
        refine cx_aload_n d_C_isAllReached_60 rfl ?_
        obtain ⟨p22, ep22, hp22, h⟩ := oc_inv h
        refine cx_getr 99 rfl g_C_isAllReached_61 rfl (by decide) ep22 hp22 ?_
        refine cx_iload_n d_C_isAllReached_64 rfl ?_
        obtain ⟨a23, na23, j24, ea23, ha23, hj24, gj24, ej24, h⟩ := oa_inv h
        refine cx_aald (t := 7) 407 rfl d_C_isAllReached_65 (by decide) rfl ea23 ha23 hj24 gj24 ej24 ?_
        refine cx_iconst (v := nI 1) d_C_isAllReached_66 (by decide) ?_
        obtain ⟨p25, ep25, hp25, h⟩ := oc_inv h
        obtain ⟨x26, s27, ex26, h⟩ := ob_inv h
        refine cx_callV1 c_C_isAllReached_67 (cx_hst (List.forall_mem_cons.mpr ⟨cx_cat, (fun _ q => nomatch q)⟩) (Nat.le_of_ble_eq_true rfl)) (by decide) ep25 hp25 (E_S_wayOut ex26 ?_)
        obtain ⟨p28, ep28, hp28, h⟩ := oc_inv h
        obtain ⟨x29, s30, ex29, h⟩ := ob_inv h
        refine cx_callV1v c_C_isAllReached_70 (cx_hst (fun _ q => nomatch q) (Nat.le_of_ble_eq_true rfl)) (by decide) ep28 hp28 (E_C_reach ex29 ?_)
        exact hJ1 _ h
theorem E_C_isAllReached_17 {G : bm_G} {f : Nat} {l0 : Nat} {l1 : Option Nat} {k85 : cx_S → Option (Int32 × cx_S)} {r : Int32} {sz : cx_S} {Q : bm_R → cx_S → Prop} (hq : Q (.inl (some (.int (r)))) sz) (hk85 : ∀ (d2 : Option Value) (d3 : Option Value) (s : cx_S), k85 s = some (r, sz) → cx G me_C_isAllReached 85 [some (va_rf (some l0)), some (va_rf (l1)), d2, d3] [] s Q) : ∀ (n : Nat) (l2 : Int32) (d3 : Option Value) (s : cx_S), D_C_isAllReached_17 f l0 l1 k85 n l2 s = some (r, sz) → cx G me_C_isAllReached 17 [some (va_rf (some l0)), some (va_rf (l1)), some (.int (l2)), d3] [] s Q := by
  intro n
  induction n with
  | zero =>
    intro l2 d3 s h
    rw [D_C_isAllReached_17] at h
    exact absurd h (by simp)
  | succ n ih =>
    intro l2 d3 s h
    rw [D_C_isAllReached_17] at h
    refine cx_iload_n d_C_isAllReached_17 rfl ?_
    refine cx_aload_n d_C_isAllReached_18 rfl ?_
    obtain ⟨p7, ep7, hp7, h⟩ := oc_inv h
    refine cx_geti 97 rfl g_C_isAllReached_19 rfl (by decide) ep7 hp7 ?_
    refine cx_icmp_ge (tgt := 85) d_C_isAllReached_22 (by decide) (fun hc22 => ?_) (fun hc22 => ?_)
    · rw [if_pos hc22] at h
      exact hk85 _ _ _ h
    · rw [if_neg hc22] at h
      refine cx_iconst (v := nI 0) d_C_isAllReached_25 (by decide) ?_
      refine cx_istore_n d_C_isAllReached_26 (by decide) ?_
      refine E_C_isAllReached_27 (r := r) (sz := sz) hq ?_ _ _ _ h
      · intro d3 s31 h
        refine cx_iincP d_C_isAllReached_79 (by decide) rfl ?_
        refine cx_goto (tgt := 17) d_C_isAllReached_82 (by decide) ?_
        exact ih _ _ _ h
theorem E_C_isAllReached_89 {G : bm_G} {f : Nat} {l0 : Nat} {l1 : Option Nat} {k112 : Int32 → cx_S → Option (Int32 × cx_S)} {r : Int32} {sz : cx_S} {Q : bm_R → cx_S → Prop} (hq : Q (.inl (some (.int (r)))) sz) (hk112 : ∀ (q2 : Int32) (d0 : Option Value) (d3 : Option Value) (s : cx_S), k112 q2 s = some (r, sz) → cx G me_C_isAllReached 112 [d0, some (va_rf (l1)), some (.int (q2)), d3] [] s Q) : ∀ (n : Nat) (l2 : Int32) (l3 : Int32) (s : cx_S), D_C_isAllReached_89 f l0 l1 k112 n l2 l3 s = some (r, sz) → cx G me_C_isAllReached 89 [some (va_rf (some l0)), some (va_rf (l1)), some (.int (l2)), some (.int (l3))] [] s Q := by
  intro n
  induction n with
  | zero =>
    intro l2 l3 s h
    rw [D_C_isAllReached_89] at h
    exact absurd h (by simp)
  | succ n ih =>
    intro l2 l3 s h
    rw [D_C_isAllReached_89] at h
    refine cx_iload_n d_C_isAllReached_89 rfl ?_
    refine cx_aload_n d_C_isAllReached_90 rfl ?_
    obtain ⟨p33, ep33, hp33, h⟩ := oc_inv h
    refine cx_geti 97 rfl g_C_isAllReached_91 rfl (by decide) ep33 hp33 ?_
    refine cx_icmp_ge (tgt := 112) d_C_isAllReached_94 (by decide) (fun hc94 => ?_) (fun hc94 => ?_)
    · rw [if_pos hc94] at h
      exact hk112 _ _ _ _ h
    · rw [if_neg hc94] at h
      refine cx_iload_n d_C_isAllReached_97 rfl ?_
      refine cx_aload_n d_C_isAllReached_98 rfl ?_
      obtain ⟨p34, ep34, hp34, h⟩ := oc_inv h
      refine cx_getr 112 rfl g_C_isAllReached_99 rfl (by decide) ep34 hp34 ?_
      refine cx_iload_n d_C_isAllReached_102 rfl ?_
      obtain ⟨a35, na35, j36, ea35, ha35, hj36, gj36, ej36, h⟩ := oa_inv h
      refine cx_iald d_C_isAllReached_103 ea35 ha35 hj36 gj36 ej36 ?_
      refine cx_iadd d_C_isAllReached_104 ?_
      refine cx_istore_n d_C_isAllReached_105 (by decide) ?_
      refine cx_iincP d_C_isAllReached_106 (by decide) rfl ?_
      refine cx_goto (tgt := 89) d_C_isAllReached_109 (by decide) ?_
      exact ih _ _ _ h
theorem E_C_isAllReached {G : bm_G} {f : Nat} {l0 : Nat} {l1 : Option Nat} {s sz : cx_S} {r : Int32} {Q : Int32 → cx_S → Prop} (h : D_C_isAllReached f l0 l1 s = some (r, sz)) (hq : Q r sz) : cx_Ti G me_C_isAllReached [va_rf (some l0), va_rf (l1)] s Q := by
  refine cx_meti (by decide) (List.forall_mem_cons.mpr ⟨cx_cat, (List.forall_mem_cons.mpr ⟨cx_cat, (fun _ q => nomatch q)⟩)⟩) (Nat.le_of_ble_eq_true rfl) ?_
  generalize hQ : (fun (v : bm_R) (s2 : cx_S) => ∃ x, v = .inl (some (.int x)) ∧ Q x s2) = Q2
  replace hq : Q2 (.inl (some (.int (r)))) sz := by rw [← hQ]; exact ⟨_, rfl, hq⟩
  clear hQ
  unfold D_C_isAllReached at h
  refine cx_aload_n d_C_isAllReached_0 rfl ?_
  obtain ⟨p1, ep1, hp1, h⟩ := oc_inv h
  refine cx_getr 112 rfl g_C_isAllReached_1 rfl (by decide) ep1 hp1 ?_
  refine cx_iconst (v := nI 0) d_C_isAllReached_4 (by decide) ?_
  obtain ⟨x2, s3, ex2, h⟩ := ob_inv h
  refine cx_callS2v c_C_isAllReached_5 (cx_hst (fun _ q => nomatch q) (Nat.le_of_ble_eq_true rfl)) (E_A_fill ex2 ?_)
  refine cx_aload_n d_C_isAllReached_8 rfl ?_
  obtain ⟨p4, ep4, hp4, h⟩ := oc_inv h
  refine cx_getr 112 rfl g_C_isAllReached_9 rfl (by decide) ep4 hp4 ?_
  refine cx_iconst (v := nI 0) d_C_isAllReached_12 (by decide) ?_
  refine cx_iconst (v := nI 1) d_C_isAllReached_13 (by decide) ?_
  obtain ⟨a5, na5, j6, ea5, ha5, hj6, gj6, ej6, h⟩ := oa_inv h
  refine cx_iast d_C_isAllReached_14 ea5 ha5 hj6 gj6 ej6 ?_
  refine cx_iconst (v := nI 0) d_C_isAllReached_15 (by decide) ?_
  refine cx_istore_n d_C_isAllReached_16 (by decide) ?_
  refine E_C_isAllReached_17 (r := r) (sz := sz) hq ?_ _ _ _ _ h
  · intro d2 d3 s32 h
    refine cx_iconst (v := nI 0) d_C_isAllReached_85 (by decide) ?_
    refine cx_istore_n d_C_isAllReached_86 (by decide) ?_
    refine cx_iconst (v := nI 0) d_C_isAllReached_87 (by decide) ?_
    refine cx_istore_n d_C_isAllReached_88 (by decide) ?_
    refine E_C_isAllReached_89 (r := r) (sz := sz) hq ?_ _ _ _ _ h
    · intro v37 d0 d3 s38 h
      refine cx_iload_n d_C_isAllReached_112 rfl ?_
      refine cx_aload_n d_C_isAllReached_113 rfl ?_
      obtain ⟨p39, ep39, hp39, h⟩ := oc_inv h
      refine cx_geti 97 rfl g_C_isAllReached_114 rfl (by decide) ep39 hp39 ?_
      refine oj_step (P := fun J40 : Int32 → Option (Int32 × cx_S) => ∀ (x41 : Int32) (d0 : Option Value) (d1 : Option Value) (d2 : Option Value) (d3 : Option Value), J40 x41 = some (r, sz) → cx G me_C_isAllReached 125 [d0, d1, d2, d3] [.int (x41)] s38 Q2) h ?_ ?_
      · intro x41 d0 d1 d2 d3 h
        obtain ⟨hz, h⟩ := ozb_inv h
        exact cx_zret d_C_isAllReached_125 rfl (ozb_nar hz) (ox_i hq h)
      clear h
      intro J40 hJ2 h
      refine cx_icmp_ne (tgt := 124) d_C_isAllReached_117 (by decide) (fun hc117 => ?_) (fun hc117 => ?_)
      · rw [if_neg hc117] at h
        refine cx_iconst (v := nI 0) d_C_isAllReached_124 (by decide) ?_
        exact hJ2 _ _ _ _ _ h
      · rw [if_pos hc117] at h
        refine cx_iconst (v := nI 1) d_C_isAllReached_120 (by decide) ?_
        refine cx_goto (tgt := 125) d_C_isAllReached_121 (by decide) ?_
        exact hJ2 _ _ _ _ _ h
theorem E_C_joinBranch {G : bm_G} {f : Nat} {l0 : Nat} {l1 : Int32} {l2 : Int32} {s sz : cx_S} {r : Int32} {Q : Int32 → cx_S → Prop} (h : D_C_joinBranch f l0 l1 l2 s = some (r, sz)) (hq : Q r sz) : cx_Ti G me_C_joinBranch [va_rf (some l0), .int (l1), .int (l2)] s Q := by
  refine cx_meti (by decide) (List.forall_mem_cons.mpr ⟨cx_cat, (List.forall_mem_cons.mpr ⟨rfl, (List.forall_mem_cons.mpr ⟨rfl, (fun _ q => nomatch q)⟩)⟩)⟩) (Nat.le_of_ble_eq_true rfl) ?_
  generalize hQ : (fun (v : bm_R) (s2 : cx_S) => ∃ x, v = .inl (some (.int x)) ∧ Q x s2) = Q2
  replace hq : Q2 (.inl (some (.int (r)))) sz := by rw [← hQ]; exact ⟨_, rfl, hq⟩
  clear hQ
  unfold D_C_joinBranch at h
  refine cx_iload_n d_C_joinBranch_0 rfl ?_
  refine cx_if_ne (tgt := 6) d_C_joinBranch_1 (by decide) (fun hc1 => ?_) (fun hc1 => ?_)
  · rw [if_neg hc1] at h
    refine cx_iload_n d_C_joinBranch_6 rfl ?_
    refine cx_iconst (v := nI 1) d_C_joinBranch_7 (by decide) ?_
    refine cx_isub d_C_joinBranch_8 ?_
    refine cx_iconst (v := nI 2) d_C_joinBranch_9 (by decide) ?_
    obtain ⟨hy10, h⟩ := od_inv h
    refine cx_idiv d_C_joinBranch_10 hy10 ?_
    refine cx_istore_n d_C_joinBranch_11 (by decide) ?_
    refine cx_aload_n d_C_joinBranch_12 rfl ?_
    obtain ⟨p1, ep1, hp1, h⟩ := oc_inv h
    refine cx_getr 113 rfl g_C_joinBranch_13 rfl (by decide) ep1 hp1 ?_
    refine cx_iload_n d_C_joinBranch_16 rfl ?_
    obtain ⟨a2, na2, j3, ea2, ha2, hj3, gj3, ej3, h⟩ := oa_inv h
    refine cx_iald d_C_joinBranch_17 ea2 ha2 hj3 gj3 ej3 ?_
    refine cx_iconst (v := (-1)) d_C_joinBranch_18 (by decide) ?_
    refine oj_step (P := fun J4 : cx_S → Option (Int32 × cx_S) => ∀ (s5 : cx_S), J4 s5 = some (r, sz) → cx G me_C_joinBranch 41 [some (va_rf (some l0)), some (.int (l1)), some (.int (l2)), some (.int ((l2 - (nI 1)) / (nI 2)))] [] s5 Q2) h ?_ ?_
    · intro s5 h
      refine cx_aload_n d_C_joinBranch_41 rfl ?_
      obtain ⟨p6, ep6, hp6, h⟩ := oc_inv h
      refine cx_getr 115 rfl g_C_joinBranch_42 rfl (by decide) ep6 hp6 ?_
      refine cx_iload_n d_C_joinBranch_45 rfl ?_
      obtain ⟨a7, na7, j8, ea7, ha7, hj8, gj8, ej8, h⟩ := oa_inv h
      refine cx_iald d_C_joinBranch_46 ea7 ha7 hj8 gj8 ej8 ?_
      refine cx_iconst (v := (-1)) d_C_joinBranch_47 (by decide) ?_
      refine oj_step (P := fun J9 : cx_S → Option (Int32 × cx_S) => ∀ (s10 : cx_S), J9 s10 = some (r, sz) → cx G me_C_joinBranch 58 [some (va_rf (some l0)), some (.int (l1)), some (.int (l2)), some (.int ((l2 - (nI 1)) / (nI 2)))] [] s10 Q2) h ?_ ?_
      · intro s10 h
        refine cx_aload_n d_C_joinBranch_58 rfl ?_
        obtain ⟨p11, ep11, hp11, h⟩ := oc_inv h
        refine cx_getr 114 rfl g_C_joinBranch_59 rfl (by decide) ep11 hp11 ?_
        refine cx_iload_n d_C_joinBranch_62 rfl ?_
        obtain ⟨a12, na12, j13, ea12, ha12, hj13, gj13, ej13, h⟩ := oa_inv h
        refine cx_iald d_C_joinBranch_63 ea12 ha12 hj13 gj13 ej13 ?_
        refine cx_iload_n d_C_joinBranch_64 rfl ?_
        refine oj_step (P := fun J14 : Int32 → Option (Int32 × cx_S) => ∀ (x15 : Int32) (d0 : Option Value) (d1 : Option Value) (d2 : Option Value) (d3 : Option Value), J14 x15 = some (r, sz) → cx G me_C_joinBranch 83 [d0, d1, d2, d3] [.int (x15)] s10 Q2) h ?_ ?_
        · intro x15 d0 d1 d2 d3 h
          obtain ⟨hz, h⟩ := ozb_inv h
          exact cx_zret d_C_joinBranch_83 rfl (ozb_nar hz) (ox_i hq h)
        clear h
        intro J14 hJ1 h
        refine oj_step (P := fun J16 : Unit → Option (Int32 × cx_S) => ∀ (_u : Unit) (d0 : Option Value) (d1 : Option Value) (d2 : Option Value) (d3 : Option Value), J16 () = some (r, sz) → cx G me_C_joinBranch 82 [d0, d1, d2, d3] [] s10 Q2) h ?_ ?_
        · intro _u d0 d1 d2 d3 h
          refine cx_iconst (v := nI 0) d_C_joinBranch_82 (by decide) ?_
          exact hJ1 _ _ _ _ _ h
        clear h
        intro J16 hJ2 h
        refine cx_icmp_ne (tgt := 82) d_C_joinBranch_65 (by decide) (fun hc65 => ?_) (fun hc65 => ?_)
        · rw [if_neg hc65] at h
          exact hJ2 () _ _ _ _ h
        · rw [if_pos hc65] at h
          refine cx_aload_n d_C_joinBranch_68 rfl ?_
          refine cx_getr 115 rfl g_C_joinBranch_69 rfl (by decide) ep11 hp11 ?_
          refine cx_iload_n d_C_joinBranch_72 rfl ?_
          obtain ⟨a17, na17, j18, ea17, ha17, hj18, gj18, ej18, h⟩ := oa_inv h
          refine cx_iald d_C_joinBranch_73 ea17 ha17 hj18 gj18 ej18 ?_
          refine cx_iload_n d_C_joinBranch_74 rfl ?_
          refine cx_icmp_ne (tgt := 82) d_C_joinBranch_75 (by decide) (fun hc75 => ?_) (fun hc75 => ?_)
          · rw [if_neg hc75] at h
            exact hJ2 () _ _ _ _ h
          · rw [if_pos hc75] at h
            refine cx_iconst (v := nI 1) d_C_joinBranch_78 (by decide) ?_
            refine cx_goto (tgt := 83) d_C_joinBranch_79 (by decide) ?_
            exact hJ1 _ _ _ _ _ h
      clear h
      intro J9 hJ3 h
      refine cx_icmp_ne (tgt := 58) d_C_joinBranch_48 (by decide) (fun hc48 => ?_) (fun hc48 => ?_)
      · rw [if_neg hc48] at h
        exact hJ3 _ h
      · rw [if_pos hc48] at h
        refine cx_aload_n d_C_joinBranch_51 rfl ?_
        refine cx_getr 115 rfl g_C_joinBranch_52 rfl (by decide) ep6 hp6 ?_
        refine cx_iload_n d_C_joinBranch_55 rfl ?_
        refine cx_iload_n d_C_joinBranch_56 rfl ?_
        refine cx_iast d_C_joinBranch_57 ea7 ha7 hj8 gj8 ej8 ?_
        exact hJ3 _ h
    clear h
    intro J4 hJ4 h
    refine cx_icmp_ne (tgt := 41) d_C_joinBranch_19 (by decide) (fun hc19 => ?_) (fun hc19 => ?_)
    · rw [if_neg hc19] at h
      exact hJ4 _ h
    · rw [if_pos hc19] at h
      refine cx_aload_n d_C_joinBranch_22 rfl ?_
      refine cx_getr 113 rfl g_C_joinBranch_23 rfl (by decide) ep1 hp1 ?_
      refine cx_iload_n d_C_joinBranch_26 rfl ?_
      refine cx_aload_n d_C_joinBranch_27 rfl ?_
      refine cx_getr 113 rfl g_C_joinBranch_28 rfl (by decide) ep1 hp1 ?_
      refine cx_iload_n d_C_joinBranch_31 rfl ?_
      obtain ⟨a19, na19, j20, ea19, ha19, hj20, gj20, ej20, h⟩ := oa_inv h
      refine cx_iald d_C_joinBranch_32 ea19 ha19 hj20 gj20 ej20 ?_
      refine cx_iast d_C_joinBranch_33 ea2 ha2 hj3 gj3 ej3 ?_
      refine cx_aload_n d_C_joinBranch_34 rfl ?_
      refine cx_getr 114 rfl g_C_joinBranch_35 rfl (by decide) ep1 hp1 ?_
      refine cx_iload_n d_C_joinBranch_38 rfl ?_
      refine cx_iload_n d_C_joinBranch_39 rfl ?_
      obtain ⟨a21, na21, j22, ea21, ha21, hj22, gj22, ej22, h⟩ := oa_inv h
      refine cx_iast d_C_joinBranch_40 ea21 ha21 hj22 gj22 ej22 ?_
      exact hJ4 _ h
  · rw [if_pos hc1] at h
    refine cx_iconst (v := nI 0) d_C_joinBranch_4 (by decide) ?_
    exact cx_zret d_C_joinBranch_5 rfl (by decide) (ox_i hq h)
theorem E_C_enterBranch {G : bm_G} {f : Nat} {l0 : Nat} {l1 : Option Nat} {l2 : Int32} {l3 : Int32} {l4 : Int32} {s sz : cx_S} {r : Int32} {Q : Int32 → cx_S → Prop} (h : D_C_enterBranch f l0 l1 l2 l3 l4 s = some (r, sz)) (hq : Q r sz) : cx_Ti G me_C_enterBranch [va_rf (some l0), va_rf (l1), .int (l2), .int (l3), .int (l4)] s Q := by
  refine cx_meti (by decide) (List.forall_mem_cons.mpr ⟨cx_cat, (List.forall_mem_cons.mpr ⟨cx_cat, (List.forall_mem_cons.mpr ⟨rfl, (List.forall_mem_cons.mpr ⟨rfl, (List.forall_mem_cons.mpr ⟨rfl, (fun _ q => nomatch q)⟩)⟩)⟩)⟩)⟩) (Nat.le_of_ble_eq_true rfl) ?_
  generalize hQ : (fun (v : bm_R) (s2 : cx_S) => ∃ x, v = .inl (some (.int x)) ∧ Q x s2) = Q2
  replace hq : Q2 (.inl (some (.int (r)))) sz := by rw [← hQ]; exact ⟨_, rfl, hq⟩
  clear hQ
  unfold D_C_enterBranch at h
  refine cx_iload_n d_C_enterBranch_0 rfl ?_
  refine cx_aload_n d_C_enterBranch_1 rfl ?_
  obtain ⟨p1, ep1, hp1, h⟩ := oc_inv h
  refine cx_geti 97 rfl g_C_enterBranch_2 rfl (by decide) ep1 hp1 ?_
  obtain ⟨x2, s3, ex2, h⟩ := ob_inv h
  refine cx_callS2 c_C_enterBranch_5 (cx_hst (fun _ q => nomatch q) (Nat.le_of_ble_eq_true rfl)) (E_H_isBelow ex2 ?_)
  refine cx_if_ne (tgt := 13) d_C_enterBranch_8 (by decide) (fun hc8 => ?_) (fun hc8 => ?_)
  · rw [if_neg hc8] at h
    refine cx_aload_n d_C_enterBranch_13 rfl ?_
    obtain ⟨p4, ep4, hp4, h⟩ := oc_inv h
    refine cx_getr 99 rfl g_C_enterBranch_14 rfl (by decide) ep4 hp4 ?_
    refine cx_iload_n d_C_enterBranch_17 rfl ?_
    obtain ⟨a5, na5, j6, ea5, ha5, hj6, gj6, ej6, h⟩ := oa_inv h
    refine cx_aald (t := 7) 407 rfl d_C_enterBranch_18 (by decide) rfl ea5 ha5 hj6 gj6 ej6 ?_
    obtain ⟨p7, ep7, hp7, h⟩ := oc_inv h
    refine cx_geti 128 rfl g_C_enterBranch_19 rfl (by decide) ep7 hp7 ?_
    refine cx_bipush (v := nI 6) d_C_enterBranch_22 (by decide) ?_
    refine cx_icmp_ne (tgt := 47) d_C_enterBranch_24 (by decide) (fun hc24 => ?_) (fun hc24 => ?_)
    · rw [if_neg hc24] at h
      refine cx_aload_n d_C_enterBranch_47 rfl ?_
      obtain ⟨p16, ep16, hp16, h⟩ := oc_inv h
      refine cx_getr 113 rfl g_C_enterBranch_48 rfl (by decide) ep16 hp16 ?_
      refine cx_iload_n d_C_enterBranch_51 rfl ?_
      obtain ⟨a17, na17, j18, ea17, ha17, hj18, gj18, ej18, h⟩ := oa_inv h
      refine cx_iald d_C_enterBranch_52 ea17 ha17 hj18 gj18 ej18 ?_
      refine cx_iconst (v := (-1)) d_C_enterBranch_53 (by decide) ?_
      refine oj_step (P := fun J19 : cx_S → Option (Int32 × cx_S) => ∀ (s20 : cx_S) (d1 : Option Value) (d4 : Option Value), J19 s20 = some (r, sz) → cx G me_C_enterBranch 64 [some (va_rf (some l0)), d1, some (.int (l2)), some (.int (l3)), d4] [] s20 Q2) h ?_ ?_
      · intro s20 d1 d4 h
        refine cx_aload_n d_C_enterBranch_64 rfl ?_
        obtain ⟨p21, ep21, hp21, h⟩ := oc_inv h
        refine cx_getr 113 rfl g_C_enterBranch_65 rfl (by decide) ep21 hp21 ?_
        refine cx_iload_n d_C_enterBranch_68 rfl ?_
        obtain ⟨a22, na22, j23, ea22, ha22, hj23, gj23, ej23, h⟩ := oa_inv h
        refine cx_iald d_C_enterBranch_69 ea22 ha22 hj23 gj23 ej23 ?_
        refine cx_iload_n d_C_enterBranch_70 rfl ?_
        refine oj_step (P := fun J24 : Int32 → Option (Int32 × cx_S) => ∀ (x25 : Int32) (d0 : Option Value) (d1 : Option Value) (d2 : Option Value) (d3 : Option Value) (d4 : Option Value), J24 x25 = some (r, sz) → cx G me_C_enterBranch 79 [d0, d1, d2, d3, d4] [.int (x25)] s20 Q2) h ?_ ?_
        · intro x25 d0 d1 d2 d3 d4 h
          obtain ⟨hz, h⟩ := ozb_inv h
          exact cx_zret d_C_enterBranch_79 rfl (ozb_nar hz) (ox_i hq h)
        clear h
        intro J24 hJ3 h
        refine cx_icmp_ne (tgt := 78) d_C_enterBranch_71 (by decide) (fun hc71 => ?_) (fun hc71 => ?_)
        · rw [if_neg hc71] at h
          refine cx_iconst (v := nI 0) d_C_enterBranch_78 (by decide) ?_
          exact hJ3 _ _ _ _ _ _ h
        · rw [if_pos hc71] at h
          refine cx_iconst (v := nI 1) d_C_enterBranch_74 (by decide) ?_
          refine cx_goto (tgt := 79) d_C_enterBranch_75 (by decide) ?_
          exact hJ3 _ _ _ _ _ _ h
      clear h
      intro J19 hJ4 h
      refine cx_icmp_ne (tgt := 64) d_C_enterBranch_54 (by decide) (fun hc54 => ?_) (fun hc54 => ?_)
      · rw [if_neg hc54] at h
        exact hJ4 _ _ _ h
      · rw [if_pos hc54] at h
        refine cx_aload_n d_C_enterBranch_57 rfl ?_
        refine cx_getr 113 rfl g_C_enterBranch_58 rfl (by decide) ep16 hp16 ?_
        refine cx_iload_n d_C_enterBranch_61 rfl ?_
        refine cx_iload_n d_C_enterBranch_62 rfl ?_
        refine cx_iast d_C_enterBranch_63 ea17 ha17 hj18 gj18 ej18 ?_
        exact hJ4 _ _ _ h
    · rw [if_pos hc24] at h
      refine cx_iload d_C_enterBranch_27 rfl ?_
      refine oj_step (P := fun J8 : Int32 → cx_S → Option (Int32 × cx_S) => ∀ (x9 : Int32) (s10 : cx_S) (d0 : Option Value) (d1 : Option Value) (d2 : Option Value) (d3 : Option Value) (d4 : Option Value), J8 x9 s10 = some (r, sz) → cx G me_C_enterBranch 46 [d0, d1, d2, d3, d4] [.int (x9)] s10 Q2) h ?_ ?_
      · intro x9 s10 d0 d1 d2 d3 d4 h
        obtain ⟨hz, h⟩ := ozb_inv h
        exact cx_zret d_C_enterBranch_46 rfl (ozb_nar hz) (ox_i hq h)
      clear h
      intro J8 hJ1 h
      refine oj_step (P := fun J11 : cx_S → Option (Int32 × cx_S) => ∀ (s12 : cx_S) (d0 : Option Value) (d1 : Option Value) (d2 : Option Value) (d3 : Option Value) (d4 : Option Value), J11 s12 = some (r, sz) → cx G me_C_enterBranch 45 [d0, d1, d2, d3, d4] [] s12 Q2) h ?_ ?_
      · intro s12 d0 d1 d2 d3 d4 h
        refine cx_iconst (v := nI 0) d_C_enterBranch_45 (by decide) ?_
        exact hJ1 _ _ _ _ _ _ _ h
      clear h
      intro J11 hJ2 h
      refine cx_if_ne (tgt := 45) d_C_enterBranch_29 (by decide) (fun hc29 => ?_) (fun hc29 => ?_)
      · rw [if_neg hc29] at h
        exact hJ2 _ _ _ _ _ _ h
      · rw [if_pos hc29] at h
        refine cx_aload_n d_C_enterBranch_32 rfl ?_
        refine cx_iload_n d_C_enterBranch_33 rfl ?_
        refine cx_iload_n d_C_enterBranch_34 rfl ?_
        obtain ⟨p13, ep13, hp13, h⟩ := oc_inv h
        obtain ⟨x14, s15, ex14, h⟩ := ob_inv h
        refine cx_callV2 c_C_enterBranch_35 (cx_hst (fun _ q => nomatch q) (Nat.le_of_ble_eq_true rfl)) (by decide) ep13 hp13 (E_C_joinBranch ex14 ?_)
        refine cx_if_eq (tgt := 45) d_C_enterBranch_38 (by decide) (fun hc38 => ?_) (fun hc38 => ?_)
        · rw [if_pos hc38] at h
          exact hJ2 _ _ _ _ _ _ h
        · rw [if_neg hc38] at h
          refine cx_iconst (v := nI 1) d_C_enterBranch_41 (by decide) ?_
          refine cx_goto (tgt := 46) d_C_enterBranch_42 (by decide) ?_
          exact hJ1 _ _ _ _ _ _ _ h
  · rw [if_pos hc8] at h
    refine cx_iconst (v := nI 1) d_C_enterBranch_11 (by decide) ?_
    exact cx_zret d_C_enterBranch_12 rfl (by decide) (ox_i hq h)
theorem E_C_spreadBranch {G : bm_G} {f : Nat} {l0 : Nat} {l1 : Option Nat} {l2 : Int32} {s sz : cx_S} {r : Int32} {Q : Int32 → cx_S → Prop} (h : D_C_spreadBranch f l0 l1 l2 s = some (r, sz)) (hq : Q r sz) : cx_Ti G me_C_spreadBranch [va_rf (some l0), va_rf (l1), .int (l2)] s Q := by
  refine cx_meti (by decide) (List.forall_mem_cons.mpr ⟨cx_cat, (List.forall_mem_cons.mpr ⟨cx_cat, (List.forall_mem_cons.mpr ⟨rfl, (fun _ q => nomatch q)⟩)⟩)⟩) (Nat.le_of_ble_eq_true rfl) ?_
  generalize hQ : (fun (v : bm_R) (s2 : cx_S) => ∃ x, v = .inl (some (.int x)) ∧ Q x s2) = Q2
  replace hq : Q2 (.inl (some (.int (r)))) sz := by rw [← hQ]; exact ⟨_, rfl, hq⟩
  clear hQ
  unfold D_C_spreadBranch at h
  refine cx_aload_n d_C_spreadBranch_0 rfl ?_
  obtain ⟨p1, ep1, hp1, h⟩ := oc_inv h
  refine cx_getr 99 rfl g_C_spreadBranch_1 rfl (by decide) ep1 hp1 ?_
  refine cx_iload_n d_C_spreadBranch_4 rfl ?_
  obtain ⟨a2, na2, j3, ea2, ha2, hj3, gj3, ej3, h⟩ := oa_inv h
  refine cx_aald (t := 7) 407 rfl d_C_spreadBranch_5 (by decide) rfl ea2 ha2 hj3 gj3 ej3 ?_
  refine cx_astore_n d_C_spreadBranch_6 (by decide) ?_
  refine cx_aload_n d_C_spreadBranch_7 rfl ?_
  obtain ⟨p4, ep4, hp4, h⟩ := oc_inv h
  refine cx_getr 113 rfl g_C_spreadBranch_8 rfl (by decide) ep4 hp4 ?_
  refine cx_iload_n d_C_spreadBranch_11 rfl ?_
  obtain ⟨a5, na5, j6, ea5, ha5, hj6, gj6, ej6, h⟩ := oa_inv h
  refine cx_iald d_C_spreadBranch_12 ea5 ha5 hj6 gj6 ej6 ?_
  refine cx_istore d_C_spreadBranch_13 (by decide) ?_
  refine cx_aload_n d_C_spreadBranch_15 rfl ?_
  obtain ⟨p7, ep7, hp7, h⟩ := oc_inv h
  refine cx_geti 128 rfl g_C_spreadBranch_16 rfl (by decide) ep7 hp7 ?_
  refine cx_iconst (v := nI 5) d_C_spreadBranch_19 (by decide) ?_
  refine oj_step (P := fun J8 : Int32 → Option (Int32 × cx_S) => ∀ (x9 : Int32) (d5 : Option Value), J8 x9 = some (r, sz) → cx G me_C_spreadBranch 28 [some (va_rf (some l0)), some (va_rf (l1)), some (.int (l2)), some (va_rf (cR s 407 a2 j3)), some (.int (cI s 400 a5 j6)), d5] [.int (x9)] s Q2) h ?_ ?_
  · intro x9 d5 h
    refine cx_istore d_C_spreadBranch_28 (by decide) ?_
    refine cx_aload_n d_C_spreadBranch_30 rfl ?_
    refine cx_aload_n d_C_spreadBranch_31 rfl ?_
    refine cx_aload_n d_C_spreadBranch_32 rfl ?_
    refine cx_iconst (v := nI 0) d_C_spreadBranch_33 (by decide) ?_
    obtain ⟨x10, s11, ex10, h⟩ := ob_inv h
    refine cx_callV1 c_C_spreadBranch_34 (cx_hst (List.forall_mem_cons.mpr ⟨cx_cat, (List.forall_mem_cons.mpr ⟨cx_cat, (fun _ q => nomatch q)⟩)⟩) (Nat.le_of_ble_eq_true rfl)) (by decide) ep7 hp7 (E_S_wayOut ex10 ?_)
    refine cx_iload d_C_spreadBranch_37 rfl ?_
    refine oj_step (P := fun J12 : Int32 → Option (Int32 × cx_S) => ∀ (x13 : Int32), J12 x13 = some (r, sz) → cx G me_C_spreadBranch 52 [some (va_rf (some l0)), some (va_rf (l1)), some (.int (l2)), some (va_rf (cR s 407 a2 j3)), some (.int (cI s 400 a5 j6)), some (.int (x9))] [.int (x13), .int (x10), va_rf (l1), va_rf (some l0)] s11 Q2) h ?_ ?_
    · intro x13 h
      refine cx_iload d_C_spreadBranch_52 rfl ?_
      obtain ⟨p14, ep14, hp14, h⟩ := oc_inv h
      obtain ⟨x15, s16, ex15, h⟩ := ob_inv h
      refine cx_callV4 c_C_spreadBranch_54 (cx_hst (fun _ q => nomatch q) (Nat.le_of_ble_eq_true rfl)) (by decide) ep14 hp14 (E_C_enterBranch ex15 ?_)
      refine oj_step (P := fun J17 : Int32 → cx_S → Option (Int32 × cx_S) => ∀ (x18 : Int32) (s19 : cx_S) (d0 : Option Value) (d1 : Option Value) (d2 : Option Value) (d3 : Option Value) (d4 : Option Value) (d5 : Option Value), J17 x18 s19 = some (r, sz) → cx G me_C_spreadBranch 95 [d0, d1, d2, d3, d4, d5] [.int (x18)] s19 Q2) h ?_ ?_
      · intro x18 s19 d0 d1 d2 d3 d4 d5 h
        obtain ⟨hz, h⟩ := ozb_inv h
        exact cx_zret d_C_spreadBranch_95 rfl (ozb_nar hz) (ox_i hq h)
      clear h
      intro J17 hJ1 h
      refine oj_step (P := fun J20 : cx_S → Option (Int32 × cx_S) => ∀ (s21 : cx_S) (d0 : Option Value) (d1 : Option Value) (d2 : Option Value) (d3 : Option Value) (d4 : Option Value) (d5 : Option Value), J20 s21 = some (r, sz) → cx G me_C_spreadBranch 94 [d0, d1, d2, d3, d4, d5] [] s21 Q2) h ?_ ?_
      · intro s21 d0 d1 d2 d3 d4 d5 h
        refine cx_iconst (v := nI 0) d_C_spreadBranch_94 (by decide) ?_
        exact hJ1 _ _ _ _ _ _ _ _ h
      clear h
      intro J20 hJ2 h
      refine cx_if_eq (tgt := 94) d_C_spreadBranch_57 (by decide) (fun hc57 => ?_) (fun hc57 => ?_)
      · rw [if_pos hc57] at h
        exact hJ2 _ _ _ _ _ _ _ h
      · rw [if_neg hc57] at h
        refine cx_aload_n d_C_spreadBranch_60 rfl ?_
        refine cx_aload_n d_C_spreadBranch_61 rfl ?_
        refine cx_aload_n d_C_spreadBranch_62 rfl ?_
        refine cx_iconst (v := nI 1) d_C_spreadBranch_63 (by decide) ?_
        obtain ⟨p22, ep22, hp22, h⟩ := oc_inv h
        obtain ⟨x23, s24, ex23, h⟩ := ob_inv h
        refine cx_callV1 c_C_spreadBranch_64 (cx_hst (List.forall_mem_cons.mpr ⟨cx_cat, (List.forall_mem_cons.mpr ⟨cx_cat, (fun _ q => nomatch q)⟩)⟩) (Nat.le_of_ble_eq_true rfl)) (by decide) ep22 hp22 (E_S_wayOut ex23 ?_)
        refine cx_iload d_C_spreadBranch_67 rfl ?_
        refine oj_step (P := fun J25 : Int32 → Option (Int32 × cx_S) => ∀ (x26 : Int32) (d0 : Option Value) (d1 : Option Value) (d2 : Option Value) (d3 : Option Value) (d4 : Option Value), J25 x26 = some (r, sz) → cx G me_C_spreadBranch 82 [d0, d1, d2, d3, d4, some (.int (x9))] [.int (x26), .int (x23), va_rf (l1), va_rf (some l0)] s24 Q2) h ?_ ?_
        · intro x26 d0 d1 d2 d3 d4 h
          refine cx_iload d_C_spreadBranch_82 rfl ?_
          obtain ⟨p27, ep27, hp27, h⟩ := oc_inv h
          obtain ⟨x28, s29, ex28, h⟩ := ob_inv h
          refine cx_callV4 c_C_spreadBranch_84 (cx_hst (fun _ q => nomatch q) (Nat.le_of_ble_eq_true rfl)) (by decide) ep27 hp27 (E_C_enterBranch ex28 ?_)
          refine cx_if_eq (tgt := 94) d_C_spreadBranch_87 (by decide) (fun hc87 => ?_) (fun hc87 => ?_)
          · rw [if_pos hc87] at h
            exact hJ2 _ _ _ _ _ _ _ h
          · rw [if_neg hc87] at h
            refine cx_iconst (v := nI 1) d_C_spreadBranch_90 (by decide) ?_
            refine cx_goto (tgt := 95) d_C_spreadBranch_91 (by decide) ?_
            exact hJ1 _ _ _ _ _ _ _ _ h
        clear h
        intro J25 hJ3 h
        refine cx_if_eq (tgt := 80) d_C_spreadBranch_69 (by decide) (fun hc69 => ?_) (fun hc69 => ?_)
        · rw [if_pos hc69] at h
          refine cx_iload d_C_spreadBranch_80 rfl ?_
          exact hJ3 _ _ _ _ _ _ h
        · rw [if_neg hc69] at h
          refine cx_iconst (v := nI 2) d_C_spreadBranch_72 (by decide) ?_
          refine cx_iload_n d_C_spreadBranch_73 rfl ?_
          refine cx_imul d_C_spreadBranch_74 ?_
          refine cx_iconst (v := nI 2) d_C_spreadBranch_75 (by decide) ?_
          refine cx_iadd d_C_spreadBranch_76 ?_
          refine cx_goto (tgt := 82) d_C_spreadBranch_77 (by decide) ?_
          exact hJ3 _ _ _ _ _ _ h
    clear h
    intro J12 hJ4 h
    refine cx_if_eq (tgt := 50) d_C_spreadBranch_39 (by decide) (fun hc39 => ?_) (fun hc39 => ?_)
    · rw [if_pos hc39] at h
      refine cx_iload d_C_spreadBranch_50 rfl ?_
      exact hJ4 _ h
    · rw [if_neg hc39] at h
      refine cx_iconst (v := nI 2) d_C_spreadBranch_42 (by decide) ?_
      refine cx_iload_n d_C_spreadBranch_43 rfl ?_
      refine cx_imul d_C_spreadBranch_44 ?_
      refine cx_iconst (v := nI 1) d_C_spreadBranch_45 (by decide) ?_
      refine cx_iadd d_C_spreadBranch_46 ?_
      refine cx_goto (tgt := 52) d_C_spreadBranch_47 (by decide) ?_
      exact hJ4 _ h
  clear h
  intro J8 hJ5 h
  refine cx_icmp_ne (tgt := 27) d_C_spreadBranch_20 (by decide) (fun hc20 => ?_) (fun hc20 => ?_)
  · rw [if_neg hc20] at h
    refine cx_iconst (v := nI 0) d_C_spreadBranch_27 (by decide) ?_
    exact hJ5 _ _ h
  · rw [if_pos hc20] at h
    refine cx_iconst (v := nI 1) d_C_spreadBranch_23 (by decide) ?_
    refine cx_goto (tgt := 28) d_C_spreadBranch_24 (by decide) ?_
    exact hJ5 _ _ h
