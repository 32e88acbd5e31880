theorem E_C_endsWell {G : bm_G} {f : Nat} {l0 : Nat} {l1 : Int32} {l2 : Int32} {s sz : cx_S} {r : Int32} {Q : Int32 → cx_S → Prop} (h : D_C_endsWell f l0 l1 l2 s = some (r, sz)) (hq : Q r sz) : cx_Ti G me_C_endsWell [va_rf (some l0), .int (l1), .int (l2)] s Q := by
  refine cx_meti (by decide) (List.forall_mem_cons.mpr ⟨cx_cat, (List.forall_mem_cons.mpr ⟨rfl, (List.forall_mem_cons.mpr ⟨rfl, (fun _ q => nomatch q)⟩)⟩)⟩) (Nat.le_of_ble_eq_true rfl) ?_
  generalize hQ : (fun (v : bm_R) (s2 : cx_S) => ∃ x, v = .inl (some (.int x)) ∧ Q x s2) = Q2
  replace hq : Q2 (.inl (some (.int (r)))) sz := by rw [← hQ]; exact ⟨_, rfl, hq⟩
  clear hQ
  unfold D_C_endsWell at h
  refine cx_iload_n d_C_endsWell_0 rfl ?_
  by_cases e1_5 : l1 = nI 5
  · rw [if_pos e1_5] at h
    refine cx_tabL (tgt := 51) d_C_endsWell_1 5 e1_5 (by decide) (by decide) (by decide) (by rfl) (by decide) ?_
    refine cx_aload_n d_C_endsWell_51 rfl ?_
    obtain ⟨p1, ep1, hp1, h⟩ := oc_inv h
    refine cx_getr 115 rfl g_C_endsWell_52 rfl (by decide) ep1 hp1 ?_
    refine cx_iconst (v := nI 2) d_C_endsWell_55 (by decide) ?_
    refine cx_iload_n d_C_endsWell_56 rfl ?_
    refine cx_imul d_C_endsWell_57 ?_
    refine cx_iconst (v := nI 1) d_C_endsWell_58 (by decide) ?_
    refine cx_iadd d_C_endsWell_59 ?_
    obtain ⟨a2, na2, j3, ea2, ha2, hj3, gj3, ej3, h⟩ := oa_inv h
    refine cx_iald d_C_endsWell_60 ea2 ha2 hj3 gj3 ej3 ?_
    refine cx_iconst (v := (-1)) d_C_endsWell_61 (by decide) ?_
    refine oj_step (P := fun J4 : Int32 → Option (Int32 × cx_S) => ∀ (x5 : Int32) (d0 : Option Value) (d1 : Option Value) (d2 : Option Value), J4 x5 = some (r, sz) → cx G me_C_endsWell 93 [d0, d1, d2] [.int (x5)] s Q2) h ?_ ?_
    · intro x5 d0 d1 d2 h
      obtain ⟨hz, h⟩ := ozb_inv h
      exact cx_zret d_C_endsWell_93 rfl (ozb_nar hz) (ox_i hq h)
    clear h
    intro J4 hJ1 h
    refine oj_step (P := fun J6 : Unit → Option (Int32 × cx_S) => ∀ (_u : Unit) (d0 : Option Value) (d1 : Option Value) (d2 : Option Value), J6 () = some (r, sz) → cx G me_C_endsWell 92 [d0, d1, d2] [] s Q2) h ?_ ?_
    · intro _u d0 d1 d2 h
      refine cx_iconst (v := nI 0) d_C_endsWell_92 (by decide) ?_
      exact hJ1 _ _ _ _ h
    clear h
    intro J6 hJ2 h
    refine cx_icmp_eq (tgt := 92) d_C_endsWell_62 (by decide) (fun hc62 => ?_) (fun hc62 => ?_)
    · rw [if_pos hc62] at h
      exact hJ2 () _ _ _ h
    · rw [if_neg hc62] at h
      refine cx_aload_n d_C_endsWell_65 rfl ?_
      refine cx_getr 115 rfl g_C_endsWell_66 rfl (by decide) ep1 hp1 ?_
      refine cx_iconst (v := nI 2) d_C_endsWell_69 (by decide) ?_
      refine cx_iload_n d_C_endsWell_70 rfl ?_
      refine cx_imul d_C_endsWell_71 ?_
      refine cx_iconst (v := nI 1) d_C_endsWell_72 (by decide) ?_
      refine cx_iadd d_C_endsWell_73 ?_
      refine cx_iald d_C_endsWell_74 ea2 ha2 hj3 gj3 ej3 ?_
      refine cx_aload_n d_C_endsWell_75 rfl ?_
      refine cx_getr 115 rfl g_C_endsWell_76 rfl (by decide) ep1 hp1 ?_
      refine cx_iconst (v := nI 2) d_C_endsWell_79 (by decide) ?_
      refine cx_iload_n d_C_endsWell_80 rfl ?_
      refine cx_imul d_C_endsWell_81 ?_
      refine cx_iconst (v := nI 2) d_C_endsWell_82 (by decide) ?_
      refine cx_iadd d_C_endsWell_83 ?_
      obtain ⟨a7, na7, j8, ea7, ha7, hj8, gj8, ej8, h⟩ := oa_inv h
      refine cx_iald d_C_endsWell_84 ea7 ha7 hj8 gj8 ej8 ?_
      refine cx_icmp_ne (tgt := 92) d_C_endsWell_85 (by decide) (fun hc85 => ?_) (fun hc85 => ?_)
      · rw [if_neg hc85] at h
        exact hJ2 () _ _ _ h
      · rw [if_pos hc85] at h
        refine cx_iconst (v := nI 1) d_C_endsWell_88 (by decide) ?_
        refine cx_goto (tgt := 93) d_C_endsWell_89 (by decide) ?_
        exact hJ1 _ _ _ _ h
  rw [if_neg e1_5] at h
  by_cases e1_6 : l1 = nI 6
  · rw [if_pos e1_6] at h
    refine cx_tabL (tgt := 94) d_C_endsWell_1 6 e1_6 (by decide) (by decide) (by decide) (by rfl) (by decide) ?_
    refine cx_aload_n d_C_endsWell_94 rfl ?_
    obtain ⟨p9, ep9, hp9, h⟩ := oc_inv h
    refine cx_getr 114 rfl g_C_endsWell_95 rfl (by decide) ep9 hp9 ?_
    refine cx_iload_n d_C_endsWell_98 rfl ?_
    obtain ⟨a10, na10, j11, ea10, ha10, hj11, gj11, ej11, h⟩ := oa_inv h
    refine cx_iald d_C_endsWell_99 ea10 ha10 hj11 gj11 ej11 ?_
    refine cx_iconst (v := (-1)) d_C_endsWell_100 (by decide) ?_
    refine oj_step (P := fun J12 : Int32 → Option (Int32 × cx_S) => ∀ (x13 : Int32) (d0 : Option Value) (d1 : Option Value) (d2 : Option Value), J12 x13 = some (r, sz) → cx G me_C_endsWell 109 [d0, d1, d2] [.int (x13)] s Q2) h ?_ ?_
    · intro x13 d0 d1 d2 h
      obtain ⟨hz, h⟩ := ozb_inv h
      exact cx_zret d_C_endsWell_109 rfl (ozb_nar hz) (ox_i hq h)
    clear h
    intro J12 hJ3 h
    refine cx_icmp_eq (tgt := 108) d_C_endsWell_101 (by decide) (fun hc101 => ?_) (fun hc101 => ?_)
    · rw [if_pos hc101] at h
      refine cx_iconst (v := nI 0) d_C_endsWell_108 (by decide) ?_
      exact hJ3 _ _ _ _ h
    · rw [if_neg hc101] at h
      refine cx_iconst (v := nI 1) d_C_endsWell_104 (by decide) ?_
      refine cx_goto (tgt := 109) d_C_endsWell_105 (by decide) ?_
      exact hJ3 _ _ _ _ h
  rw [if_neg e1_6] at h
  by_cases e1_7 : l1 = nI 7
  · rw [if_pos e1_7] at h
    refine cx_tabL (tgt := 110) d_C_endsWell_1 7 e1_7 (by decide) (by decide) (by decide) (by rfl) (by decide) ?_
    refine cx_iconst (v := nI 1) d_C_endsWell_110 (by decide) ?_
    exact cx_zret d_C_endsWell_111 rfl (by decide) (ox_i hq h)
  rw [if_neg e1_7] at h
  by_cases e1_8 : l1 = nI 8
  · rw [if_pos e1_8] at h
    refine cx_tabL (tgt := 110) d_C_endsWell_1 8 e1_8 (by decide) (by decide) (by decide) (by rfl) (by decide) ?_
    refine cx_iconst (v := nI 1) d_C_endsWell_110 (by decide) ?_
    exact cx_zret d_C_endsWell_111 rfl (by decide) (ox_i hq h)
  rw [if_neg e1_8] at h
  by_cases e1_9 : l1 = nI 9
  · rw [if_pos e1_9] at h
    refine cx_tabL (tgt := 36) d_C_endsWell_1 9 e1_9 (by decide) (by decide) (by decide) (by rfl) (by decide) ?_
    refine cx_aload_n d_C_endsWell_36 rfl ?_
    obtain ⟨p14, ep14, hp14, h⟩ := oc_inv h
    refine cx_getr 113 rfl g_C_endsWell_37 rfl (by decide) ep14 hp14 ?_
    refine cx_iload_n d_C_endsWell_40 rfl ?_
    obtain ⟨a15, na15, j16, ea15, ha15, hj16, gj16, ej16, h⟩ := oa_inv h
    refine cx_iald d_C_endsWell_41 ea15 ha15 hj16 gj16 ej16 ?_
    refine oj_step (P := fun J17 : Int32 → Option (Int32 × cx_S) => ∀ (x18 : Int32) (d0 : Option Value) (d1 : Option Value) (d2 : Option Value), J17 x18 = some (r, sz) → cx G me_C_endsWell 50 [d0, d1, d2] [.int (x18)] s Q2) h ?_ ?_
    · intro x18 d0 d1 d2 h
      obtain ⟨hz, h⟩ := ozb_inv h
      exact cx_zret d_C_endsWell_50 rfl (ozb_nar hz) (ox_i hq h)
    clear h
    intro J17 hJ4 h
    refine cx_if_ne (tgt := 49) d_C_endsWell_42 (by decide) (fun hc42 => ?_) (fun hc42 => ?_)
    · rw [if_neg hc42] at h
      refine cx_iconst (v := nI 0) d_C_endsWell_49 (by decide) ?_
      exact hJ4 _ _ _ _ h
    · rw [if_pos hc42] at h
      refine cx_iconst (v := nI 1) d_C_endsWell_45 (by decide) ?_
      refine cx_goto (tgt := 50) d_C_endsWell_46 (by decide) ?_
      exact hJ4 _ _ _ _ h
  rw [if_neg e1_9] at h
  have hsw : ∀ j, 5 ≤ j → j ≤ 9 → ¬ l1 = nI j := by
    intro j hj0 hj
    have hj2 : j = 5 ∨ j = 6 ∨ j = 7 ∨ j = 8 ∨ j = 9 := by omega
    rcases hj2 with rfl | rfl | rfl | rfl | rfl <;> assumption
  refine cx_tableOut (tgt := 110) d_C_endsWell_1 (sw_outL 5 9 (by decide) hsw) (by decide) ?_
  refine cx_iconst (v := nI 1) d_C_endsWell_110 (by decide) ?_
  exact cx_zret d_C_endsWell_111 rfl (by decide) (ox_i hq h)
theorem E_C_isWellBranched_43 {G : bm_G} {f : Nat} {l0 : Nat} {l1 : Option Nat} {l2 : Int32} {k78 : cx_S → Option (Int32 × cx_S)} {r : Int32} {sz : cx_S} {Q : bm_R → cx_S → Prop} (hq : Q (.inl (some (.int (r)))) sz) (hk78 : ∀ (d3 : Option Value) (s : cx_S), k78 s = some (r, sz) → cx G me_C_isWellBranched 78 [some (va_rf (some l0)), some (va_rf (l1)), some (.int (l2)), d3] [] s Q) : ∀ (n : Nat) (l3 : Int32) (s : cx_S), D_C_isWellBranched_43 f l0 l1 l2 k78 n l3 s = some (r, sz) → cx G me_C_isWellBranched 43 [some (va_rf (some l0)), some (va_rf (l1)), some (.int (l2)), some (.int (l3))] [] s Q := by
  intro n
  induction n with
  | zero =>
    intro l3 s h
    rw [D_C_isWellBranched_43] at h
    exact absurd h (by simp)
  | succ n ih =>
    intro l3 s h
    rw [D_C_isWellBranched_43] at h
    refine cx_iload_n d_C_isWellBranched_43 rfl ?_
    refine cx_aload_n d_C_isWellBranched_44 rfl ?_
    obtain ⟨p14, ep14, hp14, h⟩ := oc_inv h
    refine cx_geti 97 rfl g_C_isWellBranched_45 rfl (by decide) ep14 hp14 ?_
    refine cx_icmp_ge (tgt := 78) d_C_isWellBranched_48 (by decide) (fun hc48 => ?_) (fun hc48 => ?_)
    · rw [if_pos hc48] at h
      exact hk78 _ _ h
    · rw [if_neg hc48] at h
      refine cx_aload_n d_C_isWellBranched_51 rfl ?_
      obtain ⟨p15, ep15, hp15, h⟩ := oc_inv h
      refine cx_getr 113 rfl g_C_isWellBranched_52 rfl (by decide) ep15 hp15 ?_
      refine cx_iload_n d_C_isWellBranched_55 rfl ?_
      obtain ⟨a16, na16, j17, ea16, ha16, hj17, gj17, ej17, h⟩ := oa_inv h
      refine cx_iald d_C_isWellBranched_56 ea16 ha16 hj17 gj17 ej17 ?_
      refine cx_iconst (v := (-1)) d_C_isWellBranched_57 (by decide) ?_
      refine oj_step (P := fun J18 : cx_S → Option (Int32 × cx_S) => ∀ (s19 : cx_S), J18 s19 = some (r, sz) → cx G me_C_isWellBranched 72 [some (va_rf (some l0)), some (va_rf (l1)), some (.int (l2)), some (.int (l3))] [] s19 Q) h ?_ ?_
      · intro s19 h
        refine cx_iincP d_C_isWellBranched_72 (by decide) rfl ?_
        refine cx_goto (tgt := 43) d_C_isWellBranched_75 (by decide) ?_
        exact ih _ _ h
      clear h
      intro J18 hJ1 h
      refine cx_icmp_eq (tgt := 72) d_C_isWellBranched_58 (by decide) (fun hc58 => ?_) (fun hc58 => ?_)
      · rw [if_pos hc58] at h
        exact hJ1 _ h
      · rw [if_neg hc58] at h
        refine cx_aload_n d_C_isWellBranched_61 rfl ?_
        refine cx_aload_n d_C_isWellBranched_62 rfl ?_
        refine cx_iload_n d_C_isWellBranched_63 rfl ?_
        obtain ⟨x20, s21, ex20, h⟩ := ob_inv h
        refine cx_callV2 c_C_isWellBranched_64 (cx_hst (fun _ q => nomatch q) (Nat.le_of_ble_eq_true rfl)) (by decide) ep15 hp15 (E_C_spreadBranch ex20 ?_)
        refine cx_if_ne (tgt := 72) d_C_isWellBranched_67 (by decide) (fun hc67 => ?_) (fun hc67 => ?_)
        · rw [if_neg hc67] at h
          exact hJ1 _ h
        · rw [if_pos hc67] at h
          refine cx_iconst (v := nI 0) d_C_isWellBranched_70 (by decide) ?_
          exact cx_zret d_C_isWellBranched_71 rfl (by decide) (ox_i hq h)
theorem E_C_isWellBranched_33 {G : bm_G} {f : Nat} {l0 : Nat} {l1 : Option Nat} {k84 : cx_S → Option (Int32 × cx_S)} {r : Int32} {sz : cx_S} {Q : bm_R → cx_S → Prop} (hq : Q (.inl (some (.int (r)))) sz) (hk84 : ∀ (d2 : Option Value) (d3 : Option Value) (s : cx_S), k84 s = some (r, sz) → cx G me_C_isWellBranched 84 [some (va_rf (some l0)), some (va_rf (l1)), d2, d3] [] s Q) : ∀ (n : Nat) (l2 : Int32) (d3 : Option Value) (s : cx_S), D_C_isWellBranched_33 f l0 l1 k84 n l2 s = some (r, sz) → cx G me_C_isWellBranched 33 [some (va_rf (some l0)), some (va_rf (l1)), some (.int (l2)), d3] [] s Q := by
  intro n
  induction n with
  | zero =>
    intro l2 d3 s h
    rw [D_C_isWellBranched_33] at h
    exact absurd h (by simp)
  | succ n ih =>
    intro l2 d3 s h
    rw [D_C_isWellBranched_33] at h
    refine cx_iload_n d_C_isWellBranched_33 rfl ?_
    refine cx_aload_n d_C_isWellBranched_34 rfl ?_
    obtain ⟨p13, ep13, hp13, h⟩ := oc_inv h
    refine cx_geti 97 rfl g_C_isWellBranched_35 rfl (by decide) ep13 hp13 ?_
    refine cx_icmp_ge (tgt := 84) d_C_isWellBranched_38 (by decide) (fun hc38 => ?_) (fun hc38 => ?_)
    · rw [if_pos hc38] at h
      exact hk84 _ _ _ h
    · rw [if_neg hc38] at h
      refine cx_iconst (v := nI 0) d_C_isWellBranched_41 (by decide) ?_
      refine cx_istore_n d_C_isWellBranched_42 (by decide) ?_
      refine E_C_isWellBranched_43 (r := r) (sz := sz) hq ?_ _ _ _ h
      · intro d3 s22 h
        refine cx_iincP d_C_isWellBranched_78 (by decide) rfl ?_
        refine cx_goto (tgt := 33) d_C_isWellBranched_81 (by decide) ?_
        exact ih _ _ _ h
theorem E_C_isWellBranched_86 {G : bm_G} {f : Nat} {l0 : Nat} {l1 : Option Nat} {r : Int32} {sz : cx_S} {Q : bm_R → cx_S → Prop} (hq : Q (.inl (some (.int (r)))) sz) : ∀ (n : Nat) (l2 : Int32) (d3 : Option Value) (s : cx_S), D_C_isWellBranched_86 f l0 l1 n l2 s = some (r, sz) → cx G me_C_isWellBranched 86 [some (va_rf (some l0)), some (va_rf (l1)), some (.int (l2)), d3] [] s Q := by
  intro n
  induction n with
  | zero =>
    intro l2 d3 s h
    rw [D_C_isWellBranched_86] at h
    exact absurd h (by simp)
  | succ n ih =>
    intro l2 d3 s h
    rw [D_C_isWellBranched_86] at h
    refine cx_iload_n d_C_isWellBranched_86 rfl ?_
    refine cx_aload_n d_C_isWellBranched_87 rfl ?_
    obtain ⟨p24, ep24, hp24, h⟩ := oc_inv h
    refine cx_geti 97 rfl g_C_isWellBranched_88 rfl (by decide) ep24 hp24 ?_
    refine cx_icmp_ge (tgt := 119) d_C_isWellBranched_91 (by decide) (fun hc91 => ?_) (fun hc91 => ?_)
    · rw [if_pos hc91] at h
      refine cx_iconst (v := nI 1) d_C_isWellBranched_119 (by decide) ?_
      exact cx_zret d_C_isWellBranched_120 rfl (by decide) (ox_i hq h)
    · rw [if_neg hc91] at h
      refine cx_aload_n d_C_isWellBranched_94 rfl ?_
      refine cx_aload_n d_C_isWellBranched_95 rfl ?_
      refine cx_getr 99 rfl g_C_isWellBranched_96 rfl (by decide) ep24 hp24 ?_
      refine cx_iload_n d_C_isWellBranched_99 rfl ?_
      obtain ⟨a25, na25, j26, ea25, ha25, hj26, gj26, ej26, h⟩ := oa_inv h
      refine cx_aald (t := 7) 407 rfl d_C_isWellBranched_100 (by decide) rfl ea25 ha25 hj26 gj26 ej26 ?_
      obtain ⟨p27, ep27, hp27, h⟩ := oc_inv h
      refine cx_geti 128 rfl g_C_isWellBranched_101 rfl (by decide) ep27 hp27 ?_
      refine cx_iload_n d_C_isWellBranched_104 rfl ?_
      obtain ⟨p28, ep28, hp28, h⟩ := oc_inv h
      obtain ⟨x29, s30, ex29, h⟩ := ob_inv h
      refine cx_callV2 c_C_isWellBranched_105 (cx_hst (fun _ q => nomatch q) (Nat.le_of_ble_eq_true rfl)) (by decide) ep28 hp28 (E_C_endsWell ex29 ?_)
      refine cx_if_ne (tgt := 113) d_C_isWellBranched_108 (by decide) (fun hc108 => ?_) (fun hc108 => ?_)
      · rw [if_neg hc108] at h
        refine cx_iincP d_C_isWellBranched_113 (by decide) rfl ?_
        refine cx_goto (tgt := 86) d_C_isWellBranched_116 (by decide) ?_
        exact ih _ _ _ h
      · rw [if_pos hc108] at h
        refine cx_iconst (v := nI 0) d_C_isWellBranched_111 (by decide) ?_
        exact cx_zret d_C_isWellBranched_112 rfl (by decide) (ox_i hq h)
theorem E_C_isWellBranched {G : bm_G} {f : Nat} {l0 : Nat} {l1 : Option Nat} {s sz : cx_S} {r : Int32} {Q : Int32 → cx_S → Prop} (h : D_C_isWellBranched f l0 l1 s = some (r, sz)) (hq : Q r sz) : cx_Ti G me_C_isWellBranched [va_rf (some l0), va_rf (l1)] s Q := by
  refine cx_meti (by decide) (List.forall_mem_cons.mpr ⟨cx_cat, (List.forall_mem_cons.mpr ⟨cx_cat, (fun _ q => nomatch q)⟩)⟩) (Nat.le_of_ble_eq_true rfl) ?_
  generalize hQ : (fun (v : bm_R) (s2 : cx_S) => ∃ x, v = .inl (some (.int x)) ∧ Q x s2) = Q2
  replace hq : Q2 (.inl (some (.int (r)))) sz := by rw [← hQ]; exact ⟨_, rfl, hq⟩
  clear hQ
  unfold D_C_isWellBranched at h
  refine cx_aload_n d_C_isWellBranched_0 rfl ?_
  obtain ⟨p1, ep1, hp1, h⟩ := oc_inv h
  refine cx_getr 113 rfl g_C_isWellBranched_1 rfl (by decide) ep1 hp1 ?_
  refine cx_iconst (v := (-1)) d_C_isWellBranched_4 (by decide) ?_
  obtain ⟨x2, s3, ex2, h⟩ := ob_inv h
  refine cx_callS2v c_C_isWellBranched_5 (cx_hst (fun _ q => nomatch q) (Nat.le_of_ble_eq_true rfl)) (E_A_fill ex2 ?_)
  refine cx_aload_n d_C_isWellBranched_8 rfl ?_
  obtain ⟨p4, ep4, hp4, h⟩ := oc_inv h
  refine cx_getr 114 rfl g_C_isWellBranched_9 rfl (by decide) ep4 hp4 ?_
  refine cx_iconst (v := (-1)) d_C_isWellBranched_12 (by decide) ?_
  obtain ⟨x5, s6, ex5, h⟩ := ob_inv h
  refine cx_callS2v c_C_isWellBranched_13 (cx_hst (fun _ q => nomatch q) (Nat.le_of_ble_eq_true rfl)) (E_A_fill ex5 ?_)
  refine cx_aload_n d_C_isWellBranched_16 rfl ?_
  obtain ⟨p7, ep7, hp7, h⟩ := oc_inv h
  refine cx_getr 115 rfl g_C_isWellBranched_17 rfl (by decide) ep7 hp7 ?_
  refine cx_iconst (v := (-1)) d_C_isWellBranched_20 (by decide) ?_
  obtain ⟨x8, s9, ex8, h⟩ := ob_inv h
  refine cx_callS2v c_C_isWellBranched_21 (cx_hst (fun _ q => nomatch q) (Nat.le_of_ble_eq_true rfl)) (E_A_fill ex8 ?_)
  refine cx_aload_n d_C_isWellBranched_24 rfl ?_
  obtain ⟨p10, ep10, hp10, h⟩ := oc_inv h
  refine cx_getr 113 rfl g_C_isWellBranched_25 rfl (by decide) ep10 hp10 ?_
  refine cx_iconst (v := nI 0) d_C_isWellBranched_28 (by decide) ?_
  refine cx_iconst (v := nI 0) d_C_isWellBranched_29 (by decide) ?_
  obtain ⟨a11, na11, j12, ea11, ha11, hj12, gj12, ej12, h⟩ := oa_inv h
  refine cx_iast d_C_isWellBranched_30 ea11 ha11 hj12 gj12 ej12 ?_
  refine cx_iconst (v := nI 0) d_C_isWellBranched_31 (by decide) ?_
  refine cx_istore_n d_C_isWellBranched_32 (by decide) ?_
  refine E_C_isWellBranched_33 (r := r) (sz := sz) hq ?_ _ _ _ _ h
  · intro d2 d3 s23 h
    refine cx_iconst (v := nI 0) d_C_isWellBranched_84 (by decide) ?_
    refine cx_istore_n d_C_isWellBranched_85 (by decide) ?_
    refine E_C_isWellBranched_86 (r := r) (sz := sz) hq _ _ _ _ h
theorem E_C_spreadNames {G : bm_G} {f : Nat} {l0 : Nat} {l1 : Option Nat} {l2 : Int32} {l3 : Int32} {l4 : Int32} {s sz : cx_S} {r : Int32} {Q : cx_S → Prop} (h : D_C_spreadNames f l0 l1 l2 l3 l4 s = some (r, sz)) (hq : Q sz) : cx_Tv G me_C_spreadNames [va_rf (some l0), va_rf (l1), .int (l2), .int (l3), .int (l4)] s Q := by
  refine cx_metv (by decide) (List.forall_mem_cons.mpr ⟨cx_cat, (List.forall_mem_cons.mpr ⟨cx_cat, (List.forall_mem_cons.mpr ⟨rfl, (List.forall_mem_cons.mpr ⟨rfl, (List.forall_mem_cons.mpr ⟨rfl, (fun _ q => nomatch q)⟩)⟩)⟩)⟩)⟩) (Nat.le_of_ble_eq_true rfl) ?_
  generalize hQ : (fun (v : bm_R) (s2 : cx_S) => v = .inl none ∧ Q s2) = Q2
  replace hq : Q2 (.inl none) sz := by rw [← hQ]; exact ⟨rfl, hq⟩
  clear hQ
  unfold D_C_spreadNames at h
  refine cx_iload_n d_C_spreadNames_0 rfl ?_
  refine cx_aload_n d_C_spreadNames_1 rfl ?_
  obtain ⟨p1, ep1, hp1, h⟩ := oc_inv h
  refine cx_geti 97 rfl g_C_spreadNames_2 rfl (by decide) ep1 hp1 ?_
  obtain ⟨x2, s3, ex2, h⟩ := ob_inv h
  refine cx_callS2 c_C_spreadNames_5 (cx_hst (fun _ q => nomatch q) (Nat.le_of_ble_eq_true rfl)) (E_H_isBelow ex2 ?_)
  refine cx_if_ne (tgt := 12) d_C_spreadNames_8 (by decide) (fun hc8 => ?_) (fun hc8 => ?_)
  · rw [if_neg hc8] at h
    refine cx_aload_n d_C_spreadNames_12 rfl ?_
    obtain ⟨p4, ep4, hp4, h⟩ := oc_inv h
    refine cx_getr 99 rfl g_C_spreadNames_13 rfl (by decide) ep4 hp4 ?_
    refine cx_iload_n d_C_spreadNames_16 rfl ?_
    obtain ⟨a5, na5, j6, ea5, ha5, hj6, gj6, ej6, h⟩ := oa_inv h
    refine cx_aald (t := 7) 407 rfl d_C_spreadNames_17 (by decide) rfl ea5 ha5 hj6 gj6 ej6 ?_
    obtain ⟨p7, ep7, hp7, h⟩ := oc_inv h
    refine cx_geti 128 rfl g_C_spreadNames_18 rfl (by decide) ep7 hp7 ?_
    refine cx_bipush (v := nI 6) d_C_spreadNames_21 (by decide) ?_
    refine oj_step (P := fun J8 : cx_S → Option (Int32 × cx_S) => ∀ (s9 : cx_S) (d0 : Option Value) (d1 : Option Value) (d2 : Option Value) (d3 : Option Value) (d4 : Option Value), J8 s9 = some (r, sz) → cx G me_C_spreadNames 56 [d0, d1, d2, d3, d4] [] s9 Q2) h ?_ ?_
    · intro s9 d0 d1 d2 d3 d4 h
      exact cx_vret d_C_spreadNames_56 rfl (ox_v hq h)
    clear h
    intro J8 hJ1 h
    refine cx_icmp_ne (tgt := 45) d_C_spreadNames_23 (by decide) (fun hc23 => ?_) (fun hc23 => ?_)
    · rw [if_neg hc23] at h
      refine cx_aload_n d_C_spreadNames_45 rfl ?_
      obtain ⟨p15, ep15, hp15, h⟩ := oc_inv h
      refine cx_getr 116 rfl g_C_spreadNames_46 rfl (by decide) ep15 hp15 ?_
      refine cx_iload_n d_C_spreadNames_49 rfl ?_
      refine cx_dup2 d_C_spreadNames_50 (by first | rfl | exact cx_cat) (by first | rfl | exact cx_cat) ?_
      obtain ⟨a16, na16, j17, ea16, ha16, hj17, gj17, ej17, h⟩ := oa_inv h
      refine cx_iald d_C_spreadNames_51 ea16 ha16 hj17 gj17 ej17 ?_
      refine cx_iload d_C_spreadNames_52 rfl ?_
      refine cx_iand d_C_spreadNames_54 ?_
      refine cx_iast d_C_spreadNames_55 ea16 ha16 hj17 gj17 ej17 ?_
      exact hJ1 _ _ _ _ _ _ h
    · rw [if_pos hc23] at h
      refine cx_aload_n d_C_spreadNames_26 rfl ?_
      obtain ⟨p10, ep10, hp10, h⟩ := oc_inv h
      refine cx_getr 117 rfl g_C_spreadNames_27 rfl (by decide) ep10 hp10 ?_
      refine cx_aload_n d_C_spreadNames_30 rfl ?_
      refine cx_getr 113 rfl g_C_spreadNames_31 rfl (by decide) ep10 hp10 ?_
      refine cx_iload_n d_C_spreadNames_34 rfl ?_
      obtain ⟨a11, na11, j12, ea11, ha11, hj12, gj12, ej12, h⟩ := oa_inv h
      refine cx_iald d_C_spreadNames_35 ea11 ha11 hj12 gj12 ej12 ?_
      refine cx_dup2 d_C_spreadNames_36 (by first | rfl | exact cx_cat) (by first | rfl | exact cx_cat) ?_
      obtain ⟨a13, na13, j14, ea13, ha13, hj14, gj14, ej14, h⟩ := oa_inv h
      refine cx_iald d_C_spreadNames_37 ea13 ha13 hj14 gj14 ej14 ?_
      refine cx_iload d_C_spreadNames_38 rfl ?_
      refine cx_iand d_C_spreadNames_40 ?_
      refine cx_iast d_C_spreadNames_41 ea13 ha13 hj14 gj14 ej14 ?_
      refine cx_goto (tgt := 56) d_C_spreadNames_42 (by decide) ?_
      exact hJ1 _ _ _ _ _ _ h
  · rw [if_pos hc8] at h
    exact cx_vret d_C_spreadNames_11 rfl (ox_v hq h)
theorem E_C_isMeasuredForChoices_27 {G : bm_G} {f : Nat} {l0 : Nat} {l1 : Option Nat} {r : Int32} {sz : cx_S} {Q : bm_R → cx_S → Prop} (hq : Q (.inl (some (.int (r)))) sz) : ∀ (n : Nat) (l2 : Int32) (d3 : Option Value) (d4 : Option Value) (s : cx_S), D_C_isMeasuredForChoices_27 f l0 l1 n l2 s = some (r, sz) → cx G me_C_isMeasuredForChoices 27 [some (va_rf (some l0)), some (va_rf (l1)), some (.int (l2)), d3, d4] [] s Q := by
  intro n
  induction n with
  | zero =>
    intro l2 d3 d4 s h
    rw [D_C_isMeasuredForChoices_27] at h
    exact absurd h (by simp)
  | succ n ih =>
    intro l2 d3 d4 s h
    rw [D_C_isMeasuredForChoices_27] at h
    refine cx_iload_n d_C_isMeasuredForChoices_27 rfl ?_
    refine cx_aload_n d_C_isMeasuredForChoices_28 rfl ?_
    obtain ⟨p10, ep10, hp10, h⟩ := oc_inv h
    refine cx_geti 97 rfl g_C_isMeasuredForChoices_29 rfl (by decide) ep10 hp10 ?_
    refine cx_icmp_ge (tgt := 188) d_C_isMeasuredForChoices_32 (by decide) (fun hc32 => ?_) (fun hc32 => ?_)
    · rw [if_pos hc32] at h
      refine cx_iconst (v := nI 1) d_C_isMeasuredForChoices_188 (by decide) ?_
      exact cx_zret d_C_isMeasuredForChoices_189 rfl (by decide) (ox_i hq h)
    · rw [if_neg hc32] at h
      refine cx_aload_n d_C_isMeasuredForChoices_35 rfl ?_
      refine cx_getr 99 rfl g_C_isMeasuredForChoices_36 rfl (by decide) ep10 hp10 ?_
      refine cx_iload_n d_C_isMeasuredForChoices_39 rfl ?_
      obtain ⟨a11, na11, j12, ea11, ha11, hj12, gj12, ej12, h⟩ := oa_inv h
      refine cx_aald (t := 7) 407 rfl d_C_isMeasuredForChoices_40 (by decide) rfl ea11 ha11 hj12 gj12 ej12 ?_
      refine cx_astore_n d_C_isMeasuredForChoices_41 (by decide) ?_
      refine cx_aload_n d_C_isMeasuredForChoices_42 rfl ?_
      obtain ⟨p13, ep13, hp13, h⟩ := oc_inv h
      refine cx_geti 128 rfl g_C_isMeasuredForChoices_43 rfl (by decide) ep13 hp13 ?_
      refine cx_bipush (v := nI 6) d_C_isMeasuredForChoices_46 (by decide) ?_
      refine oj_step (P := fun J14 : cx_S → Option (Int32 × cx_S) => ∀ (s15 : cx_S) (d4 : Option Value), J14 s15 = some (r, sz) → cx G me_C_isMeasuredForChoices 88 [some (va_rf (some l0)), some (va_rf (l1)), some (.int (l2)), some (va_rf (cR s 407 a11 j12)), d4] [] s15 Q) h ?_ ?_
      · intro s15 d4 h
        refine cx_aload_n d_C_isMeasuredForChoices_88 rfl ?_
        obtain ⟨p16, ep16, hp16, h⟩ := oc_inv h
        refine cx_geti 128 rfl g_C_isMeasuredForChoices_89 rfl (by decide) ep16 hp16 ?_
        refine cx_bipush (v := nI 7) d_C_isMeasuredForChoices_92 (by decide) ?_
        refine oj_step (P := fun J17 : Unit → Option (Int32 × cx_S) => ∀ (_u : Unit) (d4 : Option Value), J17 () = some (r, sz) → cx G me_C_isMeasuredForChoices 115 [some (va_rf (some l0)), some (va_rf (l1)), some (.int (l2)), some (va_rf (cR s 407 a11 j12)), d4] [] s15 Q) h ?_ ?_
        · intro _u d4 h
          refine cx_aload_n d_C_isMeasuredForChoices_115 rfl ?_
          refine cx_geti 128 rfl g_C_isMeasuredForChoices_116 rfl (by decide) ep16 hp16 ?_
          refine cx_iconst (v := nI 4) d_C_isMeasuredForChoices_119 (by decide) ?_
          refine oj_step (P := fun J18 : Int32 → Option (Int32 × cx_S) => ∀ (x19 : Int32) (d4 : Option Value), J18 x19 = some (r, sz) → cx G me_C_isMeasuredForChoices 145 [some (va_rf (some l0)), some (va_rf (l1)), some (.int (l2)), some (va_rf (cR s 407 a11 j12)), d4] [.int (x19)] s15 Q) h ?_ ?_
          · intro x19 d4 h
            refine cx_istore d_C_isMeasuredForChoices_145 (by decide) ?_
            refine cx_aload_n d_C_isMeasuredForChoices_147 rfl ?_
            refine cx_aload_n d_C_isMeasuredForChoices_148 rfl ?_
            refine cx_iload_n d_C_isMeasuredForChoices_149 rfl ?_
            refine cx_aload_n d_C_isMeasuredForChoices_150 rfl ?_
            refine cx_iconst (v := nI 0) d_C_isMeasuredForChoices_151 (by decide) ?_
            obtain ⟨x20, s21, ex20, h⟩ := ob_inv h
            refine cx_callV1 c_C_isMeasuredForChoices_152 (cx_hst (List.forall_mem_cons.mpr ⟨rfl, (List.forall_mem_cons.mpr ⟨cx_cat, (List.forall_mem_cons.mpr ⟨cx_cat, (fun _ q => nomatch q)⟩)⟩)⟩) (Nat.le_of_ble_eq_true rfl)) (by decide) ep16 hp16 (E_S_wayOut ex20 ?_)
            refine cx_iload d_C_isMeasuredForChoices_155 rfl ?_
            obtain ⟨p22, ep22, hp22, h⟩ := oc_inv h
            obtain ⟨x23, s24, ex23, h⟩ := ob_inv h
            refine cx_callV4v c_C_isMeasuredForChoices_157 (cx_hst (fun _ q => nomatch q) (Nat.le_of_ble_eq_true rfl)) (by decide) ep22 hp22 (E_C_spreadNames ex23 ?_)
            refine cx_aload_n d_C_isMeasuredForChoices_160 rfl ?_
            obtain ⟨p25, ep25, hp25, h⟩ := oc_inv h
            refine cx_geti 128 rfl g_C_isMeasuredForChoices_161 rfl (by decide) ep25 hp25 ?_
            refine cx_bipush (v := nI 8) d_C_isMeasuredForChoices_164 (by decide) ?_
            refine oj_step (P := fun J26 : cx_S → Option (Int32 × cx_S) => ∀ (s27 : cx_S) (d3 : Option Value) (d4 : Option Value), J26 s27 = some (r, sz) → cx G me_C_isMeasuredForChoices 182 [some (va_rf (some l0)), some (va_rf (l1)), some (.int (l2)), d3, d4] [] s27 Q) h ?_ ?_
            · intro s27 d3 d4 h
              refine cx_iincP d_C_isMeasuredForChoices_182 (by decide) rfl ?_
              refine cx_goto (tgt := 27) d_C_isMeasuredForChoices_185 (by decide) ?_
              exact ih _ _ _ _ h
            clear h
            intro J26 hJ1 h
            refine cx_icmp_eq (tgt := 182) d_C_isMeasuredForChoices_166 (by decide) (fun hc166 => ?_) (fun hc166 => ?_)
            · rw [if_pos hc166] at h
              exact hJ1 _ _ _ h
            · rw [if_neg hc166] at h
              refine cx_aload_n d_C_isMeasuredForChoices_169 rfl ?_
              refine cx_aload_n d_C_isMeasuredForChoices_170 rfl ?_
              refine cx_iload_n d_C_isMeasuredForChoices_171 rfl ?_
              refine cx_aload_n d_C_isMeasuredForChoices_172 rfl ?_
              refine cx_iconst (v := nI 1) d_C_isMeasuredForChoices_173 (by decide) ?_
              obtain ⟨x28, s29, ex28, h⟩ := ob_inv h
              refine cx_callV1 c_C_isMeasuredForChoices_174 (cx_hst (List.forall_mem_cons.mpr ⟨rfl, (List.forall_mem_cons.mpr ⟨cx_cat, (List.forall_mem_cons.mpr ⟨cx_cat, (fun _ q => nomatch q)⟩)⟩)⟩) (Nat.le_of_ble_eq_true rfl)) (by decide) ep25 hp25 (E_S_wayOut ex28 ?_)
              refine cx_iload d_C_isMeasuredForChoices_177 rfl ?_
              obtain ⟨p30, ep30, hp30, h⟩ := oc_inv h
              obtain ⟨x31, s32, ex31, h⟩ := ob_inv h
              refine cx_callV4v c_C_isMeasuredForChoices_179 (cx_hst (fun _ q => nomatch q) (Nat.le_of_ble_eq_true rfl)) (by decide) ep30 hp30 (E_C_spreadNames ex31 ?_)
              exact hJ1 _ _ _ h
          clear h
          intro J18 hJ2 h
          refine cx_icmp_ne (tgt := 139) d_C_isMeasuredForChoices_120 (by decide) (fun hc120 => ?_) (fun hc120 => ?_)
          · rw [if_neg hc120] at h
            refine cx_aload_n d_C_isMeasuredForChoices_139 rfl ?_
            obtain ⟨p36, ep36, hp36, h⟩ := oc_inv h
            refine cx_getr 116 rfl g_C_isMeasuredForChoices_140 rfl (by decide) ep36 hp36 ?_
            refine cx_iload_n d_C_isMeasuredForChoices_143 rfl ?_
            obtain ⟨a37, na37, j38, ea37, ha37, hj38, gj38, ej38, h⟩ := oa_inv h
            refine cx_iald d_C_isMeasuredForChoices_144 ea37 ha37 hj38 gj38 ej38 ?_
            exact hJ2 _ _ h
          · rw [if_pos hc120] at h
            refine cx_aload_n d_C_isMeasuredForChoices_123 rfl ?_
            obtain ⟨p33, ep33, hp33, h⟩ := oc_inv h
            refine cx_getr 116 rfl g_C_isMeasuredForChoices_124 rfl (by decide) ep33 hp33 ?_
            refine cx_iload_n d_C_isMeasuredForChoices_127 rfl ?_
            obtain ⟨a34, na34, j35, ea34, ha34, hj35, gj35, ej35, h⟩ := oa_inv h
            refine cx_iald d_C_isMeasuredForChoices_128 ea34 ha34 hj35 gj35 ej35 ?_
            refine cx_iconst (v := nI 1) d_C_isMeasuredForChoices_129 (by decide) ?_
            refine cx_aload_n d_C_isMeasuredForChoices_130 rfl ?_
            refine cx_geti 130 rfl g_C_isMeasuredForChoices_131 rfl (by decide) ep16 hp16 ?_
            refine cx_ishl d_C_isMeasuredForChoices_134 ?_
            refine cx_ior d_C_isMeasuredForChoices_135 ?_
            refine cx_goto (tgt := 145) d_C_isMeasuredForChoices_136 (by decide) ?_
            exact hJ2 _ _ h
        clear h
        intro J17 hJ3 h
        refine cx_icmp_ne (tgt := 115) d_C_isMeasuredForChoices_94 (by decide) (fun hc94 => ?_) (fun hc94 => ?_)
        · rw [if_neg hc94] at h
          exact hJ3 () _ h
        · rw [if_pos hc94] at h
          refine cx_aload_n d_C_isMeasuredForChoices_97 rfl ?_
          obtain ⟨p39, ep39, hp39, h⟩ := oc_inv h
          refine cx_getr 116 rfl g_C_isMeasuredForChoices_98 rfl (by decide) ep39 hp39 ?_
          refine cx_iload_n d_C_isMeasuredForChoices_101 rfl ?_
          obtain ⟨a40, na40, j41, ea40, ha40, hj41, gj41, ej41, h⟩ := oa_inv h
          refine cx_iald d_C_isMeasuredForChoices_102 ea40 ha40 hj41 gj41 ej41 ?_
          refine cx_aload_n d_C_isMeasuredForChoices_103 rfl ?_
          refine cx_geti 129 rfl g_C_isMeasuredForChoices_104 rfl (by decide) ep16 hp16 ?_
          refine cx_ishr d_C_isMeasuredForChoices_107 ?_
          refine cx_iconst (v := nI 1) d_C_isMeasuredForChoices_108 (by decide) ?_
          refine cx_iand d_C_isMeasuredForChoices_109 ?_
          refine cx_if_ne (tgt := 115) d_C_isMeasuredForChoices_110 (by decide) (fun hc110 => ?_) (fun hc110 => ?_)
          · rw [if_neg hc110] at h
            exact hJ3 () _ h
          · rw [if_pos hc110] at h
            refine cx_iconst (v := nI 0) d_C_isMeasuredForChoices_113 (by decide) ?_
            exact cx_zret d_C_isMeasuredForChoices_114 rfl (by decide) (ox_i hq h)
      clear h
      intro J14 hJ4 h
      refine cx_icmp_ne (tgt := 88) d_C_isMeasuredForChoices_48 (by decide) (fun hc48 => ?_) (fun hc48 => ?_)
      · rw [if_neg hc48] at h
        exact hJ4 _ _ h
      · rw [if_pos hc48] at h
        refine cx_aload_n d_C_isMeasuredForChoices_51 rfl ?_
        obtain ⟨p42, ep42, hp42, h⟩ := oc_inv h
        refine cx_getr 114 rfl g_C_isMeasuredForChoices_52 rfl (by decide) ep42 hp42 ?_
        refine cx_iload_n d_C_isMeasuredForChoices_55 rfl ?_
        obtain ⟨a43, na43, j44, ea43, ha43, hj44, gj44, ej44, h⟩ := oa_inv h
        refine cx_iald d_C_isMeasuredForChoices_56 ea43 ha43 hj44 gj44 ej44 ?_
        refine cx_istore d_C_isMeasuredForChoices_57 (by decide) ?_
        refine cx_aload_n d_C_isMeasuredForChoices_59 rfl ?_
        refine cx_getr 116 rfl g_C_isMeasuredForChoices_60 rfl (by decide) ep42 hp42 ?_
        refine cx_iload_n d_C_isMeasuredForChoices_63 rfl ?_
        refine cx_aload_n d_C_isMeasuredForChoices_64 rfl ?_
        refine cx_getr 117 rfl g_C_isMeasuredForChoices_65 rfl (by decide) ep42 hp42 ?_
        refine cx_iconst (v := nI 2) d_C_isMeasuredForChoices_68 (by decide) ?_
        refine cx_iload d_C_isMeasuredForChoices_69 rfl ?_
        refine cx_imul d_C_isMeasuredForChoices_71 ?_
        refine cx_iconst (v := nI 1) d_C_isMeasuredForChoices_72 (by decide) ?_
        refine cx_iadd d_C_isMeasuredForChoices_73 ?_
        obtain ⟨a45, na45, j46, ea45, ha45, hj46, gj46, ej46, h⟩ := oa_inv h
        refine cx_iald d_C_isMeasuredForChoices_74 ea45 ha45 hj46 gj46 ej46 ?_
        refine cx_aload_n d_C_isMeasuredForChoices_75 rfl ?_
        refine cx_getr 117 rfl g_C_isMeasuredForChoices_76 rfl (by decide) ep42 hp42 ?_
        refine cx_iconst (v := nI 2) d_C_isMeasuredForChoices_79 (by decide) ?_
        refine cx_iload d_C_isMeasuredForChoices_80 rfl ?_
        refine cx_imul d_C_isMeasuredForChoices_82 ?_
        refine cx_iconst (v := nI 2) d_C_isMeasuredForChoices_83 (by decide) ?_
        refine cx_iadd d_C_isMeasuredForChoices_84 ?_
        obtain ⟨a47, na47, j48, ea47, ha47, hj48, gj48, ej48, h⟩ := oa_inv h
        refine cx_iald d_C_isMeasuredForChoices_85 ea47 ha47 hj48 gj48 ej48 ?_
        refine cx_ior d_C_isMeasuredForChoices_86 ?_
        obtain ⟨a49, na49, j50, ea49, ha49, hj50, gj50, ej50, h⟩ := oa_inv h
        refine cx_iast d_C_isMeasuredForChoices_87 ea49 ha49 hj50 gj50 ej50 ?_
        exact hJ4 _ _ h
theorem E_C_isMeasuredForChoices {G : bm_G} {f : Nat} {l0 : Nat} {l1 : Option Nat} {s sz : cx_S} {r : Int32} {Q : Int32 → cx_S → Prop} (h : D_C_isMeasuredForChoices f l0 l1 s = some (r, sz)) (hq : Q r sz) : cx_Ti G me_C_isMeasuredForChoices [va_rf (some l0), va_rf (l1)] s Q := by
  refine cx_meti (by decide) (List.forall_mem_cons.mpr ⟨cx_cat, (List.forall_mem_cons.mpr ⟨cx_cat, (fun _ q => nomatch q)⟩)⟩) (Nat.le_of_ble_eq_true rfl) ?_
  generalize hQ : (fun (v : bm_R) (s2 : cx_S) => ∃ x, v = .inl (some (.int x)) ∧ Q x s2) = Q2
  replace hq : Q2 (.inl (some (.int (r)))) sz := by rw [← hQ]; exact ⟨_, rfl, hq⟩
  clear hQ
  unfold D_C_isMeasuredForChoices at h
  refine cx_aload_n d_C_isMeasuredForChoices_0 rfl ?_
  obtain ⟨p1, ep1, hp1, h⟩ := oc_inv h
  refine cx_getr 116 rfl g_C_isMeasuredForChoices_1 rfl (by decide) ep1 hp1 ?_
  refine cx_bipush (v := nI 15) d_C_isMeasuredForChoices_4 (by decide) ?_
  obtain ⟨x2, s3, ex2, h⟩ := ob_inv h
  refine cx_callS2v c_C_isMeasuredForChoices_6 (cx_hst (fun _ q => nomatch q) (Nat.le_of_ble_eq_true rfl)) (E_A_fill ex2 ?_)
  refine cx_aload_n d_C_isMeasuredForChoices_9 rfl ?_
  obtain ⟨p4, ep4, hp4, h⟩ := oc_inv h
  refine cx_getr 117 rfl g_C_isMeasuredForChoices_10 rfl (by decide) ep4 hp4 ?_
  refine cx_bipush (v := nI 15) d_C_isMeasuredForChoices_13 (by decide) ?_
  obtain ⟨x5, s6, ex5, h⟩ := ob_inv h
  refine cx_callS2v c_C_isMeasuredForChoices_15 (cx_hst (fun _ q => nomatch q) (Nat.le_of_ble_eq_true rfl)) (E_A_fill ex5 ?_)
  refine cx_aload_n d_C_isMeasuredForChoices_18 rfl ?_
  obtain ⟨p7, ep7, hp7, h⟩ := oc_inv h
  refine cx_getr 116 rfl g_C_isMeasuredForChoices_19 rfl (by decide) ep7 hp7 ?_
  refine cx_iconst (v := nI 0) d_C_isMeasuredForChoices_22 (by decide) ?_
  refine cx_iconst (v := nI 0) d_C_isMeasuredForChoices_23 (by decide) ?_
  obtain ⟨a8, na8, j9, ea8, ha8, hj9, gj9, ej9, h⟩ := oa_inv h
  refine cx_iast d_C_isMeasuredForChoices_24 ea8 ha8 hj9 gj9 ej9 ?_
  refine cx_iconst (v := nI 0) d_C_isMeasuredForChoices_25 (by decide) ?_
  refine cx_istore_n d_C_isMeasuredForChoices_26 (by decide) ?_
  refine E_C_isMeasuredForChoices_27 (r := r) (sz := sz) hq _ _ _ _ _ h
