theorem E_F_takeTurn_2 {G : bm_G} {f : Nat} {l0 : Nat} {l1 : Option Nat} {l2 : Option Nat} {k167 : cx_S → Option (Int32 × cx_S)} {k175 : Option Nat → cx_S → Option (Int32 × cx_S)} {r : Int32} {sz : cx_S} {Q : bm_R → cx_S → Prop} (hq : Q (.inl none) sz) (hk167 : ∀ (d2 : Option Value) (d3 : Option Value) (d4 : Option Value) (d5 : Option Value) (s : cx_S), k167 s = some (r, sz) → cx G me_F_takeTurn 167 [some (va_rf (some l0)), some (va_rf (l1)), d2, d3, d4, d5] [] s Q) (hk175 : ∀ (q4 : Option Nat) (d3 : Option Value) (d5 : Option Value) (s : cx_S), k175 q4 s = some (r, sz) → cx G me_F_takeTurn 175 [some (va_rf (some l0)), some (va_rf (l1)), some (va_rf (l2)), d3, some (va_rf (q4)), d5] [] s Q) : ∀ (n : Nat) (l3 : Int32) (d4 : Option Value) (d5 : Option Value) (s : cx_S), D_F_takeTurn_2 f l0 l1 l2 k167 k175 n l3 s = some (r, sz) → cx G me_F_takeTurn 2 [some (va_rf (some l0)), some (va_rf (l1)), some (va_rf (l2)), some (.int (l3)), d4, d5] [] s Q := by
  intro n
  induction n with
  | zero =>
    intro l3 d4 d5 s h
    rw [D_F_takeTurn_2] at h
    exact absurd h (by simp)
  | succ n ih =>
    intro l3 d4 d5 s h
    rw [D_F_takeTurn_2] at h
    refine cx_iload_n d_F_takeTurn_2 rfl ?_
    refine cx_ldc (v := nI 1073741824) d_F_takeTurn_3 ldc_F_takeTurn_3 ?_
    refine cx_icmp_ge (tgt := 206) d_F_takeTurn_5 (by decide) (fun hc5 => ?_) (fun hc5 => ?_)
    · rw [if_pos hc5] at h
      exact cx_vret d_F_takeTurn_206 rfl (ox_v hq h)
    · rw [if_neg hc5] at h
      refine cx_aload_n d_F_takeTurn_8 rfl ?_
      obtain ⟨p1, ep1, hp1, h⟩ := oc_inv h
      refine cx_getr 18 rfl g_F_takeTurn_9 rfl (by decide) ep1 hp1 ?_
      obtain ⟨p2, ep2, hp2, h⟩ := oc_inv h
      refine cx_getr 99 rfl g_F_takeTurn_12 rfl (by decide) ep2 hp2 ?_
      refine cx_aload_n d_F_takeTurn_15 rfl ?_
      obtain ⟨p3, ep3, hp3, h⟩ := oc_inv h
      refine cx_geti 144 rfl g_F_takeTurn_16 rfl (by decide) ep3 hp3 ?_
      obtain ⟨a4, na4, j5, ea4, ha4, hj5, gj5, ej5, h⟩ := oa_inv h
      refine cx_aald (t := 7) 407 rfl d_F_takeTurn_19 (by decide) rfl ea4 ha4 hj5 gj5 ej5 ?_
      refine cx_astore d_F_takeTurn_20 (by decide) ?_
      refine cx_aload d_F_takeTurn_22 rfl ?_
      obtain ⟨p6, ep6, hp6, h⟩ := oc_inv h
      refine cx_geti 128 rfl g_F_takeTurn_24 rfl (by decide) ep6 hp6 ?_
      refine oj_step (P := fun J7 : cx_S → Option (Int32 × cx_S) => ∀ (s8 : cx_S) (d4 : Option Value) (d5 : Option Value), J7 s8 = some (r, sz) → cx G me_F_takeTurn 200 [some (va_rf (some l0)), some (va_rf (l1)), some (va_rf (l2)), some (.int (l3)), d4, d5] [] s8 Q) h ?_ ?_
      · intro s8 d4 d5 h
        refine cx_iincP d_F_takeTurn_200 (by decide) rfl ?_
        refine cx_goto (tgt := 2) d_F_takeTurn_203 (by decide) ?_
        exact ih _ _ _ _ h
      clear h
      intro J7 hJ1 h
      by_cases e27_5 : (cI s 128 p6 0) = nI 5
      · rw [if_pos e27_5] at h
        refine cx_tabL (tgt := 60) d_F_takeTurn_27 5 e27_5 (by decide) (by decide) (by decide) (by rfl) (by decide) ?_
        refine cx_aload_n d_F_takeTurn_60 rfl ?_
        refine cx_aload d_F_takeTurn_61 rfl ?_
        refine cx_geti 133 rfl g_F_takeTurn_63 rfl (by decide) ep6 hp6 ?_
        obtain ⟨x9, s10, ex9, h⟩ := ob_inv h
        refine cx_callV1v c_F_takeTurn_66 (cx_hst (fun _ q => nomatch q) (Nat.le_of_ble_eq_true rfl)) (by decide) ep1 hp1 (E_B_addToken ex9 ?_)
        refine cx_aload_n d_F_takeTurn_69 rfl ?_
        refine cx_aload d_F_takeTurn_70 rfl ?_
        obtain ⟨p11, ep11, hp11, h⟩ := oc_inv h
        refine cx_geti 132 rfl g_F_takeTurn_72 rfl (by decide) ep11 hp11 ?_
        obtain ⟨p12, ep12, hp12, h⟩ := oc_inv h
        refine cx_puti 144 rfl p_F_takeTurn_75 rfl (by decide) rfl rfl ep12 hp12 ?_
        refine cx_goto (tgt := 200) d_F_takeTurn_78 (by decide) ?_
        exact hJ1 _ _ _ h
      rw [if_neg e27_5] at h
      by_cases e27_6 : (cI s 128 p6 0) = nI 6
      · rw [if_pos e27_6] at h
        refine cx_tabL (tgt := 81) d_F_takeTurn_27 6 e27_6 (by decide) (by decide) (by decide) (by rfl) (by decide) ?_
        refine cx_aload_n d_F_takeTurn_81 rfl ?_
        refine cx_aload_n d_F_takeTurn_82 rfl ?_
        obtain ⟨x13, s14, ex13, h⟩ := ob_inv h
        refine cx_callV1r c_F_takeTurn_83 (cx_hst (fun _ q => nomatch q) (Nat.le_of_ble_eq_true rfl)) (by decide) ep1 hp1 (E_B_findPartner ex13 ?_)
        refine cx_astore d_F_takeTurn_86 (by decide) ?_
        refine cx_aload d_F_takeTurn_88 rfl ?_
        refine cx_ifnonnull (tgt := 94) d_F_takeTurn_90 (by decide) (fun hc90 => ?_) (fun hc90 => ?_)
        · rw [if_neg hc90] at h
          refine cx_aload_n d_F_takeTurn_94 rfl ?_
          refine cx_aload d_F_takeTurn_95 rfl ?_
          obtain ⟨p15, ep15, hp15, h⟩ := oc_inv h
          obtain ⟨x16, s17, ex16, h⟩ := ob_inv h
          refine cx_callV1v c_F_takeTurn_97 (cx_hst (fun _ q => nomatch q) (Nat.le_of_ble_eq_true rfl)) (by decide) ep15 hp15 (E_B_removeToken ex16 ?_)
          refine cx_aload_n d_F_takeTurn_100 rfl ?_
          refine cx_aload d_F_takeTurn_101 rfl ?_
          obtain ⟨p18, ep18, hp18, h⟩ := oc_inv h
          refine cx_geti 132 rfl g_F_takeTurn_103 rfl (by decide) ep18 hp18 ?_
          obtain ⟨p19, ep19, hp19, h⟩ := oc_inv h
          refine cx_puti 144 rfl p_F_takeTurn_106 rfl (by decide) rfl rfl ep19 hp19 ?_
          refine cx_goto (tgt := 200) d_F_takeTurn_109 (by decide) ?_
          exact hJ1 _ _ _ h
        · rw [if_pos hc90] at h
          exact cx_vret d_F_takeTurn_93 rfl (ox_v hq h)
      rw [if_neg e27_6] at h
      by_cases e27_7 : (cI s 128 p6 0) = nI 7
      · rw [if_pos e27_7] at h
        refine cx_tabL (tgt := 112) d_F_takeTurn_27 7 e27_7 (by decide) (by decide) (by decide) (by rfl) (by decide) ?_
        refine cx_aload_n d_F_takeTurn_112 rfl ?_
        refine cx_aload_n d_F_takeTurn_113 rfl ?_
        refine cx_getr 23 rfl g_F_takeTurn_114 rfl (by decide) ep1 hp1 ?_
        refine cx_aload d_F_takeTurn_117 rfl ?_
        refine cx_geti 129 rfl g_F_takeTurn_119 rfl (by decide) ep6 hp6 ?_
        obtain ⟨a20, na20, j21, ea20, ha20, hj21, gj21, ej21, h⟩ := oa_inv h
        refine cx_iald d_F_takeTurn_122 ea20 ha20 hj21 gj21 ej21 ?_
        refine cx_aload d_F_takeTurn_123 rfl ?_
        refine cx_geti 130 rfl g_F_takeTurn_125 rfl (by decide) ep6 hp6 ?_
        refine oj_step (P := fun J22 : Int32 → Option (Int32 × cx_S) => ∀ (x23 : Int32) (d4 : Option Value) (d5 : Option Value), J22 x23 = some (r, sz) → cx G me_F_takeTurn 144 [some (va_rf (some l0)), some (va_rf (l1)), some (va_rf (l2)), some (.int (l3)), d4, d5] [.int (x23), va_rf (l2)] s Q) h ?_ ?_
        · intro x23 d4 d5 h
          refine cx_puti 144 rfl p_F_takeTurn_144 rfl (by decide) rfl rfl ep3 hp3 ?_
          refine cx_goto (tgt := 200) d_F_takeTurn_147 (by decide) ?_
          exact hJ1 _ _ _ h
        clear h
        intro J22 hJ2 h
        refine cx_icmp_ge (tgt := 139) d_F_takeTurn_128 (by decide) (fun hc128 => ?_) (fun hc128 => ?_)
        · rw [if_pos hc128] at h
          refine cx_aload d_F_takeTurn_139 rfl ?_
          refine cx_geti 133 rfl g_F_takeTurn_141 rfl (by decide) ep6 hp6 ?_
          exact hJ2 _ _ _ h
        · rw [if_neg hc128] at h
          refine cx_aload d_F_takeTurn_131 rfl ?_
          refine cx_geti 132 rfl g_F_takeTurn_133 rfl (by decide) ep6 hp6 ?_
          refine cx_goto (tgt := 144) d_F_takeTurn_136 (by decide) ?_
          exact hJ2 _ _ _ h
      rw [if_neg e27_7] at h
      by_cases e27_8 : (cI s 128 p6 0) = nI 8
      · rw [if_pos e27_8] at h
        refine cx_tabL (tgt := 150) d_F_takeTurn_27 8 e27_8 (by decide) (by decide) (by decide) (by rfl) (by decide) ?_
        refine cx_aload_n d_F_takeTurn_150 rfl ?_
        refine cx_aload_n d_F_takeTurn_151 rfl ?_
        refine cx_aload_n d_F_takeTurn_152 rfl ?_
        refine cx_geti 144 rfl g_F_takeTurn_153 rfl (by decide) ep3 hp3 ?_
        refine cx_aload d_F_takeTurn_156 rfl ?_
        obtain ⟨x24, s25, ex24, h⟩ := ob_inv h
        refine cx_callV2 c_F_takeTurn_158 (cx_hst (List.forall_mem_cons.mpr ⟨cx_cat, (fun _ q => nomatch q)⟩) (Nat.le_of_ble_eq_true rfl)) (by decide) ep1 hp1 (E_B_countRound ex24 ?_)
        obtain ⟨p26, ep26, hp26, h⟩ := oc_inv h
        refine cx_puti 144 rfl p_F_takeTurn_161 rfl (by decide) rfl rfl ep26 hp26 ?_
        refine cx_goto (tgt := 200) d_F_takeTurn_164 (by decide) ?_
        exact hJ1 _ _ _ h
      rw [if_neg e27_8] at h
      by_cases e27_9 : (cI s 128 p6 0) = nI 9
      · rw [if_pos e27_9] at h
        refine cx_tabL (tgt := 167) d_F_takeTurn_27 9 e27_9 (by decide) (by decide) (by decide) (by rfl) (by decide) ?_
        exact hk167 _ _ _ _ _ h
      rw [if_neg e27_9] at h
      have hsw : ∀ j, 5 ≤ j → j ≤ 9 → ¬ (cI s 128 p6 0) = nI j := by
        intro j hj0 hj
        have hj2 : j = 5 ∨ j = 6 ∨ j = 7 ∨ j = 8 ∨ j = 9 := by omega
        rcases hj2 with rfl | rfl | rfl | rfl | rfl <;> assumption
      refine cx_tableOut (tgt := 175) d_F_takeTurn_27 (sw_outL 5 9 (by decide) hsw) (by decide) ?_
      exact hk175 _ _ _ _ h
theorem E_F_takeTurn {G : bm_G} {f : Nat} {l0 : Nat} {l1 : Option Nat} {l2 : Option Nat} {s sz : cx_S} {r : Int32} {Q : cx_S → Prop} (h : D_F_takeTurn f l0 l1 l2 s = some (r, sz)) (hq : Q sz) : cx_Tv G me_F_takeTurn [va_rf (some l0), va_rf (l1), va_rf (l2)] s Q := by
  refine cx_metv (by decide) (List.forall_mem_cons.mpr ⟨cx_cat, (List.forall_mem_cons.mpr ⟨cx_cat, (List.forall_mem_cons.mpr ⟨cx_cat, (fun _ q => nomatch q)⟩)⟩)⟩) (Nat.le_of_ble_eq_true rfl) ?_
  generalize hQ : (fun (v : bm_R) (s2 : cx_S) => v = .inl none ∧ Q s2) = Q2
  replace hq : Q2 (.inl none) sz := by rw [← hQ]; exact ⟨rfl, hq⟩
  clear hQ
  unfold D_F_takeTurn at h
  refine cx_iconst (v := nI 0) d_F_takeTurn_0 (by decide) ?_
  refine cx_istore_n d_F_takeTurn_1 (by decide) ?_
  refine E_F_takeTurn_2 (r := r) (sz := sz) hq ?_ ?_ _ _ _ _ _ h
  · intro d2 d3 d4 d5 s27 h
    refine cx_aload_n d_F_takeTurn_167 rfl ?_
    refine cx_aload_n d_F_takeTurn_168 rfl ?_
    refine cx_bipush (v := nI 7) d_F_takeTurn_169 (by decide) ?_
    obtain ⟨p28, ep28, hp28, h⟩ := oc_inv h
    obtain ⟨x29, s30, ex29, h⟩ := ob_inv h
    refine cx_callV2v c_F_takeTurn_171 (cx_hst (fun _ q => nomatch q) (Nat.le_of_ble_eq_true rfl)) (by decide) ep28 hp28 (E_F_finish ex29 ?_)
    exact cx_vret d_F_takeTurn_174 rfl (ox_v hq h)
  · intro v31 d3 d5 s32 h
    refine cx_aload_n d_F_takeTurn_175 rfl ?_
    obtain ⟨p33, ep33, hp33, h⟩ := oc_inv h
    refine cx_geti 145 rfl g_F_takeTurn_176 rfl (by decide) ep33 hp33 ?_
    refine oj_step (P := fun J34 : cx_S → Option (Int32 × cx_S) => ∀ (s35 : cx_S) (d0 : Option Value) (d1 : Option Value) (d2 : Option Value) (d3 : Option Value) (d4 : Option Value) (d5 : Option Value), J34 s35 = some (r, sz) → cx G me_F_takeTurn 199 [d0, d1, d2, d3, d4, d5] [] s35 Q2) h ?_ ?_
    · intro s35 d0 d1 d2 d3 d4 d5 h
      exact cx_vret d_F_takeTurn_199 rfl (ox_v hq h)
    clear h
    intro J34 hJ3 h
    refine cx_if_ne (tgt := 199) d_F_takeTurn_179 (by decide) (fun hc179 => ?_) (fun hc179 => ?_)
    · rw [if_neg hc179] at h
      exact hJ3 _ _ _ _ _ _ _ h
    · rw [if_pos hc179] at h
      refine cx_aload_n d_F_takeTurn_182 rfl ?_
      refine cx_aload d_F_takeTurn_183 rfl ?_
      obtain ⟨p36, ep36, hp36, h⟩ := oc_inv h
      obtain ⟨x37, s38, ex37, h⟩ := ob_inv h
      refine cx_callV1 c_F_takeTurn_185 (cx_hst (fun _ q => nomatch q) (Nat.le_of_ble_eq_true rfl)) (by decide) ep36 hp36 (E_B_hasRolesFree ex37 ?_)
      refine cx_if_eq (tgt := 199) d_F_takeTurn_188 (by decide) (fun hc188 => ?_) (fun hc188 => ?_)
      · rw [if_pos hc188] at h
        exact hJ3 _ _ _ _ _ _ _ h
      · rw [if_neg hc188] at h
        refine cx_aload_n d_F_takeTurn_191 rfl ?_
        refine cx_aload_n d_F_takeTurn_192 rfl ?_
        refine cx_aload_n d_F_takeTurn_193 rfl ?_
        refine cx_aload d_F_takeTurn_194 rfl ?_
        obtain ⟨p39, ep39, hp39, h⟩ := oc_inv h
        obtain ⟨x40, s41, ex40, h⟩ := ob_inv h
        refine cx_callV3v c_F_takeTurn_196 (cx_hst (fun _ q => nomatch q) (Nat.le_of_ble_eq_true rfl)) (by decide) ep39 hp39 (E_F_begin ex40 ?_)
        exact hJ3 _ _ _ _ _ _ _ h
theorem E_F_moveTokens_4 {G : bm_G} {f : Nat} {l0 : Nat} {l1 : Option Nat} {r : Int32} {sz : cx_S} {Q : bm_R → cx_S → Prop} (hq : Q (.inl none) sz) : ∀ (n : Nat) (l2 : Int32) (l3 : Int32) (d4 : Option Value) (s : cx_S), D_F_moveTokens_4 f l0 l1 n l2 l3 s = some (r, sz) → cx G me_F_moveTokens 4 [some (va_rf (some l0)), some (va_rf (l1)), some (.int (l2)), some (.int (l3)), d4] [] s Q := by
  intro n
  induction n with
  | zero =>
    intro l2 l3 d4 s h
    rw [D_F_moveTokens_4] at h
    exact absurd h (by simp)
  | succ n ih =>
    intro l2 l3 d4 s h
    rw [D_F_moveTokens_4] at h
    refine cx_iload_n d_F_moveTokens_4 rfl ?_
    refine cx_aload_n d_F_moveTokens_5 rfl ?_
    obtain ⟨p1, ep1, hp1, h⟩ := oc_inv h
    refine cx_geti 21 rfl g_F_moveTokens_6 rfl (by decide) ep1 hp1 ?_
    refine oj_step (P := fun J2 : Unit → Option (Int32 × cx_S) => ∀ (_u : Unit) (d0 : Option Value) (d1 : Option Value) (d2 : Option Value) (d3 : Option Value) (d4 : Option Value), J2 () = some (r, sz) → cx G me_F_moveTokens 48 [d0, d1, d2, d3, d4] [] s Q) h ?_ ?_
    · intro _u d0 d1 d2 d3 d4 h
      exact cx_vret d_F_moveTokens_48 rfl (ox_v hq h)
    clear h
    intro J2 hJ1 h
    refine cx_icmp_ge (tgt := 48) d_F_moveTokens_9 (by decide) (fun hc9 => ?_) (fun hc9 => ?_)
    · rw [if_pos hc9] at h
      exact hJ1 () _ _ _ _ _ h
    · rw [if_neg hc9] at h
      refine cx_iload_n d_F_moveTokens_12 rfl ?_
      refine cx_ldc (v := nI 1073741824) d_F_moveTokens_13 ldc_F_moveTokens_13 ?_
      refine cx_icmp_ge (tgt := 48) d_F_moveTokens_15 (by decide) (fun hc15 => ?_) (fun hc15 => ?_)
      · rw [if_pos hc15] at h
        exact hJ1 () _ _ _ _ _ h
      · rw [if_neg hc15] at h
        refine cx_aload_n d_F_moveTokens_18 rfl ?_
        refine cx_getr 22 rfl g_F_moveTokens_19 rfl (by decide) ep1 hp1 ?_
        refine cx_iload_n d_F_moveTokens_22 rfl ?_
        obtain ⟨a3, na3, j4, ea3, ha3, hj4, gj4, ej4, h⟩ := oa_inv h
        refine cx_aald (t := 8) 408 rfl d_F_moveTokens_23 (by decide) rfl ea3 ha3 hj4 gj4 ej4 ?_
        refine cx_astore d_F_moveTokens_24 (by decide) ?_
        refine cx_aload_n d_F_moveTokens_26 rfl ?_
        refine cx_aload_n d_F_moveTokens_27 rfl ?_
        refine cx_aload d_F_moveTokens_28 rfl ?_
        obtain ⟨p5, ep5, hp5, h⟩ := oc_inv h
        obtain ⟨x6, s7, ex6, h⟩ := ob_inv h
        refine cx_callV2v c_F_moveTokens_30 (cx_hst (fun _ q => nomatch q) (Nat.le_of_ble_eq_true rfl)) (by decide) ep5 hp5 (E_F_takeTurn ex6 ?_)
        refine cx_aload_n d_F_moveTokens_33 rfl ?_
        refine cx_aload d_F_moveTokens_34 rfl ?_
        obtain ⟨p8, ep8, hp8, h⟩ := oc_inv h
        obtain ⟨x9, s10, ex9, h⟩ := ob_inv h
        refine cx_callV1 c_F_moveTokens_36 (cx_hst (fun _ q => nomatch q) (Nat.le_of_ble_eq_true rfl)) (by decide) ep8 hp8 (E_B_placeOf ex9 ?_)
        refine cx_iconst (v := nI 1) d_F_moveTokens_39 (by decide) ?_
        refine cx_iadd d_F_moveTokens_40 ?_
        refine cx_istore_n d_F_moveTokens_41 (by decide) ?_
        refine cx_iincP d_F_moveTokens_42 (by decide) rfl ?_
        refine cx_goto (tgt := 4) d_F_moveTokens_45 (by decide) ?_
        exact ih _ _ _ _ h
theorem E_F_moveTokens {G : bm_G} {f : Nat} {l0 : Nat} {l1 : Option Nat} {s sz : cx_S} {r : Int32} {Q : cx_S → Prop} (h : D_F_moveTokens f l0 l1 s = some (r, sz)) (hq : Q sz) : cx_Tv G me_F_moveTokens [va_rf (some l0), va_rf (l1)] s Q := by
  refine cx_metv (by decide) (List.forall_mem_cons.mpr ⟨cx_cat, (List.forall_mem_cons.mpr ⟨cx_cat, (fun _ q => nomatch q)⟩)⟩) (Nat.le_of_ble_eq_true rfl) ?_
  generalize hQ : (fun (v : bm_R) (s2 : cx_S) => v = .inl none ∧ Q s2) = Q2
  replace hq : Q2 (.inl none) sz := by rw [← hQ]; exact ⟨rfl, hq⟩
  clear hQ
  unfold D_F_moveTokens at h
  refine cx_iconst (v := nI 0) d_F_moveTokens_0 (by decide) ?_
  refine cx_istore_n d_F_moveTokens_1 (by decide) ?_
  refine cx_iconst (v := nI 0) d_F_moveTokens_2 (by decide) ?_
  refine cx_istore_n d_F_moveTokens_3 (by decide) ?_
  refine E_F_moveTokens_4 (r := r) (sz := sz) hq _ _ _ _ _ h
theorem E_F_advance_2 {G : bm_G} {f : Nat} {l0 : Nat} {l1 : Option Nat} {k39 : cx_S → Option (Int32 × cx_S)} {r : Int32} {sz : cx_S} {Q : bm_R → cx_S → Prop} (hq : Q (.inl none) sz) (hk39 : ∀ (d2 : Option Value) (s : cx_S), k39 s = some (r, sz) → cx G me_F_advance 39 [some (va_rf (some l0)), some (va_rf (l1)), d2] [] s Q) : ∀ (n : Nat) (l2 : Int32) (s : cx_S), D_F_advance_2 f l0 l1 k39 n l2 s = some (r, sz) → cx G me_F_advance 2 [some (va_rf (some l0)), some (va_rf (l1)), some (.int (l2))] [] s Q := by
  intro n
  induction n with
  | zero =>
    intro l2 s h
    rw [D_F_advance_2] at h
    exact absurd h (by simp)
  | succ n ih =>
    intro l2 s h
    rw [D_F_advance_2] at h
    refine cx_iload_n d_F_advance_2 rfl ?_
    refine cx_aload_n d_F_advance_3 rfl ?_
    obtain ⟨p1, ep1, hp1, h⟩ := oc_inv h
    refine cx_geti 21 rfl g_F_advance_4 rfl (by decide) ep1 hp1 ?_
    refine cx_icmp_ge (tgt := 39) d_F_advance_7 (by decide) (fun hc7 => ?_) (fun hc7 => ?_)
    · rw [if_pos hc7] at h
      exact hk39 _ _ h
    · rw [if_neg hc7] at h
      refine cx_aload_n d_F_advance_10 rfl ?_
      refine cx_getr 22 rfl g_F_advance_11 rfl (by decide) ep1 hp1 ?_
      refine cx_iload_n d_F_advance_14 rfl ?_
      obtain ⟨a2, na2, j3, ea2, ha2, hj3, gj3, ej3, h⟩ := oa_inv h
      refine cx_aald (t := 8) 408 rfl d_F_advance_15 (by decide) rfl ea2 ha2 hj3 gj3 ej3 ?_
      obtain ⟨p4, ep4, hp4, h⟩ := oc_inv h
      refine cx_geti 145 rfl g_F_advance_16 rfl (by decide) ep4 hp4 ?_
      refine oj_step (P := fun J5 : cx_S → Option (Int32 × cx_S) => ∀ (s6 : cx_S), J5 s6 = some (r, sz) → cx G me_F_advance 33 [some (va_rf (some l0)), some (va_rf (l1)), some (.int (l2))] [] s6 Q) h ?_ ?_
      · intro s6 h
        refine cx_iincP d_F_advance_33 (by decide) rfl ?_
        refine cx_goto (tgt := 2) d_F_advance_36 (by decide) ?_
        exact ih _ _ h
      clear h
      intro J5 hJ1 h
      refine cx_if_eq (tgt := 33) d_F_advance_19 (by decide) (fun hc19 => ?_) (fun hc19 => ?_)
      · rw [if_pos hc19] at h
        exact hJ1 _ h
      · rw [if_neg hc19] at h
        refine cx_aload_n d_F_advance_22 rfl ?_
        refine cx_aload_n d_F_advance_23 rfl ?_
        refine cx_aload_n d_F_advance_24 rfl ?_
        refine cx_getr 22 rfl g_F_advance_25 rfl (by decide) ep1 hp1 ?_
        refine cx_iload_n d_F_advance_28 rfl ?_
        refine cx_aald (t := 8) 408 rfl d_F_advance_29 (by decide) rfl ea2 ha2 hj3 gj3 ej3 ?_
        obtain ⟨p7, ep7, hp7, h⟩ := oc_inv h
        obtain ⟨x8, s9, ex8, h⟩ := ob_inv h
        refine cx_callV2v c_F_advance_30 (cx_hst (fun _ q => nomatch q) (Nat.le_of_ble_eq_true rfl)) (by decide) ep7 hp7 (E_F_goOn ex8 ?_)
        exact hJ1 _ h
theorem E_F_advance {G : bm_G} {f : Nat} {l0 : Nat} {l1 : Option Nat} {s sz : cx_S} {r : Int32} {Q : cx_S → Prop} (h : D_F_advance f l0 l1 s = some (r, sz)) (hq : Q sz) : cx_Tv G me_F_advance [va_rf (some l0), va_rf (l1)] s Q := by
  refine cx_metv (by decide) (List.forall_mem_cons.mpr ⟨cx_cat, (List.forall_mem_cons.mpr ⟨cx_cat, (fun _ q => nomatch q)⟩)⟩) (Nat.le_of_ble_eq_true rfl) ?_
  generalize hQ : (fun (v : bm_R) (s2 : cx_S) => v = .inl none ∧ Q s2) = Q2
  replace hq : Q2 (.inl none) sz := by rw [← hQ]; exact ⟨rfl, hq⟩
  clear hQ
  unfold D_F_advance at h
  refine cx_iconst (v := nI 0) d_F_advance_0 (by decide) ?_
  refine cx_istore_n d_F_advance_1 (by decide) ?_
  refine E_F_advance_2 (r := r) (sz := sz) hq ?_ _ _ _ h
  · intro d2 s10 h
    refine cx_aload_n d_F_advance_39 rfl ?_
    obtain ⟨p11, ep11, hp11, h⟩ := oc_inv h
    refine cx_geti 20 rfl g_F_advance_40 rfl (by decide) ep11 hp11 ?_
    refine cx_iconst (v := nI 4) d_F_advance_43 (by decide) ?_
    refine oj_step (P := fun J12 : cx_S → Option (Int32 × cx_S) => ∀ (s13 : cx_S) (d0 : Option Value) (d1 : Option Value) (d2 : Option Value), J12 s13 = some (r, sz) → cx G me_F_advance 76 [d0, d1, d2] [] s13 Q2) h ?_ ?_
    · intro s13 d0 d1 d2 h
      exact cx_vret d_F_advance_76 rfl (ox_v hq h)
    clear h
    intro J12 hJ2 h
    refine oj_step (P := fun J14 : cx_S → Option (Int32 × cx_S) => ∀ (s15 : cx_S) (d2 : Option Value), J14 s15 = some (r, sz) → cx G me_F_advance 63 [some (va_rf (some l0)), some (va_rf (l1)), d2] [] s15 Q2) h ?_ ?_
    · intro s15 d2 h
      refine cx_aload_n d_F_advance_63 rfl ?_
      obtain ⟨p16, ep16, hp16, h⟩ := oc_inv h
      refine cx_geti 20 rfl g_F_advance_64 rfl (by decide) ep16 hp16 ?_
      refine cx_iconst (v := nI 2) d_F_advance_67 (by decide) ?_
      refine cx_icmp_ne (tgt := 76) d_F_advance_68 (by decide) (fun hc68 => ?_) (fun hc68 => ?_)
      · rw [if_neg hc68] at h
        exact hJ2 _ _ _ _ h
      · rw [if_pos hc68] at h
        refine cx_aload_n d_F_advance_71 rfl ?_
        refine cx_aload_n d_F_advance_72 rfl ?_
        obtain ⟨p17, ep17, hp17, h⟩ := oc_inv h
        obtain ⟨x18, s19, ex18, h⟩ := ob_inv h
        refine cx_callV1v c_F_advance_73 (cx_hst (fun _ q => nomatch q) (Nat.le_of_ble_eq_true rfl)) (by decide) ep17 hp17 (E_F_moveTokens ex18 ?_)
        exact hJ2 _ _ _ _ h
    clear h
    intro J14 hJ3 h
    refine cx_icmp_ne (tgt := 63) d_F_advance_44 (by decide) (fun hc44 => ?_) (fun hc44 => ?_)
    · rw [if_neg hc44] at h
      exact hJ3 _ _ h
    · rw [if_pos hc44] at h
      refine cx_aload_n d_F_advance_47 rfl ?_
      obtain ⟨x20, s21, ex20, h⟩ := ob_inv h
      refine cx_callV0 c_F_advance_48 (cx_hst (fun _ q => nomatch q) (Nat.le_of_ble_eq_true rfl)) (by decide) ep11 hp11 (E_B_countBegun ex20 ?_)
      refine cx_if_ne (tgt := 63) d_F_advance_51 (by decide) (fun hc51 => ?_) (fun hc51 => ?_)
      · rw [if_neg hc51] at h
        exact hJ3 _ _ h
      · rw [if_pos hc51] at h
        refine cx_aload_n d_F_advance_54 rfl ?_
        refine cx_aload_n d_F_advance_55 rfl ?_
        refine cx_iconst (v := nI 5) d_F_advance_56 (by decide) ?_
        obtain ⟨p22, ep22, hp22, h⟩ := oc_inv h
        obtain ⟨x23, s24, ex23, h⟩ := ob_inv h
        refine cx_callV2v c_F_advance_57 (cx_hst (fun _ q => nomatch q) (Nat.le_of_ble_eq_true rfl)) (by decide) ep22 hp22 (E_F_finish ex23 ?_)
        refine cx_goto (tgt := 76) d_F_advance_60 (by decide) ?_
        exact hJ2 _ _ _ _ h
theorem E_B_isOver {G : bm_G} {f : Nat} {l0 : Nat} {s sz : cx_S} {r : Int32} {Q : Int32 → cx_S → Prop} (h : D_B_isOver f l0 s = some (r, sz)) (hq : Q r sz) : cx_Ti G me_B_isOver [va_rf (some l0)] s Q := by
  refine cx_meti (by decide) (List.forall_mem_cons.mpr ⟨cx_cat, (fun _ q => nomatch q)⟩) (Nat.le_of_ble_eq_true rfl) ?_
  generalize hQ : (fun (v : bm_R) (s2 : cx_S) => ∃ x, v = .inl (some (.int x)) ∧ Q x s2) = Q2
  replace hq : Q2 (.inl (some (.int (r)))) sz := by rw [← hQ]; exact ⟨_, rfl, hq⟩
  clear hQ
  unfold D_B_isOver at h
  refine cx_aload_n d_B_isOver_0 rfl ?_
  obtain ⟨p1, ep1, hp1, h⟩ := oc_inv h
  refine cx_geti 20 rfl g_B_isOver_1 rfl (by decide) ep1 hp1 ?_
  refine cx_iconst (v := nI 5) d_B_isOver_4 (by decide) ?_
  refine oj_step (P := fun J2 : Int32 → Option (Int32 × cx_S) => ∀ (x3 : Int32) (d0 : Option Value), J2 x3 = some (r, sz) → cx G me_B_isOver 31 [d0] [.int (x3)] s Q2) h ?_ ?_
  · intro x3 d0 h
    obtain ⟨hz, h⟩ := ozb_inv h
    exact cx_zret d_B_isOver_31 rfl (ozb_nar hz) (ox_i hq h)
  clear h
  intro J2 hJ1 h
  refine oj_step (P := fun J4 : Unit → Option (Int32 × cx_S) => ∀ (_u : Unit) (d0 : Option Value), J4 () = some (r, sz) → cx G me_B_isOver 26 [d0] [] s Q2) h ?_ ?_
  · intro _u d0 h
    refine cx_iconst (v := nI 1) d_B_isOver_26 (by decide) ?_
    refine cx_goto (tgt := 31) d_B_isOver_27 (by decide) ?_
    exact hJ1 _ _ h
  clear h
  intro J4 hJ2 h
  refine cx_icmp_eq (tgt := 26) d_B_isOver_5 (by decide) (fun hc5 => ?_) (fun hc5 => ?_)
  · rw [if_pos hc5] at h
    exact hJ2 () _ h
  · rw [if_neg hc5] at h
    refine cx_aload_n d_B_isOver_8 rfl ?_
    refine cx_geti 20 rfl g_B_isOver_9 rfl (by decide) ep1 hp1 ?_
    refine cx_bipush (v := nI 6) d_B_isOver_12 (by decide) ?_
    refine cx_icmp_eq (tgt := 26) d_B_isOver_14 (by decide) (fun hc14 => ?_) (fun hc14 => ?_)
    · rw [if_pos hc14] at h
      exact hJ2 () _ h
    · rw [if_neg hc14] at h
      refine cx_aload_n d_B_isOver_17 rfl ?_
      refine cx_geti 20 rfl g_B_isOver_18 rfl (by decide) ep1 hp1 ?_
      refine cx_bipush (v := nI 7) d_B_isOver_21 (by decide) ?_
      refine cx_icmp_ne (tgt := 30) d_B_isOver_23 (by decide) (fun hc23 => ?_) (fun hc23 => ?_)
      · rw [if_neg hc23] at h
        refine cx_iconst (v := nI 0) d_B_isOver_30 (by decide) ?_
        exact hJ1 _ _ h
      · rw [if_pos hc23] at h
        exact hJ2 () _ h
theorem E_A_fill_5 {G : bm_G} {f : Nat} {l0 : Option Nat} {l1 : Int32} {l3 : Int32} {r : Int32} {sz : cx_S} {Q : bm_R → cx_S → Prop} (hq : Q (.inl none) sz) : ∀ (n : Nat) (l2 : Int32) (s : cx_S), D_A_fill_5 f l0 l1 l3 n l2 s = some (r, sz) → cx G me_A_fill 5 [some (va_rf (l0)), some (.int (l1)), some (.int (l2)), some (.int (l3))] [] s Q := by
  intro n
  induction n with
  | zero =>
    intro l2 s h
    rw [D_A_fill_5] at h
    exact absurd h (by simp)
  | succ n ih =>
    intro l2 s h
    rw [D_A_fill_5] at h
    refine cx_iload_n d_A_fill_5 rfl ?_
    refine cx_iload_n d_A_fill_6 rfl ?_
    refine cx_icmp_ge (tgt := 20) d_A_fill_7 (by decide) (fun hc7 => ?_) (fun hc7 => ?_)
    · rw [if_pos hc7] at h
      exact cx_vret d_A_fill_20 rfl (ox_v hq h)
    · rw [if_neg hc7] at h
      refine cx_aload_n d_A_fill_10 rfl ?_
      refine cx_iload_n d_A_fill_11 rfl ?_
      refine cx_iload_n d_A_fill_12 rfl ?_
      obtain ⟨a2, na2, j3, ea2, ha2, hj3, gj3, ej3, h⟩ := oa_inv h
      refine cx_iast d_A_fill_13 ea2 ha2 hj3 gj3 ej3 ?_
      refine cx_iincP d_A_fill_14 (by decide) rfl ?_
      refine cx_goto (tgt := 5) d_A_fill_17 (by decide) ?_
      exact ih _ _ h
theorem E_A_fill {G : bm_G} {f : Nat} {l0 : Option Nat} {l1 : Int32} {s sz : cx_S} {r : Int32} {Q : cx_S → Prop} (h : D_A_fill f l0 l1 s = some (r, sz)) (hq : Q sz) : cx_Tv G me_A_fill [va_rf (l0), .int (l1)] s Q := by
  refine cx_metv (by decide) (List.forall_mem_cons.mpr ⟨cx_cat, (List.forall_mem_cons.mpr ⟨rfl, (fun _ q => nomatch q)⟩)⟩) (Nat.le_of_ble_eq_true rfl) ?_
  generalize hQ : (fun (v : bm_R) (s2 : cx_S) => v = .inl none ∧ Q s2) = Q2
  replace hq : Q2 (.inl none) sz := by rw [← hQ]; exact ⟨rfl, hq⟩
  clear hQ
  unfold D_A_fill at h
  refine cx_iconst (v := nI 0) d_A_fill_0 (by decide) ?_
  refine cx_istore_n d_A_fill_1 (by decide) ?_
  refine cx_aload_n d_A_fill_2 rfl ?_
  obtain ⟨a1, na1, ea1, ha1, h⟩ := oq_inv h
  refine cx_alen d_A_fill_3 ea1 ha1 ?_
  refine cx_istore_n d_A_fill_4 (by decide) ?_
  refine E_A_fill_5 (r := r) (sz := sz) hq _ _ _ h
theorem E_R_countRoles_4 {G : bm_G} {f : Nat} {l0 : Nat} {l1 : Int32} {r : Int32} {sz : cx_S} {Q : bm_R → cx_S → Prop} (hq : Q (.inl (some (.int (r)))) sz) : ∀ (n : Nat) (l2 : Int32) (l3 : Int32) (s : cx_S), D_R_countRoles_4 f l0 l1 n l2 l3 s = some (r, sz) → cx G me_R_countRoles 4 [some (va_rf (some l0)), some (.int (l1)), some (.int (l2)), some (.int (l3))] [] s Q := by
  intro n
  induction n with
  | zero =>
    intro l2 l3 s h
    rw [D_R_countRoles_4] at h
    exact absurd h (by simp)
  | succ n ih =>
    intro l2 l3 s h
    rw [D_R_countRoles_4] at h
    refine cx_iload_n d_R_countRoles_4 rfl ?_
    refine cx_iconst (v := nI 3) d_R_countRoles_5 (by decide) ?_
    refine cx_icmp_ge (tgt := 28) d_R_countRoles_6 (by decide) (fun hc6 => ?_) (fun hc6 => ?_)
    · rw [if_pos hc6] at h
      refine cx_iload_n d_R_countRoles_28 rfl ?_
      exact cx_iret d_R_countRoles_29 rfl (ox_i hq h)
    · rw [if_neg hc6] at h
      refine cx_aload_n d_R_countRoles_9 rfl ?_
      obtain ⟨p1, ep1, hp1, h⟩ := oc_inv h
      refine cx_getr 98 rfl g_R_countRoles_10 rfl (by decide) ep1 hp1 ?_
      refine cx_iload_n d_R_countRoles_13 rfl ?_
      obtain ⟨a2, na2, j3, ea2, ha2, hj3, gj3, ej3, h⟩ := oa_inv h
      refine cx_iald d_R_countRoles_14 ea2 ha2 hj3 gj3 ej3 ?_
      refine cx_iload_n d_R_countRoles_15 rfl ?_
      refine oj_step (P := fun J4 : Int32 → Option (Int32 × cx_S) => ∀ (v5 : Int32), J4 v5 = some (r, sz) → cx G me_R_countRoles 22 [some (va_rf (some l0)), some (.int (l1)), some (.int (v5)), some (.int (l3))] [] s Q) h ?_ ?_
      · intro v5 h
        refine cx_iincP d_R_countRoles_22 (by decide) rfl ?_
        refine cx_goto (tgt := 4) d_R_countRoles_25 (by decide) ?_
        exact ih _ _ _ h
      clear h
      intro J4 hJ1 h
      refine cx_icmp_ne (tgt := 22) d_R_countRoles_16 (by decide) (fun hc16 => ?_) (fun hc16 => ?_)
      · rw [if_neg hc16] at h
        exact hJ1 _ h
      · rw [if_pos hc16] at h
        refine cx_iincP d_R_countRoles_19 (by decide) rfl ?_
        exact hJ1 _ h
theorem E_R_countRoles {G : bm_G} {f : Nat} {l0 : Nat} {l1 : Int32} {s sz : cx_S} {r : Int32} {Q : Int32 → cx_S → Prop} (h : D_R_countRoles f l0 l1 s = some (r, sz)) (hq : Q r sz) : cx_Ti G me_R_countRoles [va_rf (some l0), .int (l1)] s Q := by
  refine cx_meti (by decide) (List.forall_mem_cons.mpr ⟨cx_cat, (List.forall_mem_cons.mpr ⟨rfl, (fun _ q => nomatch q)⟩)⟩) (Nat.le_of_ble_eq_true rfl) ?_
  generalize hQ : (fun (v : bm_R) (s2 : cx_S) => ∃ x, v = .inl (some (.int x)) ∧ Q x s2) = Q2
  replace hq : Q2 (.inl (some (.int (r)))) sz := by rw [← hQ]; exact ⟨_, rfl, hq⟩
  clear hQ
  unfold D_R_countRoles at h
  refine cx_iconst (v := nI 0) d_R_countRoles_0 (by decide) ?_
  refine cx_istore_n d_R_countRoles_1 (by decide) ?_
  refine cx_iconst (v := nI 0) d_R_countRoles_2 (by decide) ?_
  refine cx_istore_n d_R_countRoles_3 (by decide) ?_
  refine E_R_countRoles_4 (r := r) (sz := sz) hq _ _ _ _ h
theorem E_F_countFree_4 {G : bm_G} {f : Nat} {l0 : Nat} {l1 : Int32} {r : Int32} {sz : cx_S} {Q : bm_R → cx_S → Prop} (hq : Q (.inl (some (.int (r)))) sz) : ∀ (n : Nat) (l2 : Int32) (l3 : Int32) (s : cx_S), D_F_countFree_4 f l0 l1 n l2 l3 s = some (r, sz) → cx G me_F_countFree 4 [some (va_rf (some l0)), some (.int (l1)), some (.int (l2)), some (.int (l3))] [] s Q := by
  intro n
  induction n with
  | zero =>
    intro l2 l3 s h
    rw [D_F_countFree_4] at h
    exact absurd h (by simp)
  | succ n ih =>
    intro l2 l3 s h
    rw [D_F_countFree_4] at h
    refine cx_iload_n d_F_countFree_4 rfl ?_
    refine cx_bipush (v := nI 6) d_F_countFree_5 (by decide) ?_
    refine cx_icmp_ge (tgt := 45) d_F_countFree_7 (by decide) (fun hc7 => ?_) (fun hc7 => ?_)
    · rw [if_pos hc7] at h
      refine cx_iload_n d_F_countFree_45 rfl ?_
      exact cx_iret d_F_countFree_46 rfl (ox_i hq h)
    · rw [if_neg hc7] at h
      refine cx_aload_n d_F_countFree_10 rfl ?_
      obtain ⟨p1, ep1, hp1, h⟩ := oc_inv h
      refine cx_getr 32 rfl g_F_countFree_11 rfl (by decide) ep1 hp1 ?_
      refine cx_iload_n d_F_countFree_14 rfl ?_
      obtain ⟨a2, na2, j3, ea2, ha2, hj3, gj3, ej3, h⟩ := oa_inv h
      refine cx_aald (t := 5) 405 rfl d_F_countFree_15 (by decide) rfl ea2 ha2 hj3 gj3 ej3 ?_
      obtain ⟨p4, ep4, hp4, h⟩ := oc_inv h
      refine cx_geti 160 rfl g_F_countFree_16 rfl (by decide) ep4 hp4 ?_
      refine cx_iload_n d_F_countFree_19 rfl ?_
      refine oj_step (P := fun J5 : Int32 → Option (Int32 × cx_S) => ∀ (v6 : Int32), J5 v6 = some (r, sz) → cx G me_F_countFree 39 [some (va_rf (some l0)), some (.int (l1)), some (.int (v6)), some (.int (l3))] [] s Q) h ?_ ?_
      · intro v6 h
        refine cx_iincP d_F_countFree_39 (by decide) rfl ?_
        refine cx_goto (tgt := 4) d_F_countFree_42 (by decide) ?_
        exact ih _ _ _ h
      clear h
      intro J5 hJ1 h
      refine cx_icmp_ne (tgt := 39) d_F_countFree_20 (by decide) (fun hc20 => ?_) (fun hc20 => ?_)
      · rw [if_neg hc20] at h
        exact hJ1 _ h
      · rw [if_pos hc20] at h
        refine cx_aload_n d_F_countFree_23 rfl ?_
        refine cx_getr 32 rfl g_F_countFree_24 rfl (by decide) ep1 hp1 ?_
        refine cx_iload_n d_F_countFree_27 rfl ?_
        refine cx_aald (t := 5) 405 rfl d_F_countFree_28 (by decide) rfl ea2 ha2 hj3 gj3 ej3 ?_
        refine cx_geti 161 rfl g_F_countFree_29 rfl (by decide) ep4 hp4 ?_
        refine cx_iconst (v := (-1)) d_F_countFree_32 (by decide) ?_
        refine cx_icmp_ne (tgt := 39) d_F_countFree_33 (by decide) (fun hc33 => ?_) (fun hc33 => ?_)
        · rw [if_neg hc33] at h
          exact hJ1 _ h
        · rw [if_pos hc33] at h
          refine cx_iincP d_F_countFree_36 (by decide) rfl ?_
          exact hJ1 _ h
theorem E_F_countFree {G : bm_G} {f : Nat} {l0 : Nat} {l1 : Int32} {s sz : cx_S} {r : Int32} {Q : Int32 → cx_S → Prop} (h : D_F_countFree f l0 l1 s = some (r, sz)) (hq : Q r sz) : cx_Ti G me_F_countFree [va_rf (some l0), .int (l1)] s Q := by
  refine cx_meti (by decide) (List.forall_mem_cons.mpr ⟨cx_cat, (List.forall_mem_cons.mpr ⟨rfl, (fun _ q => nomatch q)⟩)⟩) (Nat.le_of_ble_eq_true rfl) ?_
  generalize hQ : (fun (v : bm_R) (s2 : cx_S) => ∃ x, v = .inl (some (.int x)) ∧ Q x s2) = Q2
  replace hq : Q2 (.inl (some (.int (r)))) sz := by rw [← hQ]; exact ⟨_, rfl, hq⟩
  clear hQ
  unfold D_F_countFree at h
  refine cx_iconst (v := nI 0) d_F_countFree_0 (by decide) ?_
  refine cx_istore_n d_F_countFree_1 (by decide) ?_
  refine cx_iconst (v := nI 0) d_F_countFree_2 (by decide) ?_
  refine cx_istore_n d_F_countFree_3 (by decide) ?_
  refine E_F_countFree_4 (r := r) (sz := sz) hq _ _ _ _ h
theorem E_F_mayClaim_2 {G : bm_G} {f : Nat} {l0 : Nat} {l1 : Option Nat} {r : Int32} {sz : cx_S} {Q : bm_R → cx_S → Prop} (hq : Q (.inl (some (.int (r)))) sz) : ∀ (n : Nat) (l2 : Int32) (d3 : Option Value) (s : cx_S), D_F_mayClaim_2 f l0 l1 n l2 s = some (r, sz) → cx G me_F_mayClaim 2 [some (va_rf (some l0)), some (va_rf (l1)), some (.int (l2)), d3] [] s Q := by
  intro n
  induction n with
  | zero =>
    intro l2 d3 s h
    rw [D_F_mayClaim_2] at h
    exact absurd h (by simp)
  | succ n ih =>
    intro l2 d3 s h
    rw [D_F_mayClaim_2] at h
    refine cx_iload_n d_F_mayClaim_2 rfl ?_
    refine cx_iconst (v := nI 3) d_F_mayClaim_3 (by decide) ?_
    refine cx_icmp_ge (tgt := 44) d_F_mayClaim_4 (by decide) (fun hc4 => ?_) (fun hc4 => ?_)
    · rw [if_pos hc4] at h
      refine cx_iconst (v := nI 1) d_F_mayClaim_44 (by decide) ?_
      exact cx_zret d_F_mayClaim_45 rfl (by decide) (ox_i hq h)
    · rw [if_neg hc4] at h
      refine cx_aload_n d_F_mayClaim_7 rfl ?_
      refine cx_iload_n d_F_mayClaim_8 rfl ?_
      obtain ⟨p1, ep1, hp1, h⟩ := oc_inv h
      obtain ⟨x2, s3, ex2, h⟩ := ob_inv h
      refine cx_callV1 c_F_mayClaim_9 (cx_hst (fun _ q => nomatch q) (Nat.le_of_ble_eq_true rfl)) (by decide) ep1 hp1 (E_R_countRoles ex2 ?_)
      refine cx_istore_n d_F_mayClaim_12 (by decide) ?_
      refine cx_iload_n d_F_mayClaim_13 rfl ?_
      refine oj_step (P := fun J4 : cx_S → Option (Int32 × cx_S) => ∀ (s5 : cx_S) (d3 : Option Value), J4 s5 = some (r, sz) → cx G me_F_mayClaim 38 [some (va_rf (some l0)), some (va_rf (l1)), some (.int (l2)), d3] [] s5 Q) h ?_ ?_
      · intro s5 d3 h
        refine cx_iincP d_F_mayClaim_38 (by decide) rfl ?_
        refine cx_goto (tgt := 2) d_F_mayClaim_41 (by decide) ?_
        exact ih _ _ _ h
      clear h
      intro J4 hJ1 h
      refine cx_if_le (tgt := 38) d_F_mayClaim_14 (by decide) (fun hc14 => ?_) (fun hc14 => ?_)
      · rw [if_pos hc14] at h
        exact hJ1 _ _ h
      · rw [if_neg hc14] at h
        refine cx_aload_n d_F_mayClaim_17 rfl ?_
        obtain ⟨p6, ep6, hp6, h⟩ := oc_inv h
        refine cx_getr 37 rfl g_F_mayClaim_18 rfl (by decide) ep6 hp6 ?_
        refine cx_iload_n d_F_mayClaim_21 rfl ?_
        obtain ⟨a7, na7, j8, ea7, ha7, hj8, gj8, ej8, h⟩ := oa_inv h
        refine cx_iald d_F_mayClaim_22 ea7 ha7 hj8 gj8 ej8 ?_
        refine cx_iconst (v := nI 1) d_F_mayClaim_23 (by decide) ?_
        refine oj_step (P := fun J9 : cx_S → Option (Int32 × cx_S) => ∀ (s10 : cx_S) (d0 : Option Value) (d1 : Option Value) (d2 : Option Value) (d3 : Option Value), J9 s10 = some (r, sz) → cx G me_F_mayClaim 36 [d0, d1, d2, d3] [] s10 Q) h ?_ ?_
        · intro s10 d0 d1 d2 d3 h
          refine cx_iconst (v := nI 0) d_F_mayClaim_36 (by decide) ?_
          exact cx_zret d_F_mayClaim_37 rfl (by decide) (ox_i hq h)
        clear h
        intro J9 hJ2 h
        refine cx_icmp_eq (tgt := 36) d_F_mayClaim_24 (by decide) (fun hc24 => ?_) (fun hc24 => ?_)
        · rw [if_pos hc24] at h
          exact hJ2 _ _ _ _ _ h
        · rw [if_neg hc24] at h
          refine cx_aload_n d_F_mayClaim_27 rfl ?_
          refine cx_iload_n d_F_mayClaim_28 rfl ?_
          obtain ⟨x11, s12, ex11, h⟩ := ob_inv h
          refine cx_callV1 c_F_mayClaim_29 (cx_hst (fun _ q => nomatch q) (Nat.le_of_ble_eq_true rfl)) (by decide) ep6 hp6 (E_F_countFree ex11 ?_)
          refine cx_iload_n d_F_mayClaim_32 rfl ?_
          refine cx_icmp_ge (tgt := 38) d_F_mayClaim_33 (by decide) (fun hc33 => ?_) (fun hc33 => ?_)
          · rw [if_pos hc33] at h
            exact hJ1 _ _ h
          · rw [if_neg hc33] at h
            exact hJ2 _ _ _ _ _ h
theorem E_F_mayClaim {G : bm_G} {f : Nat} {l0 : Nat} {l1 : Option Nat} {s sz : cx_S} {r : Int32} {Q : Int32 → cx_S → Prop} (h : D_F_mayClaim f l0 l1 s = some (r, sz)) (hq : Q r sz) : cx_Ti G me_F_mayClaim [va_rf (some l0), va_rf (l1)] s Q := by
  refine cx_meti (by decide) (List.forall_mem_cons.mpr ⟨cx_cat, (List.forall_mem_cons.mpr ⟨cx_cat, (fun _ q => nomatch q)⟩)⟩) (Nat.le_of_ble_eq_true rfl) ?_
  generalize hQ : (fun (v : bm_R) (s2 : cx_S) => ∃ x, v = .inl (some (.int x)) ∧ Q x s2) = Q2
  replace hq : Q2 (.inl (some (.int (r)))) sz := by rw [← hQ]; exact ⟨_, rfl, hq⟩
  clear hQ
  unfold D_F_mayClaim at h
  refine cx_iconst (v := nI 0) d_F_mayClaim_0 (by decide) ?_
  refine cx_istore_n d_F_mayClaim_1 (by decide) ?_
  refine E_F_mayClaim_2 (r := r) (sz := sz) hq _ _ _ _ h
