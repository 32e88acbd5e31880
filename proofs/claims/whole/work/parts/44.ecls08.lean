theorem E_C_hasSoundNumbers {G : bm_G} {f : Nat} {l0 : Nat} {l1 : Option Nat} {l2 : Option Nat} {s sz : cx_S} {r : Int32} {Q : Int32 → cx_S → Prop} (h : D_C_hasSoundNumbers f l0 l1 l2 s = some (r, sz)) (hq : Q r sz) : cx_Ti G me_C_hasSoundNumbers [va_rf (some l0), va_rf (l1), va_rf (l2)] s Q := by
  refine cx_meti (by decide) (List.forall_mem_cons.mpr ⟨cx_cat, (List.forall_mem_cons.mpr ⟨cx_cat, (List.forall_mem_cons.mpr ⟨cx_cat, (fun _ q => nomatch q)⟩)⟩)⟩) (Nat.le_of_ble_eq_true rfl) ?_
  generalize hQ : (fun (v : bm_R) (s2 : cx_S) => ∃ x, v = .inl (some (.int x)) ∧ Q x s2) = Q2
  replace hq : Q2 (.inl (some (.int (r)))) sz := by rw [← hQ]; exact ⟨_, rfl, hq⟩
  clear hQ
  unfold D_C_hasSoundNumbers at h
  refine cx_aload_n d_C_hasSoundNumbers_0 rfl ?_
  obtain ⟨p1, ep1, hp1, h⟩ := oc_inv h
  refine cx_geti 128 rfl g_C_hasSoundNumbers_1 rfl (by decide) ep1 hp1 ?_
  by_cases e4_0 : (cI s 128 p1 0) = nI 0
  · rw [if_pos e4_0] at h
    refine cx_tab (tgt := 56) d_C_hasSoundNumbers_4 0 e4_0 (by decide) (by decide) (by rfl) (by decide) ?_
    refine cx_aload_n d_C_hasSoundNumbers_56 rfl ?_
    refine cx_aload_n d_C_hasSoundNumbers_57 rfl ?_
    refine cx_geti 129 rfl g_C_hasSoundNumbers_58 rfl (by decide) ep1 hp1 ?_
    obtain ⟨p2, ep2, hp2, h⟩ := oc_inv h
    obtain ⟨x3, s4, ex3, h⟩ := ob_inv h
    refine cx_callV1 c_C_hasSoundNumbers_61 (cx_hst (fun _ q => nomatch q) (Nat.le_of_ble_eq_true rfl)) (by decide) ep2 hp2 (E_R_hasRole ex3 ?_)
    refine oj_step (P := fun J5 : Int32 → cx_S → Option (Int32 × cx_S) => ∀ (x6 : Int32) (s7 : cx_S) (d0 : Option Value) (d1 : Option Value) (d2 : Option Value), J5 x6 s7 = some (r, sz) → cx G me_C_hasSoundNumbers 98 [d0, d1, d2] [.int (x6)] s7 Q2) h ?_ ?_
    · intro x6 s7 d0 d1 d2 h
      obtain ⟨hz, h⟩ := ozb_inv h
      exact cx_zret d_C_hasSoundNumbers_98 rfl (ozb_nar hz) (ox_i hq h)
    clear h
    intro J5 hJ1 h
    refine oj_step (P := fun J8 : cx_S → Option (Int32 × cx_S) => ∀ (s9 : cx_S) (d0 : Option Value) (d1 : Option Value) (d2 : Option Value), J8 s9 = some (r, sz) → cx G me_C_hasSoundNumbers 97 [d0, d1, d2] [] s9 Q2) h ?_ ?_
    · intro s9 d0 d1 d2 h
      refine cx_iconst (v := nI 0) d_C_hasSoundNumbers_97 (by decide) ?_
      exact hJ1 _ _ _ _ _ h
    clear h
    intro J8 hJ2 h
    refine cx_if_eq (tgt := 97) d_C_hasSoundNumbers_64 (by decide) (fun hc64 => ?_) (fun hc64 => ?_)
    · rw [if_pos hc64] at h
      exact hJ2 _ _ _ _ h
    · rw [if_neg hc64] at h
      refine cx_aload_n d_C_hasSoundNumbers_67 rfl ?_
      obtain ⟨p10, ep10, hp10, h⟩ := oc_inv h
      refine cx_geti 130 rfl g_C_hasSoundNumbers_68 rfl (by decide) ep10 hp10 ?_
      refine cx_sipush (v := nI 501) d_C_hasSoundNumbers_71 (by decide) ?_
      obtain ⟨x11, s12, ex11, h⟩ := ob_inv h
      refine cx_callS2 c_C_hasSoundNumbers_74 (cx_hst (fun _ q => nomatch q) (Nat.le_of_ble_eq_true rfl)) (E_H_isBelow ex11 ?_)
      refine cx_if_eq (tgt := 97) d_C_hasSoundNumbers_77 (by decide) (fun hc77 => ?_) (fun hc77 => ?_)
      · rw [if_pos hc77] at h
        exact hJ2 _ _ _ _ h
      · rw [if_neg hc77] at h
        refine cx_aload_n d_C_hasSoundNumbers_80 rfl ?_
        obtain ⟨p13, ep13, hp13, h⟩ := oc_inv h
        refine cx_geti 131 rfl g_C_hasSoundNumbers_81 rfl (by decide) ep13 hp13 ?_
        refine cx_sipush (v := nI 501) d_C_hasSoundNumbers_84 (by decide) ?_
        obtain ⟨x14, s15, ex14, h⟩ := ob_inv h
        refine cx_callS2 c_C_hasSoundNumbers_87 (cx_hst (fun _ q => nomatch q) (Nat.le_of_ble_eq_true rfl)) (E_H_isBelow ex14 ?_)
        refine cx_if_eq (tgt := 97) d_C_hasSoundNumbers_90 (by decide) (fun hc90 => ?_) (fun hc90 => ?_)
        · rw [if_pos hc90] at h
          exact hJ2 _ _ _ _ h
        · rw [if_neg hc90] at h
          refine cx_iconst (v := nI 1) d_C_hasSoundNumbers_93 (by decide) ?_
          refine cx_goto (tgt := 98) d_C_hasSoundNumbers_94 (by decide) ?_
          exact hJ1 _ _ _ _ _ h
  rw [if_neg e4_0] at h
  by_cases e4_1 : (cI s 128 p1 0) = nI 1
  · rw [if_pos e4_1] at h
    refine cx_tab (tgt := 99) d_C_hasSoundNumbers_4 1 e4_1 (by decide) (by decide) (by rfl) (by decide) ?_
    refine cx_aload_n d_C_hasSoundNumbers_99 rfl ?_
    refine cx_aload_n d_C_hasSoundNumbers_100 rfl ?_
    refine cx_geti 129 rfl g_C_hasSoundNumbers_101 rfl (by decide) ep1 hp1 ?_
    obtain ⟨p16, ep16, hp16, h⟩ := oc_inv h
    obtain ⟨x17, s18, ex17, h⟩ := ob_inv h
    refine cx_callV1 c_C_hasSoundNumbers_104 (cx_hst (fun _ q => nomatch q) (Nat.le_of_ble_eq_true rfl)) (by decide) ep16 hp16 (E_R_hasRole ex17 ?_)
    refine oj_step (P := fun J19 : Int32 → Option (Int32 × cx_S) => ∀ (x20 : Int32) (d0 : Option Value) (d1 : Option Value) (d2 : Option Value), J19 x20 = some (r, sz) → cx G me_C_hasSoundNumbers 132 [d0, d1, d2] [.int (x20)] s18 Q2) h ?_ ?_
    · intro x20 d0 d1 d2 h
      obtain ⟨hz, h⟩ := ozb_inv h
      exact cx_zret d_C_hasSoundNumbers_132 rfl (ozb_nar hz) (ox_i hq h)
    clear h
    intro J19 hJ3 h
    refine oj_step (P := fun J21 : Unit → Option (Int32 × cx_S) => ∀ (_u : Unit) (d0 : Option Value) (d1 : Option Value) (d2 : Option Value), J21 () = some (r, sz) → cx G me_C_hasSoundNumbers 131 [d0, d1, d2] [] s18 Q2) h ?_ ?_
    · intro _u d0 d1 d2 h
      refine cx_iconst (v := nI 0) d_C_hasSoundNumbers_131 (by decide) ?_
      exact hJ3 _ _ _ _ h
    clear h
    intro J21 hJ4 h
    refine cx_if_eq (tgt := 131) d_C_hasSoundNumbers_107 (by decide) (fun hc107 => ?_) (fun hc107 => ?_)
    · rw [if_pos hc107] at h
      exact hJ4 () _ _ _ h
    · rw [if_neg hc107] at h
      refine cx_aload_n d_C_hasSoundNumbers_110 rfl ?_
      obtain ⟨p22, ep22, hp22, h⟩ := oc_inv h
      refine cx_geti 130 rfl g_C_hasSoundNumbers_111 rfl (by decide) ep22 hp22 ?_
      refine cx_iconst (v := nI 1) d_C_hasSoundNumbers_114 (by decide) ?_
      refine cx_icmp_lt (tgt := 131) d_C_hasSoundNumbers_115 (by decide) (fun hc115 => ?_) (fun hc115 => ?_)
      · rw [if_pos hc115] at h
        exact hJ4 () _ _ _ h
      · rw [if_neg hc115] at h
        refine cx_aload_n d_C_hasSoundNumbers_118 rfl ?_
        refine cx_geti 130 rfl g_C_hasSoundNumbers_119 rfl (by decide) ep22 hp22 ?_
        refine cx_bipush (v := nI 20) d_C_hasSoundNumbers_122 (by decide) ?_
        refine cx_icmp_gt (tgt := 131) d_C_hasSoundNumbers_124 (by decide) (fun hc124 => ?_) (fun hc124 => ?_)
        · rw [if_pos hc124] at h
          exact hJ4 () _ _ _ h
        · rw [if_neg hc124] at h
          refine cx_iconst (v := nI 1) d_C_hasSoundNumbers_127 (by decide) ?_
          refine cx_goto (tgt := 132) d_C_hasSoundNumbers_128 (by decide) ?_
          exact hJ3 _ _ _ _ h
  rw [if_neg e4_1] at h
  by_cases e4_2 : (cI s 128 p1 0) = nI 2
  · rw [if_pos e4_2] at h
    refine cx_tab (tgt := 133) d_C_hasSoundNumbers_4 2 e4_2 (by decide) (by decide) (by rfl) (by decide) ?_
    refine cx_aload_n d_C_hasSoundNumbers_133 rfl ?_
    refine cx_aload_n d_C_hasSoundNumbers_134 rfl ?_
    refine cx_geti 129 rfl g_C_hasSoundNumbers_135 rfl (by decide) ep1 hp1 ?_
    obtain ⟨p23, ep23, hp23, h⟩ := oc_inv h
    obtain ⟨x24, s25, ex24, h⟩ := ob_inv h
    refine cx_callV1 c_C_hasSoundNumbers_138 (cx_hst (fun _ q => nomatch q) (Nat.le_of_ble_eq_true rfl)) (by decide) ep23 hp23 (E_R_hasRole ex24 ?_)
    refine oj_step (P := fun J26 : Int32 → cx_S → Option (Int32 × cx_S) => ∀ (x27 : Int32) (s28 : cx_S) (d0 : Option Value) (d1 : Option Value) (d2 : Option Value), J26 x27 s28 = some (r, sz) → cx G me_C_hasSoundNumbers 188 [d0, d1, d2] [.int (x27)] s28 Q2) h ?_ ?_
    · intro x27 s28 d0 d1 d2 h
      obtain ⟨hz, h⟩ := ozb_inv h
      exact cx_zret d_C_hasSoundNumbers_188 rfl (ozb_nar hz) (ox_i hq h)
    clear h
    intro J26 hJ5 h
    refine oj_step (P := fun J29 : cx_S → Option (Int32 × cx_S) => ∀ (s30 : cx_S) (d0 : Option Value) (d1 : Option Value) (d2 : Option Value), J29 s30 = some (r, sz) → cx G me_C_hasSoundNumbers 187 [d0, d1, d2] [] s30 Q2) h ?_ ?_
    · intro s30 d0 d1 d2 h
      refine cx_iconst (v := nI 0) d_C_hasSoundNumbers_187 (by decide) ?_
      exact hJ5 _ _ _ _ _ h
    clear h
    intro J29 hJ6 h
    refine cx_if_eq (tgt := 187) d_C_hasSoundNumbers_141 (by decide) (fun hc141 => ?_) (fun hc141 => ?_)
    · rw [if_pos hc141] at h
      exact hJ6 _ _ _ _ h
    · rw [if_neg hc141] at h
      refine cx_aload_n d_C_hasSoundNumbers_144 rfl ?_
      refine cx_aload_n d_C_hasSoundNumbers_145 rfl ?_
      obtain ⟨p31, ep31, hp31, h⟩ := oc_inv h
      refine cx_geti 130 rfl g_C_hasSoundNumbers_146 rfl (by decide) ep31 hp31 ?_
      obtain ⟨p32, ep32, hp32, h⟩ := oc_inv h
      obtain ⟨x33, s34, ex33, h⟩ := ob_inv h
      refine cx_callV1 c_C_hasSoundNumbers_149 (cx_hst (fun _ q => nomatch q) (Nat.le_of_ble_eq_true rfl)) (by decide) ep32 hp32 (E_R_hasRole ex33 ?_)
      refine cx_if_eq (tgt := 187) d_C_hasSoundNumbers_152 (by decide) (fun hc152 => ?_) (fun hc152 => ?_)
      · rw [if_pos hc152] at h
        exact hJ6 _ _ _ _ h
      · rw [if_neg hc152] at h
        refine cx_aload_n d_C_hasSoundNumbers_155 rfl ?_
        obtain ⟨p35, ep35, hp35, h⟩ := oc_inv h
        refine cx_geti 129 rfl g_C_hasSoundNumbers_156 rfl (by decide) ep35 hp35 ?_
        refine cx_aload_n d_C_hasSoundNumbers_159 rfl ?_
        refine cx_geti 130 rfl g_C_hasSoundNumbers_160 rfl (by decide) ep35 hp35 ?_
        refine cx_icmp_eq (tgt := 187) d_C_hasSoundNumbers_163 (by decide) (fun hc163 => ?_) (fun hc163 => ?_)
        · rw [if_pos hc163] at h
          exact hJ6 _ _ _ _ h
        · rw [if_neg hc163] at h
          refine cx_aload_n d_C_hasSoundNumbers_166 rfl ?_
          refine cx_geti 131 rfl g_C_hasSoundNumbers_167 rfl (by decide) ep35 hp35 ?_
          refine cx_iconst (v := nI 1) d_C_hasSoundNumbers_170 (by decide) ?_
          refine cx_icmp_lt (tgt := 187) d_C_hasSoundNumbers_171 (by decide) (fun hc171 => ?_) (fun hc171 => ?_)
          · rw [if_pos hc171] at h
            exact hJ6 _ _ _ _ h
          · rw [if_neg hc171] at h
            refine cx_aload_n d_C_hasSoundNumbers_174 rfl ?_
            refine cx_geti 131 rfl g_C_hasSoundNumbers_175 rfl (by decide) ep35 hp35 ?_
            refine cx_bipush (v := nI 100) d_C_hasSoundNumbers_178 (by decide) ?_
            refine cx_icmp_gt (tgt := 187) d_C_hasSoundNumbers_180 (by decide) (fun hc180 => ?_) (fun hc180 => ?_)
            · rw [if_pos hc180] at h
              exact hJ6 _ _ _ _ h
            · rw [if_neg hc180] at h
              refine cx_iconst (v := nI 1) d_C_hasSoundNumbers_183 (by decide) ?_
              refine cx_goto (tgt := 188) d_C_hasSoundNumbers_184 (by decide) ?_
              exact hJ5 _ _ _ _ _ h
  rw [if_neg e4_2] at h
  by_cases e4_3 : (cI s 128 p1 0) = nI 3
  · rw [if_pos e4_3] at h
    refine cx_tab (tgt := 99) d_C_hasSoundNumbers_4 3 e4_3 (by decide) (by decide) (by rfl) (by decide) ?_
    refine cx_aload_n d_C_hasSoundNumbers_99 rfl ?_
    refine cx_aload_n d_C_hasSoundNumbers_100 rfl ?_
    refine cx_geti 129 rfl g_C_hasSoundNumbers_101 rfl (by decide) ep1 hp1 ?_
    obtain ⟨p36, ep36, hp36, h⟩ := oc_inv h
    obtain ⟨x37, s38, ex37, h⟩ := ob_inv h
    refine cx_callV1 c_C_hasSoundNumbers_104 (cx_hst (fun _ q => nomatch q) (Nat.le_of_ble_eq_true rfl)) (by decide) ep36 hp36 (E_R_hasRole ex37 ?_)
    refine oj_step (P := fun J39 : Int32 → Option (Int32 × cx_S) => ∀ (x40 : Int32) (d0 : Option Value) (d1 : Option Value) (d2 : Option Value), J39 x40 = some (r, sz) → cx G me_C_hasSoundNumbers 132 [d0, d1, d2] [.int (x40)] s38 Q2) h ?_ ?_
    · intro x40 d0 d1 d2 h
      obtain ⟨hz, h⟩ := ozb_inv h
      exact cx_zret d_C_hasSoundNumbers_132 rfl (ozb_nar hz) (ox_i hq h)
    clear h
    intro J39 hJ7 h
    refine oj_step (P := fun J41 : Unit → Option (Int32 × cx_S) => ∀ (_u : Unit) (d0 : Option Value) (d1 : Option Value) (d2 : Option Value), J41 () = some (r, sz) → cx G me_C_hasSoundNumbers 131 [d0, d1, d2] [] s38 Q2) h ?_ ?_
    · intro _u d0 d1 d2 h
      refine cx_iconst (v := nI 0) d_C_hasSoundNumbers_131 (by decide) ?_
      exact hJ7 _ _ _ _ h
    clear h
    intro J41 hJ8 h
    refine cx_if_eq (tgt := 131) d_C_hasSoundNumbers_107 (by decide) (fun hc107 => ?_) (fun hc107 => ?_)
    · rw [if_pos hc107] at h
      exact hJ8 () _ _ _ h
    · rw [if_neg hc107] at h
      refine cx_aload_n d_C_hasSoundNumbers_110 rfl ?_
      obtain ⟨p42, ep42, hp42, h⟩ := oc_inv h
      refine cx_geti 130 rfl g_C_hasSoundNumbers_111 rfl (by decide) ep42 hp42 ?_
      refine cx_iconst (v := nI 1) d_C_hasSoundNumbers_114 (by decide) ?_
      refine cx_icmp_lt (tgt := 131) d_C_hasSoundNumbers_115 (by decide) (fun hc115 => ?_) (fun hc115 => ?_)
      · rw [if_pos hc115] at h
        exact hJ8 () _ _ _ h
      · rw [if_neg hc115] at h
        refine cx_aload_n d_C_hasSoundNumbers_118 rfl ?_
        refine cx_geti 130 rfl g_C_hasSoundNumbers_119 rfl (by decide) ep42 hp42 ?_
        refine cx_bipush (v := nI 20) d_C_hasSoundNumbers_122 (by decide) ?_
        refine cx_icmp_gt (tgt := 131) d_C_hasSoundNumbers_124 (by decide) (fun hc124 => ?_) (fun hc124 => ?_)
        · rw [if_pos hc124] at h
          exact hJ8 () _ _ _ h
        · rw [if_neg hc124] at h
          refine cx_iconst (v := nI 1) d_C_hasSoundNumbers_127 (by decide) ?_
          refine cx_goto (tgt := 132) d_C_hasSoundNumbers_128 (by decide) ?_
          exact hJ7 _ _ _ _ h
  rw [if_neg e4_3] at h
  by_cases e4_4 : (cI s 128 p1 0) = nI 4
  · rw [if_pos e4_4] at h
    refine cx_tab (tgt := 189) d_C_hasSoundNumbers_4 4 e4_4 (by decide) (by decide) (by rfl) (by decide) ?_
    refine cx_aload_n d_C_hasSoundNumbers_189 rfl ?_
    refine cx_aload_n d_C_hasSoundNumbers_190 rfl ?_
    refine cx_geti 129 rfl g_C_hasSoundNumbers_191 rfl (by decide) ep1 hp1 ?_
    obtain ⟨p43, ep43, hp43, h⟩ := oc_inv h
    obtain ⟨x44, s45, ex44, h⟩ := ob_inv h
    refine cx_callV1 c_C_hasSoundNumbers_194 (cx_hst (fun _ q => nomatch q) (Nat.le_of_ble_eq_true rfl)) (by decide) ep43 hp43 (E_R_hasRole ex44 ?_)
    refine oj_step (P := fun J46 : Int32 → cx_S → Option (Int32 × cx_S) => ∀ (x47 : Int32) (s48 : cx_S) (d0 : Option Value) (d1 : Option Value) (d2 : Option Value), J46 x47 s48 = some (r, sz) → cx G me_C_hasSoundNumbers 216 [d0, d1, d2] [.int (x47)] s48 Q2) h ?_ ?_
    · intro x47 s48 d0 d1 d2 h
      obtain ⟨hz, h⟩ := ozb_inv h
      exact cx_zret d_C_hasSoundNumbers_216 rfl (ozb_nar hz) (ox_i hq h)
    clear h
    intro J46 hJ9 h
    refine oj_step (P := fun J49 : cx_S → Option (Int32 × cx_S) => ∀ (s50 : cx_S) (d0 : Option Value) (d1 : Option Value) (d2 : Option Value), J49 s50 = some (r, sz) → cx G me_C_hasSoundNumbers 215 [d0, d1, d2] [] s50 Q2) h ?_ ?_
    · intro s50 d0 d1 d2 h
      refine cx_iconst (v := nI 0) d_C_hasSoundNumbers_215 (by decide) ?_
      exact hJ9 _ _ _ _ _ h
    clear h
    intro J49 hJ10 h
    refine cx_if_eq (tgt := 215) d_C_hasSoundNumbers_197 (by decide) (fun hc197 => ?_) (fun hc197 => ?_)
    · rw [if_pos hc197] at h
      exact hJ10 _ _ _ _ h
    · rw [if_neg hc197] at h
      refine cx_aload_n d_C_hasSoundNumbers_200 rfl ?_
      obtain ⟨p51, ep51, hp51, h⟩ := oc_inv h
      refine cx_geti 130 rfl g_C_hasSoundNumbers_201 rfl (by decide) ep51 hp51 ?_
      refine cx_iconst (v := nI 4) d_C_hasSoundNumbers_204 (by decide) ?_
      obtain ⟨x52, s53, ex52, h⟩ := ob_inv h
      refine cx_callS2 c_C_hasSoundNumbers_205 (cx_hst (fun _ q => nomatch q) (Nat.le_of_ble_eq_true rfl)) (E_H_isBelow ex52 ?_)
      refine cx_if_eq (tgt := 215) d_C_hasSoundNumbers_208 (by decide) (fun hc208 => ?_) (fun hc208 => ?_)
      · rw [if_pos hc208] at h
        exact hJ10 _ _ _ _ h
      · rw [if_neg hc208] at h
        refine cx_iconst (v := nI 1) d_C_hasSoundNumbers_211 (by decide) ?_
        refine cx_goto (tgt := 216) d_C_hasSoundNumbers_212 (by decide) ?_
        exact hJ9 _ _ _ _ _ h
  rw [if_neg e4_4] at h
  by_cases e4_5 : (cI s 128 p1 0) = nI 5
  · rw [if_pos e4_5] at h
    refine cx_tab (tgt := 248) d_C_hasSoundNumbers_4 5 e4_5 (by decide) (by decide) (by rfl) (by decide) ?_
    refine cx_iconst (v := nI 1) d_C_hasSoundNumbers_248 (by decide) ?_
    exact cx_zret d_C_hasSoundNumbers_249 rfl (by decide) (ox_i hq h)
  rw [if_neg e4_5] at h
  by_cases e4_6 : (cI s 128 p1 0) = nI 6
  · rw [if_pos e4_6] at h
    refine cx_tab (tgt := 248) d_C_hasSoundNumbers_4 6 e4_6 (by decide) (by decide) (by rfl) (by decide) ?_
    refine cx_iconst (v := nI 1) d_C_hasSoundNumbers_248 (by decide) ?_
    exact cx_zret d_C_hasSoundNumbers_249 rfl (by decide) (ox_i hq h)
  rw [if_neg e4_6] at h
  by_cases e4_7 : (cI s 128 p1 0) = nI 7
  · rw [if_pos e4_7] at h
    refine cx_tab (tgt := 217) d_C_hasSoundNumbers_4 7 e4_7 (by decide) (by decide) (by rfl) (by decide) ?_
    refine cx_aload_n d_C_hasSoundNumbers_217 rfl ?_
    refine cx_geti 129 rfl g_C_hasSoundNumbers_218 rfl (by decide) ep1 hp1 ?_
    refine cx_iconst (v := nI 4) d_C_hasSoundNumbers_221 (by decide) ?_
    obtain ⟨x54, s55, ex54, h⟩ := ob_inv h
    refine cx_callS2 c_C_hasSoundNumbers_222 (cx_hst (fun _ q => nomatch q) (Nat.le_of_ble_eq_true rfl)) (E_H_isBelow ex54 ?_)
    obtain ⟨hz, h⟩ := ozb_inv h
    exact cx_zret d_C_hasSoundNumbers_225 rfl (ozb_nar hz) (ox_i hq h)
  rw [if_neg e4_7] at h
  by_cases e4_8 : (cI s 128 p1 0) = nI 8
  · rw [if_pos e4_8] at h
    refine cx_tab (tgt := 226) d_C_hasSoundNumbers_4 8 e4_8 (by decide) (by decide) (by rfl) (by decide) ?_
    refine cx_aload_n d_C_hasSoundNumbers_226 rfl ?_
    refine cx_geti 129 rfl g_C_hasSoundNumbers_227 rfl (by decide) ep1 hp1 ?_
    refine cx_iconst (v := nI 1) d_C_hasSoundNumbers_230 (by decide) ?_
    refine oj_step (P := fun J56 : Int32 → Option (Int32 × cx_S) => ∀ (x57 : Int32) (d0 : Option Value) (d1 : Option Value) (d2 : Option Value), J56 x57 = some (r, sz) → cx G me_C_hasSoundNumbers 247 [d0, d1, d2] [.int (x57)] s Q2) h ?_ ?_
    · intro x57 d0 d1 d2 h
      obtain ⟨hz, h⟩ := ozb_inv h
      exact cx_zret d_C_hasSoundNumbers_247 rfl (ozb_nar hz) (ox_i hq h)
    clear h
    intro J56 hJ11 h
    refine oj_step (P := fun J58 : Unit → Option (Int32 × cx_S) => ∀ (_u : Unit) (d0 : Option Value) (d1 : Option Value) (d2 : Option Value), J58 () = some (r, sz) → cx G me_C_hasSoundNumbers 246 [d0, d1, d2] [] s Q2) h ?_ ?_
    · intro _u d0 d1 d2 h
      refine cx_iconst (v := nI 0) d_C_hasSoundNumbers_246 (by decide) ?_
      exact hJ11 _ _ _ _ h
    clear h
    intro J58 hJ12 h
    refine cx_icmp_lt (tgt := 246) d_C_hasSoundNumbers_231 (by decide) (fun hc231 => ?_) (fun hc231 => ?_)
    · rw [if_pos hc231] at h
      exact hJ12 () _ _ _ h
    · rw [if_neg hc231] at h
      refine cx_aload_n d_C_hasSoundNumbers_234 rfl ?_
      refine cx_geti 129 rfl g_C_hasSoundNumbers_235 rfl (by decide) ep1 hp1 ?_
      refine cx_iconst (v := nI 5) d_C_hasSoundNumbers_238 (by decide) ?_
      refine cx_icmp_gt (tgt := 246) d_C_hasSoundNumbers_239 (by decide) (fun hc239 => ?_) (fun hc239 => ?_)
      · rw [if_pos hc239] at h
        exact hJ12 () _ _ _ h
      · rw [if_neg hc239] at h
        refine cx_iconst (v := nI 1) d_C_hasSoundNumbers_242 (by decide) ?_
        refine cx_goto (tgt := 247) d_C_hasSoundNumbers_243 (by decide) ?_
        exact hJ11 _ _ _ _ h
  rw [if_neg e4_8] at h
  have hsw : ∀ j, j ≤ 8 → ¬ (cI s 128 p1 0) = nI j := by
    intro j hj
    have hj2 : j = 0 ∨ j = 1 ∨ j = 2 ∨ j = 3 ∨ j = 4 ∨ j = 5 ∨ j = 6 ∨ j = 7 ∨ j = 8 := by omega
    rcases hj2 with rfl | rfl | rfl | rfl | rfl | rfl | rfl | rfl | rfl <;> assumption
  refine cx_tableOut (tgt := 248) d_C_hasSoundNumbers_4 (sw_out 8 (by decide) hsw) (by decide) ?_
  refine cx_iconst (v := nI 1) d_C_hasSoundNumbers_248 (by decide) ?_
  exact cx_zret d_C_hasSoundNumbers_249 rfl (by decide) (ox_i hq h)
theorem E_C_hasSoundLinks {G : bm_G} {f : Nat} {l0 : Nat} {l1 : Option Nat} {l2 : Int32} {s sz : cx_S} {r : Int32} {Q : Int32 → cx_S → Prop} (h : D_C_hasSoundLinks f l0 l1 l2 s = some (r, sz)) (hq : Q r sz) : cx_Ti G me_C_hasSoundLinks [va_rf (some l0), va_rf (l1), .int (l2)] s Q := by
  refine cx_meti (by decide) (List.forall_mem_cons.mpr ⟨cx_cat, (List.forall_mem_cons.mpr ⟨cx_cat, (List.forall_mem_cons.mpr ⟨rfl, (fun _ q => nomatch q)⟩)⟩)⟩) (Nat.le_of_ble_eq_true rfl) ?_
  generalize hQ : (fun (v : bm_R) (s2 : cx_S) => ∃ x, v = .inl (some (.int x)) ∧ Q x s2) = Q2
  replace hq : Q2 (.inl (some (.int (r)))) sz := by rw [← hQ]; exact ⟨_, rfl, hq⟩
  clear hQ
  unfold D_C_hasSoundLinks at h
  refine cx_aload_n d_C_hasSoundLinks_0 rfl ?_
  obtain ⟨p1, ep1, hp1, h⟩ := oc_inv h
  refine cx_getr 99 rfl g_C_hasSoundLinks_1 rfl (by decide) ep1 hp1 ?_
  refine cx_iload_n d_C_hasSoundLinks_4 rfl ?_
  obtain ⟨a2, na2, j3, ea2, ha2, hj3, gj3, ej3, h⟩ := oa_inv h
  refine cx_aald (t := 7) 407 rfl d_C_hasSoundLinks_5 (by decide) rfl ea2 ha2 hj3 gj3 ej3 ?_
  refine cx_astore_n d_C_hasSoundLinks_6 (by decide) ?_
  refine cx_aload_n d_C_hasSoundLinks_7 rfl ?_
  obtain ⟨p4, ep4, hp4, h⟩ := oc_inv h
  refine cx_geti 128 rfl g_C_hasSoundLinks_8 rfl (by decide) ep4 hp4 ?_
  refine cx_bipush (v := nI 9) d_C_hasSoundLinks_11 (by decide) ?_
  refine cx_icmp_ne (tgt := 18) d_C_hasSoundLinks_13 (by decide) (fun hc13 => ?_) (fun hc13 => ?_)
  · rw [if_neg hc13] at h
    refine cx_aload_n d_C_hasSoundLinks_18 rfl ?_
    refine cx_geti 132 rfl g_C_hasSoundLinks_19 rfl (by decide) ep4 hp4 ?_
    refine cx_iload_n d_C_hasSoundLinks_22 rfl ?_
    refine oj_step (P := fun J5 : Unit → Option (Int32 × cx_S) => ∀ (_u : Unit) (d0 : Option Value) (d1 : Option Value) (d2 : Option Value) (d3 : Option Value), J5 () = some (r, sz) → cx G me_C_hasSoundLinks 37 [d0, d1, d2, d3] [] s Q2) h ?_ ?_
    · intro _u d0 d1 d2 d3 h
      refine cx_iconst (v := nI 0) d_C_hasSoundLinks_37 (by decide) ?_
      exact cx_zret d_C_hasSoundLinks_38 rfl (by decide) (ox_i hq h)
    clear h
    intro J5 hJ1 h
    refine cx_icmp_le (tgt := 37) d_C_hasSoundLinks_23 (by decide) (fun hc23 => ?_) (fun hc23 => ?_)
    · rw [if_pos hc23] at h
      exact hJ1 () _ _ _ _ h
    · rw [if_neg hc23] at h
      refine cx_aload_n d_C_hasSoundLinks_26 rfl ?_
      refine cx_geti 132 rfl g_C_hasSoundLinks_27 rfl (by decide) ep4 hp4 ?_
      refine cx_aload_n d_C_hasSoundLinks_30 rfl ?_
      refine cx_geti 97 rfl g_C_hasSoundLinks_31 rfl (by decide) ep1 hp1 ?_
      refine cx_icmp_lt (tgt := 39) d_C_hasSoundLinks_34 (by decide) (fun hc34 => ?_) (fun hc34 => ?_)
      · rw [if_pos hc34] at h
        refine cx_aload_n d_C_hasSoundLinks_39 rfl ?_
        refine cx_geti 128 rfl g_C_hasSoundLinks_40 rfl (by decide) ep4 hp4 ?_
        by_cases e43_5 : (cI s 128 p4 0) = nI 5
        · rw [if_pos e43_5] at h
          refine cx_tabL (tgt := 72) d_C_hasSoundLinks_43 5 e43_5 (by decide) (by decide) (by decide) (by rfl) (by decide) ?_
          refine cx_aload_n d_C_hasSoundLinks_72 rfl ?_
          refine cx_geti 133 rfl g_C_hasSoundLinks_73 rfl (by decide) ep4 hp4 ?_
          refine cx_iload_n d_C_hasSoundLinks_76 rfl ?_
          refine oj_step (P := fun J6 : Int32 → Option (Int32 × cx_S) => ∀ (x7 : Int32) (d0 : Option Value) (d1 : Option Value) (d2 : Option Value) (d3 : Option Value), J6 x7 = some (r, sz) → cx G me_C_hasSoundLinks 96 [d0, d1, d2, d3] [.int (x7)] s Q2) h ?_ ?_
          · intro x7 d0 d1 d2 d3 h
            obtain ⟨hz, h⟩ := ozb_inv h
            exact cx_zret d_C_hasSoundLinks_96 rfl (ozb_nar hz) (ox_i hq h)
          clear h
          intro J6 hJ2 h
          refine oj_step (P := fun J8 : Unit → Option (Int32 × cx_S) => ∀ (_u : Unit) (d0 : Option Value) (d1 : Option Value) (d2 : Option Value) (d3 : Option Value), J8 () = some (r, sz) → cx G me_C_hasSoundLinks 95 [d0, d1, d2, d3] [] s Q2) h ?_ ?_
          · intro _u d0 d1 d2 d3 h
            refine cx_iconst (v := nI 0) d_C_hasSoundLinks_95 (by decide) ?_
            exact hJ2 _ _ _ _ _ h
          clear h
          intro J8 hJ3 h
          refine cx_icmp_le (tgt := 95) d_C_hasSoundLinks_77 (by decide) (fun hc77 => ?_) (fun hc77 => ?_)
          · rw [if_pos hc77] at h
            exact hJ3 () _ _ _ _ h
          · rw [if_neg hc77] at h
            refine cx_aload_n d_C_hasSoundLinks_80 rfl ?_
            refine cx_geti 133 rfl g_C_hasSoundLinks_81 rfl (by decide) ep4 hp4 ?_
            refine cx_aload_n d_C_hasSoundLinks_84 rfl ?_
            refine cx_geti 97 rfl g_C_hasSoundLinks_85 rfl (by decide) ep1 hp1 ?_
            refine cx_icmp_ge (tgt := 95) d_C_hasSoundLinks_88 (by decide) (fun hc88 => ?_) (fun hc88 => ?_)
            · rw [if_pos hc88] at h
              exact hJ3 () _ _ _ _ h
            · rw [if_neg hc88] at h
              refine cx_iconst (v := nI 1) d_C_hasSoundLinks_91 (by decide) ?_
              refine cx_goto (tgt := 96) d_C_hasSoundLinks_92 (by decide) ?_
              exact hJ2 _ _ _ _ _ h
        rw [if_neg e43_5] at h
        by_cases e43_6 : (cI s 128 p4 0) = nI 6
        · rw [if_pos e43_6] at h
          refine cx_tabL (tgt := 106) d_C_hasSoundLinks_43 6 e43_6 (by decide) (by decide) (by decide) (by rfl) (by decide) ?_
          refine cx_iconst (v := nI 1) d_C_hasSoundLinks_106 (by decide) ?_
          exact cx_zret d_C_hasSoundLinks_107 rfl (by decide) (ox_i hq h)
        rw [if_neg e43_6] at h
        by_cases e43_7 : (cI s 128 p4 0) = nI 7
        · rw [if_pos e43_7] at h
          refine cx_tabL (tgt := 72) d_C_hasSoundLinks_43 7 e43_7 (by decide) (by decide) (by decide) (by rfl) (by decide) ?_
          refine cx_aload_n d_C_hasSoundLinks_72 rfl ?_
          refine cx_geti 133 rfl g_C_hasSoundLinks_73 rfl (by decide) ep4 hp4 ?_
          refine cx_iload_n d_C_hasSoundLinks_76 rfl ?_
          refine oj_step (P := fun J9 : Int32 → Option (Int32 × cx_S) => ∀ (x10 : Int32) (d0 : Option Value) (d1 : Option Value) (d2 : Option Value) (d3 : Option Value), J9 x10 = some (r, sz) → cx G me_C_hasSoundLinks 96 [d0, d1, d2, d3] [.int (x10)] s Q2) h ?_ ?_
          · intro x10 d0 d1 d2 d3 h
            obtain ⟨hz, h⟩ := ozb_inv h
            exact cx_zret d_C_hasSoundLinks_96 rfl (ozb_nar hz) (ox_i hq h)
          clear h
          intro J9 hJ4 h
          refine oj_step (P := fun J11 : Unit → Option (Int32 × cx_S) => ∀ (_u : Unit) (d0 : Option Value) (d1 : Option Value) (d2 : Option Value) (d3 : Option Value), J11 () = some (r, sz) → cx G me_C_hasSoundLinks 95 [d0, d1, d2, d3] [] s Q2) h ?_ ?_
          · intro _u d0 d1 d2 d3 h
            refine cx_iconst (v := nI 0) d_C_hasSoundLinks_95 (by decide) ?_
            exact hJ4 _ _ _ _ _ h
          clear h
          intro J11 hJ5 h
          refine cx_icmp_le (tgt := 95) d_C_hasSoundLinks_77 (by decide) (fun hc77 => ?_) (fun hc77 => ?_)
          · rw [if_pos hc77] at h
            exact hJ5 () _ _ _ _ h
          · rw [if_neg hc77] at h
            refine cx_aload_n d_C_hasSoundLinks_80 rfl ?_
            refine cx_geti 133 rfl g_C_hasSoundLinks_81 rfl (by decide) ep4 hp4 ?_
            refine cx_aload_n d_C_hasSoundLinks_84 rfl ?_
            refine cx_geti 97 rfl g_C_hasSoundLinks_85 rfl (by decide) ep1 hp1 ?_
            refine cx_icmp_ge (tgt := 95) d_C_hasSoundLinks_88 (by decide) (fun hc88 => ?_) (fun hc88 => ?_)
            · rw [if_pos hc88] at h
              exact hJ5 () _ _ _ _ h
            · rw [if_neg hc88] at h
              refine cx_iconst (v := nI 1) d_C_hasSoundLinks_91 (by decide) ?_
              refine cx_goto (tgt := 96) d_C_hasSoundLinks_92 (by decide) ?_
              exact hJ4 _ _ _ _ _ h
        rw [if_neg e43_7] at h
        by_cases e43_8 : (cI s 128 p4 0) = nI 8
        · rw [if_pos e43_8] at h
          refine cx_tabL (tgt := 97) d_C_hasSoundLinks_43 8 e43_8 (by decide) (by decide) (by decide) (by rfl) (by decide) ?_
          refine cx_aload_n d_C_hasSoundLinks_97 rfl ?_
          refine cx_geti 133 rfl g_C_hasSoundLinks_98 rfl (by decide) ep4 hp4 ?_
          refine cx_iload_n d_C_hasSoundLinks_101 rfl ?_
          obtain ⟨x12, s13, ex12, h⟩ := ob_inv h
          refine cx_callS2 c_C_hasSoundLinks_102 (cx_hst (fun _ q => nomatch q) (Nat.le_of_ble_eq_true rfl)) (E_H_isBelow ex12 ?_)
          obtain ⟨hz, h⟩ := ozb_inv h
          exact cx_zret d_C_hasSoundLinks_105 rfl (ozb_nar hz) (ox_i hq h)
        rw [if_neg e43_8] at h
        have hsw : ∀ j, 5 ≤ j → j ≤ 8 → ¬ (cI s 128 p4 0) = nI j := by
          intro j hj0 hj
          have hj2 : j = 5 ∨ j = 6 ∨ j = 7 ∨ j = 8 := by omega
          rcases hj2 with rfl | rfl | rfl | rfl <;> assumption
        refine cx_tableOut (tgt := 106) d_C_hasSoundLinks_43 (sw_outL 5 8 (by decide) hsw) (by decide) ?_
        refine cx_iconst (v := nI 1) d_C_hasSoundLinks_106 (by decide) ?_
        exact cx_zret d_C_hasSoundLinks_107 rfl (by decide) (ox_i hq h)
      · rw [if_neg hc34] at h
        exact hJ1 () _ _ _ _ h
  · rw [if_pos hc13] at h
    refine cx_iconst (v := nI 1) d_C_hasSoundLinks_16 (by decide) ?_
    exact cx_zret d_C_hasSoundLinks_17 rfl (by decide) (ox_i hq h)
theorem E_C_isSound_2 {G : bm_G} {f : Nat} {l0 : Nat} {l1 : Option Nat} {k41 : cx_S → Option (Int32 × cx_S)} {r : Int32} {sz : cx_S} {Q : bm_R → cx_S → Prop} (hq : Q (.inl (some (.int (r)))) sz) (hk41 : ∀ (d0 : Option Value) (d2 : Option Value) (s : cx_S), k41 s = some (r, sz) → cx G me_C_isSound 41 [d0, some (va_rf (l1)), d2] [] s Q) : ∀ (n : Nat) (l2 : Int32) (s : cx_S), D_C_isSound_2 f l0 l1 k41 n l2 s = some (r, sz) → cx G me_C_isSound 2 [some (va_rf (some l0)), some (va_rf (l1)), some (.int (l2))] [] s Q := by
  intro n
  induction n with
  | zero =>
    intro l2 s h
    rw [D_C_isSound_2] at h
    exact absurd h (by simp)
  | succ n ih =>
    intro l2 s h
    rw [D_C_isSound_2] at h
    refine cx_iload_n d_C_isSound_2 rfl ?_
    refine cx_aload_n d_C_isSound_3 rfl ?_
    obtain ⟨p1, ep1, hp1, h⟩ := oc_inv h
    refine cx_geti 97 rfl g_C_isSound_4 rfl (by decide) ep1 hp1 ?_
    refine cx_icmp_ge (tgt := 41) d_C_isSound_7 (by decide) (fun hc7 => ?_) (fun hc7 => ?_)
    · rw [if_pos hc7] at h
      exact hk41 _ _ _ h
    · rw [if_neg hc7] at h
      refine cx_aload_n d_C_isSound_10 rfl ?_
      refine cx_aload_n d_C_isSound_11 rfl ?_
      refine cx_aload_n d_C_isSound_12 rfl ?_
      refine cx_getr 99 rfl g_C_isSound_13 rfl (by decide) ep1 hp1 ?_
      refine cx_iload_n d_C_isSound_16 rfl ?_
      obtain ⟨a2, na2, j3, ea2, ha2, hj3, gj3, ej3, h⟩ := oa_inv h
      refine cx_aald (t := 7) 407 rfl d_C_isSound_17 (by decide) rfl ea2 ha2 hj3 gj3 ej3 ?_
      obtain ⟨p4, ep4, hp4, h⟩ := oc_inv h
      obtain ⟨x5, s6, ex5, h⟩ := ob_inv h
      refine cx_callV2 c_C_isSound_18 (cx_hst (fun _ q => nomatch q) (Nat.le_of_ble_eq_true rfl)) (by decide) ep4 hp4 (E_C_hasSoundNumbers ex5 ?_)
      refine oj_step (P := fun J7 : cx_S → Option (Int32 × cx_S) => ∀ (s8 : cx_S) (d0 : Option Value) (d1 : Option Value) (d2 : Option Value), J7 s8 = some (r, sz) → cx G me_C_isSound 33 [d0, d1, d2] [] s8 Q) h ?_ ?_
      · intro s8 d0 d1 d2 h
        refine cx_iconst (v := nI 0) d_C_isSound_33 (by decide) ?_
        exact cx_zret d_C_isSound_34 rfl (by decide) (ox_i hq h)
      clear h
      intro J7 hJ1 h
      refine cx_if_eq (tgt := 33) d_C_isSound_21 (by decide) (fun hc21 => ?_) (fun hc21 => ?_)
      · rw [if_pos hc21] at h
        exact hJ1 _ _ _ _ h
      · rw [if_neg hc21] at h
        refine cx_aload_n d_C_isSound_24 rfl ?_
        refine cx_aload_n d_C_isSound_25 rfl ?_
        refine cx_iload_n d_C_isSound_26 rfl ?_
        obtain ⟨p9, ep9, hp9, h⟩ := oc_inv h
        obtain ⟨x10, s11, ex10, h⟩ := ob_inv h
        refine cx_callV2 c_C_isSound_27 (cx_hst (fun _ q => nomatch q) (Nat.le_of_ble_eq_true rfl)) (by decide) ep9 hp9 (E_C_hasSoundLinks ex10 ?_)
        refine cx_if_ne (tgt := 35) d_C_isSound_30 (by decide) (fun hc30 => ?_) (fun hc30 => ?_)
        · rw [if_neg hc30] at h
          refine cx_iincP d_C_isSound_35 (by decide) rfl ?_
          refine cx_goto (tgt := 2) d_C_isSound_38 (by decide) ?_
          exact ih _ _ h
        · rw [if_pos hc30] at h
          exact hJ1 _ _ _ _ h
theorem E_C_isSound {G : bm_G} {f : Nat} {l0 : Nat} {l1 : Option Nat} {s sz : cx_S} {r : Int32} {Q : Int32 → cx_S → Prop} (h : D_C_isSound f l0 l1 s = some (r, sz)) (hq : Q r sz) : cx_Ti G me_C_isSound [va_rf (some l0), va_rf (l1)] s Q := by
  refine cx_meti (by decide) (List.forall_mem_cons.mpr ⟨cx_cat, (List.forall_mem_cons.mpr ⟨cx_cat, (fun _ q => nomatch q)⟩)⟩) (Nat.le_of_ble_eq_true rfl) ?_
  generalize hQ : (fun (v : bm_R) (s2 : cx_S) => ∃ x, v = .inl (some (.int x)) ∧ Q x s2) = Q2
  replace hq : Q2 (.inl (some (.int (r)))) sz := by rw [← hQ]; exact ⟨_, rfl, hq⟩
  clear hQ
  unfold D_C_isSound at h
  refine cx_iconst (v := nI 0) d_C_isSound_0 (by decide) ?_
  refine cx_istore_n d_C_isSound_1 (by decide) ?_
  refine E_C_isSound_2 (r := r) (sz := sz) hq ?_ _ _ _ h
  · intro d0 d2 s12 h
    refine cx_aload_n d_C_isSound_41 rfl ?_
    obtain ⟨p13, ep13, hp13, h⟩ := oc_inv h
    refine cx_geti 97 rfl g_C_isSound_42 rfl (by decide) ep13 hp13 ?_
    refine oj_step (P := fun J14 : Int32 → Option (Int32 × cx_S) => ∀ (x15 : Int32) (d0 : Option Value) (d1 : Option Value) (d2 : Option Value), J14 x15 = some (r, sz) → cx G me_C_isSound 53 [d0, d1, d2] [.int (x15)] s12 Q2) h ?_ ?_
    · intro x15 d0 d1 d2 h
      obtain ⟨hz, h⟩ := ozb_inv h
      exact cx_zret d_C_isSound_53 rfl (ozb_nar hz) (ox_i hq h)
    clear h
    intro J14 hJ2 h
    refine cx_if_le (tgt := 52) d_C_isSound_45 (by decide) (fun hc45 => ?_) (fun hc45 => ?_)
    · rw [if_pos hc45] at h
      refine cx_iconst (v := nI 0) d_C_isSound_52 (by decide) ?_
      exact hJ2 _ _ _ _ h
    · rw [if_neg hc45] at h
      refine cx_iconst (v := nI 1) d_C_isSound_48 (by decide) ?_
      refine cx_goto (tgt := 53) d_C_isSound_49 (by decide) ?_
      exact hJ2 _ _ _ _ h
theorem E_S_wayOut {G : bm_G} {f : Nat} {l0 : Nat} {l1 : Int32} {s sz : cx_S} {r : Int32} {Q : Int32 → cx_S → Prop} (h : D_S_wayOut f l0 l1 s = some (r, sz)) (hq : Q r sz) : cx_Ti G me_S_wayOut [va_rf (some l0), .int (l1)] s Q := by
  refine cx_meti (by decide) (List.forall_mem_cons.mpr ⟨cx_cat, (List.forall_mem_cons.mpr ⟨rfl, (fun _ q => nomatch q)⟩)⟩) (Nat.le_of_ble_eq_true rfl) ?_
  generalize hQ : (fun (v : bm_R) (s2 : cx_S) => ∃ x, v = .inl (some (.int x)) ∧ Q x s2) = Q2
  replace hq : Q2 (.inl (some (.int (r)))) sz := by rw [← hQ]; exact ⟨_, rfl, hq⟩
  clear hQ
  unfold D_S_wayOut at h
  refine cx_iload_n d_S_wayOut_0 rfl ?_
  refine cx_if_eq (tgt := 39) d_S_wayOut_1 (by decide) (fun hc1 => ?_) (fun hc1 => ?_)
  · rw [if_pos hc1] at h
    refine cx_aload_n d_S_wayOut_39 rfl ?_
    obtain ⟨p1, ep1, hp1, h⟩ := oc_inv h
    refine cx_geti 128 rfl g_S_wayOut_40 rfl (by decide) ep1 hp1 ?_
    refine cx_bipush (v := nI 9) d_S_wayOut_43 (by decide) ?_
    refine oj_step (P := fun J2 : Int32 → Option (Int32 × cx_S) => ∀ (x3 : Int32) (d0 : Option Value) (d1 : Option Value), J2 x3 = some (r, sz) → cx G me_S_wayOut 56 [d0, d1] [.int (x3)] s Q2) h ?_ ?_
    · intro x3 d0 d1 h
      exact cx_iret d_S_wayOut_56 rfl (ox_i hq h)
    clear h
    intro J2 hJ1 h
    refine cx_icmp_ne (tgt := 52) d_S_wayOut_45 (by decide) (fun hc45 => ?_) (fun hc45 => ?_)
    · rw [if_neg hc45] at h
      refine cx_aload_n d_S_wayOut_52 rfl ?_
      refine cx_geti 132 rfl g_S_wayOut_53 rfl (by decide) ep1 hp1 ?_
      exact hJ1 _ _ _ h
    · rw [if_pos hc45] at h
      refine cx_iconst (v := (-1)) d_S_wayOut_48 (by decide) ?_
      refine cx_goto (tgt := 56) d_S_wayOut_49 (by decide) ?_
      exact hJ1 _ _ _ h
  · rw [if_neg hc1] at h
    refine cx_aload_n d_S_wayOut_4 rfl ?_
    obtain ⟨p4, ep4, hp4, h⟩ := oc_inv h
    refine cx_geti 128 rfl g_S_wayOut_5 rfl (by decide) ep4 hp4 ?_
    refine cx_iconst (v := nI 5) d_S_wayOut_8 (by decide) ?_
    refine oj_step (P := fun J5 : Int32 → Option (Int32 × cx_S) => ∀ (x6 : Int32) (d0 : Option Value) (d1 : Option Value), J5 x6 = some (r, sz) → cx G me_S_wayOut 38 [d0, d1] [.int (x6)] s Q2) h ?_ ?_
    · intro x6 d0 d1 h
      exact cx_iret d_S_wayOut_38 rfl (ox_i hq h)
    clear h
    intro J5 hJ2 h
    refine oj_step (P := fun J7 : Unit → Option (Int32 × cx_S) => ∀ (_u : Unit) (d1 : Option Value), J7 () = some (r, sz) → cx G me_S_wayOut 30 [some (va_rf (some l0)), d1] [] s Q2) h ?_ ?_
    · intro _u d1 h
      refine cx_aload_n d_S_wayOut_30 rfl ?_
      refine cx_geti 133 rfl g_S_wayOut_31 rfl (by decide) ep4 hp4 ?_
      refine cx_goto (tgt := 38) d_S_wayOut_34 (by decide) ?_
      exact hJ2 _ _ _ h
    clear h
    intro J7 hJ3 h
    refine cx_icmp_eq (tgt := 30) d_S_wayOut_9 (by decide) (fun hc9 => ?_) (fun hc9 => ?_)
    · rw [if_pos hc9] at h
      exact hJ3 () _ h
    · rw [if_neg hc9] at h
      refine cx_aload_n d_S_wayOut_12 rfl ?_
      refine cx_geti 128 rfl g_S_wayOut_13 rfl (by decide) ep4 hp4 ?_
      refine cx_bipush (v := nI 7) d_S_wayOut_16 (by decide) ?_
      refine cx_icmp_eq (tgt := 30) d_S_wayOut_18 (by decide) (fun hc18 => ?_) (fun hc18 => ?_)
      · rw [if_pos hc18] at h
        exact hJ3 () _ h
      · rw [if_neg hc18] at h
        refine cx_aload_n d_S_wayOut_21 rfl ?_
        refine cx_geti 128 rfl g_S_wayOut_22 rfl (by decide) ep4 hp4 ?_
        refine cx_bipush (v := nI 8) d_S_wayOut_25 (by decide) ?_
        refine cx_icmp_ne (tgt := 37) d_S_wayOut_27 (by decide) (fun hc27 => ?_) (fun hc27 => ?_)
        · rw [if_neg hc27] at h
          refine cx_iconst (v := (-1)) d_S_wayOut_37 (by decide) ?_
          exact hJ2 _ _ _ h
        · rw [if_pos hc27] at h
          exact hJ3 () _ h
