def D_W_law_23 (f : Nat) (xl : Nat) (xs : Nat → Int32) : Nat → Int32 → lx_S → Option (Int32 × lx_S)
  | 0, _, _ => none
  | n + 1, l4, s =>
    if ((nI xl) - (nI 6)) < l4 then some (nI 1, s) else og xl l4 fun j1 => oj (fun (s3 : lx_S) => D_W_law_23 f xl xs n (l4 + nI 6) s3) fun J2 => if ((xs j1) &&& (nI 31)) = nI 0 then og xl (l4 + (nI 1)) fun j4 => og xl (l4 + (nI 2)) fun j5 => oc 0 (some 2) s.1 fun p8 => ob (D_H_unit f p8 (xs j4) (xs j5) s.1) fun x6 s7 => ob (D_M_unit f (xs j4) (xs j5) ((s7, s.2)).2.1) fun x9 s10 => if x6 = x9 then J2 ((((s7, s.2)).1, s10, ((s7, s.2)).2.2)) else some (nI 0, (((s7, s.2)).1, s10, ((s7, s.2)).2.2)) else if ((xs j1) &&& (nI 31)) = nI 1 then og xl (l4 + (nI 1)) fun j11 => og xl (l4 + (nI 2)) fun j12 => og xl (l4 + (nI 3)) fun j13 => oc 0 (some 2) s.1 fun p16 => ob (D_H_role f p16 (xs j11) (xs j12) (xs j13) s.1) fun x14 s15 => ob (D_M_role f (xs j11) (xs j12) (xs j13) ((s15, s.2)).2.1) fun x17 s18 => if x14 = x17 then J2 ((((s15, s.2)).1, s18, ((s15, s.2)).2.2)) else some (nI 0, (((s15, s.2)).1, s18, ((s15, s.2)).2.2)) else if ((xs j1) &&& (nI 31)) = nI 2 then og xl (l4 + (nI 1)) fun j19 => og xl (l4 + (nI 2)) fun j20 => og xl (l4 + (nI 3)) fun j21 => og xl (l4 + (nI 4)) fun j22 => og xl (l4 + (nI 5)) fun j23 => oc 0 (some 2) s.1 fun p26 => ob (D_H_step f p26 (xs j19) (xs j20) (xs j21) (xs j22) (xs j23) s.1) fun x24 s25 => ob (D_M_step f (xs j19) (xs j20) (xs j21) (xs j22) (xs j23) ((s25, s.2)).2.1) fun x27 s28 => if x24 = x27 then J2 ((((s25, s.2)).1, s28, ((s25, s.2)).2.2)) else some (nI 0, (((s25, s.2)).1, s28, ((s25, s.2)).2.2)) else if ((xs j1) &&& (nI 31)) = nI 3 then og xl (l4 + (nI 1)) fun j29 => og xl (l4 + (nI 2)) fun j30 => og xl (l4 + (nI 3)) fun j31 => og xl (l4 + (nI 4)) fun j32 => oc 0 (some 2) s.1 fun p35 => ob (D_H_link f p35 (xs j29) (xs j30) (xs j31) (xs j32) s.1) fun x33 s34 => ob (D_M_link f (xs j29) (xs j30) (xs j31) (xs j32) ((s34, s.2)).2.1) fun x36 s37 => if x33 = x36 then J2 ((((s34, s.2)).1, s37, ((s34, s.2)).2.2)) else some (nI 0, (((s34, s.2)).1, s37, ((s34, s.2)).2.2)) else if ((xs j1) &&& (nI 31)) = nI 4 then og xl (l4 + (nI 1)) fun j38 => ob (D_W_release f (xs j38) s) fun x39 s40 => ob (D_M_release f (xs j38) s40.2.1) fun x41 s42 => ob (D_M_thrown f ((s40.1, s42, s40.2.2)).2.1) fun x43 s44 => if x43 = x39 then oj (fun (_ : Unit) => J2 ((((s40.1, s42, s40.2.2)).1, s44, ((s40.1, s42, s40.2.2)).2.2))) fun J45 => if x39 = 0 then if (lg_cmp (((((s40.1, s42, s40.2.2)).1, s44, ((s40.1, s42, s40.2.2)).2.2)).2.2) x41.toInt64) = 0 then J45 () else some (nI 0, (((s40.1, s42, s40.2.2)).1, s44, ((s40.1, s42, s40.2.2)).2.2)) else J45 () else some (nI 0, (((s40.1, s42, s40.2.2)).1, s44, ((s40.1, s42, s40.2.2)).2.2)) else if ((xs j1) &&& (nI 31)) = nI 5 then og xl (l4 + (nI 1)) fun j46 => og xl (l4 + (nI 2)) fun j47 => ob (D_W_batch f (xs j46) (xs j47) s) fun x48 s49 => ob (D_M_batch f (xs j46) (xs j47) s49.2.1) fun x50 s51 => ob (D_M_thrown f ((s49.1, s51, s49.2.2)).2.1) fun x52 s53 => if x52 = x48 then oj (fun (_ : Unit) => J2 ((((s49.1, s51, s49.2.2)).1, s53, ((s49.1, s51, s49.2.2)).2.2))) fun J54 => if x48 = 0 then if (lg_cmp (((((s49.1, s51, s49.2.2)).1, s53, ((s49.1, s51, s49.2.2)).2.2)).2.2) x50.toInt64) = 0 then J54 () else some (nI 0, (((s49.1, s51, s49.2.2)).1, s53, ((s49.1, s51, s49.2.2)).2.2)) else J54 () else some (nI 0, (((s49.1, s51, s49.2.2)).1, s53, ((s49.1, s51, s49.2.2)).2.2)) else if ((xs j1) &&& (nI 31)) = nI 6 then og xl (l4 + (nI 1)) fun j55 => ob (D_W_start f (xs j55) s) fun x56 s57 => ob (D_M_start f (xs j55) s57.2.1) fun x58 s59 => ob (D_M_thrown f ((s57.1, s59, s57.2.2)).2.1) fun x60 s61 => if x60 = x56 then oj (fun (_ : Unit) => J2 ((((s57.1, s59, s57.2.2)).1, s61, ((s57.1, s59, s57.2.2)).2.2))) fun J62 => if x56 = 0 then if (lg_cmp (((((s57.1, s59, s57.2.2)).1, s61, ((s57.1, s59, s57.2.2)).2.2)).2.2) x58.toInt64) = 0 then J62 () else some (nI 0, (((s57.1, s59, s57.2.2)).1, s61, ((s57.1, s59, s57.2.2)).2.2)) else J62 () else some (nI 0, (((s57.1, s59, s57.2.2)).1, s61, ((s57.1, s59, s57.2.2)).2.2)) else if ((xs j1) &&& (nI 31)) = nI 7 then oc 0 (some 2) s.1 fun p65 => ob (D_H_tick f p65 s.1) fun x63 s64 => ob (D_M_tick f ((s64, s.2)).2.1) fun x66 s67 => if x63 = x66 then J2 ((((s64, s.2)).1, s67, ((s64, s.2)).2.2)) else some (nI 0, (((s64, s.2)).1, s67, ((s64, s.2)).2.2)) else if ((xs j1) &&& (nI 31)) = nI 8 then og xl (l4 + (nI 1)) fun j68 => ob (D_W_hold f (xs j68) s) fun x69 s70 => ob (D_M_hold f (xs j68) s70.2.1) fun x71 s72 => ob (D_M_thrown f ((s70.1, s72, s70.2.2)).2.1) fun x73 s74 => if x73 = x69 then J2 ((((s70.1, s72, s70.2.2)).1, s74, ((s70.1, s72, s70.2.2)).2.2)) else some (nI 0, (((s70.1, s72, s70.2.2)).1, s74, ((s70.1, s72, s70.2.2)).2.2)) else if ((xs j1) &&& (nI 31)) = nI 9 then og xl (l4 + (nI 1)) fun j75 => ob (D_W_restart f (xs j75) s) fun x76 s77 => ob (D_M_restart f (xs j75) s77.2.1) fun x78 s79 => ob (D_M_thrown f ((s77.1, s79, s77.2.2)).2.1) fun x80 s81 => if x80 = x76 then oj (fun (_ : Unit) => J2 ((((s77.1, s79, s77.2.2)).1, s81, ((s77.1, s79, s77.2.2)).2.2))) fun J82 => if x76 = 0 then if (lg_cmp (((((s77.1, s79, s77.2.2)).1, s81, ((s77.1, s79, s77.2.2)).2.2)).2.2) x78.toInt64) = 0 then J82 () else some (nI 0, (((s77.1, s79, s77.2.2)).1, s81, ((s77.1, s79, s77.2.2)).2.2)) else J82 () else some (nI 0, (((s77.1, s79, s77.2.2)).1, s81, ((s77.1, s79, s77.2.2)).2.2)) else if ((xs j1) &&& (nI 31)) = nI 10 then og xl (l4 + (nI 1)) fun j83 => ob (D_W_stop f (xs j83) s) fun x84 s85 => ob (D_M_stop f (xs j83) s85.2.1) fun x86 s87 => ob (D_M_thrown f ((s85.1, s87, s85.2.2)).2.1) fun x88 s89 => if x88 = x84 then oj (fun (_ : Unit) => J2 ((((s85.1, s87, s85.2.2)).1, s89, ((s85.1, s87, s85.2.2)).2.2))) fun J90 => if x84 = 0 then if (lg_cmp (((((s85.1, s87, s85.2.2)).1, s89, ((s85.1, s87, s85.2.2)).2.2)).2.2) x86.toInt64) = 0 then J90 () else some (nI 0, (((s85.1, s87, s85.2.2)).1, s89, ((s85.1, s87, s85.2.2)).2.2)) else J90 () else some (nI 0, (((s85.1, s87, s85.2.2)).1, s89, ((s85.1, s87, s85.2.2)).2.2)) else if ((xs j1) &&& (nI 31)) = nI 11 then og xl (l4 + (nI 1)) fun j91 => ob (D_W_abort f (xs j91) s) fun x92 s93 => ob (D_M_abort f (xs j91) s93.2.1) fun x94 s95 => ob (D_M_thrown f ((s93.1, s95, s93.2.2)).2.1) fun x96 s97 => if x96 = x92 then J2 ((((s93.1, s95, s93.2.2)).1, s97, ((s93.1, s95, s93.2.2)).2.2)) else some (nI 0, (((s93.1, s95, s93.2.2)).1, s97, ((s93.1, s95, s93.2.2)).2.2)) else if ((xs j1) &&& (nI 31)) = nI 12 then og xl (l4 + (nI 1)) fun j98 => og xl (l4 + (nI 2)) fun j99 => og xl (l4 + (nI 3)) fun j100 => oc 0 (some 2) s.1 fun p103 => ob (D_H_measure f p103 (xs j98) (xs j99) (xs j100) s.1) fun x101 s102 => ob (D_M_measure f (xs j98) (xs j99) (xs j100) ((s102, s.2)).2.1) fun x104 s105 => if x101 = x104 then J2 ((((s102, s.2)).1, s105, ((s102, s.2)).2.2)) else some (nI 0, (((s102, s.2)).1, s105, ((s102, s.2)).2.2)) else if ((xs j1) &&& (nI 31)) = nI 13 then og xl (l4 + (nI 1)) fun j106 => og xl (l4 + (nI 2)) fun j107 => oc 0 (some 2) s.1 fun p110 => ob (D_H_batchIs f p110 (xs j106) (xs j107) s.1) fun x108 s109 => ob (D_M_batchIs f (xs j106) (xs j107) ((s109, s.2)).2.1) fun x111 s112 => if x108 = x111 then J2 ((((s109, s.2)).1, s112, ((s109, s.2)).2.2)) else some (nI 0, (((s109, s.2)).1, s112, ((s109, s.2)).2.2)) else if ((xs j1) &&& (nI 31)) = nI 14 then og xl (l4 + (nI 1)) fun j113 => og xl (l4 + (nI 2)) fun j114 => oc 0 (some 2) s.1 fun p117 => ob (D_H_token f p117 (xs j113) (xs j114) s.1) fun x115 s116 => ob (D_M_token f (xs j113) (xs j114) ((s116, s.2)).2.1) fun x118 s119 => if x115 = x118 then J2 ((((s116, s.2)).1, s119, ((s116, s.2)).2.2)) else some (nI 0, (((s116, s.2)).1, s119, ((s116, s.2)).2.2)) else if ((xs j1) &&& (nI 31)) = nI 15 then og xl (l4 + (nI 1)) fun j120 => og xl (l4 + (nI 2)) fun j121 => oc 0 (some 2) s.1 fun p124 => ob (D_H_unitOf f p124 (xs j120) (xs j121) s.1) fun x122 s123 => ob (D_M_unitOf f (xs j120) (xs j121) ((s123, s.2)).2.1) fun x125 s126 => if x122 = x125 then J2 ((((s123, s.2)).1, s126, ((s123, s.2)).2.2)) else some (nI 0, (((s123, s.2)).1, s126, ((s123, s.2)).2.2)) else if ((xs j1) &&& (nI 31)) = nI 16 then og xl (l4 + (nI 1)) fun j127 => og xl (l4 + (nI 2)) fun j128 => oc 0 (some 2) s.1 fun p131 => ob (D_H_unitIs f p131 (xs j127) (xs j128) s.1) fun x129 s130 => ob (D_M_unitIs f (xs j127) (xs j128) ((s130, s.2)).2.1) fun x132 s133 => if x129 = x132 then J2 ((((s130, s.2)).1, s133, ((s130, s.2)).2.2)) else some (nI 0, (((s130, s.2)).1, s133, ((s130, s.2)).2.2)) else if ((xs j1) &&& (nI 31)) = nI 17 then og xl (l4 + (nI 1)) fun j134 => og xl (l4 + (nI 2)) fun j135 => og xl (l4 + (nI 3)) fun j136 => oc 0 (some 2) s.1 fun p139 => ob (D_H_content f p139 (xs j134) (xs j135) (xs j136) s.1) fun x137 s138 => ob (D_M_content f (xs j134) (xs j135) (xs j136) ((s138, s.2)).2.1) fun x140 s141 => if x137 = x140 then J2 ((((s138, s.2)).1, s141, ((s138, s.2)).2.2)) else some (nI 0, (((s138, s.2)).1, s141, ((s138, s.2)).2.2)) else if ((xs j1) &&& (nI 31)) = nI 18 then og xl (l4 + (nI 1)) fun j142 => og xl (l4 + (nI 2)) fun j143 => oc 0 (some 2) s.1 fun p146 => ob (D_H_lot f p146 (xs j142) (xs j143) s.1) fun x144 s145 => ob (D_M_lot f (xs j142) (xs j143) ((s145, s.2)).2.1) fun x147 s148 => if x144 = x147 then J2 ((((s145, s.2)).1, s148, ((s145, s.2)).2.2)) else some (nI 0, (((s145, s.2)).1, s148, ((s145, s.2)).2.2)) else if ((xs j1) &&& (nI 31)) = nI 19 then og xl (l4 + (nI 1)) fun j149 => og xl (l4 + (nI 2)) fun j150 => og xl (l4 + (nI 3)) fun j151 => oc 0 (some 2) s.1 fun p154 => ob (D_H_from f p154 (xs j149) (xs j150) (xs j151) s.1) fun x152 s153 => ob (D_M_from f (xs j149) (xs j150) (xs j151) ((s153, s.2)).2.1) fun x155 s156 => if x152 = x155 then J2 ((((s153, s.2)).1, s156, ((s153, s.2)).2.2)) else some (nI 0, (((s153, s.2)).1, s156, ((s153, s.2)).2.2)) else if ((xs j1) &&& (nI 31)) = nI 20 then og xl (l4 + (nI 1)) fun j157 => og xl (l4 + (nI 2)) fun j158 => oj (fun (x160 : Int32) => og xl (l4 + (nI 3)) fun j161 => oc 0 (some 2) s.1 fun p164 => ob (D_H_trace f p164 (xs j157) x160 (xs j161) s.1) fun x162 s163 => oj (fun (x166 : Int32) => ob (D_M_trace f (xs j157) x166 (xs j161) ((s163, s.2)).2.1) fun x167 s168 => if x162 = x167 then J2 ((((s163, s.2)).1, s168, ((s163, s.2)).2.2)) else some (nI 0, (((s163, s.2)).1, s168, ((s163, s.2)).2.2))) fun J165 => if (xs j158) = 0 then J165 (nI 0) else J165 (nI 1)) fun J159 => if (xs j158) = 0 then J159 (nI 0) else J159 (nI 1) else if ((xs j1) &&& (nI 31)) = nI 21 then oc 0 (some 2) s.1 fun p171 => ob (D_H_lots f p171 s.1) fun x169 s170 => ob (D_M_lots f ((s170, s.2)).2.1) fun x172 s173 => if x169 = x172 then J2 ((((s170, s.2)).1, s173, ((s170, s.2)).2.2)) else some (nI 0, (((s170, s.2)).1, s173, ((s170, s.2)).2.2)) else J2 s
theorem E_W_law_23 {G : bm_G} (hfl : G.1.flags = pinnedFlags ++ [noTraceFlag]) {f : Nat} {r : Int32} {sz : lx_S} {Q : bm_R → lx_S → Prop} (hq : Q (.inl (some (.int (r)))) sz) : ∀ (n : Nat) (l4 : Int32) (d5 : Option Value) (d6 : Option Value) (s : lx_S), D_W_law_23 f (bm_xl G) (bm_xs G) n l4 s = some (r, sz) → lx G me_W_law 23 [some (.ref 1), some (.ref 2), some (.ref rx_o), some (.ref 95), some (.int (l4)), d5, d6] [] s Q := by
  intro n
  induction n with
  | zero =>
    intro l4 d5 d6 s h
    rw [D_W_law_23] at h
    exact absurd h (by simp)
  | succ n ih =>
    intro l4 d5 d6 s h
    rw [D_W_law_23] at h
    refine lx_iload d_W_law_23 rfl ?_
    refine lx_aload_n d_W_law_25 rfl ?_
    refine lx_slen d_W_law_26 ?_
    refine lx_bipush (v := nI 6) d_W_law_27 (by decide) ?_
    refine lx_isub d_W_law_29 ?_
    refine lx_icmp_gt (tgt := 1157) d_W_law_30 (by decide) (fun hc30 => ?_) (fun hc30 => ?_)
    · rw [if_pos hc30] at h
      refine lx_iconst (v := nI 1) d_W_law_1157 (by decide) ?_
      exact lx_zret d_W_law_1158 rfl (by decide) (ox_i hq h)
    · rw [if_neg hc30] at h
      refine lx_aload_n d_W_law_33 rfl ?_
      refine lx_iload d_W_law_34 rfl ?_
      obtain ⟨j1, hj1, gj1, ej1, h⟩ := og_inv2 h
      refine lx_sld d_W_law_36 hj1 gj1 ej1 ?_
      refine lx_bipush (v := nI 31) d_W_law_37 (by decide) ?_
      refine lx_iand d_W_law_39 ?_
      refine oj_step (P := fun J2 : lx_S → Option (Int32 × lx_S) => ∀ (s3 : lx_S) (d5 : Option Value) (d6 : Option Value), J2 s3 = some (r, sz) → lx G me_W_law 1151 [some (.ref 1), some (.ref 2), some (.ref rx_o), some (.ref 95), some (.int (l4)), d5, d6] [] s3 Q) h ?_ ?_
      · intro s3 d5 d6 h
        refine lx_iincC (n := 6) d_W_law_1151 (by decide) rfl ?_
        refine lx_goto (tgt := 23) d_W_law_1154 (by decide) ?_
        exact ih _ _ _ _ h
      clear h
      intro J2 hJ1 h
      by_cases e40_0 : (((bm_xs G) j1) &&& (nI 31)) = nI 0
      · rw [if_pos e40_0] at h
        refine lx_tab (tgt := 144) d_W_law_40 0 e40_0 (by decide) (by decide) (by rfl) (by decide) ?_
        refine lx_aload_n d_W_law_144 rfl ?_
        refine lx_aload_n d_W_law_145 rfl ?_
        refine lx_iload d_W_law_146 rfl ?_
        refine lx_iconst (v := nI 1) d_W_law_148 (by decide) ?_
        refine lx_iadd d_W_law_149 ?_
        obtain ⟨j4, hj4, gj4, ej4, h⟩ := og_inv2 h
        refine lx_sld d_W_law_150 hj4 gj4 ej4 ?_
        refine lx_aload_n d_W_law_151 rfl ?_
        refine lx_iload d_W_law_152 rfl ?_
        refine lx_iconst (v := nI 2) d_W_law_154 (by decide) ?_
        refine lx_iadd d_W_law_155 ?_
        obtain ⟨j5, hj5, gj5, ej5, h⟩ := og_inv2 h
        refine lx_sld d_W_law_156 hj5 gj5 ej5 ?_
        obtain ⟨p8, ep8, hp8, h⟩ := oc_inv h
        cases ep8
        obtain ⟨x6, s7, ex6, h⟩ := ob_inv h
        refine lx_callC2 c_W_law_157 (Nat.le_of_ble_eq_true rfl) (by decide) hp8 (E_H_unit ex6 ?_)
        refine lx_aload_n d_W_law_160 rfl ?_
        refine lx_aload_n d_W_law_161 rfl ?_
        refine lx_iload d_W_law_162 rfl ?_
        refine lx_iconst (v := nI 1) d_W_law_164 (by decide) ?_
        refine lx_iadd d_W_law_165 ?_
        refine lx_sld d_W_law_166 hj4 gj4 ej4 ?_
        refine lx_aload_n d_W_law_167 rfl ?_
        refine lx_iload d_W_law_168 rfl ?_
        refine lx_iconst (v := nI 2) d_W_law_170 (by decide) ?_
        refine lx_iadd d_W_law_171 ?_
        refine lx_sld d_W_law_172 hj5 gj5 ej5 ?_
        obtain ⟨x9, s10, ex9, h⟩ := ob_inv h
        refine lx_callM2 c_W_law_173 (Nat.le_of_ble_eq_true rfl) (E_M_unit ex9 ?_)
        refine lx_icmp_eq (tgt := 1151) d_W_law_176 (by decide) (fun hc176 => ?_) (fun hc176 => ?_)
        · rw [if_pos hc176] at h
          exact hJ1 _ _ _ h
        · rw [if_neg hc176] at h
          refine lx_iconst (v := nI 0) d_W_law_179 (by decide) ?_
          exact lx_zret d_W_law_180 rfl (by decide) (ox_i hq h)
      rw [if_neg e40_0] at h
      by_cases e40_1 : (((bm_xs G) j1) &&& (nI 31)) = nI 1
      · rw [if_pos e40_1] at h
        refine lx_tab (tgt := 181) d_W_law_40 1 e40_1 (by decide) (by decide) (by rfl) (by decide) ?_
        refine lx_aload_n d_W_law_181 rfl ?_
        refine lx_aload_n d_W_law_182 rfl ?_
        refine lx_iload d_W_law_183 rfl ?_
        refine lx_iconst (v := nI 1) d_W_law_185 (by decide) ?_
        refine lx_iadd d_W_law_186 ?_
        obtain ⟨j11, hj11, gj11, ej11, h⟩ := og_inv2 h
        refine lx_sld d_W_law_187 hj11 gj11 ej11 ?_
        refine lx_aload_n d_W_law_188 rfl ?_
        refine lx_iload d_W_law_189 rfl ?_
        refine lx_iconst (v := nI 2) d_W_law_191 (by decide) ?_
        refine lx_iadd d_W_law_192 ?_
        obtain ⟨j12, hj12, gj12, ej12, h⟩ := og_inv2 h
        refine lx_sld d_W_law_193 hj12 gj12 ej12 ?_
        refine lx_aload_n d_W_law_194 rfl ?_
        refine lx_iload d_W_law_195 rfl ?_
        refine lx_iconst (v := nI 3) d_W_law_197 (by decide) ?_
        refine lx_iadd d_W_law_198 ?_
        obtain ⟨j13, hj13, gj13, ej13, h⟩ := og_inv2 h
        refine lx_sld d_W_law_199 hj13 gj13 ej13 ?_
        obtain ⟨p16, ep16, hp16, h⟩ := oc_inv h
        cases ep16
        obtain ⟨x14, s15, ex14, h⟩ := ob_inv h
        refine lx_callC3 c_W_law_200 (Nat.le_of_ble_eq_true rfl) (by decide) hp16 (E_H_role ex14 ?_)
        refine lx_aload_n d_W_law_203 rfl ?_
        refine lx_aload_n d_W_law_204 rfl ?_
        refine lx_iload d_W_law_205 rfl ?_
        refine lx_iconst (v := nI 1) d_W_law_207 (by decide) ?_
        refine lx_iadd d_W_law_208 ?_
        refine lx_sld d_W_law_209 hj11 gj11 ej11 ?_
        refine lx_aload_n d_W_law_210 rfl ?_
        refine lx_iload d_W_law_211 rfl ?_
        refine lx_iconst (v := nI 2) d_W_law_213 (by decide) ?_
        refine lx_iadd d_W_law_214 ?_
        refine lx_sld d_W_law_215 hj12 gj12 ej12 ?_
        refine lx_aload_n d_W_law_216 rfl ?_
        refine lx_iload d_W_law_217 rfl ?_
        refine lx_iconst (v := nI 3) d_W_law_219 (by decide) ?_
        refine lx_iadd d_W_law_220 ?_
        refine lx_sld d_W_law_221 hj13 gj13 ej13 ?_
        obtain ⟨x17, s18, ex17, h⟩ := ob_inv h
        refine lx_callM3 c_W_law_222 (Nat.le_of_ble_eq_true rfl) (E_M_role ex17 ?_)
        refine lx_icmp_eq (tgt := 1151) d_W_law_225 (by decide) (fun hc225 => ?_) (fun hc225 => ?_)
        · rw [if_pos hc225] at h
          exact hJ1 _ _ _ h
        · rw [if_neg hc225] at h
          refine lx_iconst (v := nI 0) d_W_law_228 (by decide) ?_
          exact lx_zret d_W_law_229 rfl (by decide) (ox_i hq h)
      rw [if_neg e40_1] at h
      by_cases e40_2 : (((bm_xs G) j1) &&& (nI 31)) = nI 2
      · rw [if_pos e40_2] at h
        refine lx_tab (tgt := 230) d_W_law_40 2 e40_2 (by decide) (by decide) (by rfl) (by decide) ?_
        refine lx_aload_n d_W_law_230 rfl ?_
        refine lx_aload_n d_W_law_231 rfl ?_
        refine lx_iload d_W_law_232 rfl ?_
        refine lx_iconst (v := nI 1) d_W_law_234 (by decide) ?_
        refine lx_iadd d_W_law_235 ?_
        obtain ⟨j19, hj19, gj19, ej19, h⟩ := og_inv2 h
        refine lx_sld d_W_law_236 hj19 gj19 ej19 ?_
        refine lx_aload_n d_W_law_237 rfl ?_
        refine lx_iload d_W_law_238 rfl ?_
        refine lx_iconst (v := nI 2) d_W_law_240 (by decide) ?_
        refine lx_iadd d_W_law_241 ?_
        obtain ⟨j20, hj20, gj20, ej20, h⟩ := og_inv2 h
        refine lx_sld d_W_law_242 hj20 gj20 ej20 ?_
        refine lx_aload_n d_W_law_243 rfl ?_
        refine lx_iload d_W_law_244 rfl ?_
        refine lx_iconst (v := nI 3) d_W_law_246 (by decide) ?_
        refine lx_iadd d_W_law_247 ?_
        obtain ⟨j21, hj21, gj21, ej21, h⟩ := og_inv2 h
        refine lx_sld d_W_law_248 hj21 gj21 ej21 ?_
        refine lx_aload_n d_W_law_249 rfl ?_
        refine lx_iload d_W_law_250 rfl ?_
        refine lx_iconst (v := nI 4) d_W_law_252 (by decide) ?_
        refine lx_iadd d_W_law_253 ?_
        obtain ⟨j22, hj22, gj22, ej22, h⟩ := og_inv2 h
        refine lx_sld d_W_law_254 hj22 gj22 ej22 ?_
        refine lx_aload_n d_W_law_255 rfl ?_
        refine lx_iload d_W_law_256 rfl ?_
        refine lx_iconst (v := nI 5) d_W_law_258 (by decide) ?_
        refine lx_iadd d_W_law_259 ?_
        obtain ⟨j23, hj23, gj23, ej23, h⟩ := og_inv2 h
        refine lx_sld d_W_law_260 hj23 gj23 ej23 ?_
        obtain ⟨p26, ep26, hp26, h⟩ := oc_inv h
        cases ep26
        obtain ⟨x24, s25, ex24, h⟩ := ob_inv h
        refine lx_callC5 c_W_law_261 (Nat.le_of_ble_eq_true rfl) (by decide) hp26 (E_H_step ex24 ?_)
        refine lx_aload_n d_W_law_264 rfl ?_
        refine lx_aload_n d_W_law_265 rfl ?_
        refine lx_iload d_W_law_266 rfl ?_
        refine lx_iconst (v := nI 1) d_W_law_268 (by decide) ?_
        refine lx_iadd d_W_law_269 ?_
        refine lx_sld d_W_law_270 hj19 gj19 ej19 ?_
        refine lx_aload_n d_W_law_271 rfl ?_
        refine lx_iload d_W_law_272 rfl ?_
        refine lx_iconst (v := nI 2) d_W_law_274 (by decide) ?_
        refine lx_iadd d_W_law_275 ?_
        refine lx_sld d_W_law_276 hj20 gj20 ej20 ?_
        refine lx_aload_n d_W_law_277 rfl ?_
        refine lx_iload d_W_law_278 rfl ?_
        refine lx_iconst (v := nI 3) d_W_law_280 (by decide) ?_
        refine lx_iadd d_W_law_281 ?_
        refine lx_sld d_W_law_282 hj21 gj21 ej21 ?_
        refine lx_aload_n d_W_law_283 rfl ?_
        refine lx_iload d_W_law_284 rfl ?_
        refine lx_iconst (v := nI 4) d_W_law_286 (by decide) ?_
        refine lx_iadd d_W_law_287 ?_
        refine lx_sld d_W_law_288 hj22 gj22 ej22 ?_
        refine lx_aload_n d_W_law_289 rfl ?_
        refine lx_iload d_W_law_290 rfl ?_
        refine lx_iconst (v := nI 5) d_W_law_292 (by decide) ?_
        refine lx_iadd d_W_law_293 ?_
        refine lx_sld d_W_law_294 hj23 gj23 ej23 ?_
        obtain ⟨x27, s28, ex27, h⟩ := ob_inv h
        refine lx_callM5 c_W_law_295 (Nat.le_of_ble_eq_true rfl) (E_M_step ex27 ?_)
        refine lx_icmp_eq (tgt := 1151) d_W_law_298 (by decide) (fun hc298 => ?_) (fun hc298 => ?_)
        · rw [if_pos hc298] at h
          exact hJ1 _ _ _ h
        · rw [if_neg hc298] at h
          refine lx_iconst (v := nI 0) d_W_law_301 (by decide) ?_
          exact lx_zret d_W_law_302 rfl (by decide) (ox_i hq h)
      rw [if_neg e40_2] at h
      by_cases e40_3 : (((bm_xs G) j1) &&& (nI 31)) = nI 3
      · rw [if_pos e40_3] at h
        refine lx_tab (tgt := 303) d_W_law_40 3 e40_3 (by decide) (by decide) (by rfl) (by decide) ?_
        refine lx_aload_n d_W_law_303 rfl ?_
        refine lx_aload_n d_W_law_304 rfl ?_
        refine lx_iload d_W_law_305 rfl ?_
        refine lx_iconst (v := nI 1) d_W_law_307 (by decide) ?_
        refine lx_iadd d_W_law_308 ?_
        obtain ⟨j29, hj29, gj29, ej29, h⟩ := og_inv2 h
        refine lx_sld d_W_law_309 hj29 gj29 ej29 ?_
        refine lx_aload_n d_W_law_310 rfl ?_
        refine lx_iload d_W_law_311 rfl ?_
        refine lx_iconst (v := nI 2) d_W_law_313 (by decide) ?_
        refine lx_iadd d_W_law_314 ?_
        obtain ⟨j30, hj30, gj30, ej30, h⟩ := og_inv2 h
        refine lx_sld d_W_law_315 hj30 gj30 ej30 ?_
        refine lx_aload_n d_W_law_316 rfl ?_
        refine lx_iload d_W_law_317 rfl ?_
        refine lx_iconst (v := nI 3) d_W_law_319 (by decide) ?_
        refine lx_iadd d_W_law_320 ?_
        obtain ⟨j31, hj31, gj31, ej31, h⟩ := og_inv2 h
        refine lx_sld d_W_law_321 hj31 gj31 ej31 ?_
        refine lx_aload_n d_W_law_322 rfl ?_
        refine lx_iload d_W_law_323 rfl ?_
        refine lx_iconst (v := nI 4) d_W_law_325 (by decide) ?_
        refine lx_iadd d_W_law_326 ?_
        obtain ⟨j32, hj32, gj32, ej32, h⟩ := og_inv2 h
        refine lx_sld d_W_law_327 hj32 gj32 ej32 ?_
        obtain ⟨p35, ep35, hp35, h⟩ := oc_inv h
        cases ep35
        obtain ⟨x33, s34, ex33, h⟩ := ob_inv h
        refine lx_callC4 c_W_law_328 (Nat.le_of_ble_eq_true rfl) (by decide) hp35 (E_H_link ex33 ?_)
        refine lx_aload_n d_W_law_331 rfl ?_
        refine lx_aload_n d_W_law_332 rfl ?_
        refine lx_iload d_W_law_333 rfl ?_
        refine lx_iconst (v := nI 1) d_W_law_335 (by decide) ?_
        refine lx_iadd d_W_law_336 ?_
        refine lx_sld d_W_law_337 hj29 gj29 ej29 ?_
        refine lx_aload_n d_W_law_338 rfl ?_
        refine lx_iload d_W_law_339 rfl ?_
        refine lx_iconst (v := nI 2) d_W_law_341 (by decide) ?_
        refine lx_iadd d_W_law_342 ?_
        refine lx_sld d_W_law_343 hj30 gj30 ej30 ?_
        refine lx_aload_n d_W_law_344 rfl ?_
        refine lx_iload d_W_law_345 rfl ?_
        refine lx_iconst (v := nI 3) d_W_law_347 (by decide) ?_
        refine lx_iadd d_W_law_348 ?_
        refine lx_sld d_W_law_349 hj31 gj31 ej31 ?_
        refine lx_aload_n d_W_law_350 rfl ?_
        refine lx_iload d_W_law_351 rfl ?_
        refine lx_iconst (v := nI 4) d_W_law_353 (by decide) ?_
        refine lx_iadd d_W_law_354 ?_
        refine lx_sld d_W_law_355 hj32 gj32 ej32 ?_
        obtain ⟨x36, s37, ex36, h⟩ := ob_inv h
        refine lx_callM4 c_W_law_356 (Nat.le_of_ble_eq_true rfl) (E_M_link ex36 ?_)
        refine lx_icmp_eq (tgt := 1151) d_W_law_359 (by decide) (fun hc359 => ?_) (fun hc359 => ?_)
        · rw [if_pos hc359] at h
          exact hJ1 _ _ _ h
        · rw [if_neg hc359] at h
          refine lx_iconst (v := nI 0) d_W_law_362 (by decide) ?_
          exact lx_zret d_W_law_363 rfl (by decide) (ox_i hq h)
      rw [if_neg e40_3] at h
      by_cases e40_4 : (((bm_xs G) j1) &&& (nI 31)) = nI 4
      · rw [if_pos e40_4] at h
        refine lx_tab (tgt := 364) d_W_law_40 4 e40_4 (by decide) (by decide) (by rfl) (by decide) ?_
        refine lx_aload_n d_W_law_364 rfl ?_
        refine lx_aload_n d_W_law_365 rfl ?_
        refine lx_iload d_W_law_366 rfl ?_
        refine lx_iconst (v := nI 1) d_W_law_368 (by decide) ?_
        refine lx_iadd d_W_law_369 ?_
        obtain ⟨j38, hj38, gj38, ej38, h⟩ := og_inv2 h
        refine lx_sld d_W_law_370 hj38 gj38 ej38 ?_
        refine lx_aload_n d_W_law_371 rfl ?_
        obtain ⟨x39, s40, ex39, h⟩ := ob_inv h
        refine lx_callW3 c_W_law_372 (Nat.le_of_ble_eq_true rfl) (E_W_release hfl ex39 ⟨_, rfl, ?_⟩)
        refine lx_istore d_W_law_375 (by decide) ?_
        refine lx_aload_n d_W_law_377 rfl ?_
        refine lx_aload_n d_W_law_378 rfl ?_
        refine lx_iload d_W_law_379 rfl ?_
        refine lx_iconst (v := nI 1) d_W_law_381 (by decide) ?_
        refine lx_iadd d_W_law_382 ?_
        refine lx_sld d_W_law_383 hj38 gj38 ej38 ?_
        obtain ⟨x41, s42, ex41, h⟩ := ob_inv h
        refine lx_callM1 c_W_law_384 (Nat.le_of_ble_eq_true rfl) (E_M_release ex41 ?_)
        refine lx_istore d_W_law_387 (by decide) ?_
        refine lx_aload_n d_W_law_389 rfl ?_
        obtain ⟨x43, s44, ex43, h⟩ := ob_inv h
        refine lx_callM0 c_W_law_390 (Nat.le_of_ble_eq_true rfl) (E_M_thrown ex43 ?_)
        refine lx_iload d_W_law_393 rfl ?_
        refine lx_icmp_eq (tgt := 400) d_W_law_395 (by decide) (fun hc395 => ?_) (fun hc395 => ?_)
        · rw [if_pos hc395] at h
          refine lx_iload d_W_law_400 rfl ?_
          refine oj_step (P := fun J45 : Unit → Option (Int32 × lx_S) => ∀ (_u : Unit) (d5 : Option Value) (d6 : Option Value), J45 () = some (r, sz) → lx G me_W_law 417 [some (.ref 1), some (.ref 2), some (.ref rx_o), some (.ref 95), some (.int (l4)), d5, d6] [] ((((s40.1, s42, s40.2.2)).1, s44, ((s40.1, s42, s40.2.2)).2.2)) Q) h ?_ ?_
          · intro _u d5 d6 h
            refine lx_goto (tgt := 1151) d_W_law_417 (by decide) ?_
            exact hJ1 _ _ _ h
          clear h
          intro J45 hJ2 h
          refine lx_if_ne (tgt := 417) d_W_law_402 (by decide) (fun hc402 => ?_) (fun hc402 => ?_)
          · rw [if_neg hc402] at h
            exact hJ2 () _ _ h
          · rw [if_pos hc402] at h
            refine lx_aload_n d_W_law_405 rfl ?_
            refine lx_iconst (v := nI 0) d_W_law_406 (by decide) ?_
            refine lx_lald d_W_law_407 ?_
            refine lx_iload d_W_law_408 rfl ?_
            refine lx_i2l d_W_law_410 ?_
            refine lx_lcmp d_W_law_411 ?_
            refine lx_if_eq (tgt := 417) d_W_law_412 (by decide) (fun hc412 => ?_) (fun hc412 => ?_)
            · rw [if_pos hc412] at h
              exact hJ2 () _ _ h
            · rw [if_neg hc412] at h
              refine lx_iconst (v := nI 0) d_W_law_415 (by decide) ?_
              exact lx_zret d_W_law_416 rfl (by decide) (ox_i hq h)
        · rw [if_neg hc395] at h
          refine lx_iconst (v := nI 0) d_W_law_398 (by decide) ?_
          exact lx_zret d_W_law_399 rfl (by decide) (ox_i hq h)
      rw [if_neg e40_4] at h
      by_cases e40_5 : (((bm_xs G) j1) &&& (nI 31)) = nI 5
      · rw [if_pos e40_5] at h
        refine lx_tab (tgt := 420) d_W_law_40 5 e40_5 (by decide) (by decide) (by rfl) (by decide) ?_
        refine lx_aload_n d_W_law_420 rfl ?_
        refine lx_aload_n d_W_law_421 rfl ?_
        refine lx_iload d_W_law_422 rfl ?_
        refine lx_iconst (v := nI 1) d_W_law_424 (by decide) ?_
        refine lx_iadd d_W_law_425 ?_
        obtain ⟨j46, hj46, gj46, ej46, h⟩ := og_inv2 h
        refine lx_sld d_W_law_426 hj46 gj46 ej46 ?_
        refine lx_aload_n d_W_law_427 rfl ?_
        refine lx_iload d_W_law_428 rfl ?_
        refine lx_iconst (v := nI 2) d_W_law_430 (by decide) ?_
        refine lx_iadd d_W_law_431 ?_
        obtain ⟨j47, hj47, gj47, ej47, h⟩ := og_inv2 h
        refine lx_sld d_W_law_432 hj47 gj47 ej47 ?_
        refine lx_aload_n d_W_law_433 rfl ?_
        obtain ⟨x48, s49, ex48, h⟩ := ob_inv h
        refine lx_callW4 c_W_law_434 (Nat.le_of_ble_eq_true rfl) (E_W_batch hfl ex48 ⟨_, rfl, ?_⟩)
        refine lx_istore d_W_law_437 (by decide) ?_
        refine lx_aload_n d_W_law_439 rfl ?_
        refine lx_aload_n d_W_law_440 rfl ?_
        refine lx_iload d_W_law_441 rfl ?_
        refine lx_iconst (v := nI 1) d_W_law_443 (by decide) ?_
        refine lx_iadd d_W_law_444 ?_
        refine lx_sld d_W_law_445 hj46 gj46 ej46 ?_
        refine lx_aload_n d_W_law_446 rfl ?_
        refine lx_iload d_W_law_447 rfl ?_
        refine lx_iconst (v := nI 2) d_W_law_449 (by decide) ?_
        refine lx_iadd d_W_law_450 ?_
        refine lx_sld d_W_law_451 hj47 gj47 ej47 ?_
        obtain ⟨x50, s51, ex50, h⟩ := ob_inv h
        refine lx_callM2 c_W_law_452 (Nat.le_of_ble_eq_true rfl) (E_M_batch ex50 ?_)
        refine lx_istore d_W_law_455 (by decide) ?_
        refine lx_aload_n d_W_law_457 rfl ?_
        obtain ⟨x52, s53, ex52, h⟩ := ob_inv h
        refine lx_callM0 c_W_law_458 (Nat.le_of_ble_eq_true rfl) (E_M_thrown ex52 ?_)
        refine lx_iload d_W_law_461 rfl ?_
        refine lx_icmp_eq (tgt := 468) d_W_law_463 (by decide) (fun hc463 => ?_) (fun hc463 => ?_)
        · rw [if_pos hc463] at h
          refine lx_iload d_W_law_468 rfl ?_
          refine oj_step (P := fun J54 : Unit → Option (Int32 × lx_S) => ∀ (_u : Unit) (d5 : Option Value) (d6 : Option Value), J54 () = some (r, sz) → lx G me_W_law 485 [some (.ref 1), some (.ref 2), some (.ref rx_o), some (.ref 95), some (.int (l4)), d5, d6] [] ((((s49.1, s51, s49.2.2)).1, s53, ((s49.1, s51, s49.2.2)).2.2)) Q) h ?_ ?_
          · intro _u d5 d6 h
            refine lx_goto (tgt := 1151) d_W_law_485 (by decide) ?_
            exact hJ1 _ _ _ h
          clear h
          intro J54 hJ3 h
          refine lx_if_ne (tgt := 485) d_W_law_470 (by decide) (fun hc470 => ?_) (fun hc470 => ?_)
          · rw [if_neg hc470] at h
            exact hJ3 () _ _ h
          · rw [if_pos hc470] at h
            refine lx_aload_n d_W_law_473 rfl ?_
            refine lx_iconst (v := nI 0) d_W_law_474 (by decide) ?_
            refine lx_lald d_W_law_475 ?_
            refine lx_iload d_W_law_476 rfl ?_
            refine lx_i2l d_W_law_478 ?_
            refine lx_lcmp d_W_law_479 ?_
            refine lx_if_eq (tgt := 485) d_W_law_480 (by decide) (fun hc480 => ?_) (fun hc480 => ?_)
            · rw [if_pos hc480] at h
              exact hJ3 () _ _ h
            · rw [if_neg hc480] at h
              refine lx_iconst (v := nI 0) d_W_law_483 (by decide) ?_
              exact lx_zret d_W_law_484 rfl (by decide) (ox_i hq h)
        · rw [if_neg hc463] at h
          refine lx_iconst (v := nI 0) d_W_law_466 (by decide) ?_
          exact lx_zret d_W_law_467 rfl (by decide) (ox_i hq h)
      rw [if_neg e40_5] at h
      by_cases e40_6 : (((bm_xs G) j1) &&& (nI 31)) = nI 6
      · rw [if_pos e40_6] at h
        refine lx_tab (tgt := 488) d_W_law_40 6 e40_6 (by decide) (by decide) (by rfl) (by decide) ?_
        refine lx_aload_n d_W_law_488 rfl ?_
        refine lx_aload_n d_W_law_489 rfl ?_
        refine lx_iload d_W_law_490 rfl ?_
        refine lx_iconst (v := nI 1) d_W_law_492 (by decide) ?_
        refine lx_iadd d_W_law_493 ?_
        obtain ⟨j55, hj55, gj55, ej55, h⟩ := og_inv2 h
        refine lx_sld d_W_law_494 hj55 gj55 ej55 ?_
        refine lx_aload_n d_W_law_495 rfl ?_
        obtain ⟨x56, s57, ex56, h⟩ := ob_inv h
        refine lx_callW3 c_W_law_496 (Nat.le_of_ble_eq_true rfl) (E_W_start hfl ex56 ⟨_, rfl, ?_⟩)
        refine lx_istore d_W_law_499 (by decide) ?_
        refine lx_aload_n d_W_law_501 rfl ?_
        refine lx_aload_n d_W_law_502 rfl ?_
        refine lx_iload d_W_law_503 rfl ?_
        refine lx_iconst (v := nI 1) d_W_law_505 (by decide) ?_
        refine lx_iadd d_W_law_506 ?_
        refine lx_sld d_W_law_507 hj55 gj55 ej55 ?_
        obtain ⟨x58, s59, ex58, h⟩ := ob_inv h
        refine lx_callM1 c_W_law_508 (Nat.le_of_ble_eq_true rfl) (E_M_start ex58 ?_)
        refine lx_istore d_W_law_511 (by decide) ?_
        refine lx_aload_n d_W_law_513 rfl ?_
        obtain ⟨x60, s61, ex60, h⟩ := ob_inv h
        refine lx_callM0 c_W_law_514 (Nat.le_of_ble_eq_true rfl) (E_M_thrown ex60 ?_)
        refine lx_iload d_W_law_517 rfl ?_
        refine lx_icmp_eq (tgt := 524) d_W_law_519 (by decide) (fun hc519 => ?_) (fun hc519 => ?_)
        · rw [if_pos hc519] at h
          refine lx_iload d_W_law_524 rfl ?_
          refine oj_step (P := fun J62 : Unit → Option (Int32 × lx_S) => ∀ (_u : Unit) (d5 : Option Value) (d6 : Option Value), J62 () = some (r, sz) → lx G me_W_law 541 [some (.ref 1), some (.ref 2), some (.ref rx_o), some (.ref 95), some (.int (l4)), d5, d6] [] ((((s57.1, s59, s57.2.2)).1, s61, ((s57.1, s59, s57.2.2)).2.2)) Q) h ?_ ?_
          · intro _u d5 d6 h
            refine lx_goto (tgt := 1151) d_W_law_541 (by decide) ?_
            exact hJ1 _ _ _ h
          clear h
          intro J62 hJ4 h
          refine lx_if_ne (tgt := 541) d_W_law_526 (by decide) (fun hc526 => ?_) (fun hc526 => ?_)
          · rw [if_neg hc526] at h
            exact hJ4 () _ _ h
          · rw [if_pos hc526] at h
            refine lx_aload_n d_W_law_529 rfl ?_
            refine lx_iconst (v := nI 0) d_W_law_530 (by decide) ?_
            refine lx_lald d_W_law_531 ?_
            refine lx_iload d_W_law_532 rfl ?_
            refine lx_i2l d_W_law_534 ?_
            refine lx_lcmp d_W_law_535 ?_
            refine lx_if_eq (tgt := 541) d_W_law_536 (by decide) (fun hc536 => ?_) (fun hc536 => ?_)
            · rw [if_pos hc536] at h
              exact hJ4 () _ _ h
            · rw [if_neg hc536] at h
              refine lx_iconst (v := nI 0) d_W_law_539 (by decide) ?_
              exact lx_zret d_W_law_540 rfl (by decide) (ox_i hq h)
        · rw [if_neg hc519] at h
          refine lx_iconst (v := nI 0) d_W_law_522 (by decide) ?_
          exact lx_zret d_W_law_523 rfl (by decide) (ox_i hq h)
      rw [if_neg e40_6] at h
      by_cases e40_7 : (((bm_xs G) j1) &&& (nI 31)) = nI 7
      · rw [if_pos e40_7] at h
        refine lx_tab (tgt := 544) d_W_law_40 7 e40_7 (by decide) (by decide) (by rfl) (by decide) ?_
        refine lx_aload_n d_W_law_544 rfl ?_
        obtain ⟨p65, ep65, hp65, h⟩ := oc_inv h
        cases ep65
        obtain ⟨x63, s64, ex63, h⟩ := ob_inv h
        refine lx_callC0 c_W_law_545 (Nat.le_of_ble_eq_true rfl) (by decide) hp65 (E_H_tick ex63 ?_)
        refine lx_aload_n d_W_law_548 rfl ?_
        obtain ⟨x66, s67, ex66, h⟩ := ob_inv h
        refine lx_callM0 c_W_law_549 (Nat.le_of_ble_eq_true rfl) (E_M_tick ex66 ?_)
        refine lx_icmp_eq (tgt := 1151) d_W_law_552 (by decide) (fun hc552 => ?_) (fun hc552 => ?_)
        · rw [if_pos hc552] at h
          exact hJ1 _ _ _ h
        · rw [if_neg hc552] at h
          refine lx_iconst (v := nI 0) d_W_law_555 (by decide) ?_
          exact lx_zret d_W_law_556 rfl (by decide) (ox_i hq h)
      rw [if_neg e40_7] at h
      by_cases e40_8 : (((bm_xs G) j1) &&& (nI 31)) = nI 8
      · rw [if_pos e40_8] at h
        refine lx_tab (tgt := 557) d_W_law_40 8 e40_8 (by decide) (by decide) (by rfl) (by decide) ?_
        refine lx_aload_n d_W_law_557 rfl ?_
        refine lx_aload_n d_W_law_558 rfl ?_
        refine lx_iload d_W_law_559 rfl ?_
        refine lx_iconst (v := nI 1) d_W_law_561 (by decide) ?_
        refine lx_iadd d_W_law_562 ?_
        obtain ⟨j68, hj68, gj68, ej68, h⟩ := og_inv2 h
        refine lx_sld d_W_law_563 hj68 gj68 ej68 ?_
        obtain ⟨x69, s70, ex69, h⟩ := ob_inv h
        refine lx_callW2 c_W_law_564 (Nat.le_of_ble_eq_true rfl) (E_W_hold hfl ex69 ⟨_, rfl, ?_⟩)
        refine lx_istore d_W_law_567 (by decide) ?_
        refine lx_aload_n d_W_law_569 rfl ?_
        refine lx_aload_n d_W_law_570 rfl ?_
        refine lx_iload d_W_law_571 rfl ?_
        refine lx_iconst (v := nI 1) d_W_law_573 (by decide) ?_
        refine lx_iadd d_W_law_574 ?_
        refine lx_sld d_W_law_575 hj68 gj68 ej68 ?_
        obtain ⟨x71, s72, ex71, h⟩ := ob_inv h
        refine lx_callM1v c_W_law_576 (Nat.le_of_ble_eq_true rfl) (E_M_hold ex71 ?_)
        refine lx_aload_n d_W_law_579 rfl ?_
        obtain ⟨x73, s74, ex73, h⟩ := ob_inv h
        refine lx_callM0 c_W_law_580 (Nat.le_of_ble_eq_true rfl) (E_M_thrown ex73 ?_)
        refine lx_iload d_W_law_583 rfl ?_
        refine lx_icmp_eq (tgt := 590) d_W_law_585 (by decide) (fun hc585 => ?_) (fun hc585 => ?_)
        · rw [if_pos hc585] at h
          refine lx_goto (tgt := 1151) d_W_law_590 (by decide) ?_
          exact hJ1 _ _ _ h
        · rw [if_neg hc585] at h
          refine lx_iconst (v := nI 0) d_W_law_588 (by decide) ?_
          exact lx_zret d_W_law_589 rfl (by decide) (ox_i hq h)
      rw [if_neg e40_8] at h
      by_cases e40_9 : (((bm_xs G) j1) &&& (nI 31)) = nI 9
      · rw [if_pos e40_9] at h
        refine lx_tab (tgt := 593) d_W_law_40 9 e40_9 (by decide) (by decide) (by rfl) (by decide) ?_
        refine lx_aload_n d_W_law_593 rfl ?_
        refine lx_aload_n d_W_law_594 rfl ?_
        refine lx_iload d_W_law_595 rfl ?_
        refine lx_iconst (v := nI 1) d_W_law_597 (by decide) ?_
        refine lx_iadd d_W_law_598 ?_
        obtain ⟨j75, hj75, gj75, ej75, h⟩ := og_inv2 h
        refine lx_sld d_W_law_599 hj75 gj75 ej75 ?_
        refine lx_aload_n d_W_law_600 rfl ?_
        obtain ⟨x76, s77, ex76, h⟩ := ob_inv h
        refine lx_callW3 c_W_law_601 (Nat.le_of_ble_eq_true rfl) (E_W_restart hfl ex76 ⟨_, rfl, ?_⟩)
        refine lx_istore d_W_law_604 (by decide) ?_
        refine lx_aload_n d_W_law_606 rfl ?_
        refine lx_aload_n d_W_law_607 rfl ?_
        refine lx_iload d_W_law_608 rfl ?_
        refine lx_iconst (v := nI 1) d_W_law_610 (by decide) ?_
        refine lx_iadd d_W_law_611 ?_
        refine lx_sld d_W_law_612 hj75 gj75 ej75 ?_
        obtain ⟨x78, s79, ex78, h⟩ := ob_inv h
        refine lx_callM1 c_W_law_613 (Nat.le_of_ble_eq_true rfl) (E_M_restart ex78 ?_)
        refine lx_istore d_W_law_616 (by decide) ?_
        refine lx_aload_n d_W_law_618 rfl ?_
        obtain ⟨x80, s81, ex80, h⟩ := ob_inv h
        refine lx_callM0 c_W_law_619 (Nat.le_of_ble_eq_true rfl) (E_M_thrown ex80 ?_)
        refine lx_iload d_W_law_622 rfl ?_
        refine lx_icmp_eq (tgt := 629) d_W_law_624 (by decide) (fun hc624 => ?_) (fun hc624 => ?_)
        · rw [if_pos hc624] at h
          refine lx_iload d_W_law_629 rfl ?_
          refine oj_step (P := fun J82 : Unit → Option (Int32 × lx_S) => ∀ (_u : Unit) (d5 : Option Value) (d6 : Option Value), J82 () = some (r, sz) → lx G me_W_law 646 [some (.ref 1), some (.ref 2), some (.ref rx_o), some (.ref 95), some (.int (l4)), d5, d6] [] ((((s77.1, s79, s77.2.2)).1, s81, ((s77.1, s79, s77.2.2)).2.2)) Q) h ?_ ?_
          · intro _u d5 d6 h
            refine lx_goto (tgt := 1151) d_W_law_646 (by decide) ?_
            exact hJ1 _ _ _ h
          clear h
          intro J82 hJ5 h
          refine lx_if_ne (tgt := 646) d_W_law_631 (by decide) (fun hc631 => ?_) (fun hc631 => ?_)
          · rw [if_neg hc631] at h
            exact hJ5 () _ _ h
          · rw [if_pos hc631] at h
            refine lx_aload_n d_W_law_634 rfl ?_
            refine lx_iconst (v := nI 0) d_W_law_635 (by decide) ?_
            refine lx_lald d_W_law_636 ?_
            refine lx_iload d_W_law_637 rfl ?_
            refine lx_i2l d_W_law_639 ?_
            refine lx_lcmp d_W_law_640 ?_
            refine lx_if_eq (tgt := 646) d_W_law_641 (by decide) (fun hc641 => ?_) (fun hc641 => ?_)
            · rw [if_pos hc641] at h
              exact hJ5 () _ _ h
            · rw [if_neg hc641] at h
              refine lx_iconst (v := nI 0) d_W_law_644 (by decide) ?_
              exact lx_zret d_W_law_645 rfl (by decide) (ox_i hq h)
        · rw [if_neg hc624] at h
          refine lx_iconst (v := nI 0) d_W_law_627 (by decide) ?_
          exact lx_zret d_W_law_628 rfl (by decide) (ox_i hq h)
      rw [if_neg e40_9] at h
      by_cases e40_10 : (((bm_xs G) j1) &&& (nI 31)) = nI 10
      · rw [if_pos e40_10] at h
        refine lx_tab (tgt := 649) d_W_law_40 10 e40_10 (by decide) (by decide) (by rfl) (by decide) ?_
        refine lx_aload_n d_W_law_649 rfl ?_
        refine lx_aload_n d_W_law_650 rfl ?_
        refine lx_iload d_W_law_651 rfl ?_
        refine lx_iconst (v := nI 1) d_W_law_653 (by decide) ?_
        refine lx_iadd d_W_law_654 ?_
        obtain ⟨j83, hj83, gj83, ej83, h⟩ := og_inv2 h
        refine lx_sld d_W_law_655 hj83 gj83 ej83 ?_
        refine lx_aload_n d_W_law_656 rfl ?_
        obtain ⟨x84, s85, ex84, h⟩ := ob_inv h
        refine lx_callW3 c_W_law_657 (Nat.le_of_ble_eq_true rfl) (E_W_stop hfl ex84 ⟨_, rfl, ?_⟩)
        refine lx_istore d_W_law_660 (by decide) ?_
        refine lx_aload_n d_W_law_662 rfl ?_
        refine lx_aload_n d_W_law_663 rfl ?_
        refine lx_iload d_W_law_664 rfl ?_
        refine lx_iconst (v := nI 1) d_W_law_666 (by decide) ?_
        refine lx_iadd d_W_law_667 ?_
        refine lx_sld d_W_law_668 hj83 gj83 ej83 ?_
        obtain ⟨x86, s87, ex86, h⟩ := ob_inv h
        refine lx_callM1 c_W_law_669 (Nat.le_of_ble_eq_true rfl) (E_M_stop ex86 ?_)
        refine lx_istore d_W_law_672 (by decide) ?_
        refine lx_aload_n d_W_law_674 rfl ?_
        obtain ⟨x88, s89, ex88, h⟩ := ob_inv h
        refine lx_callM0 c_W_law_675 (Nat.le_of_ble_eq_true rfl) (E_M_thrown ex88 ?_)
        refine lx_iload d_W_law_678 rfl ?_
        refine lx_icmp_eq (tgt := 685) d_W_law_680 (by decide) (fun hc680 => ?_) (fun hc680 => ?_)
        · rw [if_pos hc680] at h
          refine lx_iload d_W_law_685 rfl ?_
          refine oj_step (P := fun J90 : Unit → Option (Int32 × lx_S) => ∀ (_u : Unit) (d5 : Option Value) (d6 : Option Value), J90 () = some (r, sz) → lx G me_W_law 702 [some (.ref 1), some (.ref 2), some (.ref rx_o), some (.ref 95), some (.int (l4)), d5, d6] [] ((((s85.1, s87, s85.2.2)).1, s89, ((s85.1, s87, s85.2.2)).2.2)) Q) h ?_ ?_
          · intro _u d5 d6 h
            refine lx_goto (tgt := 1151) d_W_law_702 (by decide) ?_
            exact hJ1 _ _ _ h
          clear h
          intro J90 hJ6 h
          refine lx_if_ne (tgt := 702) d_W_law_687 (by decide) (fun hc687 => ?_) (fun hc687 => ?_)
          · rw [if_neg hc687] at h
            exact hJ6 () _ _ h
          · rw [if_pos hc687] at h
            refine lx_aload_n d_W_law_690 rfl ?_
            refine lx_iconst (v := nI 0) d_W_law_691 (by decide) ?_
            refine lx_lald d_W_law_692 ?_
            refine lx_iload d_W_law_693 rfl ?_
            refine lx_i2l d_W_law_695 ?_
            refine lx_lcmp d_W_law_696 ?_
            refine lx_if_eq (tgt := 702) d_W_law_697 (by decide) (fun hc697 => ?_) (fun hc697 => ?_)
            · rw [if_pos hc697] at h
              exact hJ6 () _ _ h
            · rw [if_neg hc697] at h
              refine lx_iconst (v := nI 0) d_W_law_700 (by decide) ?_
              exact lx_zret d_W_law_701 rfl (by decide) (ox_i hq h)
        · rw [if_neg hc680] at h
          refine lx_iconst (v := nI 0) d_W_law_683 (by decide) ?_
          exact lx_zret d_W_law_684 rfl (by decide) (ox_i hq h)
      rw [if_neg e40_10] at h
      by_cases e40_11 : (((bm_xs G) j1) &&& (nI 31)) = nI 11
      · rw [if_pos e40_11] at h
        refine lx_tab (tgt := 705) d_W_law_40 11 e40_11 (by decide) (by decide) (by rfl) (by decide) ?_
        refine lx_aload_n d_W_law_705 rfl ?_
        refine lx_aload_n d_W_law_706 rfl ?_
        refine lx_iload d_W_law_707 rfl ?_
        refine lx_iconst (v := nI 1) d_W_law_709 (by decide) ?_
        refine lx_iadd d_W_law_710 ?_
        obtain ⟨j91, hj91, gj91, ej91, h⟩ := og_inv2 h
        refine lx_sld d_W_law_711 hj91 gj91 ej91 ?_
        obtain ⟨x92, s93, ex92, h⟩ := ob_inv h
        refine lx_callW2 c_W_law_712 (Nat.le_of_ble_eq_true rfl) (E_W_abort hfl ex92 ⟨_, rfl, ?_⟩)
        refine lx_istore d_W_law_715 (by decide) ?_
        refine lx_aload_n d_W_law_717 rfl ?_
        refine lx_aload_n d_W_law_718 rfl ?_
        refine lx_iload d_W_law_719 rfl ?_
        refine lx_iconst (v := nI 1) d_W_law_721 (by decide) ?_
        refine lx_iadd d_W_law_722 ?_
        refine lx_sld d_W_law_723 hj91 gj91 ej91 ?_
        obtain ⟨x94, s95, ex94, h⟩ := ob_inv h
        refine lx_callM1v c_W_law_724 (Nat.le_of_ble_eq_true rfl) (E_M_abort ex94 ?_)
        refine lx_aload_n d_W_law_727 rfl ?_
        obtain ⟨x96, s97, ex96, h⟩ := ob_inv h
        refine lx_callM0 c_W_law_728 (Nat.le_of_ble_eq_true rfl) (E_M_thrown ex96 ?_)
        refine lx_iload d_W_law_731 rfl ?_
        refine lx_icmp_eq (tgt := 738) d_W_law_733 (by decide) (fun hc733 => ?_) (fun hc733 => ?_)
        · rw [if_pos hc733] at h
          refine lx_goto (tgt := 1151) d_W_law_738 (by decide) ?_
          exact hJ1 _ _ _ h
        · rw [if_neg hc733] at h
          refine lx_iconst (v := nI 0) d_W_law_736 (by decide) ?_
          exact lx_zret d_W_law_737 rfl (by decide) (ox_i hq h)
      rw [if_neg e40_11] at h
      by_cases e40_12 : (((bm_xs G) j1) &&& (nI 31)) = nI 12
      · rw [if_pos e40_12] at h
        refine lx_tab (tgt := 741) d_W_law_40 12 e40_12 (by decide) (by decide) (by rfl) (by decide) ?_
        refine lx_aload_n d_W_law_741 rfl ?_
        refine lx_aload_n d_W_law_742 rfl ?_
        refine lx_iload d_W_law_743 rfl ?_
        refine lx_iconst (v := nI 1) d_W_law_745 (by decide) ?_
        refine lx_iadd d_W_law_746 ?_
        obtain ⟨j98, hj98, gj98, ej98, h⟩ := og_inv2 h
        refine lx_sld d_W_law_747 hj98 gj98 ej98 ?_
        refine lx_aload_n d_W_law_748 rfl ?_
        refine lx_iload d_W_law_749 rfl ?_
        refine lx_iconst (v := nI 2) d_W_law_751 (by decide) ?_
        refine lx_iadd d_W_law_752 ?_
        obtain ⟨j99, hj99, gj99, ej99, h⟩ := og_inv2 h
        refine lx_sld d_W_law_753 hj99 gj99 ej99 ?_
        refine lx_aload_n d_W_law_754 rfl ?_
        refine lx_iload d_W_law_755 rfl ?_
        refine lx_iconst (v := nI 3) d_W_law_757 (by decide) ?_
        refine lx_iadd d_W_law_758 ?_
        obtain ⟨j100, hj100, gj100, ej100, h⟩ := og_inv2 h
        refine lx_sld d_W_law_759 hj100 gj100 ej100 ?_
        obtain ⟨p103, ep103, hp103, h⟩ := oc_inv h
        cases ep103
        obtain ⟨x101, s102, ex101, h⟩ := ob_inv h
        refine lx_callC3 c_W_law_760 (Nat.le_of_ble_eq_true rfl) (by decide) hp103 (E_H_measure ex101 ?_)
        refine lx_aload_n d_W_law_763 rfl ?_
        refine lx_aload_n d_W_law_764 rfl ?_
        refine lx_iload d_W_law_765 rfl ?_
        refine lx_iconst (v := nI 1) d_W_law_767 (by decide) ?_
        refine lx_iadd d_W_law_768 ?_
        refine lx_sld d_W_law_769 hj98 gj98 ej98 ?_
        refine lx_aload_n d_W_law_770 rfl ?_
        refine lx_iload d_W_law_771 rfl ?_
        refine lx_iconst (v := nI 2) d_W_law_773 (by decide) ?_
        refine lx_iadd d_W_law_774 ?_
        refine lx_sld d_W_law_775 hj99 gj99 ej99 ?_
        refine lx_aload_n d_W_law_776 rfl ?_
        refine lx_iload d_W_law_777 rfl ?_
        refine lx_iconst (v := nI 3) d_W_law_779 (by decide) ?_
        refine lx_iadd d_W_law_780 ?_
        refine lx_sld d_W_law_781 hj100 gj100 ej100 ?_
        obtain ⟨x104, s105, ex104, h⟩ := ob_inv h
        refine lx_callM3 c_W_law_782 (Nat.le_of_ble_eq_true rfl) (E_M_measure ex104 ?_)
        refine lx_icmp_eq (tgt := 1151) d_W_law_785 (by decide) (fun hc785 => ?_) (fun hc785 => ?_)
        · rw [if_pos hc785] at h
          exact hJ1 _ _ _ h
        · rw [if_neg hc785] at h
          refine lx_iconst (v := nI 0) d_W_law_788 (by decide) ?_
          exact lx_zret d_W_law_789 rfl (by decide) (ox_i hq h)
      rw [if_neg e40_12] at h
      by_cases e40_13 : (((bm_xs G) j1) &&& (nI 31)) = nI 13
      · rw [if_pos e40_13] at h
        refine lx_tab (tgt := 790) d_W_law_40 13 e40_13 (by decide) (by decide) (by rfl) (by decide) ?_
        refine lx_aload_n d_W_law_790 rfl ?_
        refine lx_aload_n d_W_law_791 rfl ?_
        refine lx_iload d_W_law_792 rfl ?_
        refine lx_iconst (v := nI 1) d_W_law_794 (by decide) ?_
        refine lx_iadd d_W_law_795 ?_
        obtain ⟨j106, hj106, gj106, ej106, h⟩ := og_inv2 h
        refine lx_sld d_W_law_796 hj106 gj106 ej106 ?_
        refine lx_aload_n d_W_law_797 rfl ?_
        refine lx_iload d_W_law_798 rfl ?_
        refine lx_iconst (v := nI 2) d_W_law_800 (by decide) ?_
        refine lx_iadd d_W_law_801 ?_
        obtain ⟨j107, hj107, gj107, ej107, h⟩ := og_inv2 h
        refine lx_sld d_W_law_802 hj107 gj107 ej107 ?_
        obtain ⟨p110, ep110, hp110, h⟩ := oc_inv h
        cases ep110
        obtain ⟨x108, s109, ex108, h⟩ := ob_inv h
        refine lx_callC2 c_W_law_803 (Nat.le_of_ble_eq_true rfl) (by decide) hp110 (E_H_batchIs ex108 ?_)
        refine lx_aload_n d_W_law_806 rfl ?_
        refine lx_aload_n d_W_law_807 rfl ?_
        refine lx_iload d_W_law_808 rfl ?_
        refine lx_iconst (v := nI 1) d_W_law_810 (by decide) ?_
        refine lx_iadd d_W_law_811 ?_
        refine lx_sld d_W_law_812 hj106 gj106 ej106 ?_
        refine lx_aload_n d_W_law_813 rfl ?_
        refine lx_iload d_W_law_814 rfl ?_
        refine lx_iconst (v := nI 2) d_W_law_816 (by decide) ?_
        refine lx_iadd d_W_law_817 ?_
        refine lx_sld d_W_law_818 hj107 gj107 ej107 ?_
        obtain ⟨x111, s112, ex111, h⟩ := ob_inv h
        refine lx_callM2 c_W_law_819 (Nat.le_of_ble_eq_true rfl) (E_M_batchIs ex111 ?_)
        refine lx_icmp_eq (tgt := 1151) d_W_law_822 (by decide) (fun hc822 => ?_) (fun hc822 => ?_)
        · rw [if_pos hc822] at h
          exact hJ1 _ _ _ h
        · rw [if_neg hc822] at h
          refine lx_iconst (v := nI 0) d_W_law_825 (by decide) ?_
          exact lx_zret d_W_law_826 rfl (by decide) (ox_i hq h)
      rw [if_neg e40_13] at h
      by_cases e40_14 : (((bm_xs G) j1) &&& (nI 31)) = nI 14
      · rw [if_pos e40_14] at h
        refine lx_tab (tgt := 827) d_W_law_40 14 e40_14 (by decide) (by decide) (by rfl) (by decide) ?_
        refine lx_aload_n d_W_law_827 rfl ?_
        refine lx_aload_n d_W_law_828 rfl ?_
        refine lx_iload d_W_law_829 rfl ?_
        refine lx_iconst (v := nI 1) d_W_law_831 (by decide) ?_
        refine lx_iadd d_W_law_832 ?_
        obtain ⟨j113, hj113, gj113, ej113, h⟩ := og_inv2 h
        refine lx_sld d_W_law_833 hj113 gj113 ej113 ?_
        refine lx_aload_n d_W_law_834 rfl ?_
        refine lx_iload d_W_law_835 rfl ?_
        refine lx_iconst (v := nI 2) d_W_law_837 (by decide) ?_
        refine lx_iadd d_W_law_838 ?_
        obtain ⟨j114, hj114, gj114, ej114, h⟩ := og_inv2 h
        refine lx_sld d_W_law_839 hj114 gj114 ej114 ?_
        obtain ⟨p117, ep117, hp117, h⟩ := oc_inv h
        cases ep117
        obtain ⟨x115, s116, ex115, h⟩ := ob_inv h
        refine lx_callC2 c_W_law_840 (Nat.le_of_ble_eq_true rfl) (by decide) hp117 (E_H_token ex115 ?_)
        refine lx_aload_n d_W_law_843 rfl ?_
        refine lx_aload_n d_W_law_844 rfl ?_
        refine lx_iload d_W_law_845 rfl ?_
        refine lx_iconst (v := nI 1) d_W_law_847 (by decide) ?_
        refine lx_iadd d_W_law_848 ?_
        refine lx_sld d_W_law_849 hj113 gj113 ej113 ?_
        refine lx_aload_n d_W_law_850 rfl ?_
        refine lx_iload d_W_law_851 rfl ?_
        refine lx_iconst (v := nI 2) d_W_law_853 (by decide) ?_
        refine lx_iadd d_W_law_854 ?_
        refine lx_sld d_W_law_855 hj114 gj114 ej114 ?_
        obtain ⟨x118, s119, ex118, h⟩ := ob_inv h
        refine lx_callM2 c_W_law_856 (Nat.le_of_ble_eq_true rfl) (E_M_token ex118 ?_)
        refine lx_icmp_eq (tgt := 1151) d_W_law_859 (by decide) (fun hc859 => ?_) (fun hc859 => ?_)
        · rw [if_pos hc859] at h
          exact hJ1 _ _ _ h
        · rw [if_neg hc859] at h
          refine lx_iconst (v := nI 0) d_W_law_862 (by decide) ?_
          exact lx_zret d_W_law_863 rfl (by decide) (ox_i hq h)
      rw [if_neg e40_14] at h
      by_cases e40_15 : (((bm_xs G) j1) &&& (nI 31)) = nI 15
      · rw [if_pos e40_15] at h
        refine lx_tab (tgt := 864) d_W_law_40 15 e40_15 (by decide) (by decide) (by rfl) (by decide) ?_
        refine lx_aload_n d_W_law_864 rfl ?_
        refine lx_aload_n d_W_law_865 rfl ?_
        refine lx_iload d_W_law_866 rfl ?_
        refine lx_iconst (v := nI 1) d_W_law_868 (by decide) ?_
        refine lx_iadd d_W_law_869 ?_
        obtain ⟨j120, hj120, gj120, ej120, h⟩ := og_inv2 h
        refine lx_sld d_W_law_870 hj120 gj120 ej120 ?_
        refine lx_aload_n d_W_law_871 rfl ?_
        refine lx_iload d_W_law_872 rfl ?_
        refine lx_iconst (v := nI 2) d_W_law_874 (by decide) ?_
        refine lx_iadd d_W_law_875 ?_
        obtain ⟨j121, hj121, gj121, ej121, h⟩ := og_inv2 h
        refine lx_sld d_W_law_876 hj121 gj121 ej121 ?_
        obtain ⟨p124, ep124, hp124, h⟩ := oc_inv h
        cases ep124
        obtain ⟨x122, s123, ex122, h⟩ := ob_inv h
        refine lx_callC2 c_W_law_877 (Nat.le_of_ble_eq_true rfl) (by decide) hp124 (E_H_unitOf ex122 ?_)
        refine lx_aload_n d_W_law_880 rfl ?_
        refine lx_aload_n d_W_law_881 rfl ?_
        refine lx_iload d_W_law_882 rfl ?_
        refine lx_iconst (v := nI 1) d_W_law_884 (by decide) ?_
        refine lx_iadd d_W_law_885 ?_
        refine lx_sld d_W_law_886 hj120 gj120 ej120 ?_
        refine lx_aload_n d_W_law_887 rfl ?_
        refine lx_iload d_W_law_888 rfl ?_
        refine lx_iconst (v := nI 2) d_W_law_890 (by decide) ?_
        refine lx_iadd d_W_law_891 ?_
        refine lx_sld d_W_law_892 hj121 gj121 ej121 ?_
        obtain ⟨x125, s126, ex125, h⟩ := ob_inv h
        refine lx_callM2 c_W_law_893 (Nat.le_of_ble_eq_true rfl) (E_M_unitOf ex125 ?_)
        refine lx_icmp_eq (tgt := 1151) d_W_law_896 (by decide) (fun hc896 => ?_) (fun hc896 => ?_)
        · rw [if_pos hc896] at h
          exact hJ1 _ _ _ h
        · rw [if_neg hc896] at h
          refine lx_iconst (v := nI 0) d_W_law_899 (by decide) ?_
          exact lx_zret d_W_law_900 rfl (by decide) (ox_i hq h)
      rw [if_neg e40_15] at h
      by_cases e40_16 : (((bm_xs G) j1) &&& (nI 31)) = nI 16
      · rw [if_pos e40_16] at h
        refine lx_tab (tgt := 901) d_W_law_40 16 e40_16 (by decide) (by decide) (by rfl) (by decide) ?_
        refine lx_aload_n d_W_law_901 rfl ?_
        refine lx_aload_n d_W_law_902 rfl ?_
        refine lx_iload d_W_law_903 rfl ?_
        refine lx_iconst (v := nI 1) d_W_law_905 (by decide) ?_
        refine lx_iadd d_W_law_906 ?_
        obtain ⟨j127, hj127, gj127, ej127, h⟩ := og_inv2 h
        refine lx_sld d_W_law_907 hj127 gj127 ej127 ?_
        refine lx_aload_n d_W_law_908 rfl ?_
        refine lx_iload d_W_law_909 rfl ?_
        refine lx_iconst (v := nI 2) d_W_law_911 (by decide) ?_
        refine lx_iadd d_W_law_912 ?_
        obtain ⟨j128, hj128, gj128, ej128, h⟩ := og_inv2 h
        refine lx_sld d_W_law_913 hj128 gj128 ej128 ?_
        obtain ⟨p131, ep131, hp131, h⟩ := oc_inv h
        cases ep131
        obtain ⟨x129, s130, ex129, h⟩ := ob_inv h
        refine lx_callC2 c_W_law_914 (Nat.le_of_ble_eq_true rfl) (by decide) hp131 (E_H_unitIs ex129 ?_)
        refine lx_aload_n d_W_law_917 rfl ?_
        refine lx_aload_n d_W_law_918 rfl ?_
        refine lx_iload d_W_law_919 rfl ?_
        refine lx_iconst (v := nI 1) d_W_law_921 (by decide) ?_
        refine lx_iadd d_W_law_922 ?_
        refine lx_sld d_W_law_923 hj127 gj127 ej127 ?_
        refine lx_aload_n d_W_law_924 rfl ?_
        refine lx_iload d_W_law_925 rfl ?_
        refine lx_iconst (v := nI 2) d_W_law_927 (by decide) ?_
        refine lx_iadd d_W_law_928 ?_
        refine lx_sld d_W_law_929 hj128 gj128 ej128 ?_
        obtain ⟨x132, s133, ex132, h⟩ := ob_inv h
        refine lx_callM2 c_W_law_930 (Nat.le_of_ble_eq_true rfl) (E_M_unitIs ex132 ?_)
        refine lx_icmp_eq (tgt := 1151) d_W_law_933 (by decide) (fun hc933 => ?_) (fun hc933 => ?_)
        · rw [if_pos hc933] at h
          exact hJ1 _ _ _ h
        · rw [if_neg hc933] at h
          refine lx_iconst (v := nI 0) d_W_law_936 (by decide) ?_
          exact lx_zret d_W_law_937 rfl (by decide) (ox_i hq h)
      rw [if_neg e40_16] at h
      by_cases e40_17 : (((bm_xs G) j1) &&& (nI 31)) = nI 17
      · rw [if_pos e40_17] at h
        refine lx_tab (tgt := 938) d_W_law_40 17 e40_17 (by decide) (by decide) (by rfl) (by decide) ?_
        refine lx_aload_n d_W_law_938 rfl ?_
        refine lx_aload_n d_W_law_939 rfl ?_
        refine lx_iload d_W_law_940 rfl ?_
        refine lx_iconst (v := nI 1) d_W_law_942 (by decide) ?_
        refine lx_iadd d_W_law_943 ?_
        obtain ⟨j134, hj134, gj134, ej134, h⟩ := og_inv2 h
        refine lx_sld d_W_law_944 hj134 gj134 ej134 ?_
        refine lx_aload_n d_W_law_945 rfl ?_
        refine lx_iload d_W_law_946 rfl ?_
        refine lx_iconst (v := nI 2) d_W_law_948 (by decide) ?_
        refine lx_iadd d_W_law_949 ?_
        obtain ⟨j135, hj135, gj135, ej135, h⟩ := og_inv2 h
        refine lx_sld d_W_law_950 hj135 gj135 ej135 ?_
        refine lx_aload_n d_W_law_951 rfl ?_
        refine lx_iload d_W_law_952 rfl ?_
        refine lx_iconst (v := nI 3) d_W_law_954 (by decide) ?_
        refine lx_iadd d_W_law_955 ?_
        obtain ⟨j136, hj136, gj136, ej136, h⟩ := og_inv2 h
        refine lx_sld d_W_law_956 hj136 gj136 ej136 ?_
        obtain ⟨p139, ep139, hp139, h⟩ := oc_inv h
        cases ep139
        obtain ⟨x137, s138, ex137, h⟩ := ob_inv h
        refine lx_callC3 c_W_law_957 (Nat.le_of_ble_eq_true rfl) (by decide) hp139 (E_H_content ex137 ?_)
        refine lx_aload_n d_W_law_960 rfl ?_
        refine lx_aload_n d_W_law_961 rfl ?_
        refine lx_iload d_W_law_962 rfl ?_
        refine lx_iconst (v := nI 1) d_W_law_964 (by decide) ?_
        refine lx_iadd d_W_law_965 ?_
        refine lx_sld d_W_law_966 hj134 gj134 ej134 ?_
        refine lx_aload_n d_W_law_967 rfl ?_
        refine lx_iload d_W_law_968 rfl ?_
        refine lx_iconst (v := nI 2) d_W_law_970 (by decide) ?_
        refine lx_iadd d_W_law_971 ?_
        refine lx_sld d_W_law_972 hj135 gj135 ej135 ?_
        refine lx_aload_n d_W_law_973 rfl ?_
        refine lx_iload d_W_law_974 rfl ?_
        refine lx_iconst (v := nI 3) d_W_law_976 (by decide) ?_
        refine lx_iadd d_W_law_977 ?_
        refine lx_sld d_W_law_978 hj136 gj136 ej136 ?_
        obtain ⟨x140, s141, ex140, h⟩ := ob_inv h
        refine lx_callM3 c_W_law_979 (Nat.le_of_ble_eq_true rfl) (E_M_content ex140 ?_)
        refine lx_icmp_eq (tgt := 1151) d_W_law_982 (by decide) (fun hc982 => ?_) (fun hc982 => ?_)
        · rw [if_pos hc982] at h
          exact hJ1 _ _ _ h
        · rw [if_neg hc982] at h
          refine lx_iconst (v := nI 0) d_W_law_985 (by decide) ?_
          exact lx_zret d_W_law_986 rfl (by decide) (ox_i hq h)
      rw [if_neg e40_17] at h
      by_cases e40_18 : (((bm_xs G) j1) &&& (nI 31)) = nI 18
      · rw [if_pos e40_18] at h
        refine lx_tab (tgt := 987) d_W_law_40 18 e40_18 (by decide) (by decide) (by rfl) (by decide) ?_
        refine lx_aload_n d_W_law_987 rfl ?_
        refine lx_aload_n d_W_law_988 rfl ?_
        refine lx_iload d_W_law_989 rfl ?_
        refine lx_iconst (v := nI 1) d_W_law_991 (by decide) ?_
        refine lx_iadd d_W_law_992 ?_
        obtain ⟨j142, hj142, gj142, ej142, h⟩ := og_inv2 h
        refine lx_sld d_W_law_993 hj142 gj142 ej142 ?_
        refine lx_aload_n d_W_law_994 rfl ?_
        refine lx_iload d_W_law_995 rfl ?_
        refine lx_iconst (v := nI 2) d_W_law_997 (by decide) ?_
        refine lx_iadd d_W_law_998 ?_
        obtain ⟨j143, hj143, gj143, ej143, h⟩ := og_inv2 h
        refine lx_sld d_W_law_999 hj143 gj143 ej143 ?_
        obtain ⟨p146, ep146, hp146, h⟩ := oc_inv h
        cases ep146
        obtain ⟨x144, s145, ex144, h⟩ := ob_inv h
        refine lx_callC2 c_W_law_1000 (Nat.le_of_ble_eq_true rfl) (by decide) hp146 (E_H_lot ex144 ?_)
        refine lx_aload_n d_W_law_1003 rfl ?_
        refine lx_aload_n d_W_law_1004 rfl ?_
        refine lx_iload d_W_law_1005 rfl ?_
        refine lx_iconst (v := nI 1) d_W_law_1007 (by decide) ?_
        refine lx_iadd d_W_law_1008 ?_
        refine lx_sld d_W_law_1009 hj142 gj142 ej142 ?_
        refine lx_aload_n d_W_law_1010 rfl ?_
        refine lx_iload d_W_law_1011 rfl ?_
        refine lx_iconst (v := nI 2) d_W_law_1013 (by decide) ?_
        refine lx_iadd d_W_law_1014 ?_
        refine lx_sld d_W_law_1015 hj143 gj143 ej143 ?_
        obtain ⟨x147, s148, ex147, h⟩ := ob_inv h
        refine lx_callM2 c_W_law_1016 (Nat.le_of_ble_eq_true rfl) (E_M_lot ex147 ?_)
        refine lx_icmp_eq (tgt := 1151) d_W_law_1019 (by decide) (fun hc1019 => ?_) (fun hc1019 => ?_)
        · rw [if_pos hc1019] at h
          exact hJ1 _ _ _ h
        · rw [if_neg hc1019] at h
          refine lx_iconst (v := nI 0) d_W_law_1022 (by decide) ?_
          exact lx_zret d_W_law_1023 rfl (by decide) (ox_i hq h)
      rw [if_neg e40_18] at h
      by_cases e40_19 : (((bm_xs G) j1) &&& (nI 31)) = nI 19
      · rw [if_pos e40_19] at h
        refine lx_tab (tgt := 1024) d_W_law_40 19 e40_19 (by decide) (by decide) (by rfl) (by decide) ?_
        refine lx_aload_n d_W_law_1024 rfl ?_
        refine lx_aload_n d_W_law_1025 rfl ?_
        refine lx_iload d_W_law_1026 rfl ?_
        refine lx_iconst (v := nI 1) d_W_law_1028 (by decide) ?_
        refine lx_iadd d_W_law_1029 ?_
        obtain ⟨j149, hj149, gj149, ej149, h⟩ := og_inv2 h
        refine lx_sld d_W_law_1030 hj149 gj149 ej149 ?_
        refine lx_aload_n d_W_law_1031 rfl ?_
        refine lx_iload d_W_law_1032 rfl ?_
        refine lx_iconst (v := nI 2) d_W_law_1034 (by decide) ?_
        refine lx_iadd d_W_law_1035 ?_
        obtain ⟨j150, hj150, gj150, ej150, h⟩ := og_inv2 h
        refine lx_sld d_W_law_1036 hj150 gj150 ej150 ?_
        refine lx_aload_n d_W_law_1037 rfl ?_
        refine lx_iload d_W_law_1038 rfl ?_
        refine lx_iconst (v := nI 3) d_W_law_1040 (by decide) ?_
        refine lx_iadd d_W_law_1041 ?_
        obtain ⟨j151, hj151, gj151, ej151, h⟩ := og_inv2 h
        refine lx_sld d_W_law_1042 hj151 gj151 ej151 ?_
        obtain ⟨p154, ep154, hp154, h⟩ := oc_inv h
        cases ep154
        obtain ⟨x152, s153, ex152, h⟩ := ob_inv h
        refine lx_callC3 c_W_law_1043 (Nat.le_of_ble_eq_true rfl) (by decide) hp154 (E_H_from ex152 ?_)
        refine lx_aload_n d_W_law_1046 rfl ?_
        refine lx_aload_n d_W_law_1047 rfl ?_
        refine lx_iload d_W_law_1048 rfl ?_
        refine lx_iconst (v := nI 1) d_W_law_1050 (by decide) ?_
        refine lx_iadd d_W_law_1051 ?_
        refine lx_sld d_W_law_1052 hj149 gj149 ej149 ?_
        refine lx_aload_n d_W_law_1053 rfl ?_
        refine lx_iload d_W_law_1054 rfl ?_
        refine lx_iconst (v := nI 2) d_W_law_1056 (by decide) ?_
        refine lx_iadd d_W_law_1057 ?_
        refine lx_sld d_W_law_1058 hj150 gj150 ej150 ?_
        refine lx_aload_n d_W_law_1059 rfl ?_
        refine lx_iload d_W_law_1060 rfl ?_
        refine lx_iconst (v := nI 3) d_W_law_1062 (by decide) ?_
        refine lx_iadd d_W_law_1063 ?_
        refine lx_sld d_W_law_1064 hj151 gj151 ej151 ?_
        obtain ⟨x155, s156, ex155, h⟩ := ob_inv h
        refine lx_callM3 c_W_law_1065 (Nat.le_of_ble_eq_true rfl) (E_M_from ex155 ?_)
        refine lx_icmp_eq (tgt := 1151) d_W_law_1068 (by decide) (fun hc1068 => ?_) (fun hc1068 => ?_)
        · rw [if_pos hc1068] at h
          exact hJ1 _ _ _ h
        · rw [if_neg hc1068] at h
          refine lx_iconst (v := nI 0) d_W_law_1071 (by decide) ?_
          exact lx_zret d_W_law_1072 rfl (by decide) (ox_i hq h)
      rw [if_neg e40_19] at h
      by_cases e40_20 : (((bm_xs G) j1) &&& (nI 31)) = nI 20
      · rw [if_pos e40_20] at h
        refine lx_tab (tgt := 1073) d_W_law_40 20 e40_20 (by decide) (by decide) (by rfl) (by decide) ?_
        refine lx_aload_n d_W_law_1073 rfl ?_
        refine lx_aload_n d_W_law_1074 rfl ?_
        refine lx_iload d_W_law_1075 rfl ?_
        refine lx_iconst (v := nI 1) d_W_law_1077 (by decide) ?_
        refine lx_iadd d_W_law_1078 ?_
        obtain ⟨j157, hj157, gj157, ej157, h⟩ := og_inv2 h
        refine lx_sld d_W_law_1079 hj157 gj157 ej157 ?_
        refine lx_aload_n d_W_law_1080 rfl ?_
        refine lx_iload d_W_law_1081 rfl ?_
        refine lx_iconst (v := nI 2) d_W_law_1083 (by decide) ?_
        refine lx_iadd d_W_law_1084 ?_
        obtain ⟨j158, hj158, gj158, ej158, h⟩ := og_inv2 h
        refine lx_sld d_W_law_1085 hj158 gj158 ej158 ?_
        refine oj_step (P := fun J159 : Int32 → Option (Int32 × lx_S) => ∀ (x160 : Int32) (d5 : Option Value) (d6 : Option Value), J159 x160 = some (r, sz) → lx G me_W_law 1094 [some (.ref 1), some (.ref 2), some (.ref rx_o), some (.ref 95), some (.int (l4)), d5, d6] [.int (x160), .int ((bm_xs G) j157), .ref 2] s Q) h ?_ ?_
        · intro x160 d5 d6 h
          refine lx_aload_n d_W_law_1094 rfl ?_
          refine lx_iload d_W_law_1095 rfl ?_
          refine lx_iconst (v := nI 3) d_W_law_1097 (by decide) ?_
          refine lx_iadd d_W_law_1098 ?_
          obtain ⟨j161, hj161, gj161, ej161, h⟩ := og_inv2 h
          refine lx_sld d_W_law_1099 hj161 gj161 ej161 ?_
          obtain ⟨p164, ep164, hp164, h⟩ := oc_inv h
          cases ep164
          obtain ⟨x162, s163, ex162, h⟩ := ob_inv h
          refine lx_callC3 c_W_law_1100 (Nat.le_of_ble_eq_true rfl) (by decide) hp164 (E_H_trace ex162 ?_)
          refine lx_aload_n d_W_law_1103 rfl ?_
          refine lx_aload_n d_W_law_1104 rfl ?_
          refine lx_iload d_W_law_1105 rfl ?_
          refine lx_iconst (v := nI 1) d_W_law_1107 (by decide) ?_
          refine lx_iadd d_W_law_1108 ?_
          refine lx_sld d_W_law_1109 hj157 gj157 ej157 ?_
          refine lx_aload_n d_W_law_1110 rfl ?_
          refine lx_iload d_W_law_1111 rfl ?_
          refine lx_iconst (v := nI 2) d_W_law_1113 (by decide) ?_
          refine lx_iadd d_W_law_1114 ?_
          refine lx_sld d_W_law_1115 hj158 gj158 ej158 ?_
          refine oj_step (P := fun J165 : Int32 → Option (Int32 × lx_S) => ∀ (x166 : Int32) (d5 : Option Value) (d6 : Option Value), J165 x166 = some (r, sz) → lx G me_W_law 1124 [some (.ref 1), some (.ref 2), some (.ref rx_o), some (.ref 95), some (.int (l4)), d5, d6] [.int (x166), .int ((bm_xs G) j157), .ref rx_o, .int (x162)] ((s163, s.2)) Q) h ?_ ?_
          · intro x166 d5 d6 h
            refine lx_aload_n d_W_law_1124 rfl ?_
            refine lx_iload d_W_law_1125 rfl ?_
            refine lx_iconst (v := nI 3) d_W_law_1127 (by decide) ?_
            refine lx_iadd d_W_law_1128 ?_
            refine lx_sld d_W_law_1129 hj161 gj161 ej161 ?_
            obtain ⟨x167, s168, ex167, h⟩ := ob_inv h
            refine lx_callM3 c_W_law_1130 (Nat.le_of_ble_eq_true rfl) (E_M_trace ex167 ?_)
            refine lx_icmp_eq (tgt := 1151) d_W_law_1133 (by decide) (fun hc1133 => ?_) (fun hc1133 => ?_)
            · rw [if_pos hc1133] at h
              exact hJ1 _ _ _ h
            · rw [if_neg hc1133] at h
              refine lx_iconst (v := nI 0) d_W_law_1136 (by decide) ?_
              exact lx_zret d_W_law_1137 rfl (by decide) (ox_i hq h)
          clear h
          intro J165 hJ7 h
          refine lx_if_eq (tgt := 1123) d_W_law_1116 (by decide) (fun hc1116 => ?_) (fun hc1116 => ?_)
          · rw [if_pos hc1116] at h
            refine lx_iconst (v := nI 0) d_W_law_1123 (by decide) ?_
            exact hJ7 _ _ _ h
          · rw [if_neg hc1116] at h
            refine lx_iconst (v := nI 1) d_W_law_1119 (by decide) ?_
            refine lx_goto (tgt := 1124) d_W_law_1120 (by decide) ?_
            exact hJ7 _ _ _ h
        clear h
        intro J159 hJ8 h
        refine lx_if_eq (tgt := 1093) d_W_law_1086 (by decide) (fun hc1086 => ?_) (fun hc1086 => ?_)
        · rw [if_pos hc1086] at h
          refine lx_iconst (v := nI 0) d_W_law_1093 (by decide) ?_
          exact hJ8 _ _ _ h
        · rw [if_neg hc1086] at h
          refine lx_iconst (v := nI 1) d_W_law_1089 (by decide) ?_
          refine lx_goto (tgt := 1094) d_W_law_1090 (by decide) ?_
          exact hJ8 _ _ _ h
      rw [if_neg e40_20] at h
      by_cases e40_21 : (((bm_xs G) j1) &&& (nI 31)) = nI 21
      · rw [if_pos e40_21] at h
        refine lx_tab (tgt := 1138) d_W_law_40 21 e40_21 (by decide) (by decide) (by rfl) (by decide) ?_
        refine lx_aload_n d_W_law_1138 rfl ?_
        obtain ⟨p171, ep171, hp171, h⟩ := oc_inv h
        cases ep171
        obtain ⟨x169, s170, ex169, h⟩ := ob_inv h
        refine lx_callC0 c_W_law_1139 (Nat.le_of_ble_eq_true rfl) (by decide) hp171 (E_H_lots ex169 ?_)
        refine lx_aload_n d_W_law_1142 rfl ?_
        obtain ⟨x172, s173, ex172, h⟩ := ob_inv h
        refine lx_callM0 c_W_law_1143 (Nat.le_of_ble_eq_true rfl) (E_M_lots ex172 ?_)
        refine lx_icmp_eq (tgt := 1151) d_W_law_1146 (by decide) (fun hc1146 => ?_) (fun hc1146 => ?_)
        · rw [if_pos hc1146] at h
          exact hJ1 _ _ _ h
        · rw [if_neg hc1146] at h
          refine lx_iconst (v := nI 0) d_W_law_1149 (by decide) ?_
          exact lx_zret d_W_law_1150 rfl (by decide) (ox_i hq h)
      rw [if_neg e40_21] at h
      have hsw : ∀ j, j ≤ 21 → ¬ (((bm_xs G) j1) &&& (nI 31)) = nI j := by
        intro j hj
        have hj2 : j = 0 ∨ j = 1 ∨ j = 2 ∨ j = 3 ∨ j = 4 ∨ j = 5 ∨ j = 6 ∨ j = 7 ∨ j = 8 ∨ j = 9 ∨ j = 10 ∨ j = 11 ∨ j = 12 ∨ j = 13 ∨ j = 14 ∨ j = 15 ∨ j = 16 ∨ j = 17 ∨ j = 18 ∨ j = 19 ∨ j = 20 ∨ j = 21 := by omega
        rcases hj2 with rfl | rfl | rfl | rfl | rfl | rfl | rfl | rfl | rfl | rfl | rfl | rfl | rfl | rfl | rfl | rfl | rfl | rfl | rfl | rfl | rfl | rfl <;> assumption
      refine lx_tableOut (tgt := 1151) d_W_law_40 (sw_out 21 (by decide) hsw) (by decide) ?_
      exact hJ1 _ _ _ h
