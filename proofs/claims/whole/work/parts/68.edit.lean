/-! unit, role, step, link -/
section EDI
variable {f : Nat} {K : kx} {W : Nat → Nat → Nat} {bd : Nat} {c : cx_S} {s : rx_S}
theorem R0_k {k j : Nat} (q : k ≠ 0) : R0 s k j = s k j := up_k q
theorem sim_same (h : St K W bd c s) {x : Int32} {a : Option (Int32 × cx_S)} {b : Option (Int32 × rx_S)} (h1 : a = some (x, c)) (h2 : b = some (x, R0 s)) : Sim K W bd bd c s a b := sim_ask h ⟨x, h1, h2⟩
theorem b_unit (h : St K W bd c s) (u g : Int32) : Sim K W bd bd c s (D_H_unit f 2 u g c) (D_M_unit f u g s) := by
  obtain ⟨h, hI⟩ := h
  unfold D_H_unit D_M_unit
  rcases in_cases u (n := 6) (m := 5) rfl (by decide) f with ⟨u, hu, rfl, e1, e2⟩ | ⟨e1, e2⟩
  · rcases in_cases g (n := 3) (m := 2) rfl (by decide) f with ⟨g, hg, rfl, e3, e4⟩ | ⟨e3, e4⟩
    · simp only [e1, e2, e3, e4, b_ob, b_oj, b_10, b_00, if_false, if_true, b_oc h.fix.h2, h.fix.f5, b_oa h.fix.h13 hu (by decide), h.fix.unA u hu, b_oc (h.fix.hUn u hu), b_og hu (by decide), h.uo u hu]
      by_cases q : s 2 u = -1
      · rw [if_pos q, if_pos (show R0 s 2 u = -1 from q)]
        exact ⟨nI 1, K, W, _, _, rfl, rfl, ⟨p_grp (s := R0 s) h, hI⟩, rfl, ⟨Nat.le_refl _, by show cN c ≤ _; omega, by show cZ c ≤ _; omega⟩⟩
      · rw [if_neg q, if_neg (show ¬ R0 s 2 u = -1 from q)]
        exact sim_same ⟨h, hI⟩ rfl rfl
    · simp only [e1, e2, e3, e4, b_ob, b_oj, b_10, b_00, if_false, if_true]
      exact sim_same ⟨h, hI⟩ rfl rfl
  · simp only [e1, e2, b_ob, b_oj, b_10, b_00, if_false, if_true]
    exact sim_same ⟨h, hI⟩ rfl rfl
theorem rel_ne (h : Iv K W bd s) {r r2 : Nat} (h0 : s 8 r = 0) (h1 : s 8 r2 = nI 1) : r2 ≠ r := fun e => by
  subst e
  rw [h0] at h1
  exact absurd h1 (by decide)
theorem b_role (h : St K W bd c s) (x k g : Int32) : Sim K W bd bd c s (D_H_role f 2 x k g c) (D_M_role f x k g s) := by
  obtain ⟨h, hI⟩ := h
  unfold D_H_role D_M_role
  rcases ed_cases (f := f) h x with ⟨r, hr, rfl, h8, e1, e2⟩ | ⟨e1, e2⟩
  · rcases in_cases k (n := 3) (m := 2) rfl (by decide) f with ⟨k, hk, rfl, e3, e4⟩ | ⟨e3, e4⟩
    · have fin : ∀ j, j < 4 → Sim K W bd bd c s (some (nI 1, cx_ui c 400 (41 + 3 * r) k (nI j))) (some (nI 1, rx_up (R0 s) 6 (3 * r + k) (nI j))) := by
        intro j hj
        refine ⟨nI 1, K, W, _, _, rfl, rfl, ⟨p_role (s := R0 s) h hr hk, inv_edit hI (fun a b c d e g => ?_) (fun r2 hr2 h82 => ⟨rfl, fun a b i hi => ?_, fun k2 hk2 => ?_⟩) (fun i hi => ?_) hI.i7 (fun r2 hr2 i hi => ?_)⟩, rfl, ⟨Nat.le_refl _, by show cN c ≤ _; omega, by show cZ c ≤ _; omega⟩⟩
        · funext y
          rw [up_k (by omega), R0_k (by omega)]
        · rw [up_k (by omega), R0_k (by omega)]
        · have := rel_ne hI h8 h82
          rw [up_o (by omega), R0_k (by omega)]
        · rw [b_up]
          by_cases e : i = 3 * r + k
          · rw [if_pos ⟨rfl, e⟩]; exact rg_of hj (by decide)
          · rw [if_neg (fun z => e z.2)]; exact hI.i6 i hi
        · exact hI.i9 r2 hr2 i hi
      rcases in_cases g (n := 4) (m := 3) rfl (by decide) f with ⟨g, hg, rfl, e5, e6⟩ | ⟨e5, e6⟩
      · by_cases g3 : g < 3
        · simp only [e1, e2, e3, e4, e6, b_below_t g3 (show 3 < 2 ^ 31 by decide), b_ob, b_oj, b_10, b_00, if_false, if_true, b_oc h.fix.h2, h.fix.f0, b_oa h.fix.h3 hr (by decide), h.fix.recA r hr, b_oc (h.fix.hRec r hr), b_og hr (by decide), h.fix.grp r hr, b_oa (h.fix.hGrp r hr) hk (by decide), pk_mul, nI_add, b_og (show 3 * r + k < 12 by omega) (by decide)]
          exact fin g hg
        · have g3 : g = 3 := by omega
          subst g3
          simp only [e1, e2, e3, e4, e6, b_below_f (f := f) (c := c) (x := nI 3) (n := 3) (Or.inr (Int32.le_refl _)), b_ob, b_oj, b_10, b_00, if_false, if_true, b_oc h.fix.h2, h.fix.f0, b_oa h.fix.h3 hr (by decide), h.fix.recA r hr, b_oc (h.fix.hRec r hr), b_og hr (by decide), h.fix.grp r hr, b_oa (h.fix.hGrp r hr) hk (by decide), pk_mul, nI_add, b_og (show 3 * r + k < 12 by omega) (by decide)]
          exact fin 3 hg
      · have g3 : ∀ c, D_H_isBelow f g (nI 3) c = some (nI 0, c) := by
          intro c
          rcases b_ix g (n := 3) (by decide) with ⟨j, hj, rfl⟩ | q
          · have := e5 c
            rw [b_below_t (show j < 4 by omega) (by decide)] at this
            exact absurd (congrArg (fun z => z.map Prod.fst) this) (by simp; decide)
          · exact b_below_f q
        have gn : ¬ g = nI 3 := fun e => by
          subst e
          have := e5 c
          rw [b_below_t (show 3 < 4 by decide) (by decide)] at this
          exact absurd (congrArg (fun z => z.map Prod.fst) this) (by simp; decide)
        simp only [e1, e2, e3, e4, e6, g3, gn, b_ob, b_oj, b_10, b_00, if_false, if_true, b_oc h.fix.h2]
        exact sim_same ⟨h, hI⟩ rfl rfl
    · simp only [e1, e2, e3, e4, b_ob, b_oj, b_10, b_00, if_false, if_true, b_oc h.fix.h2]
      exact sim_same ⟨h, hI⟩ rfl rfl
  · simp only [e1, e2, b_ob, b_oj, b_10, b_00, if_false, if_true, b_oc h.fix.h2]
    exact sim_same ⟨h, hI⟩ rfl rfl
theorem b_link (h : St K W bd c s) (x k y z : Int32) : Sim K W bd bd c s (D_H_link f 2 x k y z c) (D_M_link f x k y z s) := by
  obtain ⟨h, hI⟩ := h
  unfold D_H_link D_M_link
  rcases ed_cases (f := f) h x with ⟨r, hr, rfl, h8, e1, e2⟩ | ⟨e1, e2⟩
  · have m7 := hI.i7 r hr
    have m13 := m7.lt
    have em : cI c 97 (40 + 3 * r) 0 = nI (nt (s 7 r)) := by rw [h.rm r hr]; exact m7.eq
    have em2 : R0 s 7 r = nI (nt (s 7 r)) := m7.eq
    rcases inm_cases k (n := nt (s 7 r)) (by omega) f with ⟨k, hk, rfl, e3, e4⟩ | ⟨e3, e4⟩
    · have hs := h.sh r hr k hk
      simp only [e1, e2, e3, e4, em, em2, b_ob, b_oj, b_10, b_00, if_false, if_true, b_oc h.fix.h2, h.fix.f0, b_oa h.fix.h3 hr (by decide), h.fix.recA r hr, b_oc (h.fix.hRec r hr), b_og hr (by decide), h.fix.stp r hr, b_oa (h.fix.hStp r hr) (show k < 12 by omega) (by decide), hs.1, b_oc hs.2, pk_mul, nI_add, b_og (show 12 * r + k < 48 by omega) (by decide)]
      refine ⟨nI 1, K, W, _, _, rfl, rfl, ⟨p_other (s := rx_up (R0 s) 13 (12 * r + k) y) (p_next (s := R0 s) h hI.i7 hr hk) hI.i7 hr hk, inv_edit hI (fun a b c d e g => ?_) (fun r2 hr2 h82 => ⟨rfl, fun a b i hi => ?_, fun _ _ => rfl⟩) hI.i6 hI.i7 (fun r2 hr2 i hi => ?_)⟩, rfl, ⟨Nat.le_refl _, by show cN c ≤ _; omega, by show cZ c ≤ _; omega⟩⟩
      · funext y
        rw [up_k (by omega), up_k (by omega), R0_k (by omega)]
      · have := rel_ne hI h8 h82
        rw [up_o (by omega), up_o (by omega), R0_k (by omega)]
      · exact hI.i9 r2 hr2 i hi
    · simp only [e1, e2, e3, e4, em, em2, b_ob, b_oj, b_10, b_00, if_false, if_true, b_oc h.fix.h2, h.fix.f0, b_oa h.fix.h3 hr (by decide), h.fix.recA r hr, b_oc (h.fix.hRec r hr), b_og hr (by decide)]
      exact sim_same ⟨h, hI⟩ rfl rfl
  · simp only [e1, e2, b_ob, b_oj, b_10, b_00, if_false, if_true, b_oc h.fix.h2]
    exact sim_same ⟨h, hI⟩ rfl rfl
theorem b_step (h : St K W bd c s) (x k y z w : Int32) : Sim K W bd bd c s (D_H_step f 2 x k y z w c) (D_M_step f x k y z w s) := by
  obtain ⟨h, hI⟩ := h
  unfold D_H_step D_M_step
  rcases ed_cases (f := f) h x with ⟨r, hr, rfl, h8, e1, e2⟩ | ⟨e1, e2⟩
  · have m7 := hI.i7 r hr
    have m13 := m7.lt
    have em : cI c 97 (40 + 3 * r) 0 = nI (nt (s 7 r)) := by rw [h.rm r hr]; exact m7.eq
    have em2 : R0 s 7 r = nI (nt (s 7 r)) := m7.eq
    rcases in_cases k (n := 10) (m := 9) rfl (by decide) f with ⟨k, hk, rfl, e3, e4⟩ | ⟨e3, e4⟩
    · by_cases q : nt (s 7 r) = 12
      · simp only [e1, e2, e3, e4, em, em2, q, b_ob, b_oj, b_10, b_00, if_false, if_true, b_oc h.fix.h2, h.fix.f0, b_oa h.fix.h3 hr (by decide), h.fix.recA r hr, b_oc (h.fix.hRec r hr), b_og hr (by decide), if_neg (show ¬ nI 12 < nI 12 by decide)]
        exact sim_same ⟨h, hI⟩ rfl rfl
      · have q1 : nt (s 7 r) < 12 := by omega
        have q2 : ¬ nI (nt (s 7 r)) = nI 12 := by rw [nI_eq (by omega) (by decide)]; exact q
        generalize hm : nt (s 7 r) = m at *
        have n96 := h.fix.n
        have hx : CRep K (cx_ui (cx_ui (cx_ui (cx_ui (cx_ui (cx_ui (cx_mk c (8, 0) 6) 132 (cN c) 0 (-1)) 133 (cN c) 0 (-1)) 128 (cN c) 0 (nI k)) 129 (cN c) 0 y) 130 (cN c) 0 z) 131 (cN c) 0 w) (R0 s) := by
          refine CRep_ext (s := R0 s) h (fun F p hp _ => ?_) (fun F p hp => ?_) (fun p hp => ?_) (Nat.le_succ _)
          · funext j
            have hne : p ≠ cN c := by omega
            simp only [cI_ui, cI_mk, hne, and_false, false_and, if_false]
          · funext j
            have hne : p ≠ cN c := by omega
            simp only [cR_ui, cR_mk, hne, if_false]
          · have hne : p ≠ cN c := by omega
            simp only [cH_ui, cH_mk, hne, if_false]
        have hc : cH (cx_mk c (8, 0) 6) (cN c) = some (8, 0) := by rw [cH_mk, if_pos rfl]
        have key := p_step (s := R0 s) hx hI.i7 hr (m := m) (p := cN c) (by show s 7 r = _; rw [m7.eq, hm]) q1 ⟨n96, by show cN c < cN c + 1; omega⟩ hc (fun r2 hr2 i hi => by have := (h.sg.1 r2 hr2 i hi).2; omega)
          (x0 := nI k) (x1 := y) (x2 := z) (x3 := w) (x4 := -1) (x5 := -1) (by simp [cI_ui]) (by simp [cI_ui]) (by simp [cI_ui]) (by simp [cI_ui]) (by simp [cI_ui]) (by simp [cI_ui]) (fun t ht i hi => by
            have b := hI.ib t ht
            have l := (hI.it t ht i hi).1.lt
            have n1 := rel_ne hI h8 b.2.1
            have := (hI.i7 _ b.1.lt).lt
            show 12 * nt (s 16 t) + nt (s 23 (8 * t + i)) ≠ _
            omega)
        have f1 := hx.fix
        simp only [e1, e2, e3, e4, em, em2, b_ob, b_oj, b_10, b_00, if_false, if_true, b_oc h.fix.h2, h.fix.f0, b_oa h.fix.h3 hr (by decide), h.fix.recA r hr, b_oc (h.fix.hRec r hr), b_og hr (by decide), if_pos (nI_lt q1 (by decide)), if_neg q2, b_on n96, D_S_init, b_oc hc, D_R_append]
        have ea : cI (cx_ui (cx_ui (cx_ui (cx_ui (cx_ui (cx_ui (cx_mk c (8, 0) 6) 132 (cN c) 0 (-1)) 133 (cN c) 0 (-1)) 128 (cN c) 0 (nI k)) 129 (cN c) 0 y) 130 (cN c) 0 z) 131 (cN c) 0 w) 97 (40 + 3 * r) 0 = nI m := by
          have := hx.rm r hr
          rw [this]; show s 7 r = _; rw [m7.eq, hm]
        have hc2 : cH (cx_ui (cx_ui (cx_ui (cx_ui (cx_ui (cx_ui (cx_mk c (8, 0) 6) 132 (cN c) 0 (-1)) 133 (cN c) 0 (-1)) 128 (cN c) 0 (nI k)) 129 (cN c) 0 y) 130 (cN c) 0 z) 131 (cN c) 0 w) (cN c) = some (8, 0) := hc
        have ea2 : cI (cx_ur (cx_ui (cx_ui (cx_ui (cx_ui (cx_ui (cx_ui (cx_mk c (8, 0) 6) 132 (cN c) 0 (-1)) 133 (cN c) 0 (-1)) 128 (cN c) 0 (nI k)) 129 (cN c) 0 y) 130 (cN c) 0 z) 131 (cN c) 0 w) 407 (42 + 3 * r) m (some (cN c))) 97 (40 + 3 * r) 0 = nI m := ea
        generalize hcc : (cx_ui (cx_ui (cx_ui (cx_ui (cx_ui (cx_ui (cx_mk c (8, 0) 6) 132 (cN c) 0 (-1)) 133 (cN c) 0 (-1)) 128 (cN c) 0 (nI k)) 129 (cN c) 0 y) 130 (cN c) 0 z) 131 (cN c) 0 w) = c1 at *
        simp only [b_ob, b_oc (f1.hRec r hr), b_oc hc2, f1.stp r hr, ea, b_oa (f1.hStp r hr) q1 (show 12 < 2 ^ 31 by decide), ea2, pk_mul, nI_add, b_og (show 12 * r + m < 48 by omega) (show 48 < 2 ^ 31 by decide)]
        have es : ∀ v, rx_up (rx_up (rx_up (rx_up (rx_up (rx_up (R0 s) 9 v (nI k)) 10 v y) 11 v z) 12 v w) 13 v (-1)) 14 v (-1) 7 r = nI m := fun v => by show s 7 r = _; rw [m7.eq, hm]
        simp only [es, nI_add, up_s, pk_sub (show 1 ≤ m + 1 by omega), Nat.add_sub_cancel]
        refine ⟨nI m, _, W, _, _, rfl, rfl, ⟨key, inv_edit hI (fun a b c d e g => ?_) (fun r2 hr2 h82 => ⟨?_, fun a b i hi => ?_, fun _ _ => rfl⟩) hI.i6 (fun r2 hr2 => ?_) (fun r2 hr2 i hi => ?_)⟩, rfl, ⟨Nat.le_refl _, ?_, ?_⟩⟩
        · funext v
          rw [up_k (by omega), up_k (by omega), up_k (by omega), up_k (by omega), up_k (by omega), up_k (by omega), up_k (by omega), R0_k (by omega)]
        · have := rel_ne hI h8 h82
          rw [up_o this]; rfl
        · have := rel_ne hI h8 h82
          have : 12 * r2 + i ≠ 12 * r + m := by omega
          rw [up_k (by omega), up_o this, up_o this, up_o this, up_o this, up_o this, up_o this, R0_k (by omega)]
        · by_cases e : r2 = r
          · subst e; rw [up_s]; exact rg_of (by omega) (by decide)
          · rw [up_o e]; exact hI.i7 r2 hr2
        · rcases step_ix (s := R0 s) hI.i7 hr (m := m) (by show s 7 r = _; rw [m7.eq, hm]) q1 hr2 hi with ⟨v1, v2⟩ | ⟨v1, v2, v3⟩
          · subst v1; subst v2
            show rg (rx_up (R0 s) 9 (12 * r2 + i) (nI k) 9 (12 * r2 + i)) 10
            rw [up_s]; exact rg_of hk (by decide)
          · show rg (rx_up (R0 s) 9 (12 * r + m) (nI k) 9 (12 * r2 + i)) 10
            rw [up_o v3]; exact hI.i9 r2 hr2 i v1
        · show cN c1 ≤ _
          rw [← hcc]; show cN c + 1 ≤ _; omega
        · show cZ c1 ≤ _
          rw [← hcc]; show cZ c + 6 ≤ _; omega
    · simp only [e1, e2, e3, e4, b_ob, b_oj, b_10, b_00, if_false, if_true, b_oc h.fix.h2]
      exact sim_same ⟨h, hI⟩ rfl rfl
  · simp only [e1, e2, b_ob, b_oj, b_10, b_00, if_false, if_true, b_oc h.fix.h2]
    exact sim_same ⟨h, hI⟩ rfl rfl
end EDI
