/-! release -/
section REL
variable {f : Nat} {K : kx} {W : Nat → Nat → Nat} {bd : Nat} {c : cx_S} {s : rx_S}
theorem Iv_s {s2 : rx_S} (h : Iv K W bd s) (e : ∀ k, 1 ≤ k ∧ k ≤ 37 → s2 k = s k) : Iv K W bd s2 := by
  have z : s2 = fun k => if 1 ≤ k ∧ k ≤ 37 then s k else s2 k := by
    funext k
    split
    · next q => exact e k q
    · rfl
  rw [z]
  exact h
/-- what both ways of looking find, alike -/
theorem fault_both (h : CRep K c s) (hI : Iv K W bd s) (hf : 2 ^ 31 ≤ f) {r : Nat} (hr : r < 4) : ∃ x c2 s2, D_C_findFault f 5 (some (40 + 3 * r)) (some 13) c = some (x, c2) ∧ CRep K c2 s ∧ cN c2 = cN c ∧ cZ c2 = cZ c ∧ (∀ k, k ≤ 37 → s2 k = s k) ∧ (x = 0 ∨ ¬ x = 0) ∧
    (∀ (kk : Int32 → rx_S → Option (Int32 × rx_S)) , (D_M_release_55 f (nI r) (fun (v20 : Int32) (s21 : rx_S) => oj (fun (x23 : Int32) (s24 : rx_S) => kk x23 s24) fun J22 => if v20 = 0 then J22 (nI 1) s21 else ob (D_M_isWhole f (nI r) s21) fun x27 s28 => if x27 = 0 then J22 (nI 2) s28 else ob (D_M_branches f (nI r) s28) fun x29 s30 => if x29 = 0 then J22 (nI 3) s30 else ob (D_M_measures f (nI r) s30) fun x31 s32 => if x31 = 0 then J22 (nI 4) s32 else ob (D_M_hasUnits f (nI r) s32) fun x33 s34 => if x33 = 0 then J22 (nI 5) s34 else J22 (nI 0) s34) f (if s 7 r ≤ 0 then nI 0 else nI 1) (nI 0) s) = kk x s2) ∧
    (x = 0 → SR s r ∧ ∃ V, WG (nt (s 7 r)) (zk s r) (zn s r) (zo s r) V) := by
  have m7 := hI.i7 r hr
  have ml := m7.lt
  have em : ∀ {c : cx_S}, CRep K c s → cI c 97 (40 + 3 * r) 0 = nI (nt (s 7 r)) := fun {c} h => by rw [h.rm r hr]; exact m7.eq
  -- soundness
  have csnd : ∃ y, D_C_isSound f 5 (some (40 + 3 * r)) c = some (y, c) ∧ TF y (SR s r) := by
    unfold D_C_isSound
    rcases snd_loop_C (f := f) (kk := fun (s12 : cx_S) => oc 6 (some (40 + 3 * r)) s12 fun p13 => oj (fun (x15 : Int32) => ozb x15 (some (x15, s12))) fun J14 => if (cI s12 97 p13 0) ≤ 0 then J14 (nI 0) else J14 (nI 1)) h hI hr (nt (s 7 r)) 0 f (by omega) (by omega) (fun j hj => by omega) with ⟨q1, q2⟩ | ⟨q1, q2⟩
    · have q2 : D_C_isSound_2 f 5 (some (40 + 3 * r)) _ f (nI 0) c = _ := q2
      rw [q2, b_oc (h.fix.hRec r hr), em h]
      simp only [b_oj]
      by_cases z : nt (s 7 r) = 0
      · rw [z, if_pos (show nI 0 ≤ 0 from Int32.le_refl _), ozb_0]
        exact ⟨_, rfl, TF.n (fun w => by have := w.1; omega)⟩
      · rw [if_neg (show ¬ nI (nt (s 7 r)) ≤ 0 from nI_ge (a := 0) (by omega) (by omega)), ozb_1]
        exact ⟨_, rfl, TF.y ⟨by omega, q1⟩⟩
    · have q2 : D_C_isSound_2 f 5 (some (40 + 3 * r)) _ f (nI 0) c = _ := q2
      rw [q2]
      exact ⟨_, rfl, TF.n (fun w => q1 w.2)⟩
  have msnd : ∀ (kk : Int32 → rx_S → Option (Int32 × rx_S)), ∃ y, D_M_release_55 f (nI r) kk f (if s 7 r ≤ 0 then nI 0 else nI 1) (nI 0) s = kk y s ∧ TF y (SR s r) := by
    intro kk
    by_cases z : nt (s 7 r) = 0
    · have e : s 7 r ≤ 0 := by rw [m7.eq, z]; exact Int32.le_refl _
      rw [if_pos e]
      exact ⟨nI 0, snd_loop_0 hI hr (nt (s 7 r)) 0 f (by omega) (by omega), TF.n (fun w => by have := w.1; omega)⟩
    · have e : ¬ s 7 r ≤ 0 := by rw [m7.eq]; exact nI_ge (a := 0) (by omega) (by omega)
      rw [if_neg e]
      obtain ⟨y, e1, e2⟩ := snd_loop_M (f := f) (kk := kk) hI hr (nt (s 7 r)) 0 f (by omega) (by omega) (fun j hj => by omega)
      exact ⟨y, e1, e2.iff ⟨fun w => ⟨by omega, w⟩, fun w => w.2⟩⟩
  obtain ⟨yc, eyc, tc⟩ := csnd
  unfold D_C_findFault
  rw [b_oc h.fix.h5, eyc, b_ob]
  have ev : ∀ (y : Int32), TF y (SR s r) → ∀ kk, D_M_release_55 f (nI r) kk f (if s 7 r ≤ 0 then nI 0 else nI 1) (nI 0) s = kk y s := by
    intro y hy kk
    obtain ⟨y2, e1, e2⟩ := msnd kk
    have : y = y2 := by
      rcases hy with ⟨a, b⟩ | ⟨a, b⟩ <;> rcases e2 with ⟨a2, b2⟩ | ⟨a2, b2⟩
      · rw [a, a2]
      · exact absurd b b2
      · exact absurd b2 b
      · rw [a, a2]
    rw [e1, this]
  have ev := ev yc tc
  rcases Or.symm tc with ⟨rfl, hS⟩ | ⟨rfl, hS⟩
  · rw [if_pos (show nI 0 = 0 from rfl)]
    refine ⟨nI 1, c, s, rfl, h, rfl, rfl, fun _ _ => rfl, Or.inr (by decide), fun kk => ?_, fun w => absurd w (by decide)⟩
    rw [ev]
    simp only [b_oj, b_00, if_true]
  rw [if_neg (show ¬ nI 1 = 0 by decide)]
  -- reached
  obtain ⟨y1, g, e1, t1⟩ := all_C (f := f) h hI hr hS hf
  obtain ⟨y1', g', e1', t1'⟩ := all_M (f := f) hI hr hS hf
  have tf_eq : ∀ {a b : Int32} {p : Prop}, TF a p → TF b p → a = b := by
    intro a b p ha hb
    rcases ha with ⟨a1, b1⟩ | ⟨a1, b1⟩ <;> rcases hb with ⟨a2, b2⟩ | ⟨a2, b2⟩
    · rw [a1, a2]
    · exact absurd b1 b2
    · exact absurd b2 b1
    · rw [a1, a2]
  have q1 := tf_eq t1 t1'
  subst q1
  have h1 : CRep K (ws c 6 g) s := CRep_ws h (by unfold Sc; omega)
  rw [b_oc h.fix.h5, e1, b_ob]
  rcases Or.symm t1 with ⟨rfl, hR⟩ | ⟨rfl, hR⟩
  · rw [if_pos (show nI 0 = 0 from rfl)]
    refine ⟨nI 2, _, wf s 47 g', rfl, h1, rfl, rfl, fun k hk => if_neg (by omega), Or.inr (by decide), fun kk => ?_, fun w => absurd w (by decide)⟩
    rw [ev]
    simp only [b_oj, b_10, b_00, if_true, if_false, e1', b_ob]
  rw [if_neg (show ¬ nI 1 = 0 by decide)]
  obtain ⟨rk, hrk⟩ := rX_rnk hR
  -- branches
  have hI2 : Iv K W bd (wf s 47 g') := hI
  obtain ⟨y2, g1, g2, g3, e2, t2, hA⟩ := wb_C (f := f) h1 hI hr hS hf
  obtain ⟨y2', m1, m2, m3, e2', t2', hM⟩ := wb_M (f := f) (s := wf s 47 g') hI2 hr hS hf
  have gg : cGood (nt (s 7 r)) (zk s r) (zn s r) (zo s r) ↔ mGood (nt (s 7 r)) (zk s r) (zn s r) (zo s r) := by
    constructor
    · intro w
      obtain ⟨A, _, _, _, hg⟩ := cGood_gl hS.1 hrk w
      exact gl_mGood hS.1 hS.snd hrk hg
    · intro w
      obtain ⟨A, J, _, _, _, _, hg⟩ := mGood_gl hS.1 hS.snd w
      exact gl_cGood hS.1 hS.snd hrk hg
  have q2 := tf_eq (t2.iff gg) t2'
  subst q2
  have h2 : CRep K (w3 (ws c 6 g) g1 g2 g3) s := CRep_w3 h1
  rw [b_oc h1.fix.h5, e2, b_ob]
  rcases Or.symm t2 with ⟨rfl, hG⟩ | ⟨rfl, hG⟩
  · rw [if_pos (show nI 0 = 0 from rfl)]
    refine ⟨nI 3, _, wm (wf s 47 g') m1 m2 m3, rfl, h2, rfl, rfl, fun k hk => ?_, Or.inr (by decide), fun kk => ?_, fun w => absurd w (by decide)⟩
    · show (if k = 41 then m1 else if k = 42 then m2 else if k = 43 then m3 else if k = 47 then g' else s k) = s k
      rw [if_neg (by omega), if_neg (by omega), if_neg (by omega), if_neg (by omega)]
    · rw [ev]
      simp only [b_oj, b_10, b_00, if_true, if_false, e1', e2', b_ob]
  rw [if_neg (show ¬ nI 1 = 0 by decide)]
  have hGm := gg.mp hG
  obtain ⟨A, rfl, c1, c2, hgl⟩ := cGood_gl hS.1 hrk hG
  obtain ⟨B, J, rfl, mi, d1, d2, hgm⟩ := mGood_gl hS.1 hS.snd hGm
  have hM := hM hGm
  have hM : MA m1 m2 m3 (aRnds (mg s r) (nt (s 7 r)) (nt (s 7 r) + 1) A0).2 := hM
  have hA : CA g1 g2 g3 (aRnds (cg s r) (nt (s 7 r)) (nt (s 7 r)) A0).2 := hA
  obtain ⟨o1, o2⟩ := gl_one hgl hgm hrk
  have wgood := wW_good (show nt (s 7 r) ≤ 12 by omega) hS.snd hgl hrk
  generalize hAg : (aRnds (cSpr (zk s r) (zn s r) (zo s r)) (nt (s 7 r)) (nt (s 7 r)) A0).2 = A at *
  generalize hBg : (aRnds (mLead (zk s r) (zn s r) (zo s r)) (nt (s 7 r)) (nt (s 7 r) + 1) A0).2 = B at *
  -- names
  have be1 : ∀ i, i < nt (s 7 r) → cI (w3 (ws c 6 g) g1 g2 g3) 400 7 i = nI (A.1 i - 1) ∧ A.1 i - 1 < 25 := fun i hi => by
    have z := hA.1 i (by omega)
    have z1 := c1 i hi
    rw [w3_7, z.1]
    unfold ec
    rw [if_neg z1]
    exact ⟨rfl, by omega⟩
  have fj1 : ∀ i, i < nt (s 7 r) → zk s r i = 6 → cI (w3 (ws c 6 g) g1 g2 g3) 400 8 i = nI (A.2.1 i - 1) ∧ A.2.1 i - 1 < 12 := fun i hi h6 => by
    have z := hA.2.1 i (by omega)
    have z1 := c2 i hi h6
    rw [w3_8, z.1]
    unfold ec
    rw [if_neg z1]
    exact ⟨rfl, by omega⟩
  have be2 : ∀ i, i < nt (s 7 r) → wm (wf s 47 g') m1 m2 m3 41 i = nI (A.1 i - 1) ∧ A.1 i - 1 < 25 := fun i hi => by
    have z := hM.1 i (by omega)
    have z1 := d1 i hi
    have z2 := o1 i hi
    have z2 : A.1 i - 1 = B.1 i - 1 := z2
    rw [wm_1, z.1, z2]
    unfold ec
    rw [if_neg z1]
    exact ⟨rfl, by omega⟩
  have on2 : ∀ t, t < nt (s 7 r) → zk s r t = 6 → wm (wf s 47 g') m1 m2 m3 42 t = nI (B.2.1 t - 1) ∧ B.2.1 t - 1 < 25 := fun i hi h6 => by
    have z := hM.2.1 i (by omega)
    have z1 := (mi.2.2.2.1 i (d2 i hi h6)).1
    rw [wm_2, z.1]
    unfold ec
    rw [if_neg z1]
    exact ⟨rfl, by omega⟩
  obtain ⟨y3, n1, n2, e3, t3⟩ := nmC2 (f := f) (be := fun i => A.1 i - 1) (Fj := fun i => A.2.1 i - 1) h2 hI hr hS hf be1 fj1
  obtain ⟨y3', v1, v2, v3, v4, e3', t3'⟩ := nmM2 (f := f) (s := s) (s0 := wm (wf s 47 g') m1 m2 m3) (be := fun i => A.1 i - 1) (on := fun i => B.2.1 i - 1) hI (fun k hk => by
      show (if k = 41 then m1 else if k = 42 then m2 else if k = 43 then m3 else if k = 47 then g' else s k) = s k
      rw [if_neg (by omega), if_neg (by omega), if_neg (by omega), if_neg (by omega)]) hr hS hf be2 on2
  have neq := names_eq (n := nt (s 7 r)) (kd := zk s r) (nx := zn s r) (ot := zo s r) (ka := za s r) (kb := zb s r) (be := fun i => A.1 i - 1) (Fj := fun i => A.2.1 i - 1) (on := fun i => B.2.1 i - 1) hS.snd hgl (fun i hi q => ((hS.nb i hi).1 q).2) (fun i hi q => ((hS.nb i hi).2 q).2) (nt (s 7 r)) 0 (up (fun _ => 15) 0 0, fun _ => 15) Y0 (by omega) (by
    refine ⟨rfl, up_16 (x := fun _ => 15) (fun _ => (by decide : 15 < 16)) (by decide), fun _ => (by decide : 15 < 16), fun t ht h6 => ⟨?_, rfl, rfl⟩, fun k hk h0 => ⟨fun _ => ?_, fun _ => ⟨rfl, rfl⟩⟩⟩
    · have z := o2 t ht h6
      have z : A.2.1 t - 1 = (B.2.1 t - 2) / 2 := z
      have z1 := (mi.2.2.2.1 t (d2 t ht h6)).1
      have z2 := (mi.2.2.2.2 t z1).2.1
      show B.2.1 t - 1 = 2 * (A.2.1 t - 1) + 1 ∨ B.2.1 t - 1 = 2 * (A.2.1 t - 1) + 2
      omega
    · have h0 : up (fun _ => 0) 0 1 k = 0 := h0
      show up (fun _ => 15) 0 0 k = 15
      by_cases e : k = 0
      · subst e; rw [up_eq] at h0; omega
      · rw [up_ne e])
  rw [neq] at t3
  have q3 := tf_eq t3 t3'
  subst q3
  have h3 : CRep K (wn (w3 (ws c 6 g) g1 g2 g3) n1 n2) s := CRep_wn h2
  rw [b_oc h2.fix.h5, e3, b_ob]
  have sk : ∀ k, k ≤ 37 → wy (wm (wf s 47 g') m1 m2 m3) v1 v2 v3 v4 k = s k := fun k hk => by
    show (if k = 47 then v1 else if k = 44 then v2 else if k = 45 then v3 else if k = 46 then v4 else if k = 41 then m1 else if k = 42 then m2 else if k = 43 then m3 else if k = 47 then g' else s k) = s k
    rw [if_neg (by omega), if_neg (by omega), if_neg (by omega), if_neg (by omega), if_neg (by omega), if_neg (by omega), if_neg (by omega), if_neg (by omega)]
  rcases Or.symm t3 with ⟨rfl, hN⟩ | ⟨rfl, hN⟩
  · rw [if_pos (show nI 0 = 0 from rfl)]
    refine ⟨nI 4, _, _, rfl, h3, rfl, rfl, sk, Or.inr (by decide), fun kk => ?_, fun w => absurd w (by decide)⟩
    rw [ev]
    simp only [b_oj, b_10, b_00, if_true, if_false, e1', e2', e3', b_ob]
  rw [if_neg (show ¬ nI 1 = 0 by decide)]
  -- units
  obtain ⟨y4, e4, t4⟩ := eu_C (f := f) h3 hr hf
  obtain ⟨y4', e4', t4'⟩ := eu_M (f := f) (s := wy (wm (wf s 47 g') m1 m2 m3) v1 v2 v3 v4) hr hf
  have t4' : TF y4' (EU s r) := t4'
  have q4 := tf_eq t4 t4'
  subst q4
  rw [b_oc h3.fix.h5, e4, b_ob]
  rcases t4 with ⟨rfl, hU⟩ | ⟨rfl, hU⟩
  · refine ⟨nI 0, _, _, rfl, h3, rfl, rfl, sk, Or.inl rfl, fun kk => ?_, fun _ => ⟨hS, _, wgood⟩⟩
    rw [ev]
    simp only [b_oj, b_10, b_00, if_true, if_false, e1', e2', e3', e4', b_ob]
  · refine ⟨nI 5, _, _, rfl, h3, rfl, rfl, sk, Or.inr (by decide), fun kk => ?_, fun w => absurd w (by decide)⟩
    rw [ev]
    simp only [b_oj, b_10, b_00, if_true, if_false, e1', e2', e3', e4', b_ob]
theorem up_id {k j : Nat} {v : Int32} (h : s k j = v) : rx_up s k j v = s := by
  funext k2 j2
  rw [b_up]
  split
  · next q => rw [q.1, q.2, h]
  · rfl
theorem sx_ss {r i : Nat} (hi : i < nt (s 7 r)) (h : SX s r i) : SS s r i := ((ss_iff hi).mp h).1
theorem b_release (h : St K W bd c s) (hf : 2 ^ 31 ≤ f) (x : Int32) : SimX K W bd bd c s (D_H_release f 2 x c) (D_M_release f x s) := by
  obtain ⟨h, hI⟩ := h
  rcases in_cases x (n := 4) (m := 3) rfl (by decide) f with ⟨r, hr, rfl, e1, e2⟩ | ⟨e1, e2⟩
  · by_cases q : s 8 r = 0
    · obtain ⟨y, c2, s2, w1, w2, w3, w4, w5, w6, w7, w8⟩ := fault_both (f := f) (s := R0 s) h hI hf hr
      have ev := w7 (fun x23 s24 => oj (fun (x26 : Int32) => ozb x26 <| some (x23, rx_up s24 8 r x26)) fun J25 => if x23 = 0 then J25 (nI 1) else J25 (nI 0))
      have mv : D_M_release f (nI r) s = some (y, rx_up s2 8 r (if y = 0 then nI 1 else nI 0)) := by
        have e3 : D_M_release f (nI r) s = oj (fun (x26 : Int32) => ozb x26 <| some (y, rx_up s2 8 r x26)) fun J25 => if y = 0 then J25 (nI 1) else J25 (nI 0) := by
          rw [D_M_release, e2, b_ob, e2, b_ob, b_oj, b_oj, if_neg (show ¬ nI 1 = 0 by decide), b_og hr (by decide), if_pos q]
          dsimp only
          rw [goes_11, b_ob, if_neg (show ¬ nI 1 = 0 by decide), b_og hr (by decide), b_oj]
          by_cases z : R0 s 7 r ≤ 0
          · rw [if_pos z]; rw [if_pos z] at ev; exact ev
          · rw [if_neg z]; rw [if_neg z] at ev; exact ev
        rw [e3]
        simp only [b_oj]
        by_cases z : y = 0
        · rw [if_pos z, if_pos z, ozb_1]
        · rw [if_neg z, if_neg z, ozb_0]
      have cv : D_H_release f 2 (nI r) c = some (Sum.inr y, cx_ui c2 96 (40 + 3 * r) 0 (if y = 0 then nI 1 else nI 0)) := by
        unfold D_H_release
        simp only [e1, b_ob, b_oj, b_10, if_false, b_oc h.fix.h2, h.fix.f0, b_oa h.fix.h3 hr (by decide), h.fix.recA r hr, b_oc (h.fix.hRec r hr), b_og hr (by decide), h.rr r hr, if_pos q, h.fix.f3, b_oc h.fix.h5, h.fix.f5, w1, b_oc w2.fix.h2, w2.fix.f0, b_oa w2.fix.h3 hr (show 4 < 2 ^ 31 by decide), w2.fix.recA r hr, b_oc (w2.fix.hRec r hr)]
        by_cases z : y = 0
        · rw [if_pos z, if_pos z, ozb_1]
        · rw [if_neg z, if_neg z, ozb_0]
      have hrep : CRep K c2 s2 := CRep_s w2 (fun k hk => w5 k (by omega))
      have hI2 : Iv K W bd s2 := Iv_s hI (fun k hk => by rw [w5 k hk.2]; funext j; exact R0_k (by omega))
      have s8 : s2 8 r = 0 := by rw [w5 8 (by decide)]; exact q
      have s00 : s2 0 0 = nI 0 := by rw [w5 0 (by decide)]; exact up_s
      have s30 : s2 30 0 = s 30 0 := by rw [w5 30 (by decide)]; rfl
      have s31 : s2 31 0 = s 31 0 := by rw [w5 31 (by decide)]; rfl
      have rel : ∀ t, t < nt (s2 15 0) → nt (s2 16 t) ≠ r := fun t ht e => by
        have := (hI2.ib t ht).2.1
        rw [e, s8] at this
        exact absurd this (by decide)
      have up8 : ∀ {v : Int32} {r2 : Nat}, r2 ≠ r → rx_up s2 8 r v 8 r2 = s2 8 r2 := fun {v r2} e => up_o e
      rw [cv, mv]
      by_cases z : y = 0
      · rw [if_pos z]
        obtain ⟨hS, V, hV⟩ := w8 z
        have hS : SR s r := hS
        have e7 : ∀ k, 1 ≤ k ∧ k ≤ 37 → s2 k = s k := fun k hk => by rw [w5 k hk.2]; funext j; exact R0_k (by omega)
        refine ⟨K, fun r2 => if r2 = r then V else W r2, _, _, ⟨p_rel hrep, ⟨⟨hI2.i3, hI2.i6, hI2.i7, fun r2 hr2 => ?_, hI2.i9, hI2.i15, hI2.i31, hI2.i32, hI2.i27⟩, fun r2 hr2 h8 => ?_, hI2.if, fun t ht => ?_, fun t ht i hi => ?_, hI2.iu, hI2.iq, hI2.il, hI2.ln⟩⟩, s30, ⟨by show nt (s 31 0) ≤ nt (s2 31 0); rw [s31]; exact Nat.le_refl _, by show cN c2 ≤ _; rw [w3]; omega, by show cZ c2 ≤ _; rw [w4]; omega⟩, Or.inl ⟨y, rfl, rfl, s00⟩⟩
        · by_cases e : r2 = r
          · rw [e, up_s]; exact rg_of (by decide) (by decide)
          · rw [up_o e]; exact hI2.i8 r2 hr2
        · by_cases e : r2 = r
          · subst e
            show 0 < nt (s2 7 r2) ∧ (∀ i, i < nt (s2 7 r2) → SS s2 r2 i) ∧ WG (nt (s2 7 r2)) (zk s2 r2) (zn s2 r2) (zo s2 r2) (if r2 = r2 then V else W r2)
            rw [if_pos rfl, e7 7 (by decide)]
            refine ⟨hS.1, fun i hi => SS_congr (sx_ss hi (hS.2 i hi)) (by rw [e7 7 (by decide)]) (fun k hk => by rw [e7 k (by omega)]) (fun k hk => by rw [e7 6 (by decide)]), WG_congr hV (fun i hi => ?_) (fun i hi => ?_) (fun i hi => ?_)⟩
            · show nt (s2 9 _) = nt (s 9 _); rw [e7 9 (by decide)]
            · show nt (s2 13 _) = nt (s 13 _); rw [e7 13 (by decide)]
            · show nt (s2 14 _) = nt (s 14 _); rw [e7 14 (by decide)]
          · have h8 : rx_up s2 8 r (nI 1) 8 r2 = nI 1 := h8
            rw [up_o e] at h8
            have := hI2.iw r2 hr2 h8
            show 0 < nt (s2 7 r2) ∧ (∀ i, i < nt (s2 7 r2) → SS s2 r2 i) ∧ WG (nt (s2 7 r2)) (zk s2 r2) (zn s2 r2) (zo s2 r2) (if r2 = r then V else W r2)
            rw [if_neg e]; exact this
        · have b := hI2.ib t ht
          have ne := rel t ht
          unfold IB at b ⊢
          refine ⟨b.1, by show rx_up s2 8 r (nI 1) 8 (nt (s2 16 t)) = nI 1; rw [up8 ne]; exact b.2.1, b.2.2.1, b.2.2.2.1, b.2.2.2.2.1, b.2.2.2.2.2.1, b.2.2.2.2.2.2.1, b.2.2.2.2.2.2.2.1, b.2.2.2.2.2.2.2.2.1, ?_⟩
          show gs (if nt (s2 16 t) = r then V else W (nt (s2 16 t))) _ _ ≤ 8
          rw [if_neg ne]; exact b.2.2.2.2.2.2.2.2.2
        · exact hI2.it t ht i hi
      · rw [if_neg z]
        have same : rx_up s2 8 r (nI 0) = s2 := up_id (by rw [s8]; rfl)
        refine ⟨K, W, _, _, ⟨p_rel hrep, by rw [same]; exact hI2⟩, by rw [same]; exact s30, ⟨by rw [same, s31]; exact Nat.le_refl _, by show cN c2 ≤ _; rw [w3]; omega, by show cZ c2 ≤ _; rw [w4]; omega⟩, Or.inl ⟨y, rfl, rfl, by rw [same]; exact s00⟩⟩
    · unfold D_H_release D_M_release
      simp only [e1, e2, b_ob, b_oj, b_10, if_false, b_oc h.fix.h2, h.fix.f0, b_oa h.fix.h3 hr (by decide), h.fix.recA r hr, b_oc (h.fix.hRec r hr), b_og hr (by decide), h.rr r hr, if_neg q, b_on h.fix.n, goes_10, b_00, if_true]
      exact simx_13 ⟨h, hI⟩ rfl rfl
  · unfold D_H_release D_M_release
    simp only [e1, e2, b_ob, b_oj, b_10, b_00, if_false, if_true, b_on h.fix.n, goes_0]
    exact simx_12 ⟨h, hI⟩ rfl rfl
end REL
