/-! from unit to unit -/
section CAR
variable {f : Nat} {W : Nat → Nat → Nat} {bd : Nat} {c : cx_S} {s : rx_S}
theorem Fq_u {u : Nat} {c2 : cx_S} (h : Fc u c c2) (hu : u < 6) : Fq c c2 := ⟨fun F p a b => h.1 F p (fun z => b ⟨z.1, by omega⟩) (fun z => a z.1), h.2⟩
theorem Fq_W2 {g h : Nat → Int32} : Fq c (W2 c g h) := ⟨fun F p a b => by funext j; exact W2_o (fun z => b ⟨z.1, by omega⟩), rfl⟩
theorem room {u l m : Nat} (hm : nt (s 3 u) = m) (hU1 : ∀ j, j < m → rg (s 4 (100 * u + j)) (nt (s 31 0))) (hU2 : ∀ j, j < m → ∀ k, k < m → s 4 (100 * u + j) = s 4 (100 * u + k) → j = k) (hl : l < nt (s 31 0)) (z : ∀ w, w < m → ¬ pL s u l w = true) : m < nt (s 31 0) := by
  have := php_f (nt (s 31 0)) (m + 1) (fun i => if i = m then l else nt (s 4 (100 * u + i))) (fun i hi => by
    show (if i = m then l else nt (s 4 (100 * u + i))) < nt (s 31 0)
    by_cases e : i = m
    · rw [if_pos e]; exact hl
    · rw [if_neg e]; exact (hU1 i (by omega)).lt) (fun i hi j hj e => by
    have e : (if i = m then l else nt (s 4 (100 * u + i))) = if j = m then l else nt (s 4 (100 * u + j)) := e
    by_cases e1 : i = m
    · rw [if_pos e1] at e
      by_cases e2 : j = m
      · omega
      · rw [if_neg e2] at e
        exact absurd (pL_iff.mpr (by rw [e]; exact (hU1 j (by omega)).eq)) (z j (by omega))
    · rw [if_neg e1] at e
      by_cases e2 : j = m
      · rw [if_pos e2] at e
        exact absurd (pL_iff.mpr (by rw [← e]; exact (hU1 i (by omega)).eq)) (z i (by omega))
      · rw [if_neg e2] at e
        exact hU2 i (by omega) j (by omega) (by rw [(hU1 i (by omega)).eq, (hU1 j (by omega)).eq, e]))
  omega
theorem add_com {u l a m p : Nat} {y : Int32} {s2 : rx_S} (hu : u < 6) (hm : s 3 u = nI m) (hm1 : m ≤ 100) (hp : p < 100 * u ∨ 100 * u + 100 ≤ p) (hnew : (∀ w, w < m → ¬ pL s u l w = true) → m < 100) (hf : 2 ^ 31 ≤ f) (h : D_M_add f (nI u) (nI l) (nI a) (rx_up s 5 p y) = some (0, s2)) :
    ∃ s3, D_M_add f (nI u) (nI l) (nI a) s = some (0, s3) ∧ rx_up s3 5 p y = s2 ∧ s3 5 p = s 5 p ∧ s3 38 = s 38 := by
  unfold D_M_add at h ⊢
  have eL : pL (rx_up s 5 p y) u l = pL s u l := rfl
  have hm' : rx_up s 5 p y 3 u = nI m := hm
  rcases least_F (pL s u l) m with z | ⟨j, z1, z2, z3⟩
  · have m99 := hnew z
    rw [(add_3M (s := rx_up s 5 p y) (l := l) hu hm' hm1 m 0 f (by omega) (by omega)).1 (fun w _ hw => by rw [eL]; exact z w hw), b_og hu (by decide), b_oj, hm', if_pos rfl, pk_mul, nI_add, b_og (show 100 * u + m < 600 by omega) (by decide)] at h
    rw [show rx_up (rx_up (rx_up s 5 p y) 4 (100 * u + m) (nI l)) 5 (100 * u + m) (nI 0) 3 u = nI m from hm, nI_add] at h
    dsimp only at h
    rw [b_og (show 100 * u + m < 600 by omega) (by decide), show ∀ y2, rx_up (rx_up (rx_up (rx_up s 5 p y) 4 (100 * u + m) (nI l)) 5 (100 * u + m) (nI 0)) 3 u y2 5 (100 * u + m) = nI 0 from fun y2 => by
      show rx_up (rx_up (rx_up s 5 p y) 4 (100 * u + m) (nI l)) 5 (100 * u + m) (nI 0) 5 (100 * u + m) = nI 0
      exact up_s, nI_add, Nat.zero_add, up_5] at h
    rw [(add_3M hu hm hm1 m 0 f (by omega) (by omega)).1 (fun w _ hw => z w hw), b_og hu (by decide), b_oj, hm, if_pos rfl, pk_mul, nI_add, b_og (show 100 * u + m < 600 by omega) (by decide)]
    rw [show rx_up (rx_up s 4 (100 * u + m) (nI l)) 5 (100 * u + m) (nI 0) 3 u = nI m from hm, nI_add]
    dsimp only
    rw [b_og (show 100 * u + m < 600 by omega) (by decide), show ∀ y, rx_up (rx_up (rx_up s 4 (100 * u + m) (nI l)) 5 (100 * u + m) (nI 0)) 3 u y 5 (100 * u + m) = nI 0 from fun y => by
      show rx_up (rx_up s 4 (100 * u + m) (nI l)) 5 (100 * u + m) (nI 0) 5 (100 * u + m) = nI 0
      exact up_s, nI_add, Nat.zero_add, up_5]
    refine ⟨_, rfl, ?_, ?_, rfl⟩
    · have := (Prod.mk.inj (Option.some.inj h)).2
      rw [← this]
      funext k j
      by_cases e5 : k = 5
      · subst e5
        show upd (upd (s 5) (100 * u + m) (nI a)) p y j = upd (upd (s 5) p y) (100 * u + m) (nI a) j
        by_cases e : j = p
        · rw [e, upd_s, upd_o (by omega), upd_s]
        · rw [upd_o e]
          by_cases e2 : j = 100 * u + m
          · rw [e2, upd_s, upd_s]
          · rw [upd_o e2, upd_o e2, upd_o e]
      · rw [up_k e5]
        by_cases e3 : k = 3
        · subst e3
          by_cases e : j = u
          · rw [e, up_s, up_s]
          · rw [up_o e, up_o e]; rfl
        · rw [up_k e3, up_k e3, up_k e5, up_k e5]
          by_cases e4 : k = 4
          · subst e4
            by_cases e : j = 100 * u + m
            · rw [e, up_s, up_s]
            · rw [up_o e, up_o e]; rfl
          · rw [up_k e4, up_k e4, up_k e5]
    · show rx_up (rx_up s 4 (100 * u + m) (nI l)) 5 (100 * u + m) (nI a) 5 p = _
      rw [up_o (by omega)]; rfl
  · rw [(add_3M (s := rx_up s 5 p y) (l := l) hu hm' hm1 m 0 f (by omega) (by omega)).2 j (Nat.zero_le _) z1 (by rw [eL]; exact z2) (fun w _ hw => by rw [eL]; exact z3 w hw), b_og hu (by decide), b_oj, hm', if_neg (by rw [nI_eq (by omega) (by omega)]; omega), pk_mul, nI_add] at h
    dsimp only at h
    rw [b_og (show 100 * u + j < 600 by omega) (by decide), up_o (show 100 * u + j ≠ p by omega)] at h
    rw [(add_3M hu hm hm1 m 0 f (by omega) (by omega)).2 j (Nat.zero_le _) z1 z2 (fun w _ hw => z3 w hw), b_og hu (by decide), b_oj, hm, if_neg (by rw [nI_eq (by omega) (by omega)]; omega), pk_mul, nI_add]
    dsimp only
    rw [b_og (show 100 * u + j < 600 by omega) (by decide)]
    refine ⟨_, rfl, ?_, up_o (by omega), rfl⟩
    have := (Prod.mk.inj (Option.some.inj h)).2
    rw [← this]
    funext k i
    by_cases e5 : k = 5
    · subst e5
      by_cases e : i = p
      · rw [e, up_s, up_o (by omega), up_s]
      · rw [up_o e]
        by_cases e2 : i = 100 * u + j
        · rw [e2, up_s, up_s]
        · rw [up_o e2, up_o e2, up_o e]
    · rw [up_k e5, up_k e5, up_k e5, up_k e5]
theorem give_both (hf : 2 ^ 31 ≤ f) {u v m : Nat} {s0 : rx_S} {c0 : cx_S} {sN : Nat → Nat} {k106 : cx_S → Option (Int32 × cx_S)} {k245 : rx_S → Option (Int32 × rx_S)} (hu : u < 6) (hv : v < 6) (huv : u ≠ v) (hm1 : m ≤ 100) (h31 : nt (s0 31 0) ≤ 100) (hs38 : ∀ j, j < m → s0 38 j = nI (sN j)) (hc18 : ∀ j, j < m → cI c0 400 18 j = nI (sN j)) (hsN : gs (fun v => v) sN m ≤ 1010) (hl4 : ∀ j, j < m → rg (s0 4 (100 * u + j)) (nt (s0 31 0))) (ha5 : ∀ j, j < m → s0 5 (100 * u + j) = nI (nt (s0 5 (100 * u + j)))) (hT : tU s0 v < 2 ^ 30) :
    ∀ d i n1 n2 c1 s1, i + d = m → d < n1 → d < n2 → CU c1 s1 → (∀ w, w < 6 → nt (s1 3 w) ≤ 100) → (∀ k, k ≠ 3 → k ≠ 4 → k ≠ 5 → s1 k = s0 k) → (∀ w, w ≠ u → w ≠ v → s1 3 w = s0 3 w ∧ ∀ j, j < 100 → s1 4 (100 * w + j) = s0 4 (100 * w + j) ∧ s1 5 (100 * w + j) = s0 5 (100 * w + j)) → s1 3 u = nI m → (∀ j, j < m → s1 4 (100 * u + j) = s0 4 (100 * u + j)) → (∀ j, j < i → s1 5 (100 * u + j) = nI (nt (s0 5 (100 * u + j))) - nI (sN j)) → (∀ j, i ≤ j → j < m → s1 5 (100 * u + j) = s0 5 (100 * u + j)) →
      IU s1 v → rg (s1 3 v) 101 → tU s1 v = tU s0 v + gs (fun v => v) sN i → (∀ j, cI c1 400 18 j = cI c0 400 18 j) → Fq c0 c1 →
    ∃ c2 s2, D_V_transfer_56 f 17 (some (22 + 3 * u)) (some (22 + 3 * v)) k106 n1 (nI i) c1 = k106 c2 ∧ D_M_carry_172 f (nI u) (nI v) k245 n2 (nI i) s1 = k245 s2 ∧ CU c2 s2 ∧ (∀ w, w < 6 → nt (s2 3 w) ≤ 100) ∧ (∀ k, k ≠ 3 → k ≠ 4 → k ≠ 5 → s2 k = s0 k) ∧ (∀ w, w ≠ u → w ≠ v → s2 3 w = s0 3 w ∧ ∀ j, j < 100 → s2 4 (100 * w + j) = s0 4 (100 * w + j) ∧ s2 5 (100 * w + j) = s0 5 (100 * w + j)) ∧ s2 3 u = nI m ∧ (∀ j, j < m → s2 4 (100 * u + j) = s0 4 (100 * u + j)) ∧ (∀ j, j < m → s2 5 (100 * u + j) = nI (nt (s0 5 (100 * u + j))) - nI (sN j)) ∧ IU s2 v ∧ rg (s2 3 v) 101 ∧ tU s2 v = tU s0 v + gs (fun v => v) sN m ∧ Fq c0 c2 := by
  intro d
  induction d with
  | zero =>
    intro i n1 n2 c1 s1 hi hn1 hn2 h q1 q2 q3 q4 q5 q6 q7 q8 q9 q10 q11 q12
    obtain ⟨n1, rfl⟩ : ∃ k', n1 = k' + 1 := ⟨n1 - 1, by omega⟩
    obtain ⟨n2, rfl⟩ : ∃ k', n2 = k' + 1 := ⟨n2 - 1, by omega⟩
    have e : i = m := by omega
    subst e
    exact ⟨c1, s1, by rw [D_V_transfer_56, b_oc (h.fix.hUn u hu), h.uh u hu, q4, if_pos (Int32.le_refl _)], by rw [D_M_carry_172, b_og hu (by decide), q4, if_pos (Int32.le_refl _)], h, q1, q2, q3, q4, q5, q6, q8, q9, q10, q12⟩
  | succ d ih =>
    intro i n1 n2 c1 s1 hi hn1 hn2 h q1 q2 q3 q4 q5 q6 q7 q8 q9 q10 q11 q12
    obtain ⟨n1, rfl⟩ : ∃ k', n1 = k' + 1 := ⟨n1 - 1, by omega⟩
    obtain ⟨n2, rfl⟩ : ∃ k', n2 = k' + 1 := ⟨n2 - 1, by omega⟩
    have him : i < m := by omega
    have em : nt (s1 3 u) = m := by rw [q4, nt_nI (by omega)]
    have sNi := gs_mem (g := fun v => v) (x := sN) him
    have x5 : s1 5 (100 * u + i) = nI (nt (s0 5 (100 * u + i))) := (q7 i (Nat.le_refl _) him).trans (ha5 i him)
    have c5 : cI c1 400 (24 + 3 * u) i = nI (nt (s0 5 (100 * u + i))) := (h.ua u hu i (by omega)).trans x5
    have c18 : cI c1 400 18 i = nI (sN i) := (q11 i).trans (hc18 i him)
    have l0 := hl4 i him
    have x4 : s1 4 (100 * u + i) = nI (nt (s0 4 (100 * u + i))) := (q5 i him).trans l0.eq
    have c4 : cI c1 400 (23 + 3 * u) i = nI (nt (s0 4 (100 * u + i))) := (h.ul u hu i (by omega)).trans x4
    have x38 : s1 38 i = nI (sN i) := by rw [q2 38 (by decide) (by decide) (by decide)]; exact hs38 i him
    generalize ha : nt (s0 5 (100 * u + i)) = a at *
    generalize hl : nt (s0 4 (100 * u + i)) = l at *
    have h1 : CU (cx_ui c1 400 (24 + 3 * u) i (nI a - nI (sN i))) (rx_up s1 5 (100 * u + i) (nI a - nI (sN i))) := u_amt h q1 hu (by omega)
    rw [D_V_transfer_56, b_oc (h.fix.hUn u hu), h.uh u hu, q4, if_neg (nI_ge him (by omega)), h.fix.amts u hu, b_oa (h.fix.hAmts u hu) (by omega) (by decide), b_oc h.fix.h17, h.fix.f80, b_oa h.fix.h18 (by omega) (by decide), c5, c18, h1.fix.lots u hu, b_oa (h.fix.hLots u hu) (by omega) (by decide), h1.fix.f80, b_oa h.fix.h18 (by omega) (by decide), b_oc (h.fix.hUn v hv)]
    rw [show cI (cx_ui c1 400 (24 + 3 * u) i (nI a - nI (sN i))) 400 (23 + 3 * u) i = nI l by rw [ui_o (by omega)]; exact c4, show cI (cx_ui c1 400 (24 + 3 * u) i (nI a - nI (sN i))) 400 18 i = nI (sN i) by rw [ui_o (by omega)]; exact c18, nI_add]
    rw [D_M_carry_172, b_og hu (by decide), q4, if_neg (nI_ge him (by omega)), b_og (show i < 100 by omega) (by decide), b_oj, x38, nI_add]
    have fu1 : Fu u s1 (rx_up s1 5 (100 * u + i) (nI a - nI (sN i))) := ⟨fun k _ _ k5 => by funext j; rw [up_k k5], fun _ _ => rfl, fun j hj => ⟨rfl, up_o (by omega)⟩⟩
    have v3 := q1 v hv
    obtain ⟨iv1, tv1⟩ := IU_o fu1 (fun z => huv z.symm) q8 v3
    have gE : gs (fun v => v) sN (i + 1) = gs (fun v => v) sN i + sN i := rfl
    have up5 : ∀ j, j ≠ i → rx_up s1 5 (100 * u + i) (nI a - nI (sN i)) 5 (100 * u + j) = s1 5 (100 * u + j) := fun j e => up_o (by omega)
    by_cases z : sN i = 0
    · have same : rx_up s1 5 (100 * u + i) (nI a - nI (sN i)) = s1 := up_id (by rw [x5, z]; exact (Int32.sub_zero _).symm)
      rw [same] at h1
      rw [show D_U_add f (22 + 3 * v) (nI l) (nI (sN i)) (cx_ui c1 400 (24 + 3 * u) i (nI a - nI (sN i))) = some (0, cx_ui c1 400 (24 + 3 * u) i (nI a - nI (sN i))) by rw [D_U_add, z, if_neg (by decide)], b_ob, if_pos (by rw [z]; decide)]
      refine ih (i + 1) n1 n2 _ s1 (by omega) (by omega) (by omega) h1 q1 q2 q3 q4 q5 (fun j hj => ?_) (fun j hj hj2 => q7 j (by omega) hj2) q8 q9 (by rw [q10, gE, z, Nat.add_zero]) (fun j => by rw [ui_o (by omega)]; exact q11 j) (q12.tr (Fq_u (Fc.ui (Or.inl ⟨rfl, Or.inr rfl⟩)) hu))
      by_cases e : j = i
      · rw [e, x5, ha, z]; exact (Int32.sub_zero _).symm
      · exact q6 j (by omega)
    · have ll : l < nt (rx_up s1 5 (100 * u + i) (nI a - nI (sN i)) 31 0) := by
        show l < nt (s1 31 0)
        rw [q2 31 (by decide) (by decide) (by decide)]; exact hl ▸ l0.lt
      have n31 : nt (s1 31 0) ≤ 100 := by rw [q2 31 (by decide) (by decide) (by decide)]; exact h31
      have sm1 : gs (fun v => v) sN i ≤ gs (fun v => v) sN m := by
        have : ∀ e, gs (fun v => v) sN i ≤ gs (fun v => v) sN (i + e) := by
          intro e
          induction e with
          | zero => exact Nat.le_refl _
          | succ e ih2 => rw [← Nat.add_assoc, gs]; omega
        have := this (m - i)
        rw [show i + (m - i) = m by omega] at this; exact this
      have bnd : ∀ j, j < nt (s1 3 v) → nt (s1 5 (100 * v + j)) + sN i < 2 ^ 31 := fun j hj => by
        have w := gs_mem (g := fun v => v) (x := fun j => nt (s1 5 (100 * v + j))) hj
        have w2 : tU s1 v = gs (fun v => v) (fun j => nt (s1 5 (100 * v + j))) (nt (s1 3 v)) := rfl
        have w3 : nt (s1 5 (100 * v + j)) ≤ gs (fun v => v) (fun j => nt (s1 5 (100 * v + j))) (nt (s1 3 v)) := w
        omega
      have up5v : ∀ j, j < 100 → rx_up s1 5 (100 * u + i) (nI a - nI (sN i)) 5 (100 * v + j) = s1 5 (100 * v + j) := fun j hj => up_o (by omega)
      obtain ⟨c2, s2, w1, w2, w3, w4, w5, w6, w7, w8⟩ := add_both (f := f) (l := l) (a := sN i) (m := nt (s1 3 v)) (s := rx_up s1 5 (100 * u + i) (nI a - nI (sN i))) h1 q1 hf hv q9.eq (by omega) iv1 n31 ll (by omega) (fun j hj => by rw [up5v j (by omega)]; exact bnd j hj) (by omega)
      obtain ⟨s3, y1, y2, y3, y4⟩ := add_com (f := f) (s := s1) (m := nt (s1 3 v)) hv q9.eq (by omega) (by omega) (fun z2 => by
        have := room (s := s1) rfl q8.1 q8.2.1 ll z2
        omega) hf w2
      rw [w1, b_ob, if_neg (show ¬ nI (sN i) ≤ 0 from nI_ge (a := 0) (by omega) (by omega)), pk_mul, nI_add, b_og (show 100 * u + i < 600 by omega) (by decide), x4, y1, b_ob, y3, y4, x5, x38, y2]
      have e3u : s2 3 u = nI m := by rw [w4.2.1 u huv]; exact q4
      have e4u : ∀ j, j < m → s2 4 (100 * u + j) = s1 4 (100 * u + j) := fun j hj => (w4.2.2 (100 * u + j) (by omega)).1
      have e5u : ∀ j, j < m → s2 5 (100 * u + j) = rx_up s1 5 (100 * u + i) (nI a - nI (sN i)) 5 (100 * u + j) := fun j hj => (w4.2.2 (100 * u + j) (by omega)).2
      refine ih (i + 1) n1 n2 c2 s2 (by omega) (by omega) (by omega) w3 (fun w hw => ?_) (fun k k3 k4 k5 => ?_) (fun w wu wv => ?_) e3u (fun j hj => by rw [e4u j hj]; exact q5 j hj) (fun j hj => ?_) (fun j hj hj2 => ?_) w6 w8 ?_ (fun j => ?_) ?_
      · by_cases e : w = v
        · rw [e]; have := w8.lt; omega
        · rw [w4.2.1 w e]; exact q1 w hw
      · rw [w4.1 k k3 k4 k5]; funext j; rw [up_k k5, q2 k k3 k4 k5]
      · obtain ⟨a1, a2⟩ := q3 w wu wv
        refine ⟨by rw [w4.2.1 w wv]; exact a1, fun j hj => ?_⟩
        obtain ⟨b1, b2⟩ := w4.2.2 (100 * w + j) (by omega)
        refine ⟨b1.trans (a2 j hj).1, b2.trans ?_⟩
        rw [up_o (by omega)]; exact (a2 j hj).2
      · rw [e5u j (by omega)]
        by_cases e : j = i
        · rw [e, up_s, ha]
        · rw [up5 j e]; exact q6 j (by omega)
      · rw [e5u j hj2, up5 j (by omega)]; exact q7 j (by omega) hj2
      · rw [w7, tv1, q10, gE, Nat.add_assoc]
      · rw [w5.1 400 18 (by omega) (by omega), ui_o (by omega)]; exact q11 j
      · exact q12.tr ((Fq_u (Fc.ui (Or.inl ⟨rfl, Or.inr rfl⟩)) hu).tr (Fq_u w5 hv))
theorem tidy_both {u m : Nat} {s1 : rx_S} {c1 : cx_S} {a b : Nat → Nat} {k54 : Int32 → cx_S → Option (Int32 × cx_S)} {k81 : Int32 → rx_S → Option (Int32 × rx_S)} (hu : u < 6) (hm1 : m ≤ 100) (ha : ∀ j, j < m → s1 5 (100 * u + j) = nI (a j) - nI (b j) ∧ a j < 2 ^ 30 ∧ b j < 2 ^ 30) (h4 : ∀ j, j < m → rg (s1 4 (100 * u + j)) (nt (s1 31 0))) (hd : ∀ j, j < m → ∀ k, k < m → s1 4 (100 * u + j) = s1 4 (100 * u + k) → j = k) :
    ∀ d i w n1 n2 c2 s2, i + d = m → w ≤ i → d < n1 → d < n2 → CU c2 s2 → (∀ w, w < 6 → nt (s2 3 w) ≤ 100) → Fu u s1 s2 → Fc u c1 c2 → s2 3 u = nI m → (∀ j, i ≤ j → j < m → s2 4 (100 * u + j) = s1 4 (100 * u + j) ∧ s2 5 (100 * u + j) = s1 5 (100 * u + j)) → (∀ j, j < w → ∀ k, k < w → s2 4 (100 * u + j) = s2 4 (100 * u + k) → j = k) → (∀ j, j < w → ∀ k, i ≤ k → k < m → s2 4 (100 * u + j) ≠ s1 4 (100 * u + k)) → (∀ j, j < w → rg (s2 4 (100 * u + j)) (nt (s1 31 0)) ∧ rg (s2 5 (100 * u + j)) (2 ^ 31) ∧ 1 ≤ nt (s2 5 (100 * u + j))) → gs (fun v => v) (fun j => nt (s2 5 (100 * u + j))) w ≤ gs (fun v => v) a i →
    ∃ c3 s3 w2, w2 ≤ m ∧ D_U_dropEmptied_4 f (22 + 3 * u) k54 n1 (nI w) (nI i) c2 = k54 (nI w2) c3 ∧ D_M_tidy_4 f (nI u) k81 n2 (nI w) (nI i) s2 = k81 (nI w2) s3 ∧ CU c3 s3 ∧ Fu u s1 s3 ∧ Fc u c1 c3 ∧ s3 3 u = nI m ∧ (∀ j, j < w2 → ∀ k, k < w2 → s3 4 (100 * u + j) = s3 4 (100 * u + k) → j = k) ∧ (∀ j, j < w2 → rg (s3 4 (100 * u + j)) (nt (s1 31 0)) ∧ rg (s3 5 (100 * u + j)) (2 ^ 31) ∧ 1 ≤ nt (s3 5 (100 * u + j))) ∧ gs (fun v => v) (fun j => nt (s3 5 (100 * u + j))) w2 ≤ gs (fun v => v) a m := by
  intro d
  induction d with
  | zero =>
    intro i w n1 n2 c2 s2 hi hw hn1 hn2 h q1 q2 q3 q4 q5 q6 q7 q8 q9
    obtain ⟨n1, rfl⟩ : ∃ k', n1 = k' + 1 := ⟨n1 - 1, by omega⟩
    obtain ⟨n2, rfl⟩ : ∃ k', n2 = k' + 1 := ⟨n2 - 1, by omega⟩
    have e : i = m := by omega
    subst e
    exact ⟨c2, s2, w, hw, by rw [D_U_dropEmptied_4, b_oc (h.fix.hUn u hu), h.uh u hu, q4, if_pos (Int32.le_refl _)], by rw [D_M_tidy_4, b_og hu (by decide), q4, if_pos (Int32.le_refl _)], h, q2, q3, q4, q6, q8, q9⟩
  | succ d ih =>
    intro i w n1 n2 c2 s2 hi hw hn1 hn2 h q1 q2 q3 q4 q5 q6 q7 q8 q9
    obtain ⟨n1, rfl⟩ : ∃ k', n1 = k' + 1 := ⟨n1 - 1, by omega⟩
    obtain ⟨n2, rfl⟩ : ∃ k', n2 = k' + 1 := ⟨n2 - 1, by omega⟩
    have him : i < m := by omega
    have em : nt (s2 3 u) = m := by rw [q4, nt_nI (by omega)]
    obtain ⟨x4, x5⟩ := q5 i (Nat.le_refl _) him
    obtain ⟨a1, a2, a3⟩ := ha i him
    have c5 : cI c2 400 (24 + 3 * u) i = s2 5 (100 * u + i) := h.ua u hu i (by omega)
    have c4 : cI c2 400 (23 + 3 * u) i = s2 4 (100 * u + i) := h.ul u hu i (by omega)
    have gE : gs (fun v => v) a (i + 1) = gs (fun v => v) a i + a i := rfl
    rw [D_U_dropEmptied_4, b_oc (h.fix.hUn u hu), h.uh u hu, q4, if_neg (nI_ge him (by omega)), h.fix.amts u hu, b_oa (h.fix.hAmts u hu) (by omega) (by decide), b_oj, c5]
    rw [D_M_tidy_4, b_og hu (by decide), q4, if_neg (nI_ge him (by omega)), pk_mul, nI_add (100 * u) i, b_og (show 100 * u + i < 600 by omega) (by decide), b_oj, nI_add i 1]
    by_cases z : s2 5 (100 * u + i) ≤ 0
    · rw [if_pos z, if_pos z]
      exact ih (i + 1) w n1 n2 c2 s2 (by omega) (by omega) (by omega) (by omega) h q1 q2 q3 q4 (fun j h1 h2 => q5 j (by omega) h2) q6 (fun j hj k h1 h2 => q7 j hj k (by omega) h2) q8 (by omega)
    · have pos : b i < a i := by
        rcases Nat.lt_or_ge (b i) (a i) with y | y
        · exact y
        · refine absurd ?_ z
          rw [x5, a1, Int32.le_iff_toInt_le, pk_sub_toInt a2 a3]
          show (a i : Int) - (b i : Int) ≤ 0
          omega
      have v5 : s2 5 (100 * u + i) = nI (a i - b i) := by rw [x5, a1, nI_sub (by omega)]
      have h1 : CU (cx_ui c2 400 (23 + 3 * u) w (s2 4 (100 * u + i))) (rx_up s2 4 (100 * u + w) (s2 4 (100 * u + i))) := u_lotin h q1 hu (by omega)
      have h2 : CU (cx_ui (cx_ui c2 400 (23 + 3 * u) w (s2 4 (100 * u + i))) 400 (24 + 3 * u) w (s2 5 (100 * u + i))) (rx_up (rx_up s2 4 (100 * u + w) (s2 4 (100 * u + i))) 5 (100 * u + w) (s2 5 (100 * u + i))) := u_amt h1 q1 hu (by omega)
      rw [if_neg z, if_neg z, h.fix.lots u hu, b_oa (h.fix.hLots u hu) (by omega) (by decide), b_oa (h.fix.hLots u hu) (by omega) (by decide), c4, h1.fix.amts u hu, b_oa (h.fix.hAmts u hu) (by omega) (by decide), b_oa (h.fix.hAmts u hu) (by omega) (by decide), show cI (cx_ui c2 400 (23 + 3 * u) w (s2 4 (100 * u + i))) 400 (24 + 3 * u) i = s2 5 (100 * u + i) by rw [ui_o (by omega)]; exact c5]
      rw [nI_add w 1, nI_add (100 * u) w, b_og (show 100 * u + w < 600 by omega) (by decide), show rx_up s2 4 (100 * u + w) (s2 4 (100 * u + i)) 5 (100 * u + i) = s2 5 (100 * u + i) from rfl]
      have r4 : ∀ j, rx_up (rx_up s2 4 (100 * u + w) (s2 4 (100 * u + i))) 5 (100 * u + w) (s2 5 (100 * u + i)) 4 (100 * u + j) = if j = w then s2 4 (100 * u + i) else s2 4 (100 * u + j) := fun j => by
        show rx_up s2 4 (100 * u + w) (s2 4 (100 * u + i)) 4 (100 * u + j) = _
        by_cases e : j = w
        · rw [e, up_s, if_pos rfl]
        · rw [up_o (by omega), if_neg e]
      have r5 : ∀ j, rx_up (rx_up s2 4 (100 * u + w) (s2 4 (100 * u + i))) 5 (100 * u + w) (s2 5 (100 * u + i)) 5 (100 * u + j) = if j = w then s2 5 (100 * u + i) else s2 5 (100 * u + j) := fun j => by
        by_cases e : j = w
        · rw [e, up_s, if_pos rfl]
        · rw [up_o (by omega), if_neg e]; rfl
      refine ih (i + 1) (w + 1) n1 n2 _ _ (by omega) (by omega) (by omega) (by omega) h2 q1 (q2.tr ⟨fun k _ k4 k5 => by funext j; rw [up_k k5, up_k k4], fun _ _ => rfl, fun j hj => ⟨?_, ?_⟩⟩) (q3.tr ((Fc.ui (Or.inl ⟨rfl, Or.inl rfl⟩)).tr (Fc.ui (Or.inl ⟨rfl, Or.inr rfl⟩)))) q4 (fun j h1 h2 => ?_) (fun j hj k hk e => ?_) (fun j hj k h1 h2 => ?_) (fun j hj => ?_) ?_
      · show rx_up s2 4 (100 * u + w) (s2 4 (100 * u + i)) 4 j = _
        exact up_o (by omega)
      · rw [up_o (by omega)]; rfl
      · rw [r4, r5, if_neg (by omega), if_neg (by omega)]; exact q5 j (by omega) h2
      · rw [r4, r4] at e
        by_cases e1 : j = w
        · rw [if_pos e1, x4] at e
          by_cases e2 : k = w
          · omega
          · rw [if_neg e2] at e; exact absurd e.symm (q7 k (by omega) i (Nat.le_refl _) him)
        · rw [if_neg e1] at e
          by_cases e2 : k = w
          · rw [if_pos e2, x4] at e; exact absurd e (q7 j (by omega) i (Nat.le_refl _) him)
          · rw [if_neg e2] at e; exact q6 j (by omega) k (by omega) e
      · rw [r4]
        by_cases e1 : j = w
        · rw [if_pos e1, x4]
          intro e; have := hd i him k h2 e; omega
        · rw [if_neg e1]; exact q7 j (by omega) k (by omega) h2
      · rw [r4, r5]
        by_cases e1 : j = w
        · rw [if_pos e1, if_pos e1, x4, v5, nt_nI (by omega)]
          exact ⟨h4 i him, ⟨by rw [nt_nI (by omega)], by rw [nt_nI (by omega)]; omega⟩, by omega⟩
        · rw [if_neg e1, if_neg e1]; exact q8 j (by omega)
      · have g1 : gs (fun v => v) (fun j => nt (rx_up (rx_up s2 4 (100 * u + w) (s2 4 (100 * u + i))) 5 (100 * u + w) (s2 5 (100 * u + i)) 5 (100 * u + j))) w = gs (fun v => v) (fun j => nt (s2 5 (100 * u + j))) w := gs_congr (fun k hk => by rw [r5, if_neg (by omega)])
        have g2 : nt (s2 5 (100 * u + i)) = a i - b i := by rw [v5, nt_nI (by omega)]
        rw [gs, gE, r5, if_pos rfl, g1, g2]
        omega
theorem carry_both (h : CU c s) (hI : ∀ u, u < 6 → IU s u) (h3 : RN 6 101 (s 3)) (h31 : nt (s 31 0) ≤ 100) (hf : 2 ^ 31 ≤ f) {u v A : Nat} (hu : u < 6) (hv : v < 6) (huv : u ≠ v) (hA1 : 1 ≤ A) (hA : A ≤ 10) (hAT : A ≤ tU s u) (hTu : tU s u < 2 ^ 27) (hTv : tU s v < 2 ^ 27) :
    ∃ c2 s2, D_V_transfer f 17 (some (22 + 3 * u)) (some (22 + 3 * v)) (nI A) c = some (0, c2) ∧ D_M_carry f (nI u) (nI v) (nI A) s = some (0, s2) ∧ CU c2 s2 ∧ Fq c c2 ∧ (∀ k, k ≠ 3 → k ≠ 4 → k ≠ 5 → k ≠ 38 → k ≠ 39 → s2 k = s k) ∧ RN 6 101 (s2 3) ∧ (∀ w, w < 6 → IU s2 w) ∧ (∀ w, w < 6 → w ≠ u → w ≠ v → tU s2 w = tU s w) ∧ tU s2 u ≤ tU s u ∧ tU s2 v ≤ tU s v + 1010 := by
  have g3 := h3 u hu
  have m101 := g3.lt
  have hm := g3.eq
  generalize hmm : nt (s 3 u) = m at *
  have tE : tU s u = gs (fun v => v) (fun j => nt (s 5 (100 * u + j))) m := by unfold tU; rw [hmm]
  obtain ⟨U1, U2, U3⟩ := hI u hu
  rw [hmm] at U1 U2 U3
  have m0 : 1 ≤ m := by
    rcases Nat.eq_zero_or_pos m with z | z
    · rw [z] at tE; have : tU s u = 0 := tE; omega
    · exact z
  have am : ∀ j, j < m → nt (s 5 (100 * u + j)) ≤ tU s u := fun j hj => by
    rw [tE]; exact gs_mem (g := fun v => v) (x := fun j => nt (s 5 (100 * u + j))) hj
  have sT : ∀ n, n ≤ m → sm (s 5) (100 * u) n = nI (gs (fun v => v) (fun j => nt (s 5 (100 * u + j))) n) := by
    intro n
    induction n with
    | zero => intro _; rfl
    | succ n ih =>
      intro hn
      rw [sm, ih (by omega), gs, ← nI_add]
      congr 1
      exact (U3 n (by omega)).1.eq
  have totC : D_U_total f (22 + 3 * u) c = some (nI (tU s u), c) := by
    rw [u_totC h hf hu (h3 u hu), hmm, sT m (Nat.le_refl _), tE]
  have totM : D_M_total f (nI u) s = some (nI (tU s u), s) := by
    rw [b_totM hf hu (h3 u hu), hmm, sT m (Nat.le_refl _), tE]
  have h3' : ∀ w, w < 6 → nt (s 3 w) ≤ 100 := fun w hw => by have := (h3 w hw).lt; omega
  obtain ⟨g, hh, g2, h2, sN, w1, w2, w3⟩ := split_both (f := f) (v := v) (A := A) (T := tU s u) (kk := (fun (v6 : Int32) (s7 : rx_S) => D_M_carry_90 f (nI u) (nI v) (fun  (s16 : rx_S) => D_M_carry_172 f (nI u) (nI v) (fun  (s24 : rx_S) => ob (D_M_tidy f (nI u) s24) fun x25 s26 => some (0, s26)) f (nI 0) s16) f v6 s7)) h hu hm (by omega) hA hTu (by omega) (fun j hj => ⟨(U3 j hj).1.eq, am j hj⟩) m 0 f f (cI c 400 18) (cI c 400 19) (s 38) (s 39) (fun _ => 0) (by omega) (by omega) (by omega) (fun j hj => by omega)
  rw [W2_id, gs] at w1
  rw [V2_id, gs, show nI A - nI 0 = nI A from Int32.sub_zero _] at w2
  have G : gs (fun v => v) sN m ≤ 1000 := by
    have : ∀ n, n ≤ m → gs (fun v => v) sN n ≤ 10 * n := by
      intro n
      induction n with
      | zero => intro _; exact Nat.zero_le _
      | succ n ih =>
        intro hn
        have := ih (by omega)
        have := (w3 n (by omega)).2.2.2
        rw [gs]; omega
    have := this m (Nat.le_refl _)
    omega
  -- the lacking ones
  have lk : ∃ g' h' g2' h2' sN', D_V_transfer_32 f 17 (some (22 + 3 * u)) (some (22 + 3 * v)) (nI A - nI (gs (fun v => v) sN m)) (fun  (s12 : cx_S) => D_V_transfer_56 f 17 (some (22 + 3 * u)) (some (22 + 3 * v)) (fun  (s26 : cx_S) => oc 10 (some (22 + 3 * u)) s26 fun p27 => ob (D_U_dropEmptied f p27 s26) fun x28 s29 => some (0, s29)) f (nI 0) s12) f (nI 0) (W2 c g hh) = D_V_transfer_56 f 17 (some (22 + 3 * u)) (some (22 + 3 * v)) (fun  (s26 : cx_S) => oc 10 (some (22 + 3 * u)) s26 fun p27 => ob (D_U_dropEmptied f p27 s26) fun x28 s29 => some (0, s29)) f (nI 0) (W2 c g' h') ∧
      D_M_carry_90 f (nI u) (nI v) (fun  (s16 : rx_S) => D_M_carry_172 f (nI u) (nI v) (fun  (s24 : rx_S) => ob (D_M_tidy f (nI u) s24) fun x25 s26 => some (0, s26)) f (nI 0) s16) f (nI A - nI (gs (fun v => v) sN m)) (V2 s g2 h2) = D_M_carry_172 f (nI u) (nI v) (fun  (s24 : rx_S) => ob (D_M_tidy f (nI u) s24) fun x25 s26 => some (0, s26)) f (nI 0) (V2 s g2' h2') ∧ (∀ j, j < m → g' j = nI (sN' j) ∧ g2' j = g' j) ∧ gs (fun v => v) sN' m ≤ 1010 := by
    rcases Nat.lt_or_ge (gs (fun v => v) sN m) A with z | z
    · rw [nI_sub (by omega)]
      have := lack_both (f := f) (u := u) (v := v) (D := A - gs (fun v => v) sN m) (k53 := (fun  (s12 : cx_S) => D_V_transfer_56 f 17 (some (22 + 3 * u)) (some (22 + 3 * v)) (fun  (s26 : cx_S) => oc 10 (some (22 + 3 * u)) s26 fun p27 => ob (D_U_dropEmptied f p27 s26) fun x28 s29 => some (0, s29)) f (nI 0) s12)) (k169 := (fun  (s16 : rx_S) => D_M_carry_172 f (nI u) (nI v) (fun  (s24 : rx_S) => ob (D_M_tidy f (nI u) s24) fun x25 s26 => some (0, s26)) f (nI 0) s16)) h hf hu hm (by omega) m0 (by omega) (A - gs (fun v => v) sN m) 0 f f g hh g2 h2 sN (by omega) (by omega) (by omega) (fun j hj => ⟨(w3 j hj).1, (w3 j hj).2.1, (w3 j hj).2.2.1⟩) (by omega)
      exact this
    · have neg : nI A - nI (gs (fun v => v) sN m) ≤ 0 := by
        rw [Int32.le_iff_toInt_le, pk_sub_toInt (by omega) (by omega)]
        show (A : Int) - (gs (fun v => v) sN m : Int) ≤ 0
        omega
      obtain ⟨f, rfl⟩ : ∃ k', f = k' + 1 := ⟨f - 1, by omega⟩
      refine ⟨g, hh, g2, h2, sN, ?_, ?_, fun j hj => ⟨(w3 j hj).1, (w3 j hj).2.1⟩, by omega⟩
      · rw [D_V_transfer_32, if_pos (show _ ≤ nI 0 from neg)]
      · rw [D_M_carry_90, if_pos neg]
  obtain ⟨g', h', g2', h2', sN', y1, y2, y3, y4⟩ := lk
  have fV : ∀ k, k ≠ 38 → k ≠ 39 → V2 s g2' h2' k = s k := fun k a b => V2_o a b
  have V3 := fV 3 (by decide) (by decide)
  have V4 := fV 4 (by decide) (by decide)
  have V5 := fV 5 (by decide) (by decide)
  have V31 := fV 31 (by decide) (by decide)
  have tUV : ∀ w, tU (V2 s g2' h2') w = tU s w := fun w => by unfold tU; rw [V3, V5]
  have IUV : ∀ w, w < 6 → IU (V2 s g2' h2') w := fun w hw => by
    have := hI w hw
    unfold IU at this ⊢
    rw [V3, V4, V5, V31]; exact this
  obtain ⟨c3, s3, z1, z2, z3, z4, z5, z6, z7, z8, z9, z10, z11, z12, z13⟩ := give_both (f := f) (u := u) (v := v) (m := m) (s0 := V2 s g2' h2') (c0 := W2 c g' h') (sN := sN') (k106 := (fun  (s26 : cx_S) => oc 10 (some (22 + 3 * u)) s26 fun p27 => ob (D_U_dropEmptied f p27 s26) fun x28 s29 => some (0, s29))) (k245 := (fun  (s24 : rx_S) => ob (D_M_tidy f (nI u) s24) fun x25 s26 => some (0, s26))) hf hu hv huv (by omega) (by rw [V31]; exact h31) (fun j hj => (y3 j hj).2.trans (y3 j hj).1) (fun j hj => by rw [W2_a]; exact (y3 j hj).1) y4 (by rw [V4, V31]; exact U1) (by rw [V5]; exact fun j hj => (U3 j hj).1.eq) (by rw [tUV]; omega) m 0 f f _ _ (by omega) (by omega) (by omega) (CU_V2 (CU_W2 h)) (by rw [V3]; exact h3') (fun _ _ _ _ => rfl) (fun _ _ _ => ⟨rfl, fun _ _ => ⟨rfl, rfl⟩⟩) (by rw [V3]; exact hm) (fun _ _ => rfl) (fun j hj => by omega) (fun _ _ _ => rfl) (IUV v hv) (by rw [V3]; exact h3 v hv) rfl (fun _ => rfl) Fq.rfl
  have sg : ∀ j, j < m → sN' j ≤ 1010 := fun j hj => Nat.le_trans (gs_mem (g := fun v => v) (x := sN') hj) y4
  have z31 : s3 31 = s 31 := by rw [z5 31 (by decide) (by decide) (by decide), V31]
  obtain ⟨c4, s4, w, hw, t1, t2, t3, t4, t5, t6, t7, t8, t9⟩ := tidy_both (f := f) (c1 := c3) (a := fun j => nt (s 5 (100 * u + j))) (b := sN') (k54 := (fun (v15 : Int32) (s16 : cx_S) => oc 10 (some (22 + 3 * u)) s16 fun p17 => some (0, cx_ui s16 162 p17 0 v15))) (k81 := (fun (v7 : Int32) (s8 : rx_S) => og 6 (nI u) fun j9 => some (0, rx_up s8 3 j9 v7))) hu (show m ≤ 100 by omega) (fun j hj => ⟨by rw [z9 j hj, V5], by have := am j hj; omega, by have := sg j hj; omega⟩) (fun j hj => by rw [z8 j hj, V4, z31]; exact U1 j hj) (fun j hj k hk e => U2 j hj k hk (by rw [z8 j hj, z8 k hk, V4] at e; exact e)) m 0 0 f f c3 s3 (by omega) (by omega) (by omega) (by omega) z3 z4 Fu.rfl Fc.rfl z7 (fun _ _ _ => ⟨rfl, rfl⟩) (fun j hj => by omega) (fun j hj => by omega) (fun j hj => by omega) (Nat.zero_le _)
  have n4 : nt (s4 3 u) = m := by rw [t6, nt_nI (by omega)]
  have hp := u_held (u := u) (x := nI w) t3 (fun j hj => by
    rw [nt_nI (by omega)] at hj
    exact ⟨t3.ul u hu j (by omega), t3.ua u hu j (by omega)⟩)
  have e3 : rx_up s4 3 u (nI w) 3 u = nI w := up_s
  have n3 : nt (rx_up s4 3 u (nI w) 3 u) = w := by rw [e3, nt_nI (by omega)]
  have fu4 : Fu u s3 (rx_up s4 3 u (nI w)) := t4.tr ⟨fun k k3 _ _ => by funext j; rw [up_k k3], fun v e => up_o e, fun _ _ => ⟨rfl, rfl⟩⟩
  have i3v : ∀ x, x < 6 → x ≠ u → IU s3 x ∧ nt (s3 3 x) ≤ 100 ∧ rg (s3 3 x) 101 := fun x hx e => by
    by_cases e2 : x = v
    · rw [e2]; exact ⟨z10, z4 v hv, z11⟩
    · obtain ⟨a1, a2⟩ := z6 x e e2
      have r := h3 x hx
      refine ⟨?_, z4 x hx, by rw [a1, V3]; exact r⟩
      have q := IUV x hx
      have l100 : nt (V2 s g2' h2' 3 x) ≤ 100 := by rw [V3]; exact h3' x hx
      unfold IU at q ⊢
      rw [a1, z5 31 (by decide) (by decide) (by decide)]
      exact ⟨fun j hj => by rw [(a2 j (by omega)).1]; exact q.1 j hj, fun j hj k hk z => q.2.1 j hj k hk (by rw [← (a2 j (by omega)).1, ← (a2 k (by omega)).1]; exact z), fun j hj => by rw [(a2 j (by omega)).2]; exact q.2.2 j hj⟩
  refine ⟨cx_ui c4 162 (22 + 3 * u) 0 (nI w), rx_up s4 3 u (nI w), ?_, ?_, hp, ?_, fun k k3 k4 k5 k38 k39 => ?_, fun x hx => ?_, fun x hx => ?_, fun x hx xu xv => ?_, ?_, ?_⟩
  · unfold D_V_transfer
    rw [b_oc (h.fix.hUn u hu), totC, b_ob, b_oj, if_neg (show ¬ nI A ≤ 0 from nI_ge (a := 0) (by omega) (by omega)), if_pos (nI_le hAT (by omega)), b_oc h.fix.h17, D_V_splitByAmounts, w1, b_ob, y1, z1, b_oc (z3.fix.hUn u hu), D_U_dropEmptied, t1, b_oc (t3.fix.hUn u hu), b_ob]
  · unfold D_M_carry
    rw [totM, b_ob, w2, y2, z2, D_M_tidy, t2, b_og hu (by decide), b_ob]
  · exact Fq_W2.tr (z13.tr ((Fq_u t5 hu).tr (Fq_u (Fc.ui (Or.inr ⟨rfl, rfl⟩)) hu)))
  · rw [fu4.1 k k3 k4 k5, z5 k k3 k4 k5, fV k k38 k39]
  · by_cases e : x = u
    · rw [e, e3]; exact rg_of (by omega) (by decide)
    · rw [fu4.2.1 x e]; exact (i3v x hx e).2.2
  · by_cases e : x = u
    · subst e
      unfold IU
      rw [n3]
      refine ⟨fun j hj => ?_, fun j hj k hk z => t7 j hj k hk z, fun j hj => (t8 j hj).2⟩
      have := (t8 j hj).1
      show rg (s4 4 (100 * x + j)) (nt (s4 31 0))
      rw [t4.1 31 (by decide) (by decide) (by decide)]; exact this
    · obtain ⟨a1, a2, a3⟩ := i3v x hx e
      exact (IU_o fu4 e a1 a2).1
  · obtain ⟨a1, a2, a3⟩ := i3v x hx xu
    rw [(IU_o fu4 xu a1 a2).2]
    obtain ⟨b1, b2⟩ := z6 x xu xv
    rw [← tUV x]
    unfold tU
    rw [b1]
    exact gs_congr (fun j hj => by
      have : nt (V2 s g2' h2' 3 x) ≤ 100 := by rw [V3]; exact h3' x hx
      rw [(b2 j (by omega)).2])
  · rw [tE]
    refine Nat.le_trans (Nat.le_of_eq ?_) t9
    unfold tU
    rw [n3]; rfl
  · obtain ⟨a1, a2, a3⟩ := i3v v hv (fun z => huv z.symm)
    rw [(IU_o fu4 (fun z => huv z.symm) a1 a2).2, z12, tUV]
    omega
end CAR
