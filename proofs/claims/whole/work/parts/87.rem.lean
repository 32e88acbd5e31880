/-! tokens: added, found, taken away -/
section REM
variable {f : Nat} {K : kx} {W : Nat → Nat → Nat} {bd : Nat} {c : cx_S} {s : rx_S}
theorem nI_sub {a b : Nat} (h : b ≤ a) : nI a - nI b = nI (a - b) := by
  rw [show nI a = nI (a - b) + nI b by rw [nI_add, Nat.sub_add_cancel h], Int32.add_sub_cancel]
abbrev cA (K : kx) (c : cx_S) (t m : Nat) (x : Int32) : cx_S := cx_ui (cx_ui (cx_ui c 144 (kT K t m) 0 x) 145 (kT K t m) 0 (nI 0)) 21 (kB K t) 0 (nI (m + 1))
abbrev sA (s : rx_S) (t m : Nat) (x : Int32) : rx_S := rx_up (rx_up (rx_up s 23 (8 * t + m) x) 26 (8 * t + m) (nI 0)) 19 t (nI (m + 1))
theorem add_C (h : CRep K c s) {t m : Nat} {x : Int32} (ht : t < nt (s 15 0)) (h19 : s 19 t = nI m) (hm : m < 8) : D_B_addToken f (kB K t) x c = some (0, cA K c t m x) := by
  obtain ⟨hb1, hb2, hb3, hb4, hb5, hb6, hb7, hb8, hb9, hb10, hb11⟩ := h.bh t ht
  have hT := h.th t ht m hm
  have e21 : cI c 21 (kB K t) 0 = nI m := by rw [h.b5 t ht, h19]
  unfold D_B_addToken
  rw [b_oc hb2, b_oj, e21, if_neg (nI_ge hm (by decide)), hb4, b_oa hb8 hm (by decide), hT.1, b_oc hT.2]
  rw [show cR (cx_ui c 144 (kT K t m) 0 x) 22 (kB K t) 0 = some (kB K t + 1) from hb4, show cI (cx_ui c 144 (kT K t m) 0 x) 21 (kB K t) 0 = nI m from e21, b_oa hb8 hm (by decide)]
  rw [show cR (cx_ui c 144 (kT K t m) 0 x) 408 (kB K t + 1) m = some (kT K t m) from hT.1, b_oc hT.2]
  rw [show cI (cx_ui (cx_ui c 144 (kT K t m) 0 x) 145 (kT K t m) 0 (nI 0)) 21 (kB K t) 0 = nI m from e21, nI_add]
theorem p_add (h : CRep K c s) {t m : Nat} {x : Int32} (ht : t < nt (s 15 0)) (h19 : s 19 t = nI m) (hm : m < 8) : CRep K (cA K c t m x) (sA s t m x) := by
  have em : nt (s 19 t) = m := by rw [h19, nt_nI (by omega)]
  have old : ∀ q, q < nt (s 15 0) → ∀ i, i < nt (sA s t m x 19 q) → (q = t ∧ i = m) ∨ (i < nt (s 19 q) ∧ i < 8 ∧ 8 * q + i ≠ 8 * t + m ∧ kT K q i ≠ kT K t m) := fun q hq i hi => by
    have hi : i < nt (rx_up s 19 t (nI (m + 1)) 19 q) := hi
    have q8 := h.t8 q hq
    by_cases e : q = t
    · subst e
      rw [up_s, nt_nI (by omega)] at hi
      by_cases e2 : i = m
      · exact Or.inl ⟨rfl, e2⟩
      · exact Or.inr ⟨by omega, by omega, by omega, fun z => e2 (tgne h hq hq (by omega) (by omega) z).2⟩
    · rw [up_o e] at hi
      exact Or.inr ⟨hi, by omega, by omega, fun z => e (tgne h hq ht (by omega) (by omega) z).1⟩
  have k2 : ∀ q i, 8 * q + i ≠ 8 * t + m → ka (sA s t m x) q i = ka s q i := fun q i e => by
    show s 9 (12 * nt (s 16 q) + nt (rx_up s 23 (8 * t + m) x 23 (8 * q + i))) = _
    rw [up_o e]; rfl
  refine CRep_tok (T := kT K) h (fun F hF => ?_) (fun _ _ => rfl) rfl rfl (fun k hk => ?_) ?_ h.th h.tg ?_ ?_ ?_ ?_ ?_
  · funext p j; unfold cA; rw [ui_F hF.1, ui_F hF.2.2.1, ui_F hF.2.1]
  · funext j; unfold sA; rw [up_k hk.2.1, up_k hk.2.2.2.2.2.1, up_k hk.2.2.1]
  · exact B1_up h ht h.b5
  · intro q hq
    show nt (rx_up s 19 t (nI (m + 1)) 19 q) ≤ 8
    by_cases e : q = t
    · rw [e, up_s, nt_nI (by omega)]; omega
    · rw [up_o e]; exact h.t8 q hq
  · intro q hq i hi
    show cI (cx_ui c 144 (kT K t m) 0 x) 144 (kT K q i) 0 = rx_up s 23 (8 * t + m) x 23 (8 * q + i)
    rcases old q hq i hi with ⟨rfl, rfl⟩ | ⟨e1, e2, e3, e4⟩
    · rw [ui_s, up_s]
    · rw [ui_o e4, up_o e3]; exact h.ta q hq i e1
  · intro q hq i hi
    show cI (cx_ui c 145 (kT K t m) 0 (nI 0)) 145 (kT K q i) 0 = rx_up s 26 (8 * t + m) (nI 0) 26 (8 * q + i)
    rcases old q hq i hi with ⟨rfl, rfl⟩ | ⟨e1, e2, e3, e4⟩
    · rw [ui_s, up_s]
    · rw [ui_o e4, up_o e3]; exact h.tb q hq i e1
  · intro q hq i hi hb
    have hb : rx_up s 26 (8 * t + m) (nI 0) 26 (8 * q + i) = nI 1 := hb
    rcases old q hq i hi with ⟨rfl, rfl⟩ | ⟨e1, e2, e3, e4⟩
    · rw [up_s] at hb; exact absurd hb (by decide)
    · rw [up_o e3] at hb
      rw [k2 q i e3]; exact h.tl q hq i e1 hb
  · intro q hq i hi hb hk
    have hb : rx_up s 26 (8 * t + m) (nI 0) 26 (8 * q + i) = nI 1 := hb
    rcases old q hq i hi with ⟨rfl, rfl⟩ | ⟨e1, e2, e3, e4⟩
    · rw [up_s] at hb; exact absurd hb (by decide)
    · rw [up_o e3] at hb
      rw [k2 q i e3] at hk; exact h.tc q hq i e1 hb hk
/-- the fellow at a JOIN -/
theorem fellow_both (h : CRep K c s) {t i m : Nat} {k49 : cx_S → Option (Option Nat × cx_S)} {k36 : Int32 → cx_S → Option (Option Nat × cx_S)} (ht : t < nt (s 15 0)) (t16 : t < 16) (h19 : s 19 t = nI m) (hm : m ≤ 8) (hi : i < m) : ∀ d j n1 n2, j + d = m → d < n1 → d < n2 →
    (D_B_findPartner_2 f (kB K t) (some (kT K t i)) k49 k36 n1 (nI j) c = k49 c ∧ D_M_fellow_2 f (nI t) (nI i) n2 (nI j) s = some (-1, s)) ∨
    ∃ k, k < m ∧ k ≠ i ∧ s 23 (8 * t + k) = s 23 (8 * t + i) ∧ D_B_findPartner_2 f (kB K t) (some (kT K t i)) k49 k36 n1 (nI j) c = k36 (nI k) c ∧ D_M_fellow_2 f (nI t) (nI i) n2 (nI j) s = some (nI k, s) := by
  obtain ⟨hb1, hb2, hb3, hb4, hb5, hb6, hb7, hb8, hb9, hb10, hb11⟩ := h.bh t ht
  have em : nt (s 19 t) = m := by rw [h19, nt_nI (by omega)]
  have e21 : cI c 21 (kB K t) 0 = nI m := by rw [h.b5 t ht, h19]
  have kb := h.bg.1 t ht
  intro d
  induction d with
  | zero =>
    intro j n1 n2 hj h1 h2
    obtain ⟨n1, rfl⟩ : ∃ k', n1 = k' + 1 := ⟨n1 - 1, by omega⟩
    obtain ⟨n2, rfl⟩ : ∃ k', n2 = k' + 1 := ⟨n2 - 1, by omega⟩
    refine Or.inl ⟨?_, ?_⟩
    · rw [D_B_findPartner_2, b_oc hb2, e21, if_pos (by rw [show j = m by omega]; exact Int32.le_refl _)]
    · rw [D_M_fellow_2, b_og t16 (by decide), h19, if_pos (by rw [show j = m by omega]; exact Int32.le_refl _)]
  | succ d ih =>
    intro j n1 n2 hj h1 h2
    obtain ⟨n1, rfl⟩ : ∃ k', n1 = k' + 1 := ⟨n1 - 1, by omega⟩
    obtain ⟨n2, rfl⟩ : ∃ k', n2 = k' + 1 := ⟨n2 - 1, by omega⟩
    have hjm : j < m := by omega
    have hTj := h.th t ht j (by omega)
    have hTi := h.th t ht i (by omega)
    have gj := h.tg.1 t ht j (by omega)
    have gi := h.tg.1 t ht i (by omega)
    have r := ih (j + 1) n1 n2 (by omega) (by omega) (by omega)
    rw [D_B_findPartner_2, b_oc hb2, e21, if_neg (nI_ge hjm (by omega)), hb4, b_oa hb8 (by omega) (by decide), b_oj, hTj.1, b_o2 (by omega), b_o2 (by omega), nI_add]
    rw [D_M_fellow_2, b_og t16 (by decide), h19, if_neg (nI_ge hjm (by omega)), b_oj, nI_add]
    by_cases e : j = i
    · rw [if_pos (by rw [e]), if_pos (by rw [e])]; exact r
    · rw [if_neg (fun z => e (tgne h ht ht (by omega) (by omega) (Option.some.inj z)).2), if_neg (by rw [nI_eq (by omega) (by omega)]; exact e), b_oc hTj.2, b_oc hTi.2, h.ta t ht j (by omega), h.ta t ht i (by omega), pk_mul, nI_add, nI_add, b_og (by omega) (by decide), b_og (by omega) (by decide)]
      by_cases q : s 23 (8 * t + j) = s 23 (8 * t + i)
      · rw [if_pos q, if_pos q]
        exact Or.inr ⟨j, hjm, e, q, rfl, rfl⟩
      · rw [if_neg q, if_neg q]; exact r
theorem place_C (h : CRep K c s) {t k m : Nat} (ht : t < nt (s 15 0)) (h19 : s 19 t = nI m) (hm : m ≤ 8) (hk : k < m) : ∀ d j n, j + d = k → d < n → D_B_placeOf_2 f (kB K t) (some (kT K t k)) n (nI j) c = some (nI k, c) := by
  obtain ⟨hb1, hb2, hb3, hb4, hb5, hb6, hb7, hb8, hb9, hb10, hb11⟩ := h.bh t ht
  have e21 : cI c 21 (kB K t) 0 = nI m := by rw [h.b5 t ht, h19]
  have kb := h.bg.1 t ht
  intro d
  induction d with
  | zero =>
    intro j n hj hn
    obtain ⟨n, rfl⟩ : ∃ k', n = k' + 1 := ⟨n - 1, by omega⟩
    have e : j = k := by omega
    subst e
    have hTj := h.th t ht j (by omega)
    have gj := h.tg.1 t ht j (by omega)
    rw [D_B_placeOf_2, b_oc hb2, e21, if_neg (nI_ge hk (by omega)), hb4, b_oa hb8 (by omega) (by decide), hTj.1, b_o2 (by omega), b_o2 (by omega), if_pos rfl]
  | succ d ih =>
    intro j n hj hn
    obtain ⟨n, rfl⟩ : ∃ k', n = k' + 1 := ⟨n - 1, by omega⟩
    have hTj := h.th t ht j (by omega)
    have gj := h.tg.1 t ht j (by omega)
    have gi := h.tg.1 t ht k (by omega)
    rw [D_B_placeOf_2, b_oc hb2, e21, if_neg (nI_ge (by omega) (by omega)), hb4, b_oa hb8 (by omega) (by decide), hTj.1, b_o2 (by omega), b_o2 (by omega), if_neg (fun z => by have := (tgne h ht ht (by omega) (by omega) (Option.some.inj z)).2; omega), nI_add]
    exact ih (j + 1) n (by omega) (by omega)
theorem place_no (h : CRep K c s) {t : Nat} {o : Option Nat} (ht : t < nt (s 15 0)) (h19 : s 19 t = nI 0) (hf : 0 < f) : D_B_placeOf f (kB K t) o c = some (-1, c) := by
  obtain ⟨hb1, hb2, _⟩ := h.bh t ht
  have e21 : cI c 21 (kB K t) 0 = nI 0 := by rw [h.b5 t ht, h19]
  obtain ⟨n, rfl⟩ : ∃ k', f = k' + 1 := ⟨f - 1, by omega⟩
  rw [D_B_placeOf, D_B_placeOf_2, b_oc hb2, e21, if_pos (Int32.le_refl _)]
/-- where the one at place j stood before k went -/
def sg (k m j : Nat) : Nat := if j < k then j else if j + 1 < m then j + 1 else if j + 1 = m then k else j
theorem rem_C (h : CRep K c s) {t k m : Nat} (ht : t < nt (s 15 0)) (h19 : s 19 t = nI m) (hm : m ≤ 8) (hk : k < m) (hf : 2 ^ 31 ≤ f) :
    ∃ c2, D_B_removeToken f (kB K t) (some (kT K t k)) c = some (0, c2) ∧ (∀ F, F ≠ 21 → cI c2 F = cI c F) ∧ (∀ p j, cI c2 21 p j = if p = kB K t ∧ j = 0 then nI (m - 1) else cI c 21 p j) ∧ (∀ F, F ≠ 408 → cR c2 F = cR c F) ∧ (∀ p j, p ≠ kB K t + 1 → cR c2 408 p j = cR c 408 p j) ∧ (∀ j, j < 8 → cR c2 408 (kB K t + 1) j = some (kT K t (sg k m j))) ∧ cH c2 = cH c ∧ cN c2 = cN c ∧ cZ c2 = cZ c := by
  obtain ⟨hb1, hb2, hb3, hb4, hb5, hb6, hb7, hb8, hb9, hb10, hb11⟩ := h.bh t ht
  have e21 : cI c 21 (kB K t) 0 = nI m := by rw [h.b5 t ht, h19]
  have key : ∀ d j n c1, j + 1 + d = m → k ≤ j → d < n → cI c1 = cI c → (∀ F, F ≠ 408 → cR c1 F = cR c F) → (∀ p j, p ≠ kB K t + 1 → cR c1 408 p j = cR c 408 p j) → (∀ q, q < 8 → cR c1 408 (kB K t + 1) q = some (kT K t (if k ≤ q ∧ q < j then q + 1 else q))) → cH c1 = cH c → cN c1 = cN c → cZ c1 = cZ c →
      ∃ c2, D_B_removeToken_14 f (kB K t) (some (kT K t k)) (fun (s10 : cx_S) => oc 1 (some (kB K t)) s10 fun p11 => oc 9 (some (kT K t k)) s10 fun p12 => oa 408 (cR (cx_ui s10 21 p11 0 ((cI s10 21 p11 0) - (nI 1))) 22 p11 0) (cI (cx_ui s10 21 p11 0 ((cI s10 21 p11 0) - (nI 1))) 21 p11 0) s10 fun a13 j14 => some (0, cx_ur (cx_ui s10 21 p11 0 ((cI s10 21 p11 0) - (nI 1))) 408 a13 j14 (some p12))) n (nI j) c1 = some (0, c2) ∧ (∀ F, F ≠ 21 → cI c2 F = cI c F) ∧ (∀ p j, cI c2 21 p j = if p = kB K t ∧ j = 0 then nI (m - 1) else cI c 21 p j) ∧ (∀ F, F ≠ 408 → cR c2 F = cR c F) ∧ (∀ p j, p ≠ kB K t + 1 → cR c2 408 p j = cR c 408 p j) ∧ (∀ j, j < 8 → cR c2 408 (kB K t + 1) j = some (kT K t (sg k m j))) ∧ cH c2 = cH c ∧ cN c2 = cN c ∧ cZ c2 = cZ c := by
    intro d
    induction d with
    | zero =>
      intro j n c1 hj hkj hn q1 q2 q3 q4 q5 q6 q7
      obtain ⟨n, rfl⟩ : ∃ k', n = k' + 1 := ⟨n - 1, by omega⟩
      have hTk := h.th t ht k (by omega)
      have m1 : nI m - nI 1 = nI (m - 1) := nI_sub (by omega)
      rw [D_B_removeToken_14, b_oc (by rw [q5]; exact hb2), nI_add, q1, e21, if_pos (by rw [show j + 1 = m by omega]; exact Int32.le_refl _)]
      rw [b_oc (by rw [q5]; exact hb2), b_oc (by rw [q5]; exact hTk.2), e21, m1, ui_s, show cR (cx_ui c1 21 (kB K t) 0 (nI (m - 1))) 22 (kB K t) 0 = some (kB K t + 1) by rw [cR_ui, q2 22 (by decide)]; exact hb4, b_oa (by rw [q5]; exact hb8) (by omega) (by decide)]
      refine ⟨_, rfl, fun F hF => ?_, fun p j2 => ?_, fun F hF => ?_, fun p j2 hp => ?_, fun q hq => ?_, q5, q6, q7⟩
      · rw [cI_ur]; funext p j2; rw [ui_F hF, q1]
      · rw [cI_ur, cI_ui, q1]
        by_cases z : p = kB K t ∧ j2 = 0
        · rw [if_pos ⟨rfl, z⟩, if_pos z]
        · rw [if_neg (fun w => z w.2), if_neg z]
      · funext p j2
        rw [cR_ur, if_neg (fun w => hF w.1), cR_ui, q2 F hF]
      · rw [cR_ur, if_neg (fun w => hp w.2.1), cR_ui, q3 p j2 hp]
      · rw [cR_ur]
        by_cases e : q = m - 1
        · rw [if_pos ⟨rfl, rfl, e⟩]
          unfold sg
          rw [if_neg (by omega), if_neg (by omega), if_pos (by omega)]
        · rw [if_neg (fun w => e w.2.2), cR_ui, q4 q hq]
          unfold sg
          by_cases e2 : q < k
          · rw [if_neg (by omega), if_pos e2]
          · by_cases e3 : q + 1 < m
            · rw [if_pos (by omega), if_neg e2, if_pos e3]
            · rw [if_neg (by omega), if_neg e2, if_neg e3, if_neg (by omega)]
    | succ d ih =>
      intro j n c1 hj hkj hn q1 q2 q3 q4 q5 q6 q7
      obtain ⟨n, rfl⟩ : ∃ k', n = k' + 1 := ⟨n - 1, by omega⟩
      have hTj := h.th t ht (j + 1) (by omega)
      have q4j := q4 (j + 1) (by omega)
      rw [if_neg (by omega)] at q4j
      rw [D_B_removeToken_14, b_oc (by rw [q5]; exact hb2), nI_add, q1, e21, if_neg (nI_ge (by omega) (by omega)), q2 22 (by decide), hb4, b_oa (by rw [q5]; exact hb8) (by omega) (by decide), q4j, b_oc (by rw [q5]; exact hTj.2), b_oa (by rw [q5]; exact hb8) (by omega) (by decide)]
      refine ih (j + 1) n _ (by omega) (by omega) (by omega) q1 (fun F hF => ?_) (fun p j2 hp => ?_) (fun q hq => ?_) q5 q6 q7
      · funext p j2
        rw [cR_ur, if_neg (fun w => hF w.1), q2 F hF]
      · rw [cR_ur, if_neg (fun w => hp w.2.1), q3 p j2 hp]
      · rw [cR_ur]
        by_cases e : q = j
        · rw [if_pos ⟨rfl, rfl, e⟩, if_pos (by omega), e]
        · rw [if_neg (fun w => e w.2.2), q4 q hq]
          by_cases e2 : k ≤ q ∧ q < j
          · rw [if_pos e2, if_pos (by omega)]
          · rw [if_neg e2, if_neg (by omega)]
  unfold D_B_removeToken
  rw [b_oc hb2, D_B_placeOf, place_C h ht h19 hm hk k 0 f (by omega) (by omega), b_ob, if_neg (nI_m1 (by omega))]
  exact key (m - 1 - k) k f c (by omega) (Nat.le_refl _) (by omega) rfl (fun _ _ => rfl) (fun _ _ _ => rfl) (fun q hq => by rw [if_neg (by omega)]; exact (h.th t ht q hq).1) rfl rfl rfl
/-- the reference takes one away -/
theorem drop_M {t k m : Nat} (t16 : t < 16) (h19 : s 19 t = nI m) (hm : m ≤ 8) (hk : k < m) (h26 : ∀ j, j < m → s 26 (8 * t + j) = nI 0 ∨ s 26 (8 * t + j) = nI 1) (h27 : ∀ j, j < 128 → s 27 j = nI 0 ∨ s 27 j = nI 1) (hf : 2 ^ 31 ≤ f) :
    ∃ s2, D_M_drop f (nI t) (nI k) s = some (0, s2) ∧ (∀ q, (q ≠ 19 ∧ q ≠ 23 ∧ q ≠ 24 ∧ q ≠ 25 ∧ q ≠ 26 ∧ q ≠ 27) → s2 q = s q) ∧ (∀ q, s2 19 q = if q = t then nI (m - 1) else s 19 q) ∧ (∀ F, 23 ≤ F ∧ F ≤ 27 → ∀ q, s2 F q = if 8 * t + k ≤ q ∧ q + 1 < 8 * t + m then s F (q + 1) else s F q) := by
  have key : ∀ d j n s1, j + 1 + d = m → k ≤ j → d < n → (∀ q, (q ≠ 23 ∧ q ≠ 24 ∧ q ≠ 25 ∧ q ≠ 26 ∧ q ≠ 27) → s1 q = s q) → (∀ F, 23 ≤ F ∧ F ≤ 27 → ∀ q, s1 F q = if 8 * t + k ≤ q ∧ q < 8 * t + j then s F (q + 1) else s F q) →
      ∃ s2, D_M_drop_7 f (nI t) (fun (s4 : rx_S) => og 16 (nI t) fun j5 => some (0, rx_up s4 19 j5 ((s4 19 j5) - (nI 1)))) n (nI (8 * t + j)) s1 = some (0, s2) ∧ (∀ q, (q ≠ 19 ∧ q ≠ 23 ∧ q ≠ 24 ∧ q ≠ 25 ∧ q ≠ 26 ∧ q ≠ 27) → s2 q = s q) ∧ (∀ q, s2 19 q = if q = t then nI (m - 1) else s 19 q) ∧ (∀ F, 23 ≤ F ∧ F ≤ 27 → ∀ q, s2 F q = if 8 * t + k ≤ q ∧ q + 1 < 8 * t + m then s F (q + 1) else s F q) := by
    intro d
    induction d with
    | zero =>
      intro j n s1 hj hkj hn q1 q2
      obtain ⟨n, rfl⟩ : ∃ k', n = k' + 1 := ⟨n - 1, by omega⟩
      have m1 : nI m - nI 1 = nI (m - 1) := nI_sub (by omega)
      have e19 : s1 19 t = nI m := by rw [q1 19 (by decide)]; exact h19
      rw [D_M_drop_7, b_og t16 (by decide), e19, pk_mul, nI_add, nI_sub (by omega), if_pos (by rw [show 8 * t + m - 1 = 8 * t + j by omega]; exact Int32.le_refl _), b_og t16 (by decide), e19, m1]
      refine ⟨_, rfl, fun q hq => ?_, fun q => ?_, fun F hF q => ?_⟩
      · funext x; rw [up_k hq.1, q1 q hq.2]
      · by_cases e : q = t
        · rw [e, up_s, if_pos rfl]
        · rw [up_o e, if_neg e, q1 19 (by decide)]
      · rw [up_k (by omega), q2 F hF q]
        by_cases e : 8 * t + k ≤ q ∧ q < 8 * t + j
        · rw [if_pos e, if_pos (by omega)]
        · rw [if_neg e, if_neg (by omega)]
    | succ d ih =>
      intro j n s1 hj hkj hn q1 q2
      obtain ⟨n, rfl⟩ : ∃ k', n = k' + 1 := ⟨n - 1, by omega⟩
      have e19 : s1 19 t = nI m := by rw [q1 19 (by decide)]; exact h19
      have v : ∀ F, 23 ≤ F ∧ F ≤ 27 → s1 F (8 * t + j + 1) = s F (8 * t + j + 1) := fun F hF => by rw [q2 F hF, if_neg (by omega)]
      rw [D_M_drop_7, b_og t16 (by decide), e19, pk_mul, nI_add, nI_sub (by omega), if_neg (nI_ge (by omega) (by omega)), nI_add, b_og (by omega) (by decide), b_og (by omega) (by decide)]
      have o26 : rx_up (rx_up (rx_up s1 23 (8 * t + j) (s1 23 (8 * t + j + 1))) 24 (8 * t + j) ((rx_up s1 23 (8 * t + j) (s1 23 (8 * t + j + 1))) 24 (8 * t + j + 1))) 25 (8 * t + j) ((rx_up (rx_up s1 23 (8 * t + j) (s1 23 (8 * t + j + 1))) 24 (8 * t + j) ((rx_up s1 23 (8 * t + j) (s1 23 (8 * t + j + 1))) 24 (8 * t + j + 1))) 25 (8 * t + j + 1)) 26 (8 * t + j + 1) = s 26 (8 * t + j + 1) := v 26 (by decide)
      unfold ozb
      rw [if_pos (by rw [o26]; exact h26 (j + 1) (by omega)), if_pos (by
        rw [show ∀ y : Int32, rx_up (rx_up (rx_up (rx_up s1 23 (8 * t + j) (s1 23 (8 * t + j + 1))) 24 (8 * t + j) ((rx_up s1 23 (8 * t + j) (s1 23 (8 * t + j + 1))) 24 (8 * t + j + 1))) 25 (8 * t + j) ((rx_up (rx_up s1 23 (8 * t + j) (s1 23 (8 * t + j + 1))) 24 (8 * t + j) ((rx_up s1 23 (8 * t + j) (s1 23 (8 * t + j + 1))) 24 (8 * t + j + 1))) 25 (8 * t + j + 1))) 26 (8 * t + j) y 27 (8 * t + j + 1) = s 27 (8 * t + j + 1) from fun y => v 27 (by decide)]
        exact h27 _ (by omega))]
      refine ih (j + 1) n _ (by omega) (by omega) (by omega) (fun q hq => ?_) (fun F hF q => ?_)
      · funext x
        rw [up_k hq.2.2.2.2, up_k hq.2.2.2.1, up_k hq.2.2.1, up_k hq.2.1, up_k hq.1, q1 q hq]
      · by_cases e : q = 8 * t + j
        · have : F = 23 ∨ F = 24 ∨ F = 25 ∨ F = 26 ∨ F = 27 := by omega
          rw [if_pos (by omega), e]
          rcases this with rfl | rfl | rfl | rfl | rfl
          · show rx_up s1 23 (8 * t + j) (s1 23 (8 * t + j + 1)) 23 (8 * t + j) = _
            rw [up_s]; exact v 23 (by decide)
          · show rx_up s1 24 (8 * t + j) (s1 24 (8 * t + j + 1)) 24 (8 * t + j) = _
            rw [up_s]; exact v 24 (by decide)
          · show rx_up s1 25 (8 * t + j) (s1 25 (8 * t + j + 1)) 25 (8 * t + j) = _
            rw [up_s]; exact v 25 (by decide)
          · show rx_up s1 26 (8 * t + j) (s1 26 (8 * t + j + 1)) 26 (8 * t + j) = _
            rw [up_s]; exact v 26 (by decide)
          · show rx_up s1 27 (8 * t + j) (s1 27 (8 * t + j + 1)) 27 (8 * t + j) = _
            rw [up_s]; exact v 27 (by decide)
        · rw [up_o e, up_o e, up_o e, up_o e, up_o e, q2 F hF q]
          by_cases e2 : 8 * t + k ≤ q ∧ q < 8 * t + j
          · rw [if_pos e2, if_pos (by omega)]
          · rw [if_neg e2, if_neg (by omega)]
  unfold D_M_drop
  rw [pk_mul, nI_add]
  exact key (m - 1 - k) k f s (by omega) (Nat.le_refl _) (by omega) (fun _ _ => rfl) (fun F hF q => by rw [if_neg (by omega)])
end REM
