/-! trace: marks -/
section TRC
variable {f : Nat} {K : kx} {W : Nat → Nat → Nat} {bd : Nat} {c : cx_S} {s : rx_S}
/-- s with other marks -/
def w40 (s : rx_S) (m : Nat → Int32) : rx_S := fun k => if k = 40 then m else s k
theorem w40_up {m : Nat → Int32} {j : Nat} {v : Int32} : rx_up (w40 s m) 40 j v = w40 s (upd m j v) := by
  funext k
  unfold rx_up w40
  split
  · rfl
  · rfl
theorem w40_id : w40 s (s 40) = s := by
  funext k
  unfold w40
  split
  · next q => rw [q]
  · rfl
theorem upd_id {m : Nat → Int32} {j : Nat} {v : Int32} (h : m j = v) : upd m j v = m := by
  funext k
  unfold upd
  split
  · next q => rw [q, h]
  · rfl
theorem upd_s {m : Nat → Int32} {j : Nat} {v : Int32} : upd m j v j = v := if_pos rfl
theorem upd_o {m : Nat → Int32} {j k : Nat} {v : Int32} (h : k ≠ j) : upd m j v k = m k := if_neg h
/-- the row of l with part y, as an edge -/
def eg (o : Bool) (l y a b : Nat) : Prop := if o = true then a = y ∧ b = l else a = l ∧ b = y
def EP (s : rx_S) (o : Bool) (l i a b : Nat) : Prop := ∃ l2 j y, l2 < nt (s 31 0) ∧ j < pl (s 35) l2 ∧ y < l2 ∧ s 36 (nt (s 35 l2) + j) = nI y ∧ (l2 < l ∨ l2 = l ∧ nt (s 35 l) + j < i) ∧ eg o l2 y a b
abbrev Ed (s : rx_S) (o : Bool) (a b : Nat) : Prop := EP s o (nt (s 31 0)) 0 a b
/-- 0 or 1, lot marked, and nothing marked but what any closed set with lot has -/
def Mk (s : rx_S) (o : Bool) (lot : Nat) (m : Nat → Int32) : Prop := (∀ l, l < nt (s 31 0) → m l = nI 0 ∨ m l = nI 1) ∧ m lot = nI 1 ∧ ∀ M : Nat → Prop, M lot → (∀ x y, M x → Ed s o x y → M y) → ∀ l, l < nt (s 31 0) → m l = nI 1 → M l
def cm (s : rx_S) (m : Nat → Int32) : Nat := cnt (fun l => nt (m l)) (nt (s 31 0))
theorem cnt_up {x z : Nat → Nat} {y : Nat} (hx : x y = 0) (hz : z y ≠ 0) (ho : ∀ l, l ≠ y → z l = x l) : ∀ n, y < n → cnt z n = cnt x n + 1 := by
  intro n
  induction n with
  | zero => intro h; omega
  | succ n ih =>
    intro h
    rw [cnt, cnt]
    by_cases e : y = n
    · subst e
      have : ∀ m, m ≤ y → cnt z m = cnt x m := by
        intro m
        induction m with
        | zero => intro _; rfl
        | succ m ih2 => intro hm; rw [cnt, cnt, ih2 (by omega), ho m (by omega)]
      rw [this y (Nat.le_refl _), if_pos hx, if_neg hz]
    · rw [ih (by omega), ho n (fun z => e z.symm)]
      omega
theorem b_m1 : (nI 1 = nI 0) = False := by simp; decide
theorem b_0m : (nI 0 = nI 1) = False := by simp; decide
def Qm (s : rx_S) (o : Bool) (lot : Nat) (m0 m : Nat → Int32) (fl : Int32) (l i : Nat) : Prop := Mk s o lot m ∧ (fl = nI 0 ∨ fl = nI 1) ∧ (fl = nI 0 → m = m0 ∧ ∀ a b, EP s o l i a b → m a = nI 1 → m b = nI 1) ∧ (fl = nI 1 → cm s m0 < cm s m)
/-- one row -/
theorem qm_row {o : Bool} {lot l j y a b : Nat} {m0 m : Nat → Int32} {fl : Int32} (h : Qm s o lot m0 m fl l (nt (s 35 l) + j)) (hl : l < nt (s 31 0)) (hj : j < pl (s 35) l) (hy : y < l) (hs : s 36 (nt (s 35 l) + j) = nI y) (hy31 : l < 2 ^ 31) (he : eg o l y a b) (ha : a < nt (s 31 0)) (hb : b < nt (s 31 0)) :
    Qm s o lot m0 (if m a = nI 1 ∧ m b = nI 0 then upd m b (nI 1) else m) (if m a = nI 1 ∧ m b = nI 0 then nI 1 else fl) l (nt (s 35 l) + j + 1) := by
  obtain ⟨⟨k1, k2, k3⟩, q1, q2, q3⟩ := h
  have hE : Ed s o a b := ⟨l, j, y, hl, hj, hy, hs, Or.inl hl, he⟩
  by_cases q : m a = nI 1 ∧ m b = nI 0
  · rw [if_pos q, if_pos q]
    have c1 : cm s (upd m b (nI 1)) = cm s m + 1 := cnt_up (y := b) (by show nt (m b) = 0; rw [q.2]; exact b_nt0) (by show nt (upd m b (nI 1) b) ≠ 0; rw [upd_s]; decide) (fun l hl => by show nt (upd m b (nI 1) l) = nt (m l); rw [upd_o hl]) _ hb
    refine ⟨⟨fun l hl => ?_, ?_, fun M M1 M2 l hl hm => ?_⟩, Or.inr rfl, fun z => absurd z (by decide), fun _ => ?_⟩
    · by_cases e : l = b
      · rw [e, upd_s]; exact Or.inr rfl
      · rw [upd_o e]; exact k1 l hl
    · by_cases e : lot = b
      · rw [e, upd_s]
      · rw [upd_o e]; exact k2
    · by_cases e : l = b
      · rw [e]; exact M2 a b (k3 M M1 M2 a ha q.1) hE
      · rw [upd_o e] at hm; exact k3 M M1 M2 l hl hm
    · rw [c1]
      rcases q1 with z | z
      · rw [(q2 z).1]; omega
      · have := q3 z; omega
  · rw [if_neg q, if_neg q]
    refine ⟨⟨k1, k2, k3⟩, q1, fun z => ⟨(q2 z).1, fun a2 b2 hE2 hm => ?_⟩, q3⟩
    obtain ⟨l2, j2, y2, w1, w2, w3, w4, w5, w6⟩ := hE2
    by_cases e : l2 < l ∨ l2 = l ∧ nt (s 35 l) + j2 < nt (s 35 l) + j
    · exact (q2 z).2 a2 b2 ⟨l2, j2, y2, w1, w2, w3, w4, e, w6⟩ hm
    · have e1 : l2 = l ∧ j2 = j := by omega
      obtain ⟨e1, e2⟩ := e1
      subst e1; subst e2
      have e3 : y2 = y := by
        rw [hs] at w4
        exact ((nI_eq (by omega) (by omega)).mp w4).symm
      subst e3
      have e4 : a2 = a ∧ b2 = b := by
        unfold eg at he w6
        split at he <;> rename_i qo
        · rw [if_pos qo] at w6; omega
        · rw [if_neg qo] at w6; omega
      rw [e4.1] at hm
      rw [e4.2]
      rcases k1 b hb with z2 | z2
      · exact absurd ⟨hm, z2⟩ q
      · exact z2
/-- the same, as the reference does it -/
theorem row_eval {s2 : rx_S} {m : Nat → Int32} {a b : Nat} {l3 : Int32} {G : Int32 → rx_S → Option (Int32 × rx_S)} (e40 : s2 40 = m) (eu : ∀ v, rx_up s2 40 b v = w40 s (upd m b v)) (ha : a < 100) (hb : b < 100) (ma : m a = nI 0 ∨ m a = nI 1) (mb : m b = nI 0 ∨ m b = nI 1) (h3 : l3 = nI 0 ∨ l3 = nI 1) :
    (oj (fun (x12 : Int32) => og 100 (nI b) fun j13 => oj (fun (x15 : Int32) => ozb x15 <| G x12 (rx_up s2 40 j13 x15)) fun J14 => oj (fun (_ : Unit) => J14 (nI 1)) fun J16 => if (s2 40 j13) = 0 then og 100 (nI a) fun j17 => if (s2 40 j17) = 0 then J14 (nI 0) else J16 () else J16 ()) fun J11 => oj (fun (_ : Unit) => J11 (nI 1)) fun J18 => if l3 = 0 then og 100 (nI a) fun j19 => oj (fun (_ : Unit) => J11 (nI 0)) fun J20 => if (s2 40 j19) = 0 then J20 () else og 100 (nI b) fun j21 => if (s2 40 j21) = 0 then J18 () else J20 () else J18 ())
      = G (if m a = nI 1 ∧ m b = nI 0 then nI 1 else l3) (w40 s (if m a = nI 1 ∧ m b = nI 0 then upd m b (nI 1) else m)) := by
  simp only [b_oj, b_og ha (show 100 < 2 ^ 31 by decide), b_og hb (show 100 < 2 ^ 31 by decide), e40]
  have i0 : m b = nI 0 → rx_up s2 40 b (nI 0) = w40 s m := fun q => by rw [eu, upd_id q]
  have i1 : m b = nI 1 → rx_up s2 40 b (nI 1) = w40 s m := fun q => by rw [eu, upd_id q]
  rcases ma with qa | qa <;> rcases mb with qb | qb <;> rcases h3 with q3 | q3 <;> simp only [qa, qb, q3, b_00, b_10, if_true, if_false, ozb_0, ozb_1, b_0m, b_m1, and_true, and_false, and_self, i0 , i1, eu]
theorem w40_Iv {m : Nat → Int32} (h : Iv K W bd s) : Iv K W bd (w40 s m) := h
theorem mark_61 {o : Bool} {l2 : Int32} (ho : (l2 = 0) ↔ o = false) {lot l : Nat} {kk : Int32 → rx_S → Option (Int32 × rx_S)} (hI : Iv K W bd s) (hl : l < nt (s 31 0)) {m0 : Nat → Int32} : ∀ d j k m fl, j + d = pl (s 35) l → d < k → Qm s o lot m0 m fl l (nt (s 35 l) + j) →
    ∃ m' fl', D_M_mark_61 f l2 (nI l) kk k fl (nI (nt (s 35 l) + j)) (w40 s m) = kk fl' (w40 s m') ∧ Qm s o lot m0 m' fl' l (nt (s 35 (l + 1))) := by
  obtain ⟨r1, r2, r3⟩ := row_le hI hl
  have l100 := hI.i31.lt
  have r2l := r2.lt
  have ple : pl (s 35) l = nt (s 35 (l + 1)) - nt (s 35 l) := rfl
  have e35 : ∀ m, w40 s m 35 (l + 1) = nI (nt (s 35 (l + 1))) := fun m => r2.eq
  intro d
  induction d with
  | zero =>
    intro j k m fl hj hk hq
    obtain ⟨k, rfl⟩ : ∃ k', k = k' + 1 := ⟨k - 1, by omega⟩
    refine ⟨m, fl, ?_, ?_⟩
    · rw [D_M_mark_61, nI_add, b_og (by omega) (by decide), e35, if_pos]
      rw [show nt (s 35 l) + j = nt (s 35 (l + 1)) by omega]; exact Int32.le_refl _
    · rw [show nt (s 35 l) + j = nt (s 35 (l + 1)) by omega] at hq; exact hq
  | succ d ih =>
    intro j k m fl hj hk hq
    obtain ⟨k, rfl⟩ : ∃ k', k = k' + 1 := ⟨k - 1, by omega⟩
    have src := hI.il.2.2.2.2.2 l hl j (by omega)
    have se := src.eq
    have sl := src.lt
    generalize hy : nt (s 36 (nt (s 35 l) + j)) = y at *
    have e36 : ∀ m, w40 s m 36 (nt (s 35 l) + j) = nI y := fun m => se
    have mv := hq.1.1
    rw [D_M_mark_61, nI_add, b_og (show l + 1 < 101 by omega) (by decide), e35, if_neg (nI_ge (show nt (s 35 l) + j < nt (s 35 (l + 1)) by omega) (by omega))]
    simp only [b_og (show nt (s 35 l) + j < 5000 by omega) (show 5000 < 2 ^ 31 by decide), e36, nI_add]
    cases o with
    | false =>
      have h0 : l2 = 0 := ho.mpr rfl
      have st := qm_row (a := l) (b := y) hq hl (by omega) sl se (by omega) (by unfold eg; rw [if_neg (by decide)]; exact ⟨rfl, rfl⟩) hl (by omega)
      have ev := row_eval (s := s) (s2 := w40 s m) (m := m) (a := l) (b := y) (l3 := fl) (G := fun x s => D_M_mark_61 f l2 (nI l) kk k x (nI (nt (s 35 l) + j + 1)) s) rfl (fun v => w40_up) (by omega) (by omega) (mv l hl) (mv y (by omega)) hq.2.1
      obtain ⟨m', fl', w1, w2⟩ := ih (j + 1) k _ _ (by omega) (by omega) st
      refine ⟨m', fl', ?_, w2⟩
      rw [← w1]
      simp only [if_pos h0, b_oj] at ev ⊢
      exact ev
    | true =>
      have h0 : ¬ l2 = 0 := fun z => absurd (ho.mp z) (by decide)
      have st := qm_row (a := y) (b := l) hq hl (by omega) sl se (by omega) (by unfold eg; rw [if_pos rfl]; exact ⟨rfl, rfl⟩) (by omega) hl
      have ev := row_eval (s := s) (s2 := w40 s m) (m := m) (a := y) (b := l) (l3 := fl) (G := fun x s => D_M_mark_61 f l2 (nI l) kk k x (nI (nt (s 35 l) + j + 1)) s) rfl (fun v => w40_up) (by omega) (by omega) (mv y (by omega)) (mv l hl) hq.2.1
      obtain ⟨m', fl', w1, w2⟩ := ih (j + 1) k _ _ (by omega) (by omega) st
      refine ⟨m', fl', ?_, w2⟩
      rw [← w1]
      simp only [if_neg h0, b_oj] at ev ⊢
      exact ev
theorem ep_next {o : Bool} {l a b i : Nat} (h : EP s o (l + 1) i a b) (hi : i ≤ nt (s 35 (l + 1))) : EP s o l (nt (s 35 (l + 1))) a b := by
  obtain ⟨l2, j2, y2, w1, w2, w3, w4, w5, w6⟩ := h
  refine ⟨l2, j2, y2, w1, w2, w3, w4, ?_, w6⟩
  by_cases e : l2 < l
  · exact Or.inl e
  · by_cases e2 : l2 = l
    · subst e2
      unfold pl at w2
      exact Or.inr ⟨rfl, by omega⟩
    · have : l2 = l + 1 := by omega
      subst this
      omega
theorem mark_43 {o : Bool} {l2 : Int32} (hf : 2 ^ 31 ≤ f) (ho : (l2 = 0) ↔ o = false) {lot : Nat} {kk : Int32 → rx_S → Option (Int32 × rx_S)} (hI : Iv K W bd s) {m0 : Nat → Int32} : ∀ d l k m fl, l + d = nt (s 31 0) → d < k → Qm s o lot m0 m fl l (nt (s 35 l)) →
    ∃ m' fl', D_M_mark_43 f l2 kk k fl (nI l) (w40 s m) = kk fl' (w40 s m') ∧ Qm s o lot m0 m' fl' (nt (s 31 0)) 0 := by
  have l100 := hI.i31.lt
  have e31 : ∀ m, w40 s m 31 0 = nI (nt (s 31 0)) := fun m => hI.i31.eq
  intro d
  induction d with
  | zero =>
    intro l k m fl hl hk hq
    obtain ⟨k, rfl⟩ : ∃ k', k = k' + 1 := ⟨k - 1, by omega⟩
    have e : l = nt (s 31 0) := by omega
    subst e
    refine ⟨m, fl, by rw [D_M_mark_43, e31, if_pos (Int32.le_refl _)], hq.1, hq.2.1, fun z => ⟨(hq.2.2.1 z).1, fun a b hE => (hq.2.2.1 z).2 a b ?_⟩, hq.2.2.2⟩
    obtain ⟨l2, j2, y2, w1, w2, w3, w4, w5, w6⟩ := hE
    exact ⟨l2, j2, y2, w1, w2, w3, w4, Or.inl w1, w6⟩
  | succ d ih =>
    intro l k m fl hl hk hq
    obtain ⟨k, rfl⟩ : ∃ k', k = k' + 1 := ⟨k - 1, by omega⟩
    have hln : l < nt (s 31 0) := by omega
    obtain ⟨r1, r2, r3⟩ := row_le hI hln
    have r2l := r2.lt
    have e35 : w40 s m 35 l = nI (nt (s 35 l)) := r1.eq
    obtain ⟨m1, f1, w1, w2⟩ := mark_61 (f := f) (kk := fun v24 s25 => D_M_mark_43 f l2 kk k v24 (nI l + nI 1) s25) ho hI hln (m0 := m0) (pl (s 35) l) 0 f m fl (by omega) (by unfold pl; omega) hq
    obtain ⟨m2, f2, w3, w4⟩ := ih (l + 1) k m1 f1 (by omega) (by omega) ⟨w2.1, w2.2.1, fun z => ⟨(w2.2.2.1 z).1, fun a b hE => (w2.2.2.1 z).2 a b (ep_next hE (Nat.le_refl _))⟩, w2.2.2.2⟩
    refine ⟨m2, f2, ?_, w4⟩
    rw [D_M_mark_43, e31, if_neg (nI_ge hln (by omega)), b_og (by omega) (by decide), e35, ← w3]
    rw [Nat.add_zero] at w1
    simp only [nI_add] at w1 ⊢
    exact w1
theorem mark_34 {o : Bool} {l2 : Int32} (hf : 2 ^ 31 ≤ f) (ho : (l2 = 0) ↔ o = false) {lot : Nat} (hI : Iv K W bd s) : ∀ d k m, nt (s 31 0) < cm s m + d → d < k → Mk s o lot m →
    ∃ m', D_M_mark_34 f l2 k (nI 1) (w40 s m) = some (0, w40 s m') ∧ Mk s o lot m' ∧ ∀ a b, Ed s o a b → m' a = nI 1 → m' b = nI 1 := by
  have l100 := hI.i31.lt
  intro d
  induction d with
  | zero =>
    intro k m hd
    have := cnt_le (fun l => nt (m l)) (nt (s 31 0))
    unfold cm at hd
    omega
  | succ d ih =>
    intro k m hd hk hm
    obtain ⟨k, rfl⟩ : ∃ k', k = k' + 1 := ⟨k - 1, by omega⟩
    obtain ⟨m1, f1, w1, w2⟩ := mark_43 (f := f) (kk := fun v26 s27 => D_M_mark_34 f l2 k v26 s27) hf ho hI (m0 := m) (nt (s 31 0)) 0 f m (nI 0) (by omega) (by omega) ⟨hm, Or.inl rfl, fun _ => ⟨rfl, fun a b hE => by
      obtain ⟨l2, j2, y2, w1, w2, w3, w4, w5, w6⟩ := hE
      rw [hI.il.1] at w5
      omega⟩, fun z => absurd z (by decide)⟩
    have w1 : D_M_mark_43 f l2 _ f (nI 0) (nI 0) (w40 s m) = _ := w1
    rw [D_M_mark_34, if_neg (by decide), w1]
    rcases w2.2.1 with q | q
    · rw [q]
      obtain ⟨k, rfl⟩ : ∃ k', k = k' + 1 := ⟨k - 1, by omega⟩
      refine ⟨m1, by rw [D_M_mark_34, if_pos (show nI 0 = 0 from rfl)], w2.1, (w2.2.2.1 q).2⟩
    · rw [q]
      exact ih k m1 (by have := w2.2.2.2 q; omega) (by omega) w2.1
theorem mark_2 {l2 : Int32} {lot : Nat} {kk : rx_S → Option (Int32 × rx_S)} (hI : Iv K W bd s) (hlot : lot < nt (s 31 0)) : ∀ d l k m, l + d = nt (s 31 0) → d < k → (∀ j, j < l → m j = if j = lot then nI 1 else nI 0) →
    ∃ m', D_M_mark_2 f (nI lot) l2 kk k (nI l) (w40 s m) = kk (w40 s m') ∧ ∀ j, j < nt (s 31 0) → m' j = if j = lot then nI 1 else nI 0 := by
  have l100 := hI.i31.lt
  have e31 : ∀ m, w40 s m 31 0 = nI (nt (s 31 0)) := fun m => hI.i31.eq
  intro d
  induction d with
  | zero =>
    intro l k m hl hk hq
    obtain ⟨k, rfl⟩ : ∃ k', k = k' + 1 := ⟨k - 1, by omega⟩
    have e : l = nt (s 31 0) := by omega
    subst e
    exact ⟨m, by rw [D_M_mark_2, e31, if_pos (Int32.le_refl _)], hq⟩
  | succ d ih =>
    intro l k m hl hk hq
    obtain ⟨k, rfl⟩ : ∃ k', k = k' + 1 := ⟨k - 1, by omega⟩
    obtain ⟨m1, w1, w2⟩ := ih (l + 1) k (upd m l (if l = lot then nI 1 else nI 0)) (by omega) (by omega) (fun j hj => by
      by_cases e : j = l
      · rw [e, upd_s]
      · rw [upd_o e]; exact hq j (by omega))
    refine ⟨m1, ?_, w2⟩
    rw [← w1, D_M_mark_2, e31, if_neg (nI_ge (by omega) (by omega))]
    simp only [b_oj, b_og (show l < 100 by omega) (show 100 < 2 ^ 31 by decide), w40_up, nI_add]
    by_cases e : l = lot
    · rw [if_pos (by rw [e]), ozb_1, if_pos e]
    · rw [if_neg (by rw [nI_eq (by omega) (by omega)]; exact e), ozb_0, if_neg e]
/-- what the reference marks: the least closed set -/
theorem b_mark {o : Bool} {l2 : Int32} {lot : Nat} (hf : 2 ^ 31 ≤ f) (ho : (l2 = 0) ↔ o = false) (hI : Iv K W bd s) (hlot : lot < nt (s 31 0)) : ∃ m, D_M_mark f (nI lot) l2 s = some (0, w40 s m) ∧ Mk s o lot m ∧ ∀ a b, Ed s o a b → m a = nI 1 → m b = nI 1 := by
  have l100 := hI.i31.lt
  obtain ⟨m1, w1, w2⟩ := mark_2 (f := f) (l2 := l2) (kk := fun s4 => D_M_mark_34 f l2 f (nI 1) s4) hI hlot (nt (s 31 0)) 0 f (s 40) (by omega) (by omega) (fun j hj => by omega)
  have mk : Mk s o lot m1 := by
    refine ⟨fun l hl => ?_, by rw [w2 lot hlot, if_pos rfl], fun M M1 M2 l hl hm => ?_⟩
    · rw [w2 l hl]; split
      · exact Or.inr rfl
      · exact Or.inl rfl
    · rw [w2 l hl] at hm
      by_cases e : l = lot
      · rw [e]; exact M1
      · rw [if_neg e] at hm; exact absurd hm (by decide)
  obtain ⟨m2, w3, w4, w5⟩ := mark_34 (f := f) hf ho hI (nt (s 31 0) + 1) f m1 (by omega) (by omega) mk
  refine ⟨m2, ?_, w4, w5⟩
  unfold D_M_mark
  rw [w40_id] at w1
  have w1 : D_M_mark_2 f (nI lot) l2 _ f (nI 0) s = _ := w1
  rw [w1]; exact w3
/-! the class's rows that are used again -/
def ws (c : cx_S) (p : Nat) (g : Nat → Int32) : cx_S := (fun F q j => if F = 400 ∧ q = p then g j else cI c F q j, c.2)
theorem ws_ui {p j : Nat} {g : Nat → Int32} {v : Int32} : cx_ui (ws c p g) 400 p j v = ws c p (upd g j v) := by
  unfold cx_ui ws
  refine Prod.ext ?_ rfl
  funext F q i
  show (if F = 400 ∧ q = p ∧ i = j then v else if F = 400 ∧ q = p then g i else cI c F q i) = if F = 400 ∧ q = p then upd g j v i else cI c F q i
  unfold upd
  by_cases e : F = 400 ∧ q = p
  · rw [if_pos e, if_pos e]
    by_cases e2 : i = j
    · rw [if_pos ⟨e.1, e.2, e2⟩, if_pos e2]
    · rw [if_neg (fun z => e2 z.2.2), if_neg e2]
  · rw [if_neg (fun z => e ⟨z.1, z.2.1⟩), if_neg e, if_neg e]
theorem ws_id {p : Nat} : ws c p (cI c 400 p) = c := by
  refine Prod.ext ?_ rfl
  funext F q i
  show (if F = 400 ∧ q = p then cI c 400 p i else cI c F q i) = cI c F q i
  split
  · next z => rw [z.1, z.2]
  · rfl
theorem ws_at {p j : Nat} {g : Nat → Int32} : cI (ws c p g) 400 p j = g j := if_pos ⟨rfl, rfl⟩
theorem ws_o {p F q j : Nat} {g : Nat → Int32} (h : ¬ (F = 400 ∧ q = p)) : cI (ws c p g) F q j = cI c F q j := if_neg h
theorem ws_ws {p : Nat} {g g2 : Nat → Int32} : ws (ws c p g) p g2 = ws c p g2 := by
  refine Prod.ext ?_ rfl
  funext F q i
  show (if F = 400 ∧ q = p then g2 i else if F = 400 ∧ q = p then g i else cI c F q i) = if F = 400 ∧ q = p then g2 i else cI c F q i
  by_cases e : F = 400 ∧ q = p
  · rw [if_pos e, if_pos e]
  · rw [if_neg e, if_neg e, if_neg e]
theorem CRep_ws {p : Nat} {g : Nat → Int32} (h : CRep K c s) (hp : Sc p) : CRep K (ws c p g) s :=
  CRep_ext h (fun F q _ z => by
    funext j
    exact ws_o (fun w => z ⟨w.1, w.2 ▸ hp⟩)) (fun _ _ _ => rfl) (fun _ _ => rfl) (Nat.le_refl _)
theorem b_fill {p n : Nat} {v : Int32} (h : cH c p = some (400, n)) (hn : n < 2 ^ 30) (hf : 2 ^ 31 ≤ f) : ∃ g, D_A_fill f (some p) v c = some (0, ws c p g) ∧ ∀ j, j < n → g j = v := by
  have key : ∀ d i k g, i + d = n → d < k → (∀ j, j < i → g j = v) → ∃ g2, D_A_fill_5 f (some p) v (nI n) k (nI i) (ws c p g) = some (0, ws c p g2) ∧ ∀ j, j < n → g2 j = v := by
    intro d
    induction d with
    | zero =>
      intro i k g hi hk hg
      obtain ⟨k, rfl⟩ : ∃ k', k = k' + 1 := ⟨k - 1, by omega⟩
      have e : i = n := by omega
      subst e
      exact ⟨g, by rw [D_A_fill_5, if_pos (Int32.le_refl _)], hg⟩
    | succ d ih =>
      intro i k g hi hk hg
      obtain ⟨k, rfl⟩ : ∃ k', k = k' + 1 := ⟨k - 1, by omega⟩
      obtain ⟨g2, w1, w2⟩ := ih (i + 1) k (upd g i v) (by omega) (by omega) (fun j hj => by
        by_cases e : j = i
        · rw [e, upd_s]
        · rw [upd_o e]; exact hg j (by omega))
      refine ⟨g2, ?_, w2⟩
      rw [D_A_fill_5, if_neg (nI_ge (by omega) (by omega)), b_oa (show cH (ws c p g) p = some (400, n) from h) (by omega) (by omega), ws_ui, nI_add]
      exact w1
  obtain ⟨g, w1, w2⟩ := key n 0 f (cI c 400 p) (by omega) (by omega) (fun j hj => by omega)
  refine ⟨g, ?_, w2⟩
  unfold D_A_fill
  rw [b_oq h]
  rw [ws_id] at w1
  exact w1
section CTR
variable (h : CRep K c s) (hI : Iv K W bd s) (hf : 2 ^ 31 ≤ f)
theorem part_at (h : CRep K c s) (hI : Iv K W bd s) {l j : Nat} {g : Nat → Int32} (hl : l < nt (s 31 0)) (hj : j < pl (s 35) l) : cI (ws c 16 g) 400 (kP K l) j = nI (nt (s 36 (nt (s 35 l) + j))) ∧ nt (s 36 (nt (s 35 l) + j)) < l := by
  have src := hI.il.2.2.2.2.2 l hl j hj
  have := (h.lg.1 l hl).2.2.1
  rw [ws_o (by omega), h.lp l hl j hj]
  exact ⟨src.eq, src.lt⟩
theorem b_parts (h : CRep K c s) (hI : Iv K W bd s) {l : Nat} (hl : l < nt (s 31 0)) : ∀ d j k g, j + d = pl (s 35) l → d < k → ∃ g2, D_K_markParts_2 f 14 (some (kP K l)) k (nI j) (ws c 16 g) = some (0, ws c 16 g2) ∧ (∀ i, g2 i = g i ∨ (g2 i = nI 1 ∧ i < l ∧ ∃ j2, j2 < pl (s 35) l ∧ s 36 (nt (s 35 l) + j2) = nI i)) ∧ (∀ i, g i = nI 1 → g2 i = nI 1) ∧ ∀ j2, j ≤ j2 → j2 < pl (s 35) l → g2 (nt (s 36 (nt (s 35 l) + j2))) = nI 1 := by
  have l100 := hI.i31.lt
  have lh := h.lh l hl
  have p5 : pl (s 35) l < 5000 := by
    have := (row_le hI hl).2.1.lt
    unfold pl; omega
  intro d
  induction d with
  | zero =>
    intro j k g hj hk
    obtain ⟨k, rfl⟩ : ∃ k', k = k' + 1 := ⟨k - 1, by omega⟩
    refine ⟨g, ?_, fun i => Or.inl rfl, fun i q => q, fun j2 h1 h2 => by omega⟩
    rw [D_K_markParts_2, b_oq (show cH (ws c 16 g) (kP K l) = some (400, pl (s 35) l) from lh.2.2.2.2.1), if_pos]
    rw [show j = pl (s 35) l by omega]; exact Int32.le_refl _
  | succ d ih =>
    intro j k g hj hk
    obtain ⟨k, rfl⟩ : ∃ k', k = k' + 1 := ⟨k - 1, by omega⟩
    have pa := part_at (g := g) h hI hl (show j < pl (s 35) l by omega)
    have src := hI.il.2.2.2.2.2 l hl j (by omega)
    have se := src.eq
    generalize hy : nt (s 36 (nt (s 35 l) + j)) = y at *
    obtain ⟨g2, w1, w2, w3, w4⟩ := ih (j + 1) k (upd g y (nI 1)) (by omega) (by omega)
    refine ⟨g2, ?_, fun i => ?_, fun i q => w3 i ?_, fun j2 h1 h2 => ?_⟩
    · rw [D_K_markParts_2, b_oq (show cH (ws c 16 g) (kP K l) = some (400, pl (s 35) l) from lh.2.2.2.2.1), if_neg (nI_ge (by omega) (by omega)), b_oc (show cH (ws c 16 g) 14 = some (4, 0) from h.fix.h14), b_oa (show cH (ws c 16 g) (kP K l) = some (400, pl (s 35) l) from lh.2.2.2.2.1) (by omega) (by omega), show cR (ws c 16 g) 66 14 0 = some 16 from h.fix.f66, pa.1, b_oa (show cH (ws c 16 g) 16 = some (400, 100) from h.fix.h16) (by omega) (by decide), ws_ui, nI_add]
      exact w1
    · rcases w2 i with q | q
      · by_cases e : i = y
        · right
          rw [q, e, upd_s]
          exact ⟨rfl, pa.2, j, by omega, se⟩
        · left; rw [q, upd_o e]
      · exact Or.inr q
    · by_cases e : i = y
      · rw [e, upd_s]
      · rw [upd_o e]; exact q
    · by_cases e : j2 = j
      · rw [e, hy]
        exact w3 y upd_s
      · exact w4 j2 (by omega) h2
theorem orig_loop (h : CRep K c s) (hI : Iv K W bd s) (hf : 2 ^ 31 ≤ f) {lot : Nat} {x1 : Int32} {kk : cx_S → Option (Int32 × cx_S)} (hlot : lot < nt (s 31 0)) : ∀ p k g, p ≤ lot + 1 → p < k → Mk s false lot g → (∀ a b, Ed s false a b → p ≤ a → g a = nI 1 → g b = nI 1) →
    ∃ g2, D_K_markOrigins_17 f 14 x1 kk k (nI p - nI 1) (ws c 16 g) = kk (ws c 16 g2) ∧ Mk s false lot g2 ∧ ∀ a b, Ed s false a b → g2 a = nI 1 → g2 b = nI 1 := by
  have l100 := hI.i31.lt
  intro p
  induction p with
  | zero =>
    intro k g hp hk hm hc
    obtain ⟨k, rfl⟩ : ∃ k', k = k' + 1 := ⟨k - 1, by omega⟩
    exact ⟨g, by rw [D_K_markOrigins_17, if_pos (by decide)], hm, fun a b hE => hc a b hE (Nat.zero_le _)⟩
  | succ p ih =>
    intro k g hp hk hm hc
    obtain ⟨k, rfl⟩ : ∃ k', k = k' + 1 := ⟨k - 1, by omega⟩
    have hl : p < nt (s 31 0) := by omega
    have lh := h.lh p hl
    rw [D_K_markOrigins_17, pk_sub (show 1 ≤ p + 1 by omega), Nat.add_sub_cancel, if_neg (nI_pos (by omega)), b_oc (show cH (ws c 16 g) 14 = some (4, 0) from h.fix.h14), show cR (ws c 16 g) 66 14 0 = some 16 from h.fix.f66, b_oa (show cH (ws c 16 g) 16 = some (400, 100) from h.fix.h16) (by omega) (by decide), b_oj, ws_at]
    by_cases q : g p = nI 1
    · rw [if_pos q, show cR (ws c 16 g) 65 14 0 = some 15 from h.fix.f65, b_oa (show cH (ws c 16 g) 15 = some (406, 100) from h.fix.h15) (by omega) (by decide), show cR (ws c 16 g) 406 15 p = some (kL K p) from lh.1, b_oc (show cH (ws c 16 g) (kL K p) = some (3, 0) from lh.2.1), show cR (ws c 16 g) 50 (kL K p) 0 = some (kP K p) from lh.2.2.1]
      have p5 : pl (s 35) p < 5000 := by
        have := (row_le hI hl).2.1.lt
        unfold pl; omega
      obtain ⟨g2, w1, w2, w3, w4⟩ := b_parts (f := f) h hI hl (pl (s 35) p) 0 f g (by omega) (by omega)
      have w1 : D_K_markParts f 14 (some (kP K p)) (ws c 16 g) = some (0, ws c 16 g2) := w1
      rw [w1, b_ob]
      refine ih k g2 (by omega) (by omega) ⟨fun l hl => ?_, w3 lot hm.2.1, fun M M1 M2 l hl2 hg => ?_⟩ (fun a b hE ha hg => ?_)
      · rcases w2 l with z | z
        · rw [z]; exact hm.1 l hl
        · exact Or.inr z.1
      · rcases w2 l with z | ⟨z1, z2, j2, z3, z4⟩
        · rw [z] at hg; exact hm.2.2 M M1 M2 l hl2 hg
        · exact M2 p l (hm.2.2 M M1 M2 p hl q) ⟨p, j2, l, hl, z3, z2, z4, Or.inl hl, by unfold eg; rw [if_neg (by decide)]; exact ⟨rfl, rfl⟩⟩
      · obtain ⟨l2, j2, y2, u1, u2, u3, u4, u5, u6⟩ := hE
        unfold eg at u6
        rw [if_neg (by decide)] at u6
        obtain ⟨rfl, rfl⟩ := u6
        by_cases e : a = p
        · subst e
          have z := w4 j2 (Nat.zero_le _) u2
          rw [u4, nt_nI (by omega)] at z; exact z
        · rcases w2 a with z | ⟨z1, z2, _⟩
          · rw [z] at hg
            exact w3 b (hc a b ⟨a, j2, b, u1, u2, u3, u4, u5, by unfold eg; rw [if_neg (by decide)]; exact ⟨rfl, rfl⟩⟩ (by omega) hg)
          · omega
    · rw [if_neg q]
      refine ih k g (by omega) (by omega) hm (fun a b hE ha hg => ?_)
      by_cases e : a = p
      · rw [e] at hg; exact absurd hg q
      · exact hc a b hE (by omega) hg
theorem b_has (h : CRep K c s) (hI : Iv K W bd s) {l : Nat} {g : Nat → Int32} (hl : l < nt (s 31 0)) : ∀ d j k, j + d = pl (s 35) l → d < k → (D_K_hasMarked_2 f 14 (some (kP K l)) k (nI j) (ws c 16 g) = some (nI 1, ws c 16 g) ∧ ∃ j2, j2 < pl (s 35) l ∧ g (nt (s 36 (nt (s 35 l) + j2))) = nI 1) ∨ (D_K_hasMarked_2 f 14 (some (kP K l)) k (nI j) (ws c 16 g) = some (nI 0, ws c 16 g) ∧ ∀ j2, j ≤ j2 → j2 < pl (s 35) l → g (nt (s 36 (nt (s 35 l) + j2))) ≠ nI 1) := by
  have l100 := hI.i31.lt
  have lh := h.lh l hl
  have p5 : pl (s 35) l < 5000 := by
    have := (row_le hI hl).2.1.lt
    unfold pl; omega
  intro d
  induction d with
  | zero =>
    intro j k hj hk
    obtain ⟨k, rfl⟩ : ∃ k', k = k' + 1 := ⟨k - 1, by omega⟩
    right
    refine ⟨?_, fun j2 h1 h2 => by omega⟩
    rw [D_K_hasMarked_2, b_oq (show cH (ws c 16 g) (kP K l) = some (400, pl (s 35) l) from lh.2.2.2.2.1), if_pos]
    rw [show j = pl (s 35) l by omega]; exact Int32.le_refl _
  | succ d ih =>
    intro j k hj hk
    obtain ⟨k, rfl⟩ : ∃ k', k = k' + 1 := ⟨k - 1, by omega⟩
    have pa := part_at (g := g) h hI hl (show j < pl (s 35) l by omega)
    rw [D_K_hasMarked_2, b_oq (show cH (ws c 16 g) (kP K l) = some (400, pl (s 35) l) from lh.2.2.2.2.1), if_neg (nI_ge (by omega) (by omega)), b_oc (show cH (ws c 16 g) 14 = some (4, 0) from h.fix.h14), b_oa (show cH (ws c 16 g) (kP K l) = some (400, pl (s 35) l) from lh.2.2.2.2.1) (by omega) (by omega), show cR (ws c 16 g) 66 14 0 = some 16 from h.fix.f66, pa.1, b_oa (show cH (ws c 16 g) 16 = some (400, 100) from h.fix.h16) (by omega) (by decide), ws_at, nI_add]
    by_cases q : g (nt (s 36 (nt (s 35 l) + j))) = nI 1
    · rw [if_pos q]; exact Or.inl ⟨rfl, j, by omega, q⟩
    · rw [if_neg q]
      rcases ih (j + 1) k (by omega) (by omega) with ⟨w1, w2⟩ | ⟨w1, w2⟩
      · exact Or.inl ⟨w1, w2⟩
      · refine Or.inr ⟨w1, fun j2 h1 h2 => ?_⟩
        by_cases e : j2 = j
        · rw [e]; exact q
        · exact w2 j2 (by omega) h2
theorem out_loop (h : CRep K c s) (hI : Iv K W bd s) (hf : 2 ^ 31 ≤ f) {lot : Nat} {x1 : Int32} {kk : cx_S → Option (Int32 × cx_S)} (hlot : lot < nt (s 31 0)) : ∀ d i k g, i + d = nt (s 31 0) → d < k → Mk s true lot g → (∀ a b, Ed s true a b → b < i → g a = nI 1 → g b = nI 1) →
    ∃ g2, D_K_markOutcomes_19 f 14 x1 kk k (nI i) (ws c 16 g) = kk (ws c 16 g2) ∧ Mk s true lot g2 ∧ ∀ a b, Ed s true a b → g2 a = nI 1 → g2 b = nI 1 := by
  have l100 := hI.i31.lt
  have e64 : ∀ g, cI (ws c 16 g) 64 14 0 = nI (nt (s 31 0)) := fun g => by rw [ws_o (by decide), h.ln]; exact hI.i31.eq
  intro d
  induction d with
  | zero =>
    intro i k g hi hk hm hc
    obtain ⟨k, rfl⟩ : ∃ k', k = k' + 1 := ⟨k - 1, by omega⟩
    have e : i = nt (s 31 0) := by omega
    subst e
    refine ⟨g, by rw [D_K_markOutcomes_19, b_oc (show cH (ws c 16 g) 14 = some (4, 0) from h.fix.h14), e64, if_pos (Int32.le_refl _)], hm, fun a b hE => hc a b hE ?_⟩
    obtain ⟨l2, j2, y2, u1, u2, u3, u4, u5, u6⟩ := hE
    unfold eg at u6
    rw [if_pos rfl] at u6
    omega
  | succ d ih =>
    intro i k g hi hk hm hc
    obtain ⟨k, rfl⟩ : ∃ k', k = k' + 1 := ⟨k - 1, by omega⟩
    have hl : i < nt (s 31 0) := by omega
    have lh := h.lh i hl
    have p5 : pl (s 35) i < 5000 := by
      have := (row_le hI hl).2.1.lt
      unfold pl; omega
    rw [D_K_markOutcomes_19, b_oc (show cH (ws c 16 g) 14 = some (4, 0) from h.fix.h14), e64, if_neg (nI_ge hl (by omega)), show cR (ws c 16 g) 65 14 0 = some 15 from h.fix.f65, b_oa (show cH (ws c 16 g) 15 = some (406, 100) from h.fix.h15) (by omega) (by decide), show cR (ws c 16 g) 406 15 i = some (kL K i) from lh.1, b_oc (show cH (ws c 16 g) (kL K i) = some (3, 0) from lh.2.1), show cR (ws c 16 g) 50 (kL K i) 0 = some (kP K i) from lh.2.2.1]
    rcases b_has (f := f) (g := g) h hI hl (pl (s 35) i) 0 f (by omega) (by omega) with ⟨w1, j2, w2, w3⟩ | ⟨w1, w2⟩
    · have w1 : D_K_hasMarked f 14 (some (kP K i)) (ws c 16 g) = some (nI 1, ws c 16 g) := w1
      have src := hI.il.2.2.2.2.2 i hl j2 w2
      rw [w1, b_ob, b_oj, if_neg (by decide), b_oc (show cH (ws c 16 g) 14 = some (4, 0) from h.fix.h14), show cR (ws c 16 g) 66 14 0 = some 16 from h.fix.f66, b_oa (show cH (ws c 16 g) 16 = some (400, 100) from h.fix.h16) (by omega) (by decide), ws_ui, nI_add]
      refine ih (i + 1) k _ (by omega) (by omega) ⟨fun l hl => ?_, ?_, fun M M1 M2 l hl2 hg => ?_⟩ (fun a b hE hb hg => ?_)
      · by_cases e : l = i
        · rw [e, upd_s]; exact Or.inr rfl
        · rw [upd_o e]; exact hm.1 l hl
      · by_cases e : lot = i
        · rw [e, upd_s]
        · rw [upd_o e]; exact hm.2.1
      · by_cases e : l = i
        · rw [e]
          have sl := src.lt
          exact M2 _ i (hm.2.2 M M1 M2 _ (by omega) w3) ⟨i, j2, _, hl, w2, sl, src.eq, Or.inl hl, by unfold eg; rw [if_pos rfl]; exact ⟨rfl, rfl⟩⟩
        · rw [upd_o e] at hg; exact hm.2.2 M M1 M2 l hl2 hg
      · by_cases e : b = i
        · rw [e, upd_s]
        · obtain ⟨l2, j3, y2, u1, u2, u3, u4, u5, u6⟩ := hE
          have u7 := u6
          unfold eg at u6
          rw [if_pos rfl] at u6
          rw [upd_o e]
          rw [upd_o (by omega)] at hg
          exact hc a b ⟨l2, j3, y2, u1, u2, u3, u4, u5, u7⟩ (by omega) hg
    · have w1 : D_K_hasMarked f 14 (some (kP K i)) (ws c 16 g) = some (nI 0, ws c 16 g) := w1
      rw [w1, b_ob, b_oj, if_pos (show nI 0 = 0 from rfl), nI_add]
      refine ih (i + 1) k g (by omega) (by omega) hm (fun a b hE hb hg => ?_)
      by_cases e : b = i
      · obtain ⟨l2, j3, y2, u1, u2, u3, u4, u5, u6⟩ := hE
        unfold eg at u6
        rw [if_pos rfl] at u6
        obtain ⟨rfl, rfl⟩ := u6
        subst e
        have := w2 j3 (Nat.zero_le _) u2
        rw [u4, nt_nI (by omega)] at this
        exact absurd hg this
      · exact hc a b hE (by omega) hg
/-- both closed, both least: alike -/
theorem mk_same {o : Bool} {lot : Nat} {m g : Nat → Int32} (hm : Mk s o lot m) (cm : ∀ a b, Ed s o a b → m a = nI 1 → m b = nI 1) (hg : Mk s o lot g) (cg : ∀ a b, Ed s o a b → g a = nI 1 → g b = nI 1) : ∀ l, l < nt (s 31 0) → m l = g l := by
  intro l hl
  have h1 := hm.2.2 (fun x => g x = nI 1) hg.2.1 (fun x y hx hE => cg x y hE hx) l hl
  have h2 := hg.2.2 (fun x => m x = nI 1) hm.2.1 (fun x y hx hE => cm x y hE hx) l hl
  rcases hm.1 l hl with q | q
  · rcases hg.1 l hl with q2 | q2
    · rw [q, q2]
    · have := h2 q2
      rw [q] at this; exact absurd this (by decide)
  · rw [q, h1 q]
theorem find_both (h : CRep K c s) (hI : Iv K W bd s) {lot : Nat} {m g : Nat → Int32} {x : Int32} (hlot : lot < nt (s 31 0)) (hm : ∀ l, l < nt (s 31 0) → m l = nI 0 ∨ m l = nI 1) (hg : ∀ l, l < nt (s 31 0) → g l = if l = lot then nI 0 else m l) : ∀ d l k n, l + d = nt (s 31 0) → d < k → ∃ y, D_K_findMarked_4 f 14 x k (nI n) (nI l) (ws c 16 g) = some (y, ws c 16 g) ∧ D_M_trace_33 f (nI lot) x k (nI n) (nI l) (w40 s m) = some (y, w40 s m) := by
  have l100 := hI.i31.lt
  have e64 : cI (ws c 16 g) 64 14 0 = nI (nt (s 31 0)) := by rw [ws_o (by decide), h.ln]; exact hI.i31.eq
  have e31 : w40 s m 31 0 = nI (nt (s 31 0)) := hI.i31.eq
  have e40 : w40 s m 40 = m := rfl
  intro d
  induction d with
  | zero =>
    intro l k n hl hk
    obtain ⟨k, rfl⟩ : ∃ k', k = k' + 1 := ⟨k - 1, by omega⟩
    have e : l = nt (s 31 0) := by omega
    subst e
    exact ⟨-1, by rw [D_K_findMarked_4, b_oc (show cH (ws c 16 g) 14 = some (4, 0) from h.fix.h14), e64, if_pos (Int32.le_refl _)], by rw [D_M_trace_33, e31, if_pos (Int32.le_refl _)]⟩
  | succ d ih =>
    intro l k n hl hk
    obtain ⟨k, rfl⟩ : ∃ k', k = k' + 1 := ⟨k - 1, by omega⟩
    have hln : l < nt (s 31 0) := by omega
    rw [D_K_findMarked_4, D_M_trace_33, b_oc (show cH (ws c 16 g) 14 = some (4, 0) from h.fix.h14), e64, e31, if_neg (nI_ge hln (by omega)), if_neg (nI_ge hln (by omega)), show cR (ws c 16 g) 66 14 0 = some 16 from h.fix.f66, b_oa (show cH (ws c 16 g) 16 = some (400, 100) from h.fix.h16) (by omega) (by decide), ws_at, hg l hln]
    simp only [b_oj, b_og (show l < 100 by omega) (show 100 < 2 ^ 31 by decide), e40, nI_add]
    by_cases e : l = lot
    · subst e
      simp only [if_true, b_0m, if_false]
      exact ih (l + 1) k n (by omega) (by omega)
    · have ne : ¬ nI l = nI lot := by rw [nI_eq (by omega) (by omega)]; exact e
      simp only [if_neg e, if_neg ne]
      rcases hm l hln with q | q
      · simp only [q, b_0m, b_00, if_true, if_false]
        exact ih (l + 1) k n (by omega) (by omega)
      · simp only [q, b_10, if_true, if_false]
        by_cases e2 : nI n = x
        · rw [if_pos e2, if_pos e2]; exact ⟨_, rfl, rfl⟩
        · rw [if_neg e2, if_neg e2]
          exact ih (l + 1) k (n + 1) (by omega) (by omega)
theorem find_none (hI : Iv K W bd s) {lot : Nat} {m : Nat → Int32} {x : Int32} (hx : x < 0 ∨ nI (nt (s 31 0)) ≤ x) : ∀ d l k n, l + d = nt (s 31 0) → d < k → n ≤ l → D_M_trace_33 f (nI lot) x k (nI n) (nI l) (w40 s m) = some (-1, w40 s m) := by
  have l100 := hI.i31.lt
  have e31 : w40 s m 31 0 = nI (nt (s 31 0)) := hI.i31.eq
  intro d
  induction d with
  | zero =>
    intro l k n hl hk hn
    obtain ⟨k, rfl⟩ : ∃ k', k = k' + 1 := ⟨k - 1, by omega⟩
    have e : l = nt (s 31 0) := by omega
    subst e
    rw [D_M_trace_33, e31, if_pos (Int32.le_refl _)]
  | succ d ih =>
    intro l k n hl hk hn
    obtain ⟨k, rfl⟩ : ∃ k', k = k' + 1 := ⟨k - 1, by omega⟩
    have hln : l < nt (s 31 0) := by omega
    have nx : ¬ nI n = x := fun e => by
      subst e
      rcases hx with q | q
      · exact nI_pos (by omega) q
      · exact nI_ge (show n < nt (s 31 0) by omega) (by omega) q
    have a := ih (l + 1) k n (by omega) (by omega) (by omega)
    have b := ih (l + 1) k (n + 1) (by omega) (by omega) (by omega)
    rw [D_M_trace_33, e31, if_neg (nI_ge hln (by omega))]
    simp only [b_oj, b_og (show l < 100 by omega) (show 100 < 2 ^ 31 by decide), nI_add, if_neg nx, a, b, ite_self]
theorem b_trace (h : St K W bd c s) (hf : 2 ^ 31 ≤ f) (x w y : Int32) : Sim K W bd bd c s (D_H_trace f 2 x w y c) (D_M_trace f x w y s) := by
  obtain ⟨h, hI⟩ := h
  unfold D_H_trace D_M_trace
  have g := hI.i31
  have gl := g.lt
  have e3 : cI c 64 14 0 = nI (nt (s 31 0)) := by rw [h.ln]; exact g.eq
  have e4 : rx_up s 0 0 (nI 0) 31 0 = nI (nt (s 31 0)) := g.eq
  rcases inm_cases x (n := nt (s 31 0)) (by omega) f with ⟨l, hl, rfl, e1, e2⟩ | ⟨e1, e2⟩
  · obtain ⟨o, ho⟩ : ∃ o : Bool, (w = 0) ↔ o = false := ⟨!decide (w = 0), by simp⟩
    obtain ⟨m, m1, m2, m3⟩ := b_mark (f := f) (s := R0 s) hf ho hI hl
    simp only [b_oc h.fix.h2, h.fix.f6, b_oc h.fix.h14, e3, e4, e1, e2, b_ob, b_oj, b_10, if_false, m1]
    rcases inm_cases y (n := nt (s 31 0)) (by omega) f with ⟨j, hj, rfl, e5, e6⟩ | ⟨e5, e6⟩
    · -- the class's marks
      have cls : ∃ g2, (if w = 0 then D_K_markOrigins f 14 (nI l) c else D_K_markOutcomes f 14 (nI l) c) = some (0, ws c 16 (upd g2 l (nI 0))) ∧ Mk (R0 s) o l g2 ∧ ∀ a b, Ed (R0 s) o a b → g2 a = nI 1 → g2 b = nI 1 := by
        obtain ⟨g0, w1, w2⟩ := b_fill (f := f) (v := nI 0) h.fix.h16 (by decide) hf
        have mk0 : ∀ o, Mk (R0 s) o l (upd g0 l (nI 1)) := fun o => by
          refine ⟨fun l2 hl2 => ?_, upd_s, fun M M1 M2 l2 hl2 hm => ?_⟩
          · by_cases e : l2 = l
            · rw [e, upd_s]; exact Or.inr rfl
            · have : l2 < nt (s 31 0) := hl2
              rw [upd_o e]; exact Or.inl (w2 l2 (by omega))
          · by_cases e : l2 = l
            · rw [e]; exact M1
            · have : l2 < nt (s 31 0) := hl2
              rw [upd_o e, w2 l2 (by omega)] at hm; exact absurd hm (by decide)
        cases o with
        | false =>
          rw [if_pos (ho.mpr rfl)]
          obtain ⟨g2, u1, u2, u3⟩ := orig_loop (f := f) (s := R0 s) (x1 := nI l) (kk := fun (s17 : cx_S) => oc 4 (some 14) s17 fun p18 => oa 400 (cR s17 66 p18 0) (nI l) s17 fun a19 j20 => some (0, cx_ui s17 400 a19 j20 (nI 0))) h hI hf hl (l + 1) f (upd g0 l (nI 1)) (by omega) (by omega) (mk0 false) (fun a b hE ha hm => by
            obtain ⟨l2, j2, y2, q1, q2, q3, q4, q5, q6⟩ := hE
            unfold eg at q6
            rw [if_neg (by decide)] at q6
            have q1 : l2 < nt (s 31 0) := q1
            rw [upd_o (by omega), w2 a (by omega)] at hm; exact absurd hm (by decide))
          refine ⟨g2, ?_, u2, u3⟩
          rw [pk_sub (by omega), Nat.add_sub_cancel] at u1
          rw [D_K_markOrigins, b_oc h.fix.h14, h.fix.f66, w1, b_ob, b_oc (show cH (ws c 16 g0) 14 = some (4, 0) from h.fix.h14), show cR (ws c 16 g0) 66 14 0 = some 16 from h.fix.f66, b_oa (show cH (ws c 16 g0) 16 = some (400, 100) from h.fix.h16) (by omega) (by decide), ws_ui, u1, b_oc (show cH (ws c 16 g2) 14 = some (4, 0) from h.fix.h14), show cR (ws c 16 g2) 66 14 0 = some 16 from h.fix.f66, b_oa (show cH (ws c 16 g2) 16 = some (400, 100) from h.fix.h16) (by omega) (by decide), ws_ui]
        | true =>
          rw [if_neg (fun z => absurd (ho.mp z) (by decide))]
          obtain ⟨g2, u1, u2, u3⟩ := out_loop (f := f) (s := R0 s) (x1 := nI l) (kk := fun (s18 : cx_S) => oc 4 (some 14) s18 fun p19 => oa 400 (cR s18 66 p19 0) (nI l) s18 fun a20 j21 => some (0, cx_ui s18 400 a20 j21 (nI 0))) h hI hf hl (nt (s 31 0) - (l + 1)) (l + 1) f (upd g0 l (nI 1)) (by show l + 1 + _ = nt (s 31 0); omega) (by omega) (mk0 true) (fun a b hE hb hm => by
            obtain ⟨l2, j2, y2, q1, q2, q3, q4, q5, q6⟩ := hE
            unfold eg at q6
            rw [if_pos rfl] at q6
            have q1 : l2 < nt (s 31 0) := q1
            rw [upd_o (by omega), w2 a (by omega)] at hm; exact absurd hm (by decide))
          refine ⟨g2, ?_, u2, u3⟩
          rw [D_K_markOutcomes, b_oc h.fix.h14, h.fix.f66, w1, b_ob, b_oc (show cH (ws c 16 g0) 14 = some (4, 0) from h.fix.h14), show cR (ws c 16 g0) 66 14 0 = some 16 from h.fix.f66, b_oa (show cH (ws c 16 g0) 16 = some (400, 100) from h.fix.h16) (by omega) (by decide), ws_ui, nI_add, u1, b_oc (show cH (ws c 16 g2) 14 = some (4, 0) from h.fix.h14), show cR (ws c 16 g2) 66 14 0 = some 16 from h.fix.f66, b_oa (show cH (ws c 16 g2) 16 = some (400, 100) from h.fix.h16) (by omega) (by decide), ws_ui]
      obtain ⟨g2, u1, u2, u3⟩ := cls
      have same := mk_same m2 m3 u2 u3
      obtain ⟨z, z1, z2⟩ := find_both (f := f) (s := R0 s) (m := m) (g := upd g2 l (nI 0)) (x := nI j) h hI hl m2.1 (fun l2 hl2 => by
        by_cases e : l2 = l
        · rw [e, upd_s, if_pos rfl]
        · rw [upd_o e, if_neg e, same l2 hl2]) (nt (s 31 0)) 0 f 0 (by show 0 + _ = nt (s 31 0); omega) (by omega)
      have z1 : D_K_findMarked f 14 (nI j) (ws c 16 (upd g2 l (nI 0))) = some (z, ws c 16 (upd g2 l (nI 0))) := z1
      have fin : Sim K W bd bd c s (some (z, ws c 16 (upd g2 l (nI 0)))) (some (z, w40 (R0 s) m)) := ⟨z, K, W, _, _, rfl, rfl, ⟨CRep_ws (CRep_s h (fun k hk => by
          show (if k = 40 then m else R0 s k) = s k
          rw [if_neg (by omega)]; funext j; exact R0_k (by omega))) (by unfold Sc; omega), hI⟩, rfl, ⟨Nat.le_refl _, by show cN c ≤ _; omega, by show cZ c ≤ _; omega⟩⟩
      simp only [e5, b_ob, b_10, if_false, b_oc h.fix.h2, h.fix.f6, b_oc h.fix.h14]
      rw [z2]
      by_cases q : w = 0
      · rw [if_pos q] at u1 ⊢
        rw [u1, b_ob, b_oc (show cH (ws c 16 (upd g2 l (nI 0))) 2 = some (0, 0) from h.fix.h2), show cR (ws c 16 (upd g2 l (nI 0))) 6 2 0 = some 14 from h.fix.f6, b_oc (show cH (ws c 16 (upd g2 l (nI 0))) 14 = some (4, 0) from h.fix.h14), z1, b_ob]
        exact fin
      · rw [if_neg q] at u1 ⊢
        rw [u1, b_ob, b_oc (show cH (ws c 16 (upd g2 l (nI 0))) 2 = some (0, 0) from h.fix.h2), show cR (ws c 16 (upd g2 l (nI 0))) 6 2 0 = some 14 from h.fix.f6, b_oc (show cH (ws c 16 (upd g2 l (nI 0))) 14 = some (4, 0) from h.fix.h14), z1, b_ob]
        exact fin
    · have hy : y < 0 ∨ nI (nt (s 31 0)) ≤ y := by
        rcases b_ix y (n := nt (s 31 0)) (by omega) with ⟨j, hj, rfl⟩ | q
        · have := e5 c
          rw [b_below_t hj (by omega)] at this
          exact absurd (congrArg (fun z => z.map Prod.fst) this) (by simp; decide)
        · exact q
      have z := find_none (f := f) (s := R0 s) (lot := l) (m := m) (x := y) hI hy (nt (s 31 0)) 0 f 0 (by show 0 + _ = nt (s 31 0); omega) (by omega) (Nat.le_refl _)
      have z : D_M_trace_33 f (nI l) y f (nI 0) (nI 0) (w40 (R0 s) m) = _ := z
      simp only [e5, b_ob, b_00, if_true, b_oc h.fix.h2, h.fix.f6, b_oc h.fix.h14]
      rw [z]
      exact ⟨-1, K, W, c, _, rfl, rfl, ⟨CRep_s h (fun k hk => by
          show (if k = 40 then m else R0 s k) = s k
          rw [if_neg (by omega)]; funext j; exact R0_k (by omega)), hI⟩, rfl, Gr.same rfl⟩
  · simp only [b_oc h.fix.h2, h.fix.f6, b_oc h.fix.h14, e3, e4, e1, e2, b_ob, b_oj, b_10, b_00, if_false, if_true]
    exact sim_same ⟨h, hI⟩ rfl rfl
end CTR
end TRC
