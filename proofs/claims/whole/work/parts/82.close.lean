/-! closing a batch -/
section CLO
variable {f : Nat} {K : kx} {W : Nat → Nat → Nat} {bd : Nat} {c : cx_S} {s : rx_S}
theorem getD_app1 {l : List Nat} {e j : Nat} (h : j < l.length) : (l ++ [e]).getD j 0 = l.getD j 0 := by
  rw [List.getD_eq_getElem?_getD, List.getD_eq_getElem?_getD, List.getElem?_append_left h]
theorem getD_app2 {l : List Nat} {e : Nat} : (l ++ [e]).getD l.length 0 = e := by
  rw [List.getD_eq_getElem?_getD, List.getElem?_append_right (Nat.le_refl _), Nat.sub_self]
  rfl
theorem take_s {l : List Nat} {i : Nat} (h : i < l.length) : l.take (i + 1) = l.take i ++ [l.getD i 0] := by
  rw [List.take_succ, List.getD_eq_getElem?_getD, List.getElem?_eq_getElem h]
  rfl
theorem leave (t : Nat) (ht : t < 16) (L : List Nat) (hL : L.length ≤ 16) (hx : ∀ e, e ∈ L → e < 16) (h28 : s 28 0 = nI L.length) (h29 : ∀ i, i < L.length → s 29 i = nI (L.getD i 0)) (hf : 2 ^ 31 ≤ f) :
    ∃ s2, D_M_leaveLine f (nI t) s = some (0, s2) ∧ (∀ k, k ≠ 28 → k ≠ 29 → s2 k = s k) ∧ s2 28 0 = nI (L.filter (fun e => e != t)).length ∧ ∀ i, i < (L.filter (fun e => e != t)).length → s2 29 i = nI ((L.filter (fun e => e != t)).getD i 0) := by
  have key : ∀ d i k s1, i + d = L.length → d < k → (∀ q, q ≠ 29 → s1 q = s q) → (∀ j, j < ((L.take i).filter (fun e => e != t)).length → s1 29 j = nI (((L.take i).filter (fun e => e != t)).getD j 0)) → (∀ j, i ≤ j → j < L.length → s1 29 j = nI (L.getD j 0)) →
      ∃ s2, D_M_leaveLine_4 f (nI t) (fun (v6 : Int32) (s7 : rx_S) => some (0, rx_up s7 28 0 v6)) k (nI ((L.take i).filter (fun e => e != t)).length) (nI i) s1 = some (0, s2) ∧ (∀ k, k ≠ 28 → k ≠ 29 → s2 k = s k) ∧ s2 28 0 = nI (L.filter (fun e => e != t)).length ∧ ∀ i, i < (L.filter (fun e => e != t)).length → s2 29 i = nI ((L.filter (fun e => e != t)).getD i 0) := by
    intro d
    induction d with
    | zero =>
      intro i k s1 hi hk hq h1 h2
      obtain ⟨k, rfl⟩ : ∃ k', k = k' + 1 := ⟨k - 1, by omega⟩
      have e : L.take i = L := List.take_of_length_le (by omega)
      rw [e] at h1 ⊢
      refine ⟨_, by rw [D_M_leaveLine_4, hq 28 (by decide), h28, if_pos (by rw [show i = L.length by omega]; exact Int32.le_refl _)], fun k k1 k2 => ?_, up_s, fun i hi => ?_⟩
      · funext j; rw [up_k k1, hq k k2]
      · rw [up_k (by decide)]; exact h1 i hi
    | succ d ih =>
      intro i k s1 hi hk hq h1 h2
      obtain ⟨k, rfl⟩ : ∃ k', k = k' + 1 := ⟨k - 1, by omega⟩
      have hil : i < L.length := by omega
      have ei := h2 i (Nat.le_refl _) hil
      have lt16 : L.getD i 0 < 16 := by
        rw [List.getD_eq_getElem?_getD, List.getElem?_eq_getElem hil]
        exact hx _ (List.getElem_mem hil)
      have nl : ((L.take i).filter (fun e => e != t)).length ≤ i := Nat.le_trans (List.length_filter_le _ _) (by rw [List.length_take]; omega)
      have ts := take_s hil
      generalize hF : (L.take i).filter (fun e => e != t) = F at *
      have fs : (L.take (i + 1)).filter (fun e => e != t) = if L.getD i 0 = t then F else F ++ [L.getD i 0] := by
        rw [ts, List.filter_append, hF]
        by_cases q : L.getD i 0 = t
        · rw [if_pos q]
          simp only [List.filter_cons, List.filter_nil, q, bne_self_eq_false, Bool.false_eq_true, if_false, List.append_nil]
        · rw [if_neg q]
          have : (L.getD i 0 != t) = true := by simpa using q
          simp only [List.filter_cons, List.filter_nil, this, if_true]
      have nx := fun s2 v => ih (i + 1) k s2 (by omega) (by omega)
      by_cases q : L.getD i 0 = t
      · rw [if_pos q] at fs
        have := ih (i + 1) k s1 (by omega) (by omega) hq (by rw [fs]; exact h1) (fun j hj hj2 => h2 j (by omega) hj2)
        rw [fs] at this
        obtain ⟨s2, w1, w2⟩ := this
        refine ⟨s2, ?_, w2⟩
        rw [D_M_leaveLine_4, hq 28 (by decide), h28, if_neg (nI_ge hil (by omega)), b_og (by omega) (by decide), b_oj, ei, if_pos (by rw [q]), nI_add]
        exact w1
      · rw [if_neg q] at fs
        have := ih (i + 1) k (rx_up s1 29 F.length (nI (L.getD i 0))) (by omega) (by omega) (fun q hq2 => by funext j; rw [up_k hq2, hq q hq2]) (by
          rw [fs]
          intro j hj
          rw [List.length_append] at hj
          by_cases e : j = F.length
          · rw [e, up_s, getD_app2]
          · have hj2 : j < F.length := by simp at hj; omega
            rw [up_o e, getD_app1 hj2]; exact h1 j hj2) (fun j hj hj2 => by
          rw [up_o (by omega)]; exact h2 j (by omega) hj2)
        rw [fs] at this
        obtain ⟨s2, w1, w2⟩ := this
        refine ⟨s2, ?_, w2⟩
        rw [D_M_leaveLine_4, hq 28 (by decide), h28, if_neg (nI_ge hil (by omega)), b_og (by omega) (by decide), b_oj, ei, if_neg (by rw [nI_eq (by omega) (by omega)]; exact q), b_og (by omega) (by decide), nI_add, nI_add]
        rw [List.length_append] at w1
        exact w1
  exact key L.length 0 f s (by omega) (by omega) (fun _ _ => rfl) (fun j hj => by simp at hj) (fun j _ hj => h29 j hj)
def cq (c2 c : cx_S) : Prop := cZ c2 = cZ c ∧ cI c2 400 21 = cI c 400 21
/-- both give the units back -/
theorem give_loop {t : Nat} (hf : 2 ^ 31 ≤ f) : ∀ d k n c s, k + d = 3 → d < n → CRep K c s → t < nt (s 15 0) → t < 16 → (∀ j, j < 3 → rgm (s 22 (3 * t + j)) 6) →
    ∃ c2 s2, D_F_finish_12 f 12 (some (kB K t)) n (nI k) c = some (0, c2) ∧ D_M_giveBack_2 f (nI t) n (nI k) s = some (0, s2) ∧ CRep K c2 s2 ∧ cN c2 = cN c ∧ cq c2 c ∧ (∀ q, q ≠ 2 → q ≠ 22 → s2 q = s q) ∧ (∀ j, (j < 3 * t + k ∨ 3 * t + 3 ≤ j) → s2 22 j = s 22 j) ∧ (∀ j, k ≤ j → j < 3 → s2 22 (3 * t + j) = -1) ∧ (∀ u, u < 6 → s2 2 u = s 2 u ∨ (s2 2 u = -1 ∧ ∃ j, j < 3 ∧ s 22 (3 * t + j) = nI u)) ∧ (∀ j, k ≤ j → j < 3 → ∀ u, u < 6 → s 22 (3 * t + j) = nI u → s2 2 u = -1) := by
  intro d
  induction d with
  | zero =>
    intro k n c s hk hn h ht t16 hu
    obtain ⟨n, rfl⟩ : ∃ n', n = n' + 1 := ⟨n - 1, by omega⟩
    have e : k = 3 := by omega
    subst e
    exact ⟨c, s, by rw [D_F_finish_12, if_pos (Int32.le_refl _)], by rw [D_M_giveBack_2, if_pos (Int32.le_refl _)], h, rfl, ⟨rfl, rfl⟩, fun _ _ _ => rfl, fun _ _ => rfl, fun j h1 h2 => by omega, fun _ _ => Or.inl rfl, fun j h1 h2 => by omega⟩
  | succ d ih =>
    intro k n c s hk hn h ht t16 hu
    obtain ⟨n, rfl⟩ : ∃ n', n = n' + 1 := ⟨n - 1, by omega⟩
    have hk3 : k < 3 := by omega
    obtain ⟨hb1, hb2, hb3, hb4, hb5, hb6, hb7, hb8, hb9, hb10, hb11⟩ := h.bh t ht
    have ho := h.bo t ht k hk3
    rcases hu k hk3 with q | q
    · obtain ⟨c2, s2, w1, w2, w3, w4, w5, w6, w7, w8, w9, w10⟩ := ih (k + 1) n c s (by omega) (by omega) h ht t16 hu
      have same : rx_up s 22 (3 * t + k) (-1) = s := up_id q
      refine ⟨c2, s2, ?_, ?_, w3, w4, w5, w6, fun j hj => w7 j (by omega), fun j h1 h2 => ?_, w9, fun j h1 h2 u hu2 e => ?_⟩
      · rw [D_F_finish_12, if_neg (nI_ge (by omega) (by decide)), b_oc hb2, hb7, b_oa hb11 hk3 (by decide), b_oj, ho, if_pos q, nI_add]
        exact w1
      · rw [D_M_giveBack_2, if_neg (nI_ge (by omega) (by decide)), pk_mul, nI_add, b_og (by omega) (by decide), b_oj, if_pos q]
        show D_M_giveBack_2 f (nI t) n (nI k + nI 1) (rx_up s 22 (3 * t + k) (-1)) = _
        rw [same, nI_add]
        exact w2
      · by_cases e : j = k
        · rw [e, w7 _ (by omega)]; exact q
        · exact w8 j (by omega) h2
      · by_cases e2 : j = k
        · rw [e2, q] at e
          exact absurd e.symm (nI_m1 (by omega))
        · exact w10 j (by omega) h2 u hu2 e
    · have qe := q.eq
      have ql := q.lt
      generalize hu2 : nt (s 22 (3 * t + k)) = u at *
      have nm : ¬ s 22 (3 * t + k) = -1 := by rw [qe]; exact nI_m1 (by omega)
      have h1 := p_own (u := u) (x := -1) h
      have h2 := p_owned (s := rx_up s 2 u (-1)) h1 ht hk3 (x := -1)
      have inj : ∀ {j k2 : Nat}, j < 3 → 3 * t + j = 3 * t + k2 → j = k2 := fun {j k2} _ e => by omega
      obtain ⟨c2, s2, w1, w2, w3, w4, w5, w6, w7, w8, w9, w10⟩ := ih (k + 1) n _ _ (by omega) (by omega) h2 ht t16 (fun j hj => by
        by_cases e : j = k
        · rw [e, up_s]; exact Or.inl rfl
        · rw [up_o (by omega)]; exact hu j hj)
      have kb := h.bg.1 t ht
      have w5' : cq c2 c := ⟨w5.1, by rw [w5.2]; funext g; rw [ui_o (by omega)]; rfl⟩
      refine ⟨c2, s2, ?_, ?_, w3, w4, w5', fun q q1 q2 => by rw [w6 q q1 q2]; funext j; rw [up_k q2, up_k q1], fun j hj => by rw [w7 j (by omega), up_o (by omega)]; rfl, fun j h1 h2 => ?_, fun v hv => ?_, fun j h1 h2 v hv e => ?_⟩
      · rw [D_F_finish_12, if_neg (nI_ge (by omega) (by decide)), b_oc hb2, hb7, b_oa hb11 hk3 (by decide), b_oj, ho, if_neg nm, b_oc h.fix.h12, h.fix.f32, qe, b_oa h.fix.h13 ql (by decide), h.fix.unA u ql, b_oc (h.fix.hUn u ql)]
        rw [show cR (cx_ui c 161 (22 + 3 * u) 0 (-1)) 25 (kB K t) 0 = some (kB K t + 4) from hb7, b_oa hb11 hk3 (by decide), nI_add]
        exact w1
      · rw [D_M_giveBack_2, if_neg (nI_ge (by omega) (by decide)), pk_mul, nI_add, b_og (by omega) (by decide), b_oj, if_neg nm, qe, b_og ql (by decide), nI_add]
        exact w2
      · by_cases e : j = k
        · rw [e, w7 _ (by omega), up_s]
        · exact w8 j (by omega) h2
      · rcases w9 v hv with z | ⟨z, j, hj, hz⟩
        · rw [show rx_up (rx_up s 2 u (-1)) 22 (3 * t + k) (-1) 2 v = rx_up s 2 u (-1) 2 v from rfl] at z
          by_cases e : v = u
          · rw [e, up_s] at z
            exact Or.inr ⟨by rw [e]; exact z, k, hk3, by rw [e]; exact qe⟩
          · rw [up_o e] at z; exact Or.inl z
        · by_cases e : j = k
          · rw [e, up_s] at hz
            exact absurd hz.symm (nI_m1 (by omega))
          · rw [up_o (by omega)] at hz
            exact Or.inr ⟨z, j, hj, hz⟩
      · by_cases e2 : j = k
        · rw [e2, qe] at e
          have e3 : u = v := (nI_eq (by omega) (by omega)).mp e
          rcases w9 v hv with z | ⟨z, _⟩
          · rw [z, ← e3]
            show rx_up s 2 u (-1) 2 u = -1
            exact up_s
          · exact z
        · exact w10 j (by omega) h2 v hv (by rw [up_o (by omega)]; exact e)
theorem nw_len {n : Nat} {w : Int32} {ln : Nat → Int32} (h : Lin K n (s 18) w ln) : (nw K (s 18)).length ≤ 16 ∧ ∀ e, e ∈ nw K (s 18) → e < n := by
  refine ⟨Nat.le_trans (List.length_filter_le _ _) (by rw [List.length_map, List.length_range]; exact h.1), fun e he => ?_⟩
  unfold nw at he
  rw [List.mem_filter, List.mem_map] at he
  obtain ⟨⟨i, hi, rfl⟩, _⟩ := he
  exact h.2.1 i (List.mem_range.mp hi)
theorem nw_out {t : Nat} {x : Int32} (hx : x ≠ nI 1) : nw K (rx_up s 18 t x 18) = (nw K (s 18)).filter (fun e => e != t) := by
  unfold nw
  rw [List.filter_filter]
  congr 1
  funext e
  by_cases q : e = t
  · subst q
    rw [up_s, beq_false_of_ne hx]
    simp
  · rw [up_o q]
    have : (e != t) = true := by simpa using q
    rw [this, Bool.true_and]
/-- what a batch's own moves leave alone -/
def Fr (t : Nat) (s s2 : rx_S) : Prop := (∀ k, (1 ≤ k ∧ k ≤ 17 ∧ k ≠ 2 ∧ k ≠ 3 ∧ k ≠ 4 ∧ k ≠ 5) → s2 k = s k) ∧ (∀ t2, t2 ≠ t → s2 18 t2 = s 18 t2) ∧ (∀ u, u < 6 → s2 2 u = s 2 u ∨ (s2 2 u = -1 ∧ ∃ j, j < 3 ∧ s 22 (3 * t + j) = nI u)) ∧ ∀ j, j < 3 → s2 22 (3 * t + j) = s 22 (3 * t + j) ∨ s2 22 (3 * t + j) = -1
theorem Fr.rfl {t : Nat} : Fr t s s := ⟨fun _ _ => Eq.refl _, fun _ _ => Eq.refl _, fun _ _ => Or.inl (Eq.refl _), fun _ _ => Or.inl (Eq.refl _)⟩
theorem Fr.tr {t : Nat} {s1 s2 : rx_S} (h : Fr t s s1) (g : Fr t s1 s2) : Fr t s s2 := by
  obtain ⟨a1, a2, a3, a4⟩ := h
  obtain ⟨b1, b2, b3, b4⟩ := g
  refine ⟨fun k hk => by rw [b1 k hk, a1 k hk], fun t2 e => by rw [b2 t2 e, a2 t2 e], fun u hu => ?_, fun j hj => ?_⟩
  · rcases b3 u hu with q | ⟨q, j, hj, hq⟩
    · rw [q]; exact a3 u hu
    · rcases a4 j hj with z | z
      · exact Or.inr ⟨q, j, hj, by rw [← z]; exact hq⟩
      · rw [z] at hq; exact absurd hq.symm (nI_m1 (by omega))
  · rcases b4 j hj with q | q
    · rw [q]; exact a4 j hj
    · exact Or.inr q
theorem close_both (h : CRep K c s) (hI : Iv K W bd s) (hf : 2 ^ 31 ≤ f) {t how : Nat} (ht : t < nt (s 15 0)) (h0 : s 18 t ≠ nI 0) (hh : 5 ≤ how ∧ how ≤ 7) :
    ∃ c2 s2, D_F_finish f 12 (some (kB K t)) (nI how) c = some (0, c2) ∧ D_M_close f (nI t) (nI how) s = some (0, s2) ∧ CRep K c2 s2 ∧ Iv K W bd s2 ∧ cN c2 = cN c ∧ cq c2 c ∧ s2 18 t = nI how ∧ s2 19 t = nI 0 ∧ s2 30 0 = nI 1 ∧ s2 31 0 = s 31 0 ∧ s2 0 0 = s 0 0 ∧ Fr t s s2 := by
  have t16 := hI.t16 ht
  have b := hI.ib t ht
  have ln := hI.ln
  obtain ⟨l16, lx⟩ := nw_len ln
  have g15 := hI.i15.lt
  obtain ⟨s1, v1, v2, v3, v4⟩ := leave (f := f) t t16 (nw K (s 18)) l16 (fun e he => by have := lx e he; omega) ln.2.2.2.2.1 ln.2.2.2.2.2 hf
  have h1 : CRep K c s1 := CRep_s h (fun k hk => v2 k (by omega) (by omega))
  have e15 : s1 15 = s 15 := v2 15 (by decide) (by decide)
  have e19 : s1 19 = s 19 := v2 19 (by decide) (by decide)
  have e22 : s1 22 = s 22 := v2 22 (by decide) (by decide)
  have ht1 : t < nt (s1 15 0) := by rw [e15]; exact ht
  have h2 := p_tok (s := rx_up s1 18 t (nI how)) (x := nI 0) (p_state h1 ht1 (x := nI how)) ht1 (by rw [b_nt0]; exact Nat.zero_le _)
  obtain ⟨c2, s2, w1, w2, w3, w4, w5, w6, w7, w8, w9, w10⟩ := give_loop (f := f) (t := t) hf 3 0 f _ _ (by omega) (by omega) h2 ht1 t16 (fun j hj => by show rgm (s1 22 (3 * t + j)) 6; rw [e22]; exact b.2.2.2.2.2.2.2.1 j hj)
  obtain ⟨hb1, hb2, _⟩ := h.bh t ht
  have k2 : ∀ k, k ≠ 2 → k ≠ 18 → k ≠ 19 → k ≠ 22 → k ≠ 28 → k ≠ 29 → k ≠ 30 → rx_up s2 30 0 (nI 1) k = s k := fun k a b c d e g h => by
    funext j
    rw [up_k h, w6 k a d, up_k c, up_k b, v2 k e g]
  have e18 : rx_up s2 30 0 (nI 1) 18 = rx_up s1 18 t (nI how) 18 := by
    funext j
    rw [up_k (by decide), w6 18 (by decide) (by decide), up_k (by decide)]
  have e18b : rx_up s2 30 0 (nI 1) 18 = rx_up s 18 t (nI how) 18 := by
    rw [e18]
    funext j
    by_cases q : j = t
    · rw [q, up_s, up_s]
    · rw [up_o q, up_o q, v2 18 (by decide) (by decide)]
  have e19b : ∀ t2, rx_up s2 30 0 (nI 1) 19 t2 = if t2 = t then nI 0 else s 19 t2 := fun t2 => by
    rw [up_k (by decide), w6 19 (by decide) (by decide)]
    by_cases q : t2 = t
    · rw [q, up_s, if_pos rfl]
    · rw [up_o q, if_neg q]
      show s1 19 t2 = _
      rw [e19]
  have e22b : ∀ t2, t2 ≠ t → ∀ k, k < 3 → rx_up s2 30 0 (nI 1) 22 (3 * t2 + k) = s 22 (3 * t2 + k) := fun t2 q k hk => by
    rw [up_k (by decide), w7 _ (by omega)]
    show s1 22 _ = _
    rw [e22]
  have e22c : ∀ k, k < 3 → rx_up s2 30 0 (nI 1) 22 (3 * t + k) = -1 := fun k hk => by
    rw [up_k (by decide)]; exact w8 k (Nat.zero_le _) hk
  have e28 : rx_up s2 30 0 (nI 1) 28 = s1 28 := by
    funext j
    rw [up_k (by decide), w6 28 (by decide) (by decide)]; rfl
  have e29 : rx_up s2 30 0 (nI 1) 29 = s1 29 := by
    funext j
    rw [up_k (by decide), w6 29 (by decide) (by decide)]; rfl
  refine ⟨c2, rx_up s2 30 0 (nI 1), ?_, ?_, CRep_s w3 (fun k hk => by funext j; rw [up_k (by omega)]), ?_, w4, w5, by rw [e18b, up_s], by rw [e19b, if_pos rfl], up_s, by rw [k2 31 (by decide) (by decide) (by decide) (by decide) (by decide) (by decide) (by decide)], by rw [k2 0 (by decide) (by decide) (by decide) (by decide) (by decide) (by decide) (by decide)], ?_⟩
  · rw [D_F_finish, b_oc hb2]; exact w1
  · rw [D_M_close, v1, b_ob, b_og t16 (by decide), D_M_giveBack, w2, b_ob]
  · generalize hs3 : rx_up s2 30 0 (nI 1) = s3 at *
    have q := fun k a b c d e g h => k2 k a b c d e g h
    have x1 := q 3 (by decide) (by decide) (by decide) (by decide) (by decide) (by decide) (by decide)
    have x4 := q 4 (by decide) (by decide) (by decide) (by decide) (by decide) (by decide) (by decide)
    have x5 := q 5 (by decide) (by decide) (by decide) (by decide) (by decide) (by decide) (by decide)
    have x6 := q 6 (by decide) (by decide) (by decide) (by decide) (by decide) (by decide) (by decide)
    have x7 := q 7 (by decide) (by decide) (by decide) (by decide) (by decide) (by decide) (by decide)
    have x8 := q 8 (by decide) (by decide) (by decide) (by decide) (by decide) (by decide) (by decide)
    have x9 := q 9 (by decide) (by decide) (by decide) (by decide) (by decide) (by decide) (by decide)
    have x10 := q 10 (by decide) (by decide) (by decide) (by decide) (by decide) (by decide) (by decide)
    have x11 := q 11 (by decide) (by decide) (by decide) (by decide) (by decide) (by decide) (by decide)
    have x12 := q 12 (by decide) (by decide) (by decide) (by decide) (by decide) (by decide) (by decide)
    have x13 := q 13 (by decide) (by decide) (by decide) (by decide) (by decide) (by decide) (by decide)
    have x14 := q 14 (by decide) (by decide) (by decide) (by decide) (by decide) (by decide) (by decide)
    have x15 := q 15 (by decide) (by decide) (by decide) (by decide) (by decide) (by decide) (by decide)
    have x16 := q 16 (by decide) (by decide) (by decide) (by decide) (by decide) (by decide) (by decide)
    have x17 := q 17 (by decide) (by decide) (by decide) (by decide) (by decide) (by decide) (by decide)
    have x20 := q 20 (by decide) (by decide) (by decide) (by decide) (by decide) (by decide) (by decide)
    have x21 := q 21 (by decide) (by decide) (by decide) (by decide) (by decide) (by decide) (by decide)
    have x23 := q 23 (by decide) (by decide) (by decide) (by decide) (by decide) (by decide) (by decide)
    have x24 := q 24 (by decide) (by decide) (by decide) (by decide) (by decide) (by decide) (by decide)
    have x25 := q 25 (by decide) (by decide) (by decide) (by decide) (by decide) (by decide) (by decide)
    have x26 := q 26 (by decide) (by decide) (by decide) (by decide) (by decide) (by decide) (by decide)
    have x27 := q 27 (by decide) (by decide) (by decide) (by decide) (by decide) (by decide) (by decide)
    have x31 := q 31 (by decide) (by decide) (by decide) (by decide) (by decide) (by decide) (by decide)
    have x32 := q 32 (by decide) (by decide) (by decide) (by decide) (by decide) (by decide) (by decide)
    have x35 := q 35 (by decide) (by decide) (by decide) (by decide) (by decide) (by decide) (by decide)
    have x36 := q 36 (by decide) (by decide) (by decide) (by decide) (by decide) (by decide) (by decide)
    have ir : IR s3 := by
      have z := hI.ir
      unfold IR at z ⊢
      rw [x1, x6, x7, x8, x9, x15, x31, x32, q 27 (by decide) (by decide) (by decide) (by decide) (by decide) (by decide) (by decide)]; exact z
    have iw : IW W s3 := by
      have z := hI.iw
      unfold IW SS zk za zb zn zo at z ⊢
      rw [x6, x7, x8, x9, x10, x11, x12, x13, x14]; exact z
    have st : ∀ t2, t2 ≠ t → s3 18 t2 = s 18 t2 := fun t2 e => by rw [e18b, up_o e]
    have stt : s3 18 t = nI how := by rw [e18b, up_s]
    refine ⟨ir, iw, fun t2 h1 h2 => ?_, fun t2 ht2 => ?_, fun t2 ht2 i hi => ?_, fun u hu => ?_, ?_, ?_, ?_⟩
    · rw [x15] at h1
      have e : t2 ≠ t := by omega
      have z := hI.if t2 h1 h2
      rw [st t2 e, e19b, if_neg e, x20, x21]
      exact ⟨z.1, z.2.1, z.2.2.1, z.2.2.2.1, fun j hj => by rw [e22b t2 e j hj]; exact z.2.2.2.2 j hj⟩
    · rw [x15] at ht2
      obtain ⟨b1, b2, b3, b4, b5, b6, b7, b8, b9, b10⟩ := hI.ib t2 ht2
      unfold IB zk za
      rw [x6, x7, x8, x9, x10, x16, x17, x21, x23]
      by_cases e : t2 = t
      · subst e
        rw [stt, e19b, if_pos rfl]
        refine ⟨b1, b2, b3, rg_of (by omega) (by decide), rg_of (by decide) (by decide), Or.inr (Or.inr (Or.inr ⟨rfl, e22c⟩)), fun z => ?_, fun k hk => Or.inl (e22c k hk), b9, by rw [b_nt0]; exact Nat.zero_le _⟩
        rcases z with z | z | z <;> (rw [nI_eq (by omega) (by decide)] at z; omega)
      · rw [st t2 e, e19b, if_neg e]
        refine ⟨b1, b2, b3, b4, b5, ?_, fun z => ⟨fun k hk w => by rw [e22b t2 e k hk]; exact (b7 z).1 k hk w, fun k hk j hj z1 z2 => (b7 z).2 k hk j hj (by rw [← e22b t2 e k hk]; exact z1) (by rw [← e22b t2 e k hk, ← e22b t2 e j hj]; exact z2)⟩, fun k hk => by rw [e22b t2 e k hk]; exact b8 k hk, b9, b10⟩
        rcases b6 with z | z | z | z
        · exact Or.inl z
        · exact Or.inr (Or.inl z)
        · exact Or.inr (Or.inr (Or.inl z))
        · exact Or.inr (Or.inr (Or.inr ⟨z.1, fun k hk => by rw [e22b t2 e k hk]; exact z.2 k hk⟩))
    · rw [x15] at ht2
      rw [e19b] at hi
      by_cases e : t2 = t
      · rw [if_pos e, b_nt0] at hi; omega
      · rw [if_neg e] at hi
        have z := hI.it t2 ht2 i hi
        unfold IT ka at z ⊢
        rw [x7, x9, x16, x23, x24, x25, x26, x27, x31]; exact z
    · have z := hI.iu u hu
      unfold IU at z ⊢
      rw [x1, x4, x5, x31]; exact z
    · have z := hI.iq
      unfold tU at z ⊢
      rw [x1, x5]; exact z
    · have z := hI.il
      unfold IL at z ⊢
      rw [x31, x32, x35, x36]; exact z
    · obtain ⟨l1, l2, l3, l4, l5⟩ := ln
      have hn1 : nI how ≠ nI 1 := by rw [Ne, nI_eq (by omega) (by decide)]; omega
      have hn0 : nI how ≠ nI 0 := by rw [Ne, nI_eq (by omega) (by decide)]; omega
      rw [x15, e18b, e28, e29]
      refine ⟨l1, l2, l3, fun t2 ht2 => ?_, ?_⟩
      · by_cases e : t2 = t
        · subst e
          rw [up_s]
          exact ⟨fun z => absurd z hn0, fun z => absurd ((l4 t2 ht2).mpr z) h0⟩
        · rw [up_o e]; exact l4 t2 ht2
      · unfold NW
        rw [nw_out hn1]
        exact ⟨v3, v4⟩
  · refine ⟨fun k hk => k2 k (by omega) (by omega) (by omega) (by omega) (by omega) (by omega) (by omega), fun t2 e => by rw [e18b, up_o e], fun u hu => ?_, fun j hj => Or.inr (e22c j hj)⟩
    have z := w9 u hu
    rw [up_k (by decide)]
    rcases z with z | ⟨z, j, hj, hz⟩
    · left
      rw [z]
      show s1 2 u = _
      rw [v2 2 (by decide) (by decide)]
    · right
      refine ⟨z, j, hj, ?_⟩
      have hz : s1 22 (3 * t + j) = nI u := hz
      rw [e22] at hz; exact hz
end CLO
