/-! a token's steps: what each keeps, how far it may go -/
section PSI
variable {f : Nat} {K : kx} {W : Nat → Nat → Nat} {bd : Nat} {c : cx_S} {s : rx_S}
def kdS (s : rx_S) (r i : Nat) : Nat := if i < nt (s 7 r) then zk s r i else 0
abbrev xT (s : rx_S) (t : Nat) : Nat → Nat := fun i => nt (s 23 (8 * t + i))
def Ps (W : Nat → Nat → Nat) (s : rx_S) (t : Nat) : Nat := psi (kdS s (nt (s 16 t))) (za s (nt (s 16 t))) (fun i => nt (s 21 (12 * t + i))) (W (nt (s 16 t))) (nN (W (nt (s 16 t))) (xT s t) (nt (s 19 t)))
theorem kd_facts (hI : Iv K W bd s) {t : Nat} (ht : t < nt (s 15 0)) : kdS s (nt (s 16 t)) 0 ≠ 8 ∧ kdS s (nt (s 16 t)) 11 ≠ 8 ∧ ∀ i, kdS s (nt (s 16 t)) i = 8 → za s (nt (s 16 t)) i ≤ 5 := by
  have m12 := (hI.i7 _ (hI.ib t ht).1.lt).lt
  refine ⟨fun z => ?_, fun z => ?_, fun i z => ?_⟩ <;> unfold kdS at z
  · by_cases q : 0 < nt (s 7 (nt (s 16 t)))
    · rw [if_pos q] at z
      have := ((rel_ss hI ht q).2.2.2.2.2.2.2.2.2 z).2
      omega
    · rw [if_neg q] at z; omega
  · by_cases q : 11 < nt (s 7 (nt (s 16 t)))
    · rw [if_pos q] at z
      have z2 := (rel_ss hI ht q).2.2.2.2.2.2.2.1 (by omega)
      have z3 : zn s (nt (s 16 t)) 11 < nt (s 7 (nt (s 16 t))) := z2.1.lt
      have z4 := z2.2
      omega
    · rw [if_neg q] at z; omega
  · by_cases q : i < nt (s 7 (nt (s 16 t)))
    · rw [if_pos q] at z
      have z2 : za s (nt (s 16 t)) i < 6 := ((rel_ss hI ht q).2.2.2.2.2.2.1 z).1.lt
      omega
    · rw [if_neg q] at z; omega
theorem Ps_max (hI : Iv K W bd s) {t : Nat} (ht : t < nt (s 15 0)) : Ps W s t ≤ 1064204696 := by
  obtain ⟨a, b, c⟩ := kd_facts hI ht
  refine psi_max a b c (fun i _ => Nat.le_trans (gs_le (fun k hk => ?_)) (hI.ib t ht).2.2.2.2.2.2.2.2.2)
  show (if nt (s 23 (8 * t + k)) ≤ i then W (nt (s 16 t)) (nt (s 23 (8 * t + k))) else 0) ≤ W (nt (s 16 t)) (nt (s 23 (8 * t + k)))
  split <;> omega
def Nx (K : kx) (W : Nat → Nat → Nat) (bd t i : Nat) (c : cx_S) (s : rx_S) (K2 : kx) (c2 : cx_S) (s2 : rx_S) (j : Nat) : Prop :=
  Mv K W bd t c s K2 c2 s2 ∧ s2 18 t = nI 2 ∧ s2 30 0 = s 30 0 ∧ j < nt (s2 19 t) ∧ s2 26 (8 * t + j) = 0 ∧ kT K2 t j = kT K t i ∧ Ps W s2 t + 1 ≤ Ps W s t ∧ Ps W s2 t + (nt (s2 19 t) - j) ≤ Ps W s t + (nt (s 19 t) - i)
abbrev sL (s : rx_S) (t i p q : Nat) (x : Int32) : rx_S := rx_up (rx_up s 21 (12 * t + p) x) 23 (8 * t + i) (nI q)
theorem inv_go (hI : Iv K W bd s) {t i p q : Nat} {x : Int32} (ht : t < nt (s 15 0)) (hst : s 18 t = nI 2) (hi : i < nt (s 19 t)) (hb : s 26 (8 * t + i) = 0) (hp : nt (s 23 (8 * t + i)) = p) (hq : q < nt (s 7 (nt (s 16 t)))) (hW : W (nt (s 16 t)) q ≤ W (nt (s 16 t)) p) (hx : zk s (nt (s 16 t)) p = 8 → rg x (za s (nt (s 16 t)) p + 1)) : Iv K W bd (sL s t i p q x) := by
  have b := hI.ib t ht
  have m8 := b.2.2.2.2.1.lt
  have m12 := (hI.i7 _ b.1.lt).lt
  have pl : p < nt (s 7 (nt (s 16 t))) := hp ▸ (hI.it t ht i hi).1.lt
  have r23 : ∀ j, j < 8 → sL s t i p q x 23 (8 * t + j) = if j = i then nI q else s 23 (8 * t + j) := fun j hj => by
    by_cases e : j = i
    · rw [e, if_pos rfl]; exact up_s
    · rw [if_neg e]; exact up_o (by omega)
  refine Iv_tok (T := kT K) (t := t) hI (fun k hk => ?_) (fun _ _ => rfl) (fun t2 e j hj => ?_) (fun k hk t2 e j hj => ?_) (Or.inl hst) ht b.2.2.2.2.1 (fun j hj z => ?_) ?_ (fun j hj => ?_) hI.i27
  · funext j; unfold sL; rw [up_k hk.2.2.1, up_k hk.2.1]
  · show rx_up s 21 (12 * t + p) x 21 (12 * t2 + j) = _
    exact up_o (by omega)
  · unfold sL
    rw [up_o (by omega), up_k (by omega)]
  · show rg (rx_up s 21 (12 * t + p) x 21 (12 * t + j)) _
    by_cases e : j = p
    · subst e; rw [up_s]; exact hx z
    · rw [up_o (by omega)]; exact b.2.2.2.2.2.2.2.2.1 j hj z
  · have e := gs_set (g := W (nt (s 16 t))) (x := xT s t) (y := xT (sL s t i p q x) t) hi (fun k hk hki => by
      show nt (sL s t i p q x 23 (8 * t + k)) = _
      rw [r23 k (by omega), if_neg hki])
    have e1 : xT (sL s t i p q x) t i = q := by
      show nt (sL s t i p q x 23 (8 * t + i)) = q
      rw [r23 i (by omega), if_pos rfl, nt_nI (by omega)]
    have e2 : xT s t i = p := hp
    rw [e1, e2] at e
    have := b.2.2.2.2.2.2.2.2.2
    show gs (W (nt (s 16 t))) (xT (sL s t i p q x) t) (nt (s 19 t)) ≤ 8
    have h8 : gs (W (nt (s 16 t))) (xT s t) (nt (s 19 t)) ≤ 8 := this
    omega
  · have hj : j < nt (s 19 t) := hj
    have z := hI.it t ht j hj
    have hr := r23 j (by omega)
    by_cases e : j = i
    · subst e
      refine ⟨?_, z.2.1, fun w => absurd w ?_⟩
      · rw [hr, if_pos rfl]; exact rg_of hq (show nt (s 7 (nt (s 16 t))) < 2 ^ 31 by omega)
      · show s 26 (8 * t + j) ≠ nI 1
        rw [hb]; decide
    · rw [if_neg e] at hr
      have ek : ka (sL s t i p q x) t j = ka s t j := by
        show s 9 (12 * nt (s 16 t) + nt (sL s t i p q x 23 (8 * t + j))) = _
        rw [hr]; rfl
      unfold IT
      rw [hr, ek]; exact z
theorem xT_go (hI : Iv K W bd s) {t i p q : Nat} {x : Int32} (ht : t < nt (s 15 0)) (hi : i < nt (s 19 t)) (hq : q < 12) : (∀ k, k < nt (s 19 t) → k ≠ i → xT (sL s t i p q x) t k = xT s t k) ∧ xT (sL s t i p q x) t i = q := by
  have m8 := (hI.ib t ht).2.2.2.2.1.lt
  refine ⟨fun k hk e => ?_, ?_⟩
  · show nt (rx_up s 23 (8 * t + i) (nI q) 23 (8 * t + k)) = nt (s 23 (8 * t + k))
    rw [up_o (by omega)]
  · show nt (rx_up s 23 (8 * t + i) (nI q) 23 (8 * t + i)) = q
    rw [up_s, nt_nI (by omega)]
theorem Ps_fwd (hI : Iv K W bd s) {t i p q : Nat} {x : Int32} (ht : t < nt (s 15 0)) (hi : i < nt (s 19 t)) (hp : nt (s 23 (8 * t + i)) = p) (hpq : p < q) (hq : q < nt (s 7 (nt (s 16 t)))) (hW : W (nt (s 16 t)) q ≤ W (nt (s 16 t)) p) (hx : x = s 21 (12 * t + p) ∨ zk s (nt (s 16 t)) p ≠ 8 ∨ nt (s 21 (12 * t + p)) ≤ za s (nt (s 16 t)) p) : Ps W (sL s t i p q x) t + W (nt (s 16 t)) p ≤ Ps W s t := by
  have b := hI.ib t ht
  have m12 := (hI.i7 _ b.1.lt).lt
  obtain ⟨y1, y2⟩ := xT_go (p := p) (x := x) hI ht hi (show q < 12 by omega)
  have e2 : xT s t i = p := hp
  have nf := nN_fwd (W := W (nt (s 16 t))) hi y1 (by rw [y2, e2]; exact hpq) (by rw [y2, e2]; exact hW)
  rw [e2] at nf
  refine psi_fwd (p := p) (show p < 12 by omega) (fun k _ => nf.1 k) nf.2 (fun k hk e => ?_) ?_
  · show nt (rx_up s 21 (12 * t + p) x 21 (12 * t + k)) = _
    rw [up_o (by omega)]
  · rcases hx with e | e | e
    · refine Or.inl ?_
      show nt (rx_up s 21 (12 * t + p) x 21 (12 * t + p)) = _
      rw [up_s, e]
    · refine Or.inr (Or.inl ?_)
      show kdS s (nt (s 16 t)) p ≠ 8
      unfold kdS
      rw [if_pos (by omega)]; exact e
    · exact Or.inr (Or.inr ⟨nf.2, e⟩)
theorem Ps_back (hI : Iv K W bd s) {t i p q : Nat} (ht : t < nt (s 15 0)) (hi : i < nt (s 19 t)) (hp : nt (s 23 (8 * t + i)) = p) (hpq : q < p) (hpl : p < nt (s 7 (nt (s 16 t)))) (hW : W (nt (s 16 t)) q ≤ W (nt (s 16 t)) p) (hW1 : 1 ≤ W (nt (s 16 t)) p) (h8 : zk s (nt (s 16 t)) p = 8) (hl : nt (s 21 (12 * t + p)) < za s (nt (s 16 t)) p) : Ps W (sL s t i p q (nI (nt (s 21 (12 * t + p)) + 1))) t + 1 ≤ Ps W s t := by
  have b := hI.ib t ht
  have m12 := (hI.i7 _ b.1.lt).lt
  obtain ⟨g1, g2, g3⟩ := kd_facts hI ht
  obtain ⟨y1, y2⟩ := xT_go (p := p) (x := nI (nt (s 21 (12 * t + p)) + 1)) hI ht hi (show q < 12 by omega)
  have e2 : xT s t i = p := hp
  have nf := nN_back (W := W (nt (s 16 t))) hi y1 (by rw [y2, e2]; exact hW) (by rw [y2, e2]; exact hpq)
  rw [e2] at nf
  have h8' : kdS s (nt (s 16 t)) p = 8 := by unfold kdS; rw [if_pos hpl]; exact h8
  have la := g3 p h8'
  refine psi_back (p := p) (show p < 12 by omega) g1 h8' g3 nf.1 (fun k hk _ => nf.2.1 k hk) (fun k hk e => ?_) ?_ hl nf.2.2 hW1
  · show nt (rx_up s 21 (12 * t + p) _ 21 (12 * t + k)) = _
    rw [up_o (by omega)]
  · show nt (rx_up s 21 (12 * t + p) (nI (nt (s 21 (12 * t + p)) + 1)) 21 (12 * t + p)) = _
    rw [up_s, nt_nI (by omega)]
theorem mv_of {K2 : kx} {c2 : cx_S} {s2 : rx_S} {t : Nat} (h : CRep K2 c2 s2) (hI : Iv K2 W bd s2) (hK : KS K K2) (hN : cN c2 = cN c) (hZ : cq c2 c) (hs : ∀ k, (k ≤ 18 ∨ k = 22 ∨ k = 30 ∨ k = 31) → s2 k = s k) : Mv K W bd t c s K2 c2 s2 :=
  ⟨h, hI, hK, Gw.same hN hZ (by rw [hs 31 (by decide)]), ⟨fun k hk => hs k (by omega), fun _ _ => by rw [hs 18 (by decide)], fun _ _ => Or.inl (by rw [hs 2 (by decide)]), fun _ _ => Or.inl (by rw [hs 22 (by decide)])⟩, by rw [hs 0 (by decide)]⟩
theorem nx_go (hI : Iv K W bd s) {t i p q : Nat} {x : Int32} {c2 : cx_S} (h2 : CRep K c2 (sL s t i p q x)) (hI2 : Iv K W bd (sL s t i p q x)) (hN : cN c2 = cN c) (hZ : cq c2 c) (hst : s 18 t = nI 2) (hi : i < nt (s 19 t)) (hb : s 26 (8 * t + i) = 0) (hP : Ps W (sL s t i p q x) t + 1 ≤ Ps W s t) : Nx K W bd t i c s K c2 (sL s t i p q x) i := by
  refine ⟨mv_of h2 hI2 KS.rfl hN hZ (fun k hk => ?_), hst, rfl, hi, hb, rfl, hP, ?_⟩
  · funext j; unfold sL; rw [up_k (by omega), up_k (by omega)]
  · show Ps W (sL s t i p q x) t + (nt (s 19 t) - i) ≤ _
    omega
/-- FORK -/
theorem nx_fork (h : CRep K c s) (hI : Iv K W bd s) {t i p q o m : Nat} (ht : t < nt (s 15 0)) (hst : s 18 t = nI 2) (hm : nt (s 19 t) = m) (hi : i < m) (hb : s 26 (8 * t + i) = 0) (hp : nt (s 23 (8 * t + i)) = p) (hq : p < q) (hq2 : q < nt (s 7 (nt (s 16 t)))) (ho : p < o) (ho2 : o < nt (s 7 (nt (s 16 t)))) (hw : ∀ i, i < nt (s 7 (nt (s 16 t))) → 1 ≤ W (nt (s 16 t)) i) (hW : W (nt (s 16 t)) q + W (nt (s 16 t)) o ≤ W (nt (s 16 t)) p) :
    m < 8 ∧ Nx K W bd t i c s K (cx_ui (cA K c t m (nI o)) 144 (kT K t i) 0 (nI q)) (rx_up (sA s t m (nI o)) 23 (8 * t + i) (nI q)) i := by
  have b := hI.ib t ht
  have h19 : s 19 t = nI m := by rw [← hm]; exact b.2.2.2.2.1.eq
  have m8 : m < 9 := by have := b.2.2.2.2.1.lt; omega
  have m12 := (hI.i7 _ b.1.lt).lt
  have e2 : xT s t i = p := hp
  have g8 : gs (W (nt (s 16 t))) (xT s t) m ≤ 8 := by have := b.2.2.2.2.2.2.2.2.2; rw [hm] at this; exact this
  -- the new places
  have key : ∀ y : Nat → Nat, y i = q → y m = o → (∀ k, k < m → k ≠ i → y k = xT s t k) → gs (W (nt (s 16 t))) y (m + 1) ≤ 8 := fun y y1 y2 y3 => by
    have e := gs_set (g := W (nt (s 16 t))) (x := xT s t) (y := y) hi y3
    rw [y1, e2] at e
    rw [gs, y2]; omega
  have hm7 : m < 8 := by
    have z := key (fun k => if k = m then o else if k = i then q else xT s t k) (by rw [if_neg (by omega), if_pos rfl]) (if_pos rfl) (fun k hk hki => by rw [if_neg (by omega), if_neg hki])
    have := gs_ge (g := W (nt (s 16 t))) (x := fun k => if k = m then o else if k = i then q else xT s t k) (m := m + 1) (fun k hk => hw _ (by
      by_cases e : k = m
      · rw [if_pos e]; exact ho2
      · rw [if_neg e]
        by_cases e3 : k = i
        · rw [if_pos e3]; exact hq2
        · rw [if_neg e3]; exact (hI.it t ht k (by omega)).1.lt))
    omega
  refine ⟨hm7, ?_⟩
  have h1 := p_add (x := nI o) h ht h19 hm7
  have n19 : nt (sA s t m (nI o) 19 t) = m + 1 := by
    show nt (rx_up s 19 t (nI (m + 1)) 19 t) = _
    rw [up_s, nt_nI (by omega)]
  have h2 := p_at (s := sA s t m (nI o)) (x := nI q) h1 ht (i := i) (by rw [n19]; omega) (by
    show rx_up s 26 (8 * t + m) (nI 0) 26 (8 * t + i) ≠ nI 1
    rw [up_o (by omega), hb]; decide)
  have r23 : ∀ j, j < 8 → rx_up (sA s t m (nI o)) 23 (8 * t + i) (nI q) 23 (8 * t + j) = if j = i then nI q else if j = m then nI o else s 23 (8 * t + j) := fun j hj => by
    by_cases e : j = i
    · rw [e, if_pos rfl]; exact up_s
    · rw [if_neg e, up_o (by omega)]
      show rx_up s 23 (8 * t + m) (nI o) 23 (8 * t + j) = _
      by_cases e3 : j = m
      · rw [e3, if_pos rfl]; exact up_s
      · rw [if_neg e3]; exact up_o (by omega)
  have r26 : ∀ j, j < 8 → rx_up (sA s t m (nI o)) 23 (8 * t + i) (nI q) 26 (8 * t + j) = if j = m then nI 0 else s 26 (8 * t + j) := fun j hj => by
    show rx_up s 26 (8 * t + m) (nI 0) 26 (8 * t + j) = _
    by_cases e3 : j = m
    · rw [e3, if_pos rfl]; exact up_s
    · rw [if_neg e3]; exact up_o (by omega)
  have y1 : xT (rx_up (sA s t m (nI o)) 23 (8 * t + i) (nI q)) t i = q := by
    show nt (rx_up (sA s t m (nI o)) 23 (8 * t + i) (nI q) 23 (8 * t + i)) = q
    rw [r23 i (by omega), if_pos rfl, nt_nI (by omega)]
  have y2 : xT (rx_up (sA s t m (nI o)) 23 (8 * t + i) (nI q)) t m = o := by
    show nt (rx_up (sA s t m (nI o)) 23 (8 * t + i) (nI q) 23 (8 * t + m)) = o
    rw [r23 m hm7, if_neg (by omega), if_pos rfl, nt_nI (by omega)]
  have y3 : ∀ k, k < m → k ≠ i → xT (rx_up (sA s t m (nI o)) 23 (8 * t + i) (nI q)) t k = xT s t k := fun k hk hki => by
    show nt (rx_up (sA s t m (nI o)) 23 (8 * t + i) (nI q) 23 (8 * t + k)) = nt (s 23 (8 * t + k))
    rw [r23 k (by omega), if_neg hki, if_neg (by omega)]
  have g2 := key _ y1 y2 y3
  have hI2 : Iv K W bd (rx_up (sA s t m (nI o)) 23 (8 * t + i) (nI q)) := by
    refine Iv_tok (T := kT K) (t := t) hI (fun k hk => ?_) (fun t2 e => ?_) (fun _ _ _ _ => rfl) (fun k hk t2 e j hj => ?_) (Or.inl hst) ht ?_ b.2.2.2.2.2.2.2.2.1 ?_ (fun j hj => ?_) hI.i27
    · funext j; unfold sA; rw [up_k hk.2.2.1, up_k hk.1, up_k hk.2.2.2.2.2.1, up_k hk.2.2.1]
    · show rx_up s 19 t (nI (m + 1)) 19 t2 = _
      exact up_o e
    · unfold sA
      rw [up_o (by omega), up_k (by omega), up_o (by omega), up_o (by omega)]
    · show rg (rx_up s 19 t (nI (m + 1)) 19 t) 9
      rw [up_s]; exact rg_of (by omega) (by decide)
    · show gs (W (nt (s 16 t))) (xT (rx_up (sA s t m (nI o)) 23 (8 * t + i) (nI q)) t) (nt (sA s t m (nI o) 19 t)) ≤ 8
      rw [n19]; exact g2
    · have hj : j < nt (sA s t m (nI o) 19 t) := hj
      rw [n19] at hj
      have q23 := r23 j (by omega)
      have q26 := r26 j (by omega)
      by_cases e : j = i
      · subst e
        rw [if_pos rfl] at q23
        rw [if_neg (by omega), hb] at q26
        refine ⟨by rw [q23]; exact rg_of hq2 (show nt (s 7 (nt (s 16 t))) < 2 ^ 31 by omega), by rw [q26]; exact rg_of (j := 0) (by decide) (by decide), fun w => ?_⟩
        rw [q26] at w; exact absurd w (by decide)
      · rw [if_neg e] at q23
        by_cases e3 : j = m
        · subst e3
          rw [if_pos rfl] at q23 q26
          refine ⟨by rw [q23]; exact rg_of ho2 (show nt (s 7 (nt (s 16 t))) < 2 ^ 31 by omega), by rw [q26]; exact rg_of (by decide) (by decide), fun w => ?_⟩
          rw [q26] at w; exact absurd w (by decide)
        · rw [if_neg e3] at q23 q26
          have z := hI.it t ht j (by omega)
          have ek : ka (rx_up (sA s t m (nI o)) 23 (8 * t + i) (nI q)) t j = ka s t j := by
            show s 9 (12 * nt (s 16 t) + nt (rx_up (sA s t m (nI o)) 23 (8 * t + i) (nI q) 23 (8 * t + j))) = _
            rw [q23]; rfl
          unfold IT
          rw [q23, q26, ek]; exact z
  have nf := nN_fork (W := W (nt (s 16 t))) hi y3 (by rw [y1, e2]; exact hq) (by rw [y2, e2]; exact ho) (by rw [y1, y2, e2]; exact hW)
  rw [e2] at nf
  have hP : Ps W (rx_up (sA s t m (nI o)) 23 (8 * t + i) (nI q)) t + W (nt (s 16 t)) p ≤ Ps W s t := by
    have z := psi_fwd (kd := kdS s (nt (s 16 t))) (a := za s (nt (s 16 t))) (l := fun i => nt (s 21 (12 * t + i))) (W := W (nt (s 16 t))) (p := p) (show p < 12 by omega) (fun k _ => nf.1 k) nf.2 (fun _ _ _ => rfl) (Or.inl rfl)
    unfold Ps
    rw [show nt (rx_up (sA s t m (nI o)) 23 (8 * t + i) (nI q) 19 t) = m + 1 from n19, hm]
    exact z
  have w1 := hw q hq2
  have w2 := hw o ho2
  refine ⟨mv_of h2 hI2 KS.rfl rfl ⟨rfl, rfl⟩ (fun k hk => ?_), hst, rfl, ?_, ?_, rfl, by omega, ?_⟩
  · funext j; unfold sA; rw [up_k (by omega), up_k (by omega), up_k (by omega), up_k (by omega)]
  · show i < nt (sA s t m (nI o) 19 t)
    rw [n19]; omega
  · rw [r26 i (by omega), if_neg (by omega)]; exact hb
  · rw [show nt (rx_up (sA s t m (nI o)) 23 (8 * t + i) (nI q) 19 t) = m + 1 from n19, hm]; omega
end PSI
