/-! JOIN -/
section JOI
variable {f : Nat} {K : kx} {W : Nat → Nat → Nat} {bd : Nat} {c : cx_S} {s : rx_S}
def kJ (K : kx) (t k m : Nat) : Nat → Nat → Nat := fun q j => if q = t then kT K t (sg k m j) else kT K q j
theorem sg_inj {k m a b : Nat} (hk : k < m) (hm : m ≤ 8) (ha : a < 8) (hb : b < 8) (e : sg k m a = sg k m b) : a = b := by
  unfold sg at e
  repeat' split at e
  all_goals omega
theorem sg_lt {k m a : Nat} (hk : k < m) (hm : m ≤ 8) (ha : a < 8) : sg k m a < 8 := by
  unfold sg
  repeat' split
  all_goals omega
theorem sg_sh {k m j : Nat} (hj : j + 1 < m) : sg k m j = if j < k then j else j + 1 := by
  unfold sg
  rw [if_pos hj]
theorem nx_join (h : CRep K c s) (hI : Iv K W bd s) (hf : 2 ^ 31 ≤ f) (hbd : bd < 2 ^ 31) {t i k p q m : Nat} (ht : t < nt (s 15 0)) (hst : s 18 t = nI 2) (hm : nt (s 19 t) = m) (hi : i < m) (hk : k < m) (hki : k ≠ i) (hkp : s 23 (8 * t + k) = s 23 (8 * t + i)) (hb : s 26 (8 * t + i) = 0) (hp : nt (s 23 (8 * t + i)) = p) (hq : p < q) (hq2 : q < nt (s 7 (nt (s 16 t)))) (hw : 1 ≤ W (nt (s 16 t)) p) (hW : W (nt (s 16 t)) q ≤ 2 * W (nt (s 16 t)) p) :
    ∃ c2 s2, D_B_removeToken f (kB K t) (some (kT K t k)) c = some (0, c2) ∧ cH c2 = cH c ∧ cI c2 132 = cI c 132 ∧ D_M_drop f (nI t) (nI k) (rx_up s 23 (8 * t + i) (nI q)) = some (0, s2) ∧ Nx K W bd t i c s (kT2 K (kJ K t k m)) (cx_ui c2 144 (kT K t i) 0 (nI q)) s2 (if i < k then i else i - 1) := by
  have t16 := hI.t16 ht
  have b := hI.ib t ht
  have h19 : s 19 t = nI m := by rw [← hm]; exact b.2.2.2.2.1.eq
  have m8 : m < 9 := by have := b.2.2.2.2.1.lt; omega
  have m12 := (hI.i7 _ b.1.lt).lt
  have e2 : xT s t i = p := hp
  have g8 : gs (W (nt (s 16 t))) (xT s t) m ≤ 8 := by have := b.2.2.2.2.2.2.2.2.2; rw [hm] at this; exact this
  obtain ⟨c2, v1, v2, v3, v4, v5, v6, v7, v8, v9⟩ := rem_C (f := f) h ht h19 (by omega) hk hf
  obtain ⟨s2, w1, w2, w3, w4⟩ := drop_M (f := f) (s := rx_up s 23 (8 * t + i) (nI q)) t16 h19 (by omega) hk (fun j hj => by
    have z := (hI.it t ht j (by omega)).2.1
    have z2 := z.eq
    have z3 := z.lt
    have : nt (s 26 (8 * t + j)) = 0 ∨ nt (s 26 (8 * t + j)) = 1 := by omega
    show s 26 (8 * t + j) = nI 0 ∨ s 26 (8 * t + j) = nI 1
    rcases this with e | e <;> rw [e] at z2
    · exact Or.inl z2
    · exact Or.inr z2) hI.i27 hf
  -- the reference's places
  have w2' : ∀ k, (k ≠ 19 ∧ k ≠ 23 ∧ k ≠ 24 ∧ k ≠ 25 ∧ k ≠ 26 ∧ k ≠ 27) → s2 k = s k := fun k hk => by
    rw [w2 k hk]; funext j; rw [up_k hk.2.1]
  have oth : ∀ F, 23 ≤ F ∧ F ≤ 27 → ∀ t2, t2 ≠ t → ∀ j, j < 8 → s2 F (8 * t2 + j) = s F (8 * t2 + j) := fun F hF t2 e j hj => by
    rw [w4 F hF, if_neg (by omega), up_o (by omega)]
  have own : ∀ F, 23 ≤ F ∧ F ≤ 27 → ∀ j, j + 1 < m → s2 F (8 * t + j) = if sg k m j = i ∧ F = 23 then nI q else s F (8 * t + sg k m j) := fun F hF j hj => by
    rw [w4 F hF, sg_sh hj]
    by_cases e : j < k
    · rw [if_neg (by omega), if_pos e]
      by_cases e3 : j = i ∧ F = 23
      · rw [if_pos e3, e3.1, e3.2]; exact up_s
      · rw [if_neg e3]
        by_cases e4 : F = 23
        · rw [up_o (by omega)]
        · exact up_k e4
    · rw [if_pos (by omega), if_neg e]
      by_cases e3 : j + 1 = i ∧ F = 23
      · rw [if_pos e3, e3.2, ← e3.1, Nat.add_assoc]; exact up_s
      · rw [if_neg e3, Nat.add_assoc]
        by_cases e4 : F = 23
        · rw [up_o (by omega)]
        · exact up_k e4
  have n19 : nt (s2 19 t) = m - 1 := by rw [w3, if_pos rfl, nt_nI (by omega)]
  have sgm : ∀ j, j + 1 < m → sg k m j < m := fun j hj => by rw [sg_sh hj]; split <;> omega
  have e15 : s2 15 = s 15 := w2' 15 (by decide)
  have e16 : s2 16 = s 16 := w2' 16 (by decide)
  have e9 : s2 9 = s 9 := w2' 9 (by decide)
  have hTi := h.th t ht i (by omega)
  have ow : ∀ F j, j + 1 < m → F ≠ 23 → 23 ≤ F ∧ F ≤ 27 → s2 F (8 * t + j) = s F (8 * t + sg k m j) := fun F j hj hF hF2 => by rw [own F hF2 j hj, if_neg (fun z => hF z.2)]
  have ekO : ∀ j, j + 1 < m → sg k m j ≠ i → ka s2 t j = ka s t (sg k m j) := fun j hj e => by
    unfold ka
    rw [e9, e16, own 23 (by decide) j hj, if_neg (fun z => e z.1)]
  have ekT : ∀ t2, t2 ≠ t → ∀ j, j < 8 → ka s2 t2 j = ka s t2 j := fun t2 e j hj => by
    unfold ka
    rw [e9, e16, oth 23 (by decide) t2 e j hj]
  have nb : ∀ j, j + 1 < m → sg k m j = i → s2 26 (8 * t + j) = 0 := fun j hj e => by rw [ow 26 j hj (by decide) (by decide), e, hb]
  have n2 : ∀ t2, t2 ≠ t → s2 19 t2 = s 19 t2 := fun t2 e => by rw [w3, if_neg e]; rfl
  -- the class's places
  have tj : ∀ j, kT (kT2 K (kJ K t k m)) t j = kT K t (sg k m j) := fun j => if_pos rfl
  have to : ∀ t2, t2 ≠ t → ∀ j, kT (kT2 K (kJ K t k m)) t2 j = kT K t2 j := fun t2 e j => if_neg e
  have cI0 : ∀ F, F ≠ 21 → F ≠ 144 → cI (cx_ui c2 144 (kT K t i) 0 (nI q)) F = cI c F := fun F h1 h2 => by
    funext x y; rw [ui_F h2, v2 F h1]
  have H2 : CRep (kT2 K (kJ K t k m)) (cx_ui c2 144 (kT K t i) 0 (nI q)) s2 := by
    refine CRep_tok h (fun F hF => cI0 F hF.1 hF.2.1) (fun F hF => v4 F hF) v7 v8 (fun k hk => w2' k hk.2) ?_ ?_ ?_ ?_ ?_ ?_ ?_ ?_ <;> rw [e15]
    · intro t2 ht2
      show cI (cx_ui c2 144 (kT K t i) 0 (nI q)) 21 (kB K t2) 0 = s2 19 t2
      rw [ui_F (by decide), v3]
      by_cases e : t2 = t
      · rw [e, if_pos ⟨rfl, rfl⟩, w3, if_pos rfl]
      · rw [if_neg (fun z => e (bgne h (a := 0) (b := 0) ht2 ht (by decide) (by decide) z.1).1), n2 t2 e]; exact h.b5 t2 ht2
    · intro t2 ht2 j hj
      show cR c2 408 (kB K t2 + 1) j = _ ∧ cH c2 _ = _
      rw [v7]
      by_cases e : t2 = t
      · subst e; rw [v6 j hj, tj]; exact ⟨rfl, (h.th t2 ht2 _ (sg_lt hk (by omega) hj)).2⟩
      · rw [v5 _ _ (fun z => e (bgne h (a := 1) (b := 1) ht2 ht (by decide) (by decide) z).1), to t2 e]; exact h.th t2 ht2 j hj
    · refine ⟨fun t2 ht2 j hj => ?_, fun t2 ht2 j hj j2 hj2 z => ?_⟩
      · show kB K t2 + 5 ≤ _ ∧ _ < kB K t2 + 13
        by_cases e : t2 = t
        · subst e; rw [tj]; exact h.tg.1 t2 ht2 _ (sg_lt hk (by omega) hj)
        · rw [to t2 e]; exact h.tg.1 t2 ht2 j hj
      · by_cases e : t2 = t
        · subst e; rw [tj, tj] at z
          exact sg_inj hk (by omega) hj hj2 (h.tg.2 t2 ht2 _ (sg_lt hk (by omega) hj) _ (sg_lt hk (by omega) hj2) z)
        · rw [to t2 e, to t2 e] at z; exact h.tg.2 t2 ht2 j hj j2 hj2 z
    · intro t2 ht2
      by_cases e : t2 = t
      · rw [e, n19]; omega
      · rw [n2 t2 e]; exact h.t8 t2 ht2
    · intro t2 ht2 j hj
      by_cases e : t2 = t
      · subst e
        rw [n19] at hj
        rw [tj, own 23 (by decide) j (by omega)]
        by_cases e3 : sg k m j = i
        · rw [if_pos ⟨e3, rfl⟩, e3, ui_s]
        · rw [if_neg (fun z => e3 z.1), ui_o (fun z => e3 (h.tg.2 t2 ht2 _ (sg_lt hk (by omega) (by omega)) _ (by omega) z)), v2 144 (by decide)]
          exact h.ta t2 ht2 _ (by rw [hm]; exact sgm j (by omega))
      · rw [n2 t2 e] at hj
        have q8 := h.t8 t2 ht2
        rw [to t2 e, oth 23 (by decide) t2 e j (by omega), ui_o (fun z => e (tgne h ht2 ht (by omega) (by omega) z).1), v2 144 (by decide)]
        exact h.ta t2 ht2 j hj
    · intro t2 ht2 j hj
      rw [cI0 145 (by decide) (by decide)]
      by_cases e : t2 = t
      · subst e
        rw [n19] at hj
        rw [tj, ow 26 j (by omega) (by decide) (by decide)]
        exact h.tb t2 ht2 _ (by rw [hm]; exact sgm j (by omega))
      · rw [n2 t2 e] at hj
        have q8 := h.t8 t2 ht2
        rw [to t2 e, oth 26 (by decide) t2 e j (by omega)]
        exact h.tb t2 ht2 j hj
    · intro t2 ht2 j hj hb2
      rw [cI0 146 (by decide) (by decide)]
      by_cases e : t2 = t
      · subst e
        rw [n19] at hj
        have e3 : sg k m j ≠ i := fun z => by rw [nb j (by omega) z] at hb2; exact absurd hb2 (by decide)
        rw [ow 26 j (by omega) (by decide) (by decide)] at hb2
        rw [tj, ekO j (by omega) e3, ow 27 j (by omega) (by decide) (by decide), ow 24 j (by omega) (by decide) (by decide)]
        exact h.tl t2 ht2 _ (by rw [hm]; exact sgm j (by omega)) hb2
      · rw [n2 t2 e] at hj
        have q8 := h.t8 t2 ht2
        rw [oth 26 (by decide) t2 e j (by omega)] at hb2
        rw [to t2 e, ekT t2 e j (by omega), oth 27 (by decide) t2 e j (by omega), oth 24 (by decide) t2 e j (by omega)]
        exact h.tl t2 ht2 j hj hb2
    · intro t2 ht2 j hj hb2 hk2
      rw [cI0 147 (by decide) (by decide)]
      by_cases e : t2 = t
      · subst e
        rw [n19] at hj
        have e3 : sg k m j ≠ i := fun z => by rw [nb j (by omega) z] at hb2; exact absurd hb2 (by decide)
        rw [ow 26 j (by omega) (by decide) (by decide)] at hb2
        rw [ekO j (by omega) e3] at hk2
        rw [tj, ow 25 j (by omega) (by decide) (by decide)]
        exact h.tc t2 ht2 _ (by rw [hm]; exact sgm j (by omega)) hb2 hk2
      · rw [n2 t2 e] at hj
        have q8 := h.t8 t2 ht2
        rw [oth 26 (by decide) t2 e j (by omega)] at hb2
        rw [ekT t2 e j (by omega)] at hk2
        rw [to t2 e, oth 25 (by decide) t2 e j (by omega)]
        exact h.tc t2 ht2 j hj hb2 hk2
  obtain ⟨m1, rfl⟩ : ∃ m1, m = m1 + 1 := ⟨m - 1, by omega⟩
  have y1 : ∀ x, x < m1 + 1 → x ≠ i → xT (rx_up s 23 (8 * t + i) (nI q)) t x = xT s t x := fun x hx hxi => by
    show nt (rx_up s 23 (8 * t + i) (nI q) 23 (8 * t + x)) = nt (s 23 (8 * t + x))
    rw [up_o (by omega)]
  have y2 : xT (rx_up s 23 (8 * t + i) (nI q)) t i = q := by
    show nt (rx_up s 23 (8 * t + i) (nI q) 23 (8 * t + i)) = q
    rw [up_s, nt_nI (by omega)]
  have z1 : ∀ x, x < k → xT s2 t x = xT (rx_up s 23 (8 * t + i) (nI q)) t x := fun x hx => by
    show nt (s2 23 (8 * t + x)) = nt (rx_up s 23 (8 * t + i) (nI q) 23 (8 * t + x))
    rw [w4 23 (by decide), if_neg (by omega)]
  have z2 : ∀ x, k ≤ x → x < m1 → xT s2 t x = xT (rx_up s 23 (8 * t + i) (nI q)) t (x + 1) := fun x hx hx2 => by
    show nt (s2 23 (8 * t + x)) = nt (rx_up s 23 (8 * t + i) (nI q) 23 (8 * t + (x + 1)))
    rw [w4 23 (by decide), if_pos (by omega)]; rfl
  have ek2 : xT s t k = xT s t i := by
    show nt (s 23 (8 * t + k)) = nt (s 23 (8 * t + i))
    rw [hkp]
  have nf := nN_join (W := W (nt (s 16 t))) hi hk (fun z => hki z.symm) ek2 y1 (by rw [y2, e2]; exact hq) z1 z2 (by rw [y2, e2]; exact hW)
  rw [e2] at nf
  have g2 : gs (W (nt (s 16 t))) (xT s2 t) m1 ≤ 8 := by
    have a1 := gs_set (g := W (nt (s 16 t))) (x := xT s t) (y := xT (rx_up s 23 (8 * t + i) (nI q)) t) hi y1
    have a2 := gs_drop (g := W (nt (s 16 t))) (show k ≤ m1 by omega) z1 z2
    rw [y2, e2] at a1
    rw [y1 k hk hki, ek2, e2] at a2
    omega
  have n19' : nt (s2 19 t) = m1 := n19
  have hI2 : Iv (kT2 K (kJ K t k (m1 + 1))) W bd s2 := by
    refine Iv_tok (t := t) hI (fun k hk => w2' k (by omega)) n2 (fun t2 e j hj => by rw [w2' 21 (by decide)]) (fun F hF t2 e j hj => oth F hF t2 e j hj) (Or.inl hst) ht ?_ (fun j hj z => by rw [w2' 21 (by decide)]; exact b.2.2.2.2.2.2.2.2.1 j hj z) ?_ (fun j hj => ?_) (fun j hj => ?_)
    · rw [w3, if_pos rfl]; exact rg_of (by omega) (by decide)
    · show gs (W (nt (s 16 t))) (xT s2 t) (nt (s2 19 t)) ≤ 8
      rw [n19']; exact g2
    · rw [n19'] at hj
      have z := hI.it t ht (sg k (m1 + 1) j) (by rw [hm]; exact sgm j (by omega))
      have a23 := own 23 (by decide) j (by omega)
      have a24 := ow 24 j (by omega) (by decide) (by decide)
      have a25 := ow 25 j (by omega) (by decide) (by decide)
      have a26 := ow 26 j (by omega) (by decide) (by decide)
      have a27 := ow 27 j (by omega) (by decide) (by decide)
      by_cases e : sg k (m1 + 1) j = i
      · rw [if_pos ⟨e, rfl⟩] at a23
        refine ⟨?_, by rw [a26]; exact z.2.1, fun w => ?_⟩
        · rw [a23, e16, w2' 7 (by decide)]; exact rg_of hq2 (by omega)
        · rw [nb j (by omega) e] at w; exact absurd w (by decide)
      · rw [if_neg (fun w => e w.1)] at a23
        unfold IT
        rw [ekO j (by omega) e, a23, a24, a25, a26, a27, e16, w2' 7 (by decide), w2' 31 (by decide)]
        refine ⟨z.1, z.2.1, fun y => ⟨(z.2.2 y).1, (z.2.2 y).2.1, fun x => ⟨((z.2.2 y).2.2.1 x).1, ?_⟩, (z.2.2 y).2.2.2⟩⟩
        rcases ((z.2.2 y).2.2.1 x).2 with w | w
        · exact Or.inl w
        · omega
    · rw [w4 27 (by decide) j]
      split
      · exact hI.i27 (j + 1) (by omega)
      · exact hI.i27 j hj
  have hP : Ps W s2 t + W (nt (s 16 t)) p ≤ Ps W s t := by
    have z := psi_fwd (kd := kdS s (nt (s 16 t))) (a := za s (nt (s 16 t))) (l := fun i => nt (s 21 (12 * t + i))) (W := W (nt (s 16 t))) (p := p) (show p < 12 by omega) (fun k _ => nf.1 k) nf.2 (fun _ _ _ => rfl) (Or.inl rfl)
    unfold Ps
    have e7 : s2 7 = s 7 := w2' 7 (by decide)
    have e10 : s2 10 = s 10 := w2' 10 (by decide)
    have k1 : kdS s2 (nt (s 16 t)) = kdS s (nt (s 16 t)) := by
      funext x; unfold kdS zk; rw [e7, e9]
    have k3 : za s2 (nt (s 16 t)) = za s (nt (s 16 t)) := by
      funext x; unfold za; rw [e10]
    rw [n19', hm, e16, k1, k3, w2' 21 (by decide)]
    exact z
  refine ⟨c2, s2, v1, v7, v2 132 (by decide), w1, mv_of H2 hI2 ⟨rfl, rfl, rfl, rfl⟩ v8 ⟨v9, by funext g; show cI c2 400 21 g = _; rw [v2 400 (by decide)]⟩ (fun k hk => w2' k (by omega)), by rw [w2' 18 (by decide)]; exact hst, by rw [w2' 30 (by decide)], ?_, ?_, ?_, by omega, ?_⟩
  · rw [n19']; split <;> omega
  · refine nb _ ?_ ?_
    · split <;> omega
    · rw [sg_sh (by split <;> omega)]
      by_cases e : i < k
      · rw [if_pos e, if_pos e]
      · rw [if_neg e, if_neg (by omega)]; omega
  · rw [tj, sg_sh (by split <;> omega)]
    by_cases e : i < k
    · rw [if_pos e, if_pos e]
    · rw [if_neg e, if_neg (by omega), show i - 1 + 1 = i by omega]
  · rw [n19', hm]
    split <;> omega
end JOI
