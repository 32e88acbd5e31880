/-! what is made anew leaves what stood -/
section EXT
variable {K : kx} {c c' : cx_S} {s : rx_S}
/-- rows that are kept to be used again -/
def Sc (p : Nat) : Prop := 6 ≤ p ∧ p ≤ 11 ∨ p = 16 ∨ p = 18 ∨ p = 19 ∨ p = 21
theorem CRep_ext (h : CRep K c s) (hI : ∀ F p, p < cN c → ¬ (F = 400 ∧ Sc p) → cI c' F p = cI c F p) (hR : ∀ F p, p < cN c → cR c' F p = cR c F p) (hH : ∀ p, p < cN c → cH c' p = cH c p) (hN : cN c ≤ cN c') : CRep K c' s := by
  have hn := h.fix.n
  unfold Sc at hI
  have hU : ∀ F x, U1 (cI c F) x → U1 (cI c' F) x := fun F x q u hu => by rw [hI F _ (by omega) (by omega)]; exact q u hu
  have hQ : ∀ w x y, 22 < w ∧ w < 50 → UQ w (cI c 400) x y → UQ w (cI c' 400) x y := fun w x y hw q u hu j hj => by rw [hI 400 _ (by omega) (by omega)]; exact q u hu j hj
  have hR1 : ∀ F x, R1 (cI c F) x → R1 (cI c' F) x := fun F x q r hr => by rw [hI F _ (by omega) (by omega)]; exact q r hr
  have hS : ∀ F x, SV K (cI c F) (s 7) x → SV K (cI c' F) (s 7) x := fun F x q r hr i hi => by rw [hI F _ (h.sg.1 r hr i hi).2 (by have := (h.sg.1 r hr i hi).1; omega)]; exact q r hr i hi
  have hB : ∀ F x, B1 K (nt (s 15 0)) (cI c F) x → B1 K (nt (s 15 0)) (cI c' F) x := fun F x q t ht => by
    have := h.bg.1 t ht
    rw [hI F _ (by omega) (by omega)]; exact q t ht
  have hBQ : ∀ w v x, w < 13 → BQ K (nt (s 15 0)) w v (cI c 400) x → BQ K (nt (s 15 0)) w v (cI c' 400) x := fun w v x hw q t ht j hj => by
    have := h.bg.1 t ht
    rw [hI 400 _ (by omega) (by omega)]; exact q t ht j hj
  have hTb : ∀ t, t < nt (s 15 0) → ∀ i, i < 8 → kT K t i < cN c := fun t ht i hi => by
    have := (h.bg.1 t ht).2
    have := (h.tg.1 t ht i hi).2
    omega
  have hL : ∀ F x, L1 K (nt (s 31 0)) (cI c F) x → L1 K (nt (s 31 0)) (cI c' F) x := fun F x q l hl => by rw [hI F _ (h.lg.1 l hl).2.1 (by have := (h.lg.1 l hl).1; omega)]; exact q l hl
  refine ⟨⟨fun q hq => ?_, fun q hq => ?_, by omega⟩, hU _ _ h.ug, hU _ _ h.uo, hU _ _ h.uh, hQ _ _ _ (by decide) h.ul, hQ _ _ _ (by decide) h.ua, hR1 _ _ h.rr, hR1 _ _ h.rm, fun r hr k hk => ?_, fun r hr i hi => ?_, ⟨fun r hr i hi => ?_, h.sg.2⟩, hS _ _ h.s0, hS _ _ h.s1, hS _ _ h.s2, hS _ _ h.s3, hS _ _ h.s4, hS _ _ h.s5, ?_, fun t ht => ?_, ⟨fun t ht => ?_, h.bg.2⟩, hB _ _ h.b0, hB _ _ h.b1, hB _ _ h.b3, hB _ _ h.b4, hB _ _ h.b5, hBQ _ _ _ (by decide) h.bv, hBQ _ _ _ (by decide) h.br, hBQ _ _ _ (by decide) h.bo, fun t ht i hi => ?_, h.tg, h.t8, fun t ht i hi => ?_, fun t ht i hi => ?_, fun t ht i hi hb => ?_, fun t ht i hi hb hk => ?_, ?_, fun l hl => ?_, ⟨fun l hl => ?_, h.lg.2⟩, hL _ _ h.lb, hL _ _ h.lt, fun l hl => ?_, fun l hl j hj => ?_, fun l hl j hj => ?_, ?_, fun i hi => ?_⟩
  · have := fix_lt.1 q hq
    rw [hR _ _ (by omega)]; exact h.fix.1 q hq
  · have := fix_lt.2 q hq
    rw [hH _ (by omega)]; exact h.fix.2.1 q hq
  · rw [hI 400 _ (by omega) (by omega)]; exact h.rgr r hr k hk
  · have q := h.sg.1 r hr i hi
    rw [hR _ _ (by omega), hH _ q.2]; exact h.sh r hr i hi
  · have q := h.sg.1 r hr i hi
    omega
  · rw [hI _ _ (by omega) (by omega)]; exact h.bn
  · have q := h.bg.1 t ht
    have b := h.bh t ht
    rw [hR 404 4 (by omega), hH _ (by omega), hR 18 _ (by omega), hR 22 _ (by omega), hR 23 _ (by omega), hR 24 _ (by omega), hR 25 _ (by omega), hH _ (by omega), hH _ (by omega), hH _ (by omega), hH _ (by omega)]
    exact b
  · have q := h.bg.1 t ht
    omega
  · have q := h.bg.1 t ht
    rw [hR 408 _ (by omega), hH _ (hTb t ht i hi)]; exact h.th t ht i hi
  · rw [hI 144 _ (hTb t ht i (Nat.lt_of_lt_of_le hi (h.t8 t ht))) (by omega)]; exact h.ta t ht i hi
  · rw [hI 145 _ (hTb t ht i (Nat.lt_of_lt_of_le hi (h.t8 t ht))) (by omega)]; exact h.tb t ht i hi
  · rw [hI 146 _ (hTb t ht i (Nat.lt_of_lt_of_le hi (h.t8 t ht))) (by omega)]; exact h.tl t ht i hi hb
  · rw [hI 147 _ (hTb t ht i (Nat.lt_of_lt_of_le hi (h.t8 t ht))) (by omega)]; exact h.tc t ht i hi hb hk
  · rw [hI _ _ (by omega) (by omega)]; exact h.ln
  · have q := h.lg.1 l hl
    rw [hR 406 15 (by omega), hH _ q.2.1, hR 50 _ q.2.1, hR 51 _ q.2.1, hH _ q.2.2.2.1, hH _ q.2.2.2.2.2]
    exact h.lh l hl
  · have q := h.lg.1 l hl
    omega
  · rw [hI 52 _ (h.lg.1 l hl).2.1 (by omega)]; exact h.lu l hl
  · rw [hI 400 _ (h.lg.1 l hl).2.2.2.1 (by have := (h.lg.1 l hl).2.2.1; omega)]; exact h.lp l hl j hj
  · rw [hI 400 _ (h.lg.1 l hl).2.2.2.2.2 (by have := (h.lg.1 l hl).2.2.2.2.1; omega)]; exact h.lq l hl j hj
  · rw [hI _ _ (by omega) (by omega)]; exact h.nn
  · rw [hR 404 20 (by omega)]; exact h.nl i hi
end EXT
