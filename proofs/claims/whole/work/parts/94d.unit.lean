/-! the units alone: what a transfer needs, and what it leaves -/
section UNI
variable {f : Nat} {K : kx} {c : cx_S} {s : rx_S}
def CU (c : cx_S) (s : rx_S) : Prop := CFix c ∧ U1 (cI c 162) (s 3) ∧ UQ 23 (cI c 400) (s 3) (s 4) ∧ UQ 24 (cI c 400) (s 3) (s 5)
theorem CU.fix (h : CU c s) : CFix c := h.1
theorem CU.uh (h : CU c s) : U1 (cI c 162) (s 3) := h.2.1
theorem CU.ul (h : CU c s) : UQ 23 (cI c 400) (s 3) (s 4) := h.2.2.1
theorem CU.ua (h : CU c s) : UQ 24 (cI c 400) (s 3) (s 5) := h.2.2.2
theorem CRep.cu (h : CRep K c s) : CU c s := ⟨h.fix, h.uh, h.ul, h.ua⟩
theorem u_lotin (h : CU c s) (h3 : ∀ u, u < 6 → nt (s 3 u) ≤ 100) {u j : Nat} (hu : u < 6) (hj : j < 100) {x : Int32} : CU (cx_ui c 400 (23 + 3 * u) j x) (rx_up s 4 (100 * u + j) x) :=
  ⟨h.fix, h.uh, UQ_up h3 hj h.ul, UQ_ne h.ua (fun u2 hu2 => by omega)⟩
theorem u_amt (h : CU c s) (h3 : ∀ u, u < 6 → nt (s 3 u) ≤ 100) {u j : Nat} (hu : u < 6) (hj : j < 100) {x : Int32} : CU (cx_ui c 400 (24 + 3 * u) j x) (rx_up s 5 (100 * u + j) x) :=
  ⟨h.fix, h.uh, UQ_ne h.ul (fun u2 hu2 => by omega), UQ_up h3 hj h.ua⟩
theorem u_held (h : CU c s) {u : Nat} {x : Int32} (hx : ∀ j, j < nt x → cI c 400 (23 + 3 * u) j = s 4 (100 * u + j) ∧ cI c 400 (24 + 3 * u) j = s 5 (100 * u + j)) : CU (cx_ui c 162 (22 + 3 * u) 0 x) (rx_up s 3 u x) :=
  ⟨h.fix, U1_up h.uh, fun u2 hu2 j hj => by
    have hj : j < nt (rx_up s 3 u x 3 u2) := hj
    by_cases e : u2 = u
    · subst e; rw [up_s] at hj; exact (hx j hj).1
    · rw [up_o e] at hj; exact h.ul u2 hu2 j hj, fun u2 hu2 j hj => by
    have hj : j < nt (rx_up s 3 u x 3 u2) := hj
    by_cases e : u2 = u
    · subst e; rw [up_s] at hj; exact (hx j hj).2
    · rw [up_o e] at hj; exact h.ua u2 hu2 j hj⟩
theorem CU_s {s2 : rx_S} (h : CU c s) (h3 : s2 3 = s 3) (h4 : s2 4 = s 4) (h5 : s2 5 = s 5) : CU c s2 := by
  unfold CU at h ⊢
  rw [h3, h4, h5]; exact h
theorem CU_ws {p : Nat} {g : Nat → Int32} (h : CU c s) (hp : p < 22) : CU (ws c p g) s :=
  ⟨h.fix, h.uh, fun u hu j hj => by rw [ws_o (by omega)]; exact h.ul u hu j hj, fun u hu j hj => by rw [ws_o (by omega)]; exact h.ua u hu j hj⟩
theorem u_totC {u : Nat} (h : CU c s) (hf : 2 ^ 31 ≤ f) (hu : u < 6) (h3 : rg (s 3 u) 101) : D_U_total f (22 + 3 * u) c = some (sm (s 5) (100 * u) (nt (s 3 u)), c) := by
  have hl := h3.lt
  unfold D_U_total
  have e := b_total_C (f := f) (h.fix.hUn u hu) (h.fix.amts u hu) (h.fix.hAmts u hu) (by rw [h.uh u hu]; exact h3.eq) (by omega) (nt (s 3 u)) 0 f (by omega) (by omega)
  have e2 : sm (cI c 400 (24 + 3 * u)) 0 (nt (s 3 u)) = sm (s 5) (100 * u) (nt (s 3 u)) := sm_congr (fun j hj => by rw [Nat.zero_add]; exact h.ua u hu j hj)
  rw [e2] at e
  exact e
/-- only what units hold, and the two rows of shares, changed -/
def Fq (c c2 : cx_S) : Prop := (∀ F p, F ≠ 162 → ¬ (F = 400 ∧ (p = 18 ∨ p = 19 ∨ (22 ≤ p ∧ p < 40))) → cI c2 F p = cI c F p) ∧ c2.2 = c.2
theorem Fq.rfl : Fq c c := ⟨fun _ _ _ _ => Eq.refl _, Eq.refl _⟩
theorem Fq.tr {c1 c2 : cx_S} (h : Fq c c1) (g : Fq c1 c2) : Fq c c2 := ⟨fun F p a b => by rw [g.1 F p a b, h.1 F p a b], by rw [g.2, h.2]⟩
theorem Fq.R {c2 : cx_S} (h : Fq c c2) : cR c2 = cR c := congrArg (fun z => z.1) h.2
theorem Fq.H {c2 : cx_S} (h : Fq c c2) : cH c2 = cH c := congrArg (fun z => z.2.1) h.2
theorem Fq.N {c2 : cx_S} (h : Fq c c2) : cN c2 = cN c := congrArg (fun z => z.2.2.1) h.2
theorem Fq.Z {c2 : cx_S} (h : Fq c c2) : cZ c2 = cZ c := congrArg (fun z => z.2.2.2) h.2
theorem CRep_U {c2 : cx_S} {s2 : rx_S} (h : CRep K c s) (hu : CU c2 s2) (hq : Fq c c2) (hk : ∀ k, k ≠ 3 → k ≠ 4 → k ≠ 5 → k ≤ 37 → s2 k = s k) : CRep K c2 s2 := by
  have I : ∀ F, F ≠ 162 → F ≠ 400 → cI c2 F = cI c F := fun F a b => funext fun p => hq.1 F p a (fun z => b z.1)
  have J : ∀ p, 40 ≤ p ∨ p = 0 → cI c2 400 p = cI c 400 p := fun p a => hq.1 400 p (by decide) (fun z => by omega)
  have e := fun k a b c d => hk k a b c d
  refine ⟨hu.fix, ?_, ?_, hu.uh, hu.ul, hu.ua, ?_⟩
  · rw [I 160 (by decide) (by decide), e 1 (by decide) (by decide) (by decide) (by decide)]; exact h.ug
  · rw [I 161 (by decide) (by decide), e 2 (by decide) (by decide) (by decide) (by decide)]; exact h.uo
  unfold TL TC ka
  rw [hq.R, hq.H, hq.N, e 6 (by decide) (by decide) (by decide) (by decide), e 7 (by decide) (by decide) (by decide) (by decide), e 8 (by decide) (by decide) (by decide) (by decide), e 9 (by decide) (by decide) (by decide) (by decide), e 10 (by decide) (by decide) (by decide) (by decide), e 11 (by decide) (by decide) (by decide) (by decide), e 12 (by decide) (by decide) (by decide) (by decide), e 13 (by decide) (by decide) (by decide) (by decide), e 14 (by decide) (by decide) (by decide) (by decide), e 15 (by decide) (by decide) (by decide) (by decide), e 16 (by decide) (by decide) (by decide) (by decide), e 17 (by decide) (by decide) (by decide) (by decide), e 18 (by decide) (by decide) (by decide) (by decide), e 19 (by decide) (by decide) (by decide) (by decide), e 20 (by decide) (by decide) (by decide) (by decide), e 21 (by decide) (by decide) (by decide) (by decide), e 22 (by decide) (by decide) (by decide) (by decide), e 23 (by decide) (by decide) (by decide) (by decide), e 24 (by decide) (by decide) (by decide) (by decide), e 25 (by decide) (by decide) (by decide) (by decide), e 26 (by decide) (by decide) (by decide) (by decide), e 27 (by decide) (by decide) (by decide) (by decide), e 31 (by decide) (by decide) (by decide) (by decide), e 32 (by decide) (by decide) (by decide) (by decide), e 33 (by decide) (by decide) (by decide) (by decide), e 34 (by decide) (by decide) (by decide) (by decide), e 35 (by decide) (by decide) (by decide) (by decide), e 36 (by decide) (by decide) (by decide) (by decide), e 37 (by decide) (by decide) (by decide) (by decide)]
  rw [I 96 (by decide) (by decide), I 97 (by decide) (by decide), I 128 (by decide) (by decide), I 129 (by decide) (by decide), I 130 (by decide) (by decide), I 131 (by decide) (by decide), I 132 (by decide) (by decide), I 133 (by decide) (by decide), I 2 (by decide) (by decide), I 16 (by decide) (by decide), I 17 (by decide) (by decide), I 19 (by decide) (by decide), I 20 (by decide) (by decide), I 21 (by decide) (by decide), I 144 (by decide) (by decide), I 145 (by decide) (by decide), I 146 (by decide) (by decide), I 147 (by decide) (by decide), I 64 (by decide) (by decide), I 48 (by decide) (by decide), I 49 (by decide) (by decide), I 52 (by decide) (by decide), I 36 (by decide) (by decide)]
  refine ⟨h.rr, h.rm, fun r hr k hk => by rw [J _ (by omega)]; exact h.rgr r hr k hk, h.sh, h.sg, h.s0, h.s1, h.s2, h.s3, h.s4, h.s5, h.bn, h.bh, h.bg, h.b0, h.b1, h.b3, h.b4, h.b5, fun t ht j hj => ?_, fun t ht j hj => ?_, fun t ht j hj => ?_, h.th, h.tg, h.t8, h.ta, h.tb, h.tl, h.tc, h.ln, h.lh, h.lg, h.lb, h.lt, h.lu, fun l hl j hj => ?_, fun l hl j hj => ?_, h.nn, h.nl⟩
  · rw [J _ (by have := (h.bg.1 t ht).1; omega)]; exact h.bv t ht j hj
  · rw [J _ (by have := (h.bg.1 t ht).1; omega)]; exact h.br t ht j hj
  · rw [J _ (by have := (h.bg.1 t ht).1; omega)]; exact h.bo t ht j hj
  · rw [J _ (by have := (h.lg.1 l hl).2.2.1; omega)]; exact h.lp l hl j hj
  · rw [J _ (by have := (h.lg.1 l hl).2.2.2.2.1; omega)]; exact h.lq l hl j hj
end UNI
