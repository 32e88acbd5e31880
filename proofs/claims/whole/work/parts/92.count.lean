/-! what a recipe needs, what is free, what is blocked -/
section CNT
variable {f : Nat} {K : kx} {W : Nat → Nat → Nat} {bd : Nat} {c : cx_S} {s : rx_S}
def ctb (p : Nat → Bool) : Nat → Nat
  | 0 => 0
  | n + 1 => ctb p n + if p n = true then 1 else 0
theorem ctb_le {p : Nat → Bool} : ∀ n, ctb p n ≤ n
  | 0 => Nat.le_refl _
  | n + 1 => by
    have := ctb_le (p := p) n
    rw [ctb]; split <;> omega
theorem ctb_pos {p : Nat → Bool} : ∀ n, 0 < ctb p n ↔ ∃ u, u < n ∧ p u = true := by
  intro n
  induction n with
  | zero => exact ⟨fun h => absurd h (by simp [ctb]), fun ⟨u, h, _⟩ => by omega⟩
  | succ n ih =>
    rw [ctb]
    by_cases e : p n = true
    · rw [if_pos e]
      exact ⟨fun _ => ⟨n, by omega, e⟩, fun _ => by omega⟩
    · rw [if_neg e]
      constructor
      · intro h
        obtain ⟨u, h1, h2⟩ := ih.mp (by omega)
        exact ⟨u, by omega, h2⟩
      · rintro ⟨u, h1, h2⟩
        have : u ≠ n := fun z => e (z ▸ h2)
        have := ih.mpr ⟨u, by omega, h2⟩
        omega
theorem ctb_congr {p q : Nat → Bool} {n : Nat} (h : ∀ u, u < n → q u = p u) : ctb q n = ctb p n := by
  induction n with
  | zero => rfl
  | succ n ih => rw [ctb, ctb, ih (fun u hu => h u (by omega)), h n (by omega)]
theorem ctb_set {p q : Nat → Bool} {n u : Nat} (hu : u < n) (h1 : p u = true) (h2 : q u = false) (h : ∀ v, v < n → v ≠ u → q v = p v) : ctb q n + 1 = ctb p n := by
  induction n with
  | zero => omega
  | succ n ih =>
    rw [ctb, ctb]
    by_cases e : u = n
    · subst e
      rw [ctb_congr (fun v hv => h v (by omega) (by omega)), if_pos h1, if_neg (by rw [h2]; decide)]
    · rw [h n (by omega) (fun z => e z.symm)]
      have := ih (by omega) (fun v hv => h v (by omega))
      omega
theorem ctb_mono {p q : Nat → Bool} {n : Nat} (h : ∀ u, u < n → q u = true → p u = true) : ctb q n ≤ ctb p n := by
  induction n with
  | zero => exact Nat.le_refl _
  | succ n ih =>
    have := ih (fun u hu => h u (by omega))
    rw [ctb, ctb]
    by_cases e : q n = true
    · rw [if_pos e, if_pos (h n (by omega) e)]; omega
    · rw [if_neg e]; omega
def pF (s : rx_S) (g : Nat) : Nat → Bool := fun u => decide (s 1 u = nI g) && decide (s 2 u = -1)
def pR (s : rx_S) (r g : Nat) : Nat → Bool := fun k => decide (s 6 (3 * r + k) = nI g)
def nF (s : rx_S) (g : Nat) : Nat := ctb (pF s g) 6
def nR (s : rx_S) (r g : Nat) : Nat := ctb (pR s r g) 3
theorem pF_iff {g u : Nat} : pF s g u = true ↔ s 1 u = nI g ∧ s 2 u = -1 := by unfold pF; simp
theorem pR_iff {r g k : Nat} : pR s r g k = true ↔ s 6 (3 * r + k) = nI g := by unfold pR; simp
theorem roles_C (h : CRep K c s) {r g : Nat} (hr : r < 4) : ∀ d k n, k + d = 3 → d < n → D_R_countRoles_4 f (40 + 3 * r) (nI g) n (nI (ctb (pR s r g) k)) (nI k) c = some (nI (nR s r g), c) := by
  intro d
  induction d with
  | zero =>
    intro k n hk hn
    obtain ⟨n, rfl⟩ : ∃ k', n = k' + 1 := ⟨n - 1, by omega⟩
    have e : k = 3 := by omega
    subst e
    rw [D_R_countRoles_4, if_pos (Int32.le_refl _)]; rfl
  | succ d ih =>
    intro k n hk hn
    obtain ⟨n, rfl⟩ : ∃ k', n = k' + 1 := ⟨n - 1, by omega⟩
    have := ih (k + 1) n (by omega) (by omega)
    rw [ctb] at this
    rw [D_R_countRoles_4, if_neg (nI_ge (by omega) (by decide)), b_oc (h.fix.hRec r hr), h.fix.grp r hr, b_oa (h.fix.hGrp r hr) (by omega) (by decide), b_oj, h.rgr r hr k (by omega), nI_add, nI_add]
    by_cases e : s 6 (3 * r + k) = nI g
    · rw [if_pos e]; rw [if_pos (pR_iff.mpr e)] at this; exact this
    · rw [if_neg e]; rw [if_neg (fun z => e (pR_iff.mp z))] at this; exact this
theorem free_Cn (h : CRep K c s) {g : Nat} : ∀ d u n, u + d = 6 → d < n → D_F_countFree_4 f 12 (nI g) n (nI (ctb (pF s g) u)) (nI u) c = some (nI (nF s g), c) := by
  intro d
  induction d with
  | zero =>
    intro k n hk hn
    obtain ⟨n, rfl⟩ : ∃ k', n = k' + 1 := ⟨n - 1, by omega⟩
    have e : k = 6 := by omega
    subst e
    rw [D_F_countFree_4, if_pos (Int32.le_refl _)]; rfl
  | succ d ih =>
    intro k n hk hn
    obtain ⟨n, rfl⟩ : ∃ k', n = k' + 1 := ⟨n - 1, by omega⟩
    have := ih (k + 1) n (by omega) (by omega)
    rw [ctb] at this
    have hk6 : k < 6 := by omega
    rw [D_F_countFree_4, if_neg (nI_ge (by omega) (by decide)), b_oc h.fix.h12, h.fix.f32, b_oa h.fix.h13 hk6 (by decide), h.fix.unA k hk6, b_oc (h.fix.hUn k hk6), b_oj, h.ug k hk6, h.uo k hk6, nI_add, nI_add]
    by_cases e : s 1 k = nI g
    · rw [if_pos e]
      by_cases e2 : s 2 k = -1
      · rw [if_pos e2]; rw [if_pos (pF_iff.mpr ⟨e, e2⟩)] at this; exact this
      · rw [if_neg e2]; rw [if_neg (fun z => e2 (pF_iff.mp z).2)] at this; exact this
    · rw [if_neg e]; rw [if_neg (fun z => e (pF_iff.mp z).1)] at this; exact this
/-- the class's blocked classes -/
def Bk (c : cx_S) (B : Nat) : Prop := ∀ g, g < 3 → (cI c 400 21 g = nI 1 ↔ B.testBit g = true)
def okG (s : rx_S) (r B g : Nat) : Prop := 0 < nR s r g → ¬ B.testBit g = true ∧ nR s r g ≤ nF s g
theorem nR_le {r g : Nat} : nR s r g ≤ 3 := ctb_le 3
theorem nF_le {g : Nat} : nF s g ≤ 6 := ctb_le 6
theorem may_C (h : CRep K c s) (hf : 2 ^ 31 ≤ f) {r B : Nat} (hr : r < 4) (hB : Bk c B) : ∀ d g n, g + d = 3 → d < n → ∃ x, D_F_mayClaim_2 f 12 (some (40 + 3 * r)) n (nI g) c = some (x, c) ∧ TF x (∀ g2, g ≤ g2 → g2 < 3 → okG s r B g2) := by
  intro d
  induction d with
  | zero =>
    intro g n hk hn
    obtain ⟨n, rfl⟩ : ∃ k', n = k' + 1 := ⟨n - 1, by omega⟩
    have e : g = 3 := by omega
    subst e
    exact ⟨nI 1, by rw [D_F_mayClaim_2, if_pos (Int32.le_refl _)], Or.inl ⟨rfl, fun g2 h1 h2 => by omega⟩⟩
  | succ d ih =>
    intro g n hk hn
    obtain ⟨n, rfl⟩ : ∃ k', n = k' + 1 := ⟨n - 1, by omega⟩
    obtain ⟨x, w1, w2⟩ := ih (g + 1) n (by omega) (by omega)
    have rc : D_R_countRoles f (40 + 3 * r) (nI g) c = some (nI (nR s r g), c) := roles_C h hr 3 0 f (by omega) (by omega)
    have fc : D_F_countFree f 12 (nI g) c = some (nI (nF s g), c) := free_Cn h 6 0 f (by omega) (by omega)
    have rl := nR_le (s := s) (r := r) (g := g)
    have fl := nF_le (s := s) (g := g)
    have bb := hB g (by omega)
    rw [D_F_mayClaim_2, if_neg (nI_ge (by omega) (by decide)), b_oc (h.fix.hRec r hr), rc, b_ob, b_oj, nI_add]
    have on : okG s r B g → ∃ x, D_F_mayClaim_2 f 12 (some (40 + 3 * r)) n (nI (g + 1)) c = some (x, c) ∧ TF x (∀ g2, g ≤ g2 → g2 < 3 → okG s r B g2) := fun ok => by
      refine ⟨x, w1, ?_⟩
      rcases w2 with ⟨a, b⟩ | ⟨a, b⟩
      · refine Or.inl ⟨a, fun g2 h1 h2 => ?_⟩
        by_cases e : g2 = g
        · rw [e]; exact ok
        · exact b g2 (by omega) h2
      · exact Or.inr ⟨a, fun z => b (fun g2 h1 h2 => z g2 (by omega) h2)⟩
    by_cases e : nR s r g = 0
    · rw [if_pos (by rw [e]; decide)]
      exact on (fun z => by omega)
    · rw [if_neg (show ¬ nI (nR s r g) ≤ 0 from nI_ge (a := 0) (by omega) (by omega)), b_oc h.fix.h12, h.fix.f37, b_oa h.fix.h21 (by omega) (by decide), b_oj]
      by_cases e2 : cI c 400 21 g = nI 1
      · rw [if_pos e2]
        exact ⟨nI 0, rfl, Or.inr ⟨rfl, fun z => (z g (Nat.le_refl _) (by omega) (by omega)).1 (bb.mp e2)⟩⟩
      · rw [if_neg e2, fc, b_ob]
        by_cases e3 : nR s r g ≤ nF s g
        · rw [if_pos (nI_le e3 (by omega))]
          exact on (fun _ => ⟨fun z => e2 (bb.mpr z), e3⟩)
        · rw [if_neg (nI_ge (by omega) (by omega))]
          exact ⟨nI 0, rfl, Or.inr ⟨rfl, fun z => e3 (z g (Nat.le_refl _) (by omega) (by omega)).2⟩⟩
/-- what a recipe needs, as bits -/
def nm (s : rx_S) (r : Nat) : Nat → Nat
  | 0 => 0
  | k + 1 => nm s r k ||| 1 <<< nt (s 6 (3 * r + k))
def nd (s : rx_S) (r : Nat) : Nat := nm s r 3 &&& 7
theorem bn1 : ∀ x, x < 16 → ∀ b, b < 4 → x ||| 1 <<< b < 16 ∧ nI x ||| nI 1 <<< (nI b &&& 31) = nI (x ||| 1 <<< b) := by decide
theorem bn2 : ∀ x, x < 16 → nI x &&& nI 7 = nI (x &&& 7) ∧ x &&& 7 < 8 := by decide
theorem bn3 : ∀ x, x < 16 → ∀ b, b < 4 → ∀ g, g < 3 → (x ||| 1 <<< b).testBit g = (x.testBit g || decide (b = g)) := by decide
theorem bn4 : ∀ x, x < 16 → ∀ g, g < 3 → (x &&& 7).testBit g = x.testBit g := by decide
theorem bn5 : ∀ x, x < 8 → ∀ y, y < 8 → x ||| y < 8 ∧ ∀ g, g < 3 → (x ||| y).testBit g = (x.testBit g || y.testBit g) := by decide
theorem nm_ok (h6 : RN 12 4 (s 6)) {r : Nat} (hr : r < 4) : ∀ k, k ≤ 3 → nm s r k < 16 ∧ ∀ g, g < 3 → ((nm s r k).testBit g = true ↔ 0 < ctb (pR s r g) k) := by
  intro k
  induction k with
  | zero => exact fun _ => ⟨by rw [nm]; decide, fun g hg => by simp [nm, ctb]⟩
  | succ k ih =>
    intro hk
    obtain ⟨a, b⟩ := ih (by omega)
    have q := h6 (3 * r + k) (by omega)
    have ql := q.lt
    have qe := q.eq
    refine ⟨(bn1 _ a _ ql).1, fun g hg => ?_⟩
    rw [nm, ctb, bn3 _ a _ ql g hg, Bool.or_eq_true, b g hg]
    have e : pR s r g k = true ↔ nt (s 6 (3 * r + k)) = g := by
      rw [pR_iff]
      constructor
      · intro z; rw [z, nt_nI (by omega)]
      · intro z; rw [qe, z]
    by_cases z : nt (s 6 (3 * r + k)) = g
    · rw [if_pos (e.mpr z)]; simp [z]
    · rw [if_neg (fun w => z (e.mp w))]; simp [z]
theorem nd_ok (h6 : RN 12 4 (s 6)) {r : Nat} (hr : r < 4) : nd s r < 8 ∧ ∀ g, g < 3 → ((nd s r).testBit g = true ↔ 0 < nR s r g) := by
  obtain ⟨a, b⟩ := nm_ok h6 hr 3 (Nat.le_refl _)
  exact ⟨(bn2 _ a).2, fun g hg => by unfold nd; rw [bn4 _ a g hg]; exact b g hg⟩
theorem needs_M (h6 : RN 12 4 (s 6)) (hf : 2 ^ 31 ≤ f) {t : Nat} (t16 : t < 16) (b : rg (s 16 t) 4) : D_M_needs f (nI t) s = some (nI (nd s (nt (s 16 t))), s) := by
  have r4 := b.lt
  have e16 := b.eq
  have key : ∀ d k n, k + d = 3 → d < n → D_M_needs_4 f (nI t) (fun (v3 : Int32) (s4 : rx_S) => some (v3 &&& (nI 7), s4)) n (nI (nm s (nt (s 16 t)) k)) (nI k) s = some (nI (nd s (nt (s 16 t))), s) := by
    intro d
    induction d with
    | zero =>
      intro k n hk hn
      obtain ⟨n, rfl⟩ : ∃ k', n = k' + 1 := ⟨n - 1, by omega⟩
      have e : k = 3 := by omega
      subst e
      rw [D_M_needs_4, if_pos (Int32.le_refl _), (bn2 _ (nm_ok h6 r4 3 (Nat.le_refl _)).1).1]; rfl
    | succ d ih =>
      intro k n hk hn
      obtain ⟨n, rfl⟩ : ∃ k', n = k' + 1 := ⟨n - 1, by omega⟩
      have q := h6 (3 * nt (s 16 t) + k) (by omega)
      have := ih (k + 1) n (by omega) (by omega)
      rw [nm, ← (bn1 _ (nm_ok h6 r4 k (by omega)).1 _ q.lt).2, ← q.eq] at this
      rw [D_M_needs_4, if_neg (nI_ge (by omega) (by decide)), b_og t16 (by decide)]
      rw [show nI 3 * s 16 t + nI k = nI (3 * nt (s 16 t) + k) by rw [e16, pk_mul, nI_add, nt_nI (show nt (s 16 t) < 2 ^ 31 by omega)], b_og (by omega) (by decide), nI_add]
      exact this
  exact key 3 0 f (by omega) (by omega)
theorem block_C (h : CRep K c s) (hI : Iv K W bd s) (hf : 2 ^ 31 ≤ f) {r B : Nat} (hr : r < 4) (hB8 : B < 8) (hB : Bk c B) : ∃ g, D_F_block f 12 (some (40 + 3 * r)) c = some (0, ws c 21 g) ∧ Bk (ws c 21 g) (B ||| nd s r) := by
  have key : ∀ d k n g, k + d = 3 → d < n → (∀ q, q < 3 → (g q = nI 1 ↔ (B.testBit q = true ∨ (q < k ∧ 0 < nR s r q)))) → ∃ g2, D_F_block_2 f 12 (some (40 + 3 * r)) n (nI k) (ws c 21 g) = some (0, ws c 21 g2) ∧ ∀ q, q < 3 → (g2 q = nI 1 ↔ (B.testBit q = true ∨ 0 < nR s r q)) := by
    intro d
    induction d with
    | zero =>
      intro k n g hk hn hg
      obtain ⟨n, rfl⟩ : ∃ k', n = k' + 1 := ⟨n - 1, by omega⟩
      have e : k = 3 := by omega
      subst e
      refine ⟨g, by rw [D_F_block_2, if_pos (Int32.le_refl _)], fun q hq => (hg q hq).trans ⟨?_, ?_⟩⟩
      · rintro (z | z)
        · exact Or.inl z
        · exact Or.inr z.2
      · rintro (z | z)
        · exact Or.inl z
        · exact Or.inr ⟨hq, z⟩
    | succ d ih =>
      intro k n g hk hn hg
      obtain ⟨n, rfl⟩ : ∃ k', n = k' + 1 := ⟨n - 1, by omega⟩
      have h1 : CRep K (ws c 21 g) s := CRep_ws h (by unfold Sc; omega)
      have rc : D_R_countRoles f (40 + 3 * r) (nI k) (ws c 21 g) = some (nI (nR s r k), ws c 21 g) := roles_C h1 hr 3 0 f (by omega) (by omega)
      have rl := nR_le (s := s) (r := r) (g := k)
      rw [D_F_block_2, if_neg (nI_ge (by omega) (by decide)), b_oc (h1.fix.hRec r hr), rc, b_ob, b_oj, nI_add]
      by_cases e : nR s r k = 0
      · rw [if_pos (by rw [e]; decide)]
        refine ih (k + 1) n g (by omega) (by omega) (fun q hq => (hg q hq).trans ⟨?_, ?_⟩)
        · rintro (z | z)
          · exact Or.inl z
          · exact Or.inr ⟨by omega, z.2⟩
        · rintro (z | z)
          · exact Or.inl z
          · refine Or.inr ⟨?_, z.2⟩
            have : q ≠ k := fun w => by rw [w, e] at z; omega
            omega
      · rw [if_neg (show ¬ nI (nR s r k) ≤ 0 from nI_ge (a := 0) (by omega) (by omega)), b_oc h1.fix.h12, h1.fix.f37, b_oa h1.fix.h21 (by omega) (by decide), ws_ui]
        refine ih (k + 1) n _ (by omega) (by omega) (fun q hq => ?_)
        by_cases e2 : q = k
        · rw [e2, upd_s]
          exact ⟨fun _ => Or.inr ⟨by omega, by omega⟩, fun _ => rfl⟩
        · rw [upd_o e2]
          refine (hg q hq).trans ⟨?_, ?_⟩
          · rintro (z | z)
            · exact Or.inl z
            · exact Or.inr ⟨by omega, z.2⟩
          · rintro (z | z)
            · exact Or.inl z
            · exact Or.inr ⟨by omega, z.2⟩
  obtain ⟨g, w1, w2⟩ := key 3 0 f (cI c 400 21) (by omega) (by omega) (fun q hq => (hB q hq).trans ⟨fun z => Or.inl z, fun z => by rcases z with z | z; exact z; omega⟩)
  rw [ws_id] at w1
  obtain ⟨n1, n2⟩ := nd_ok hI.i6 hr
  refine ⟨g, w1, fun q hq => ?_⟩
  rw [ws_at, (bn5 _ hB8 _ n1).2 q hq, Bool.or_eq_true, n2 q hq]
  exact w2 q hq
end CNT
