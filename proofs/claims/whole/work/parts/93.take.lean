/-! units are taken -/
section TAK
variable {f : Nat} {K : kx} {W : Nat → Nat → Nat} {bd : Nat} {c : cx_S} {s : rx_S}
theorem least_F (p : Nat → Bool) : ∀ n, (∀ u, u < n → ¬ p u = true) ∨ ∃ u, u < n ∧ p u = true ∧ ∀ w, w < u → ¬ p w = true := by
  intro n
  induction n with
  | zero => exact Or.inl (fun u hu => by omega)
  | succ n ih =>
    rcases ih with a | ⟨u, a, b, c⟩
    · by_cases e : p n = true
      · exact Or.inr ⟨n, by omega, e, a⟩
      · refine Or.inl (fun u hu => ?_)
        by_cases z : u = n
        · rw [z]; exact e
        · exact a u (by omega)
    · exact Or.inr ⟨u, by omega, b, c⟩
theorem take_C0 (h : CRep K c s) {t k g : Nat} {k42 : Int32 → cx_S → Option (Int32 × cx_S)} (ht : t < nt (s 15 0)) (hr : nt (s 16 t) < 4) (hk : k < 3) (hg : s 6 (3 * nt (s 16 t) + k) = nI g) : ∀ d v n, v + d = 6 → d < n → (∀ w, v ≤ w → w < 6 → ¬ pF s g w = true) → D_F_takeLeastUnit_2 f 12 (some (kB K t)) (nI k) k42 n (nI v) c = some (0, c) := by
  obtain ⟨hb1, hb2, hb3, hb4, hb5, hb6, hb7, hb8, hb9, hb10, hb11⟩ := h.bh t ht
  intro d
  induction d with
  | zero =>
    intro v n hv hn hF
    obtain ⟨n, rfl⟩ : ∃ k', n = k' + 1 := ⟨n - 1, by omega⟩
    rw [D_F_takeLeastUnit_2, show v = 6 by omega, if_pos (Int32.le_refl _)]
  | succ d ih =>
    intro v n hv hn hF
    obtain ⟨n, rfl⟩ : ∃ k', n = k' + 1 := ⟨n - 1, by omega⟩
    have v6 : v < 6 := by omega
    have nf := hF v (Nat.le_refl _) v6
    have r := ih (v + 1) n (by omega) (by omega) (fun w h1 h2 => hF w (by omega) h2)
    rw [D_F_takeLeastUnit_2, if_neg (nI_ge v6 (by decide)), b_oc h.fix.h12, h.fix.f32, b_oa h.fix.h13 v6 (by decide), h.fix.unA v v6, b_oc (h.fix.hUn v v6), b_oc hb2, hb3, b_oc (h.fix.hRec _ hr), h.fix.grp _ hr, b_oa (h.fix.hGrp _ hr) hk (by decide), b_oj, h.ug v v6, h.uo v v6, h.rgr _ hr k hk, hg, nI_add]
    by_cases e : s 1 v = nI g
    · rw [if_pos e, if_neg (fun z => nf (pF_iff.mpr ⟨e, z⟩))]; exact r
    · rw [if_neg e]; exact r
theorem take_C1 (h : CRep K c s) {t k g u : Nat} {k42 : Int32 → cx_S → Option (Int32 × cx_S)} (ht : t < nt (s 15 0)) (hr : nt (s 16 t) < 4) (hk : k < 3) (hg : s 6 (3 * nt (s 16 t) + k) = nI g) (hu : u < 6) (hF : pF s g u = true) (hm : ∀ w, w < u → ¬ pF s g w = true) : ∀ d v n, v + d = u → d < n → D_F_takeLeastUnit_2 f 12 (some (kB K t)) (nI k) k42 n (nI v) c = k42 (nI u) c := by
  obtain ⟨hb1, hb2, hb3, hb4, hb5, hb6, hb7, hb8, hb9, hb10, hb11⟩ := h.bh t ht
  intro d
  induction d with
  | zero =>
    intro v n hv hn
    obtain ⟨n, rfl⟩ : ∃ k', n = k' + 1 := ⟨n - 1, by omega⟩
    have e : v = u := by omega
    subst e
    have z := pF_iff.mp hF
    rw [D_F_takeLeastUnit_2, if_neg (nI_ge hu (by decide)), b_oc h.fix.h12, h.fix.f32, b_oa h.fix.h13 hu (by decide), h.fix.unA v hu, b_oc (h.fix.hUn v hu), b_oc hb2, hb3, b_oc (h.fix.hRec _ hr), h.fix.grp _ hr, b_oa (h.fix.hGrp _ hr) hk (by decide), b_oj, h.ug v hu, h.uo v hu, h.rgr _ hr k hk, hg, if_pos z.1, if_pos z.2]
  | succ d ih =>
    intro v n hv hn
    obtain ⟨n, rfl⟩ : ∃ k', n = k' + 1 := ⟨n - 1, by omega⟩
    have v6 : v < 6 := by omega
    have nf := hm v (by omega)
    have r := ih (v + 1) n (by omega) (by omega)
    rw [D_F_takeLeastUnit_2, if_neg (nI_ge v6 (by decide)), b_oc h.fix.h12, h.fix.f32, b_oa h.fix.h13 v6 (by decide), h.fix.unA v v6, b_oc (h.fix.hUn v v6), b_oc hb2, hb3, b_oc (h.fix.hRec _ hr), h.fix.grp _ hr, b_oa (h.fix.hGrp _ hr) hk (by decide), b_oj, h.ug v v6, h.uo v v6, h.rgr _ hr k hk, hg, nI_add]
    by_cases e : s 1 v = nI g
    · rw [if_pos e, if_neg (fun z => nf (pF_iff.mpr ⟨e, z⟩))]; exact r
    · rw [if_neg e]; exact r
abbrev sT (s : rx_S) (t k u : Nat) : rx_S := rx_up (rx_up s 2 u (nI t)) 22 (3 * t + k) (nI u)
abbrev cT (K : kx) (c : cx_S) (t k u : Nat) : cx_S := cx_ui (cx_ui c 161 (22 + 3 * u) 0 (nI t)) 400 (kB K t + 4) k (nI u)
theorem gets_29 {t k g : Nat} {l2 : Int32} {kk : rx_S → Option (Int32 × rx_S)} (t16 : t < 16) (hk : k < 3) (hg : g < 3) (h22 : s 22 (3 * t + k) = -1) : ∀ d v n, v + d = 6 → d < n → (∀ w, w < v → ¬ pF s g w = true) →
    ((∀ w, w < 6 → ¬ pF s g w = true) → D_M_gets_29 f (nI t) l2 (nI k) (nI g) kk n (nI v) s = kk s) ∧ ∀ u, u < 6 → pF s g u = true → (∀ w, w < u → ¬ pF s g w = true) → D_M_gets_29 f (nI t) l2 (nI k) (nI g) kk n (nI v) s = kk (sT s t k u) := by
  intro d
  induction d with
  | zero =>
    intro v n hv hn hv2
    obtain ⟨n, rfl⟩ : ∃ k', n = k' + 1 := ⟨n - 1, by omega⟩
    have e : v = 6 := by omega
    subst e
    exact ⟨fun _ => by rw [D_M_gets_29, if_pos (Int32.le_refl _)], fun u hu hF => absurd hF (hv2 u hu)⟩
  | succ d ih =>
    intro v n hv hn hv2
    obtain ⟨n, rfl⟩ : ∃ k', n = k' + 1 := ⟨n - 1, by omega⟩
    have v6 : v < 6 := by omega
    have one : D_M_gets_29 f (nI t) l2 (nI k) (nI g) kk (n + 1) (nI v) s = if pF s g v = true then D_M_gets_29 f (nI t) l2 (nI k) (nI g) kk n (nI (v + 1)) (sT s t k v) else D_M_gets_29 f (nI t) l2 (nI k) (nI g) kk n (nI (v + 1)) s := by
      rw [D_M_gets_29, if_neg (nI_ge v6 (by decide)), if_neg (nI_ge hg (by decide)), pk_mul, nI_add, b_og (by omega) (by decide), if_pos h22, b_og v6 (by decide), b_oj, nI_add]
      by_cases e : s 1 v = nI g
      · by_cases e2 : s 2 v = -1
        · rw [if_pos e, if_pos e2, if_pos (pF_iff.mpr ⟨e, e2⟩)]
        · rw [if_pos e, if_neg e2, if_neg (fun z => e2 (pF_iff.mp z).2)]
      · rw [if_neg e, if_neg (fun z => e (pF_iff.mp z).1)]
    rw [one]
    by_cases e : pF s g v = true
    · rw [if_pos e]
      refine ⟨fun z => absurd e (z v v6), fun u hu hF hm => ?_⟩
      have eu : u = v := by
        rcases Nat.lt_trichotomy u v with z | z | z
        · exact absurd hF (hv2 u z)
        · exact z
        · exact absurd e (hm v z)
      subst eu
      obtain ⟨n, rfl⟩ : ∃ k', n = k' + 1 := ⟨n - 1, by omega⟩
      rw [D_M_gets_29]
      by_cases z : nI 6 ≤ nI (u + 1)
      · rw [if_pos z]
      · rw [if_neg z, if_neg (nI_ge hg (by decide)), pk_mul, nI_add, b_og (by omega) (by decide), if_neg (show ¬ sT s t k u 22 (3 * t + k) = -1 from fun w => by
          have w2 : sT s t k u 22 (3 * t + k) = nI u := up_s
          rw [w2] at w; exact nI_m1 (by omega) w)]
    · rw [if_neg e]
      exact ih (v + 1) n (by omega) (by omega) (fun w hw => by
        by_cases z : w = v
        · rw [z]; exact e
        · exact hv2 w (by omega))
/-- role by role -/
def RI (t : Nat) (s : rx_S) (r k : Nat) (s1 : rx_S) (fl : Bool) : Prop :=
  (∀ q, q ≠ 2 → q ≠ 22 → s1 q = s q) ∧ (∀ j, (j < 3 * t ∨ 3 * t + 3 ≤ j) → s1 22 j = s 22 j) ∧ (∀ i, k ≤ i → i < 3 → s1 22 (3 * t + i) = -1) ∧
  (∀ i, i < k → (s1 22 (3 * t + i) = -1 ∧ (fl = true → s 6 (3 * r + i) = nI 3)) ∨ ∃ u, u < 6 ∧ s1 22 (3 * t + i) = nI u ∧ s 2 u = -1 ∧ s1 2 u = nI t) ∧
  (∀ u, s1 2 u = s 2 u ∨ (u < 6 ∧ s 2 u = -1 ∧ ∃ i, i < k ∧ s1 22 (3 * t + i) = nI u)) ∧
  (∀ i, i < k → ∀ j, j < k → s1 22 (3 * t + i) ≠ -1 → s1 22 (3 * t + i) = s1 22 (3 * t + j) → i = j) ∧
  (fl = true ↔ ∀ g, g < 3 → ctb (pR s r g) k ≤ nF s g) ∧ (fl = true → ∀ g, g < 3 → nF s1 g + ctb (pR s r g) k = nF s g)
theorem RI_0 {t r : Nat} (h : ∀ i, i < 3 → s 22 (3 * t + i) = -1) : RI t s r 0 s true :=
  ⟨fun _ _ _ => rfl, fun _ _ => rfl, fun i _ hi => h i hi, fun i hi => by omega, fun _ => Or.inl rfl, fun i hi => by omega, ⟨fun _ g _ => by rw [ctb]; omega, fun _ => rfl⟩, fun _ g _ => by rw [ctb]; omega⟩
theorem RI_skip {t r k : Nat} {s1 : rx_S} {fl : Bool} (hk : k < 3) (h6 : s 6 (3 * r + k) = nI 3) (h : RI t s r k s1 fl) : RI t s r (k + 1) s1 fl := by
  obtain ⟨a1, a2, a3, a4, a5, a6, a7, a8⟩ := h
  have e : ∀ g, g < 3 → ctb (pR s r g) (k + 1) = ctb (pR s r g) k := fun g hg => by
    rw [ctb, if_neg (fun z => by
      have := pR_iff.mp z
      rw [h6, nI_eq (by omega) (by omega)] at this
      omega)]
    rfl
  refine ⟨a1, a2, fun i h1 h2 => a3 i (by omega) h2, fun i hi => ?_, fun u => ?_, fun i hi j hj n1 n2 => ?_, a7.trans ⟨fun z g hg => by rw [e g hg]; exact z g hg, fun z g hg => by have := z g hg; rw [e g hg] at this; exact this⟩, fun z g hg => by rw [e g hg]; exact a8 z g hg⟩
  · by_cases z : i = k
    · rw [z]; exact Or.inl ⟨a3 k (Nat.le_refl _) hk, fun _ => h6⟩
    · exact a4 i (by omega)
  · rcases a5 u with z | ⟨z1, z2, i, z3, z4⟩
    · exact Or.inl z
    · exact Or.inr ⟨z1, z2, i, by omega, z4⟩
  · have k22 := a3 k (Nat.le_refl _) hk
    by_cases z : i = k
    · rw [z, k22] at n1; exact absurd rfl n1
    · by_cases z2 : j = k
      · rw [z2, k22] at n2; exact absurd n2 n1
      · exact a6 i (by omega) j (by omega) n1 n2
theorem RI_none {t r k g : Nat} {s1 : rx_S} {fl : Bool} (hk : k < 3) (hg : g < 3) (h6 : s 6 (3 * r + k) = nI g) (hF : ∀ w, w < 6 → ¬ pF s1 g w = true) (h : RI t s r k s1 fl) : RI t s r (k + 1) s1 false := by
  obtain ⟨a1, a2, a3, a4, a5, a6, a7, a8⟩ := h
  have f0 : nF s1 g = 0 := by
    have := ctb_pos (p := pF s1 g) 6
    unfold nF
    by_cases z : ctb (pF s1 g) 6 = 0
    · exact z
    · obtain ⟨u, h1, h2⟩ := this.mp (by omega)
      exact absurd h2 (hF u h1)
  have nx : ctb (pR s r g) (k + 1) = ctb (pR s r g) k + 1 := by rw [ctb, if_pos (pR_iff.mpr h6)]
  refine ⟨a1, a2, fun i h1 h2 => a3 i (by omega) h2, fun i hi => ?_, fun u => ?_, fun i hi j hj n1 n2 => ?_, ⟨fun z => absurd z (by decide), fun z => ?_⟩, fun z => absurd z (by decide)⟩
  · by_cases z : i = k
    · rw [z]; exact Or.inl ⟨a3 k (Nat.le_refl _) hk, fun z => absurd z (by decide)⟩
    · rcases a4 i (by omega) with q | q
      · exact Or.inl ⟨q.1, fun z => absurd z (by decide)⟩
      · exact Or.inr q
  · rcases a5 u with z | ⟨z1, z2, i, z3, z4⟩
    · exact Or.inl z
    · exact Or.inr ⟨z1, z2, i, by omega, z4⟩
  · have k22 := a3 k (Nat.le_refl _) hk
    by_cases z : i = k
    · rw [z, k22] at n1; exact absurd rfl n1
    · by_cases z2 : j = k
      · rw [z2, k22] at n2; exact absurd n2 n1
      · exact a6 i (by omega) j (by omega) n1 n2
  · have z1 : fl = true := a7.mpr (fun g2 h2 => by
      have := z g2 h2
      rw [ctb] at this
      omega)
    have z2 := a8 z1 g hg
    have z3 := z g hg
    omega
theorem RI_take {t r k g u : Nat} {s1 : rx_S} {fl : Bool} (t16 : t < 16) (hk : k < 3) (hg : g < 3) (hu : u < 6) (h6 : s 6 (3 * r + k) = nI g) (hF : pF s1 g u = true) (h : RI t s r k s1 fl) : RI t s r (k + 1) (sT s1 t k u) fl := by
  obtain ⟨a1, a2, a3, a4, a5, a6, a7, a8⟩ := h
  obtain ⟨u1, u2⟩ := pF_iff.mp hF
  have nmt : nI t ≠ -1 := nI_m1 (by omega)
  have e2 : ∀ v, sT s1 t k u 2 v = if v = u then nI t else s1 2 v := fun v => by
    show rx_up s1 2 u (nI t) 2 v = _
    by_cases z : v = u
    · rw [z, up_s, if_pos rfl]
    · rw [up_o z, if_neg z]
  have e22 : ∀ i, i < 3 → sT s1 t k u 22 (3 * t + i) = if i = k then nI u else s1 22 (3 * t + i) := fun i hi => by
    by_cases z : i = k
    · rw [z, if_pos rfl]; exact up_s
    · rw [if_neg z]; unfold sT; rw [up_o (by omega)]; rfl
  -- the unit was free before
  have su : s 2 u = -1 := by
    rcases a5 u with z | ⟨_, z, _⟩
    · rw [← z]; exact u2
    · exact z
  have nt1 : ∀ i, i < k → s1 22 (3 * t + i) ≠ nI u := fun i hi z => by
    rcases a4 i hi with q | ⟨v, v1, v2, v3, v4⟩
    · rw [q.1] at z; exact nI_m1 (by omega) z.symm
    · rw [v2, nI_eq (by omega) (by omega)] at z
      rw [z, u2] at v4; exact nmt v4.symm
  have F1 : nF (sT s1 t k u) g + 1 = nF s1 g := by
    refine ctb_set hu hF ?_ (fun v hv z => ?_)
    · unfold pF
      rw [e2, if_pos rfl]; simp [nmt]
    · unfold pF
      rw [e2, if_neg z]; rfl
  have F2 : ∀ g2, g2 < 3 → g2 ≠ g → nF (sT s1 t k u) g2 = nF s1 g2 := fun g2 h2 z => by
    refine ctb_congr (fun v hv => ?_)
    by_cases e : v = u
    · subst e
      unfold pF
      rw [show sT s1 t k v 1 v = s1 1 v from rfl, u1, decide_eq_false (by rw [nI_eq (by omega) (by omega)]; exact fun w => z w.symm)]; rfl
    · unfold pF
      rw [e2, if_neg e]; rfl
  have C1 : ctb (pR s r g) (k + 1) = ctb (pR s r g) k + 1 := by rw [ctb, if_pos (pR_iff.mpr h6)]
  have C2 : ∀ g2, g2 < 3 → g2 ≠ g → ctb (pR s r g2) (k + 1) = ctb (pR s r g2) k := fun g2 h2 z => by
    rw [ctb, if_neg (fun w => by
      have := pR_iff.mp w
      rw [h6, nI_eq (by omega) (by omega)] at this
      exact z this.symm)]
    rfl
  refine ⟨fun q h1 h2 => ?_, fun j hj => ?_, fun i h1 h2 => ?_, fun i hi => ?_, fun v => ?_, fun i hi j hj n1 n2 => ?_, ⟨fun z g2 h2 => ?_, fun z => a7.mpr (fun g2 h2 => ?_)⟩, fun z g2 h2 => ?_⟩
  · rw [← a1 q h1 h2]; funext j; unfold sT; rw [up_k h2, up_k h1]
  · rw [← a2 j hj]; unfold sT; rw [up_o (by omega)]; rfl
  · rw [e22 i h2, if_neg (by omega)]; exact a3 i (by omega) h2
  · by_cases z : i = k
    · refine Or.inr ⟨u, hu, ?_, su, ?_⟩
      · rw [e22 i (by omega), if_pos z]
      · rw [e2, if_pos rfl]
    · rw [e22 i (by omega), if_neg z]
      rcases a4 i (by omega) with q | ⟨v, v1, v2, v3, v4⟩
      · exact Or.inl q
      · refine Or.inr ⟨v, v1, v2, v3, ?_⟩
        rw [e2]
        split
        · rfl
        · exact v4
  · rw [e2]
    by_cases z : v = u
    · exact Or.inr ⟨by omega, by rw [z]; exact su, k, by omega, by rw [e22 k hk, if_pos rfl, z]⟩
    · rw [if_neg z]
      rcases a5 v with q | ⟨z1, z2, i, z3, z4⟩
      · exact Or.inl q
      · exact Or.inr ⟨z1, z2, i, by omega, by rw [e22 i (by omega), if_neg (by omega)]; exact z4⟩
  · rw [e22 i (by omega)] at n1 n2
    rw [e22 j (by omega)] at n2
    by_cases z : i = k
    · rw [if_pos z] at n2
      by_cases z2 : j = k
      · omega
      · rw [if_neg z2] at n2; exact absurd n2.symm (nt1 j (by omega))
    · rw [if_neg z] at n1 n2
      by_cases z2 : j = k
      · rw [if_pos z2] at n2; exact absurd n2 (nt1 i (by omega))
      · rw [if_neg z2] at n2; exact a6 i (by omega) j (by omega) n1 n2
  · by_cases e : g2 = g
    · rw [e, C1]
      have := a8 z g hg
      omega
    · rw [C2 g2 h2 e]; exact a7.mp z g2 h2
  · have := z g2 h2
    rw [ctb] at this
    omega
  · by_cases e : g2 = g
    · rw [e, C1]
      have := a8 z g hg
      omega
    · rw [C2 g2 h2 e, F2 g2 h2 e]; exact a8 z g2 h2
theorem hasRole_C (h : CRep K c s) {r k : Nat} (hr : r < 4) (hk : k < 3) : D_R_hasRole f (40 + 3 * r) (nI k) c = some (if s 6 (3 * r + k) = nI 3 then nI 0 else nI 1, c) := by
  unfold D_R_hasRole
  rw [b_below_t hk (by decide), b_ob]
  simp only [b_oj]
  rw [if_neg (by decide), b_oc (h.fix.hRec r hr), h.fix.grp r hr, b_oa (h.fix.hGrp r hr) hk (by decide), h.rgr r hr k hk]
  by_cases e : s 6 (3 * r + k) = nI 3
  · rw [if_pos e, if_pos e, ozb_0]
  · rw [if_neg e, if_neg e, ozb_1]
theorem roles_both (hI : Iv K W bd s) (hf : 2 ^ 31 ≤ f) {t : Nat} (ht : t < nt (s 15 0)) {kk : Int32 → rx_S → Option (Int32 × rx_S)} : ∀ d k n1 n2 c1 s1 fl, k + d = 3 → d < n1 → d < n2 → CRep K c1 s1 → RI t s (nt (s 16 t)) k s1 fl →
    ∃ c2 s2 fl2, D_F_takeUnits_2 f 12 (some (kB K t)) n1 (nI k) c1 = some (0, c2) ∧ D_M_gets_4 f (nI t) kk n2 (b01 fl) (nI k) s1 = kk (b01 fl2) s2 ∧ CRep K c2 s2 ∧ cN c2 = cN c1 ∧ cq c2 c1 ∧ RI t s (nt (s 16 t)) 3 s2 fl2 := by
  have t16 := hI.t16 ht
  have b := (hI.ib t ht).1
  have r4 := b.lt
  have e16 := b.eq
  intro d
  induction d with
  | zero =>
    intro k n1 n2 c1 s1 fl hk h1 h2 h hR
    obtain ⟨n1, rfl⟩ : ∃ k', n1 = k' + 1 := ⟨n1 - 1, by omega⟩
    obtain ⟨n2, rfl⟩ : ∃ k', n2 = k' + 1 := ⟨n2 - 1, by omega⟩
    have e : k = 3 := by omega
    subst e
    exact ⟨c1, s1, fl, by rw [D_F_takeUnits_2, if_pos (Int32.le_refl _)], by rw [D_M_gets_4, if_pos (Int32.le_refl _)], h, rfl, cq.rfl, hR⟩
  | succ d ih =>
    intro k n1 n2 c1 s1 fl hk h1 h2 h hR
    obtain ⟨n1, rfl⟩ : ∃ k', n1 = k' + 1 := ⟨n1 - 1, by omega⟩
    obtain ⟨n2, rfl⟩ : ∃ k', n2 = k' + 1 := ⟨n2 - 1, by omega⟩
    have hk3 : k < 3 := by omega
    have q15 : s1 15 = s 15 := hR.1 15 (by decide) (by decide)
    have q16 : s1 16 = s 16 := hR.1 16 (by decide) (by decide)
    have q6 : s1 6 = s 6 := hR.1 6 (by decide) (by decide)
    have ht1 : t < nt (s1 15 0) := by rw [q15]; exact ht
    have r41 : nt (s1 16 t) < 4 := by rw [q16]; exact r4
    obtain ⟨hb1, hb2, hb3, hb4, hb5, hb6, hb7, hb8, hb9, hb10, hb11⟩ := h.bh t ht1
    rw [q16] at hb3
    have g4 := hI.i6 (3 * nt (s 16 t) + k) (by omega)
    have k22 := hR.2.2.1 k (Nat.le_refl _) hk3
    have hr := hasRole_C (f := f) h r4 hk3
    rw [q6] at hr
    have ix : nI 3 * s1 16 t + nI k = nI (3 * nt (s 16 t) + k) := by rw [q16, e16, pk_mul, nI_add, nt_nI (show nt (s 16 t) < 2 ^ 31 by omega)]
    rw [D_F_takeUnits_2, if_neg (nI_ge hk3 (by decide)), b_oc hb2, hb3, b_oc (h.fix.hRec _ r4), hr, b_ob, b_oj, nI_add]
    rw [D_M_gets_4, if_neg (nI_ge hk3 (by decide)), b_og t16 (by decide), ix, b_og (by omega) (by decide), q6]
    by_cases e3 : s 6 (3 * nt (s 16 t) + k) = nI 3
    · obtain ⟨c2, s2, fl2, u1, u2, u3, u4, u5, u6⟩ := ih (k + 1) n1 n2 c1 s1 fl (by omega) (by omega) (by omega) h (RI_skip hk3 e3 hR)
      refine ⟨c2, s2, fl2, ?_, ?_, u3, u4, u5, u6⟩
      · rw [if_pos e3, if_pos (show nI 0 = 0 from rfl)]; exact u1
      · obtain ⟨f, rfl⟩ : ∃ k', f = k' + 1 := ⟨f - 1, by omega⟩
        rw [e3, D_M_gets_29, if_neg (by decide), if_pos (Int32.le_refl _)]
        simp only [b_oj]
        cases fl
        · rw [if_pos (show b01 false = 0 from rfl), nI_add]; exact u2
        · rw [if_neg (show ¬ b01 true = 0 by decide), if_pos trivial, nI_add]; exact u2
    · have gl : nt (s 6 (3 * nt (s 16 t) + k)) < 3 := by
        have := g4.lt
        have := g4.eq
        by_cases z : nt (s 6 (3 * nt (s 16 t) + k)) = 3
        · rw [z] at this; exact absurd this e3
        · omega
      have ge := g4.eq
      generalize hgg : nt (s 6 (3 * nt (s 16 t) + k)) = g at *
      have ge1 : s1 6 (3 * nt (s1 16 t) + k) = nI g := by rw [q6, q16]; exact ge
      rw [if_neg e3, if_neg (show ¬ nI 1 = 0 by decide), b_oc h.fix.h12, D_F_takeLeastUnit]
      have g29 := gets_29 (f := f) (l2 := b01 fl) (kk := (fun  (s7 : rx_S) => oj (fun (x9 : Int32) => D_M_gets_4 f (nI t) kk n2 x9 (nI k + nI 1) s7) fun J8 => oj (fun (_ : Unit) => J8 (nI 0)) fun J10 => if b01 fl = 0 then J10 () else oj (fun (_ : Unit) => J8 (nI 1)) fun J11 => if nI g = (nI 3) then J11 () else og 48 (((nI 3) * nI t) + nI k) fun j12 => if (s7 22 j12) = ((-1)) then J10 () else J11 ())) t16 hk3 gl k22 6 0 f (by omega) (by omega) (fun w hw => by omega)
      rw [ge]
      rcases least_F (pF s1 g) 6 with z | ⟨u, z1, z2, z3⟩
      · rw [take_C0 h ht1 r41 hk3 ge1 6 0 f (by omega) (by omega) (fun w _ hw => z w hw), b_ob, g29.1 z]
        simp only [b_oj]
        have nx := RI_none hk3 gl ge z hR
        obtain ⟨c2, s2, fl2, u1, u2, u3, u4, u5, u6⟩ := ih (k + 1) n1 n2 c1 s1 false (by omega) (by omega) (by omega) h nx
        refine ⟨c2, s2, fl2, u1, ?_, u3, u4, u5, u6⟩
        cases fl
        · rw [if_pos (show b01 false = 0 from rfl), nI_add]; exact u2
        · rw [if_neg (show ¬ b01 true = 0 by decide), if_neg (by rw [nI_eq (by omega) (by omega)]; omega), nI_add k 1, pk_mul, nI_add, b_og (show 3 * t + k < 48 by omega) (by decide), if_pos k22]; exact u2
      · rw [take_C1 h ht1 r41 hk3 ge1 z1 z2 z3 u 0 f (by omega) (by omega), b_oc h.fix.h12, h.fix.f32, b_oa h.fix.h13 z1 (by decide), b_oc hb2, h.fix.unA u z1, b_oc (h.fix.hUn u z1), h.b0 t ht1, show cR (cx_ui c1 161 (22 + 3 * u) 0 (nI t)) 25 (kB K t) 0 = some (kB K t + 4) from hb7, b_oa hb11 hk3 (by decide), b_ob, g29.2 u z1 z2 z3]
        simp only [b_oj]
        have h2 : CRep K (cT K c1 t k u) (sT s1 t k u) := p_owned (s := rx_up s1 2 u (nI t)) (p_own h) ht1 hk3
        have nx := RI_take t16 hk3 gl z1 ge z2 hR
        have kb := h.bg.1 t ht1
        obtain ⟨c2, s2, fl2, u1, u2, u3, u4, u5, u6⟩ := ih (k + 1) n1 n2 _ _ fl (by omega) (by omega) (by omega) h2 nx
        have u5' : cq c2 c1 := ⟨u5.1, by rw [u5.2]; funext q; show cI (cx_ui _ 400 (kB K t + 4) k (nI u)) 400 21 q = _; rw [ui_o (by omega)]; rfl⟩
        refine ⟨c2, s2, fl2, u1, ?_, u3, u4, u5', u6⟩
        have n22 : ¬ sT s1 t k u 22 (3 * t + k) = -1 := fun w => by
          have w2 : sT s1 t k u 22 (3 * t + k) = nI u := up_s
          rw [w2] at w; exact nI_m1 (by omega) w
        cases fl
        · rw [if_pos (show b01 false = 0 from rfl), nI_add]; exact u2
        · rw [if_neg (show ¬ b01 true = 0 by decide), if_neg (by rw [nI_eq (by omega) (by omega)]; omega), nI_add k 1, pk_mul, nI_add, b_og (show 3 * t + k < 48 by omega) (by decide), if_neg n22]; exact u2
/-- what was taken goes back -/
theorem give_M {t : Nat} (t16 : t < 16) (h22 : ∀ i, i < 3 → s 22 (3 * t + i) = -1) : ∀ d k n s1, k + d = 3 → d < n → (∀ q, q ≠ 2 → q ≠ 22 → s1 q = s q) → (∀ j, (j < 3 * t + k ∨ 3 * t + 3 ≤ j) → s1 22 j = s 22 j) →
    (∀ i, k ≤ i → i < 3 → s1 22 (3 * t + i) = -1 ∨ ∃ u, u < 6 ∧ s1 22 (3 * t + i) = nI u ∧ s 2 u = -1) → (∀ u, s1 2 u = s 2 u ∨ (u < 6 ∧ s 2 u = -1 ∧ ∃ i, k ≤ i ∧ i < 3 ∧ s1 22 (3 * t + i) = nI u)) → D_M_giveBack_2 f (nI t) n (nI k) s1 = some (0, s) := by
  intro d
  induction d with
  | zero =>
    intro k n s1 hk hn a1 a2 a3 a4
    obtain ⟨n, rfl⟩ : ∃ k', n = k' + 1 := ⟨n - 1, by omega⟩
    have e : k = 3 := by omega
    subst e
    have es : s1 = s := by
      funext q j
      by_cases z : q = 2
      · subst z
        rcases a4 j with w | ⟨_, _, i, i1, i2, _⟩
        · exact w
        · omega
      · by_cases z2 : q = 22
        · subst z2; exact a2 j (by omega)
        · rw [a1 q z z2]
    rw [D_M_giveBack_2, if_pos (Int32.le_refl _), es]
  | succ d ih =>
    intro k n s1 hk hn a1 a2 a3 a4
    obtain ⟨n, rfl⟩ : ∃ k', n = k' + 1 := ⟨n - 1, by omega⟩
    have hk3 : k < 3 := by omega
    rw [D_M_giveBack_2, if_neg (nI_ge hk3 (by decide)), pk_mul, nI_add, b_og (show 3 * t + k < 48 by omega) (by decide), b_oj, nI_add]
    rcases a3 k (Nat.le_refl _) hk3 with q | ⟨u, u1, u2, u3⟩
    · rw [if_pos q]
      show D_M_giveBack_2 f (nI t) n (nI (k + 1)) (rx_up s1 22 (3 * t + k) (-1)) = _
      rw [up_id q]
      refine ih (k + 1) n s1 (by omega) (by omega) a1 (fun j hj => ?_) (fun i h1 h2 => a3 i (by omega) h2) (fun u => ?_)
      · by_cases z : j = 3 * t + k
        · rw [z, q, h22 k hk3]
        · exact a2 j (by omega)
      · rcases a4 u with w | ⟨w1, w2, i, w3, w4, w5⟩
        · exact Or.inl w
        · refine Or.inr ⟨w1, w2, i, ?_, w4, w5⟩
          by_cases z : i = k
          · rw [z, q] at w5; exact absurd w5.symm (nI_m1 (by omega))
          · omega
    · rw [if_neg (by rw [u2]; exact nI_m1 (by omega)), u2, b_og u1 (by decide)]
      have e22 : ∀ j, rx_up (rx_up s1 2 u (-1)) 22 (3 * t + k) (-1) 22 j = if j = 3 * t + k then -1 else s1 22 j := fun j => by
        by_cases z : j = 3 * t + k
        · rw [z, if_pos rfl]; exact up_s
        · rw [if_neg z, up_o z]; rfl
      refine ih (k + 1) n _ (by omega) (by omega) (fun q h1 h2 => ?_) (fun j hj => ?_) (fun i h1 h2 => ?_) (fun v => ?_)
      · rw [← a1 q h1 h2]; funext j; rw [up_k h2, up_k h1]
      · rw [e22]
        by_cases z : j = 3 * t + k
        · rw [if_pos z, z, h22 k hk3]
        · rw [if_neg z]; exact a2 j (by omega)
      · rw [e22, if_neg (by omega)]; exact a3 i (by omega) h2
      · show rx_up s1 2 u (-1) 2 v = s 2 v ∨ _
        by_cases z : v = u
        · rw [z, up_s]; exact Or.inl u3.symm
        · rw [up_o z]
          rcases a4 v with w | ⟨w1, w2, i, w3, w4, w5⟩
          · exact Or.inl w
          · refine Or.inr ⟨w1, w2, i, ?_, w4, ?_⟩
            · by_cases z2 : i = k
              · rw [z2, u2, nI_eq (by omega) (by omega)] at w5; exact absurd w5.symm z
              · omega
            · rw [e22, if_neg (by
                have : i ≠ k := fun z2 => by rw [z2, u2, nI_eq (by omega) (by omega)] at w5; exact z w5.symm
                omega)]
              exact w5
/-- a waiting batch: both take, or none can -/
theorem claim_one (h : CRep K c s) (hI : Iv K W bd s) (hf : 2 ^ 31 ≤ f) {t : Nat} (ht : t < nt (s 15 0)) (h22 : ∀ i, i < 3 → s 22 (3 * t + i) = -1) :
    (¬ (∀ g, g < 3 → nR s (nt (s 16 t)) g ≤ nF s g) ∧ D_M_gets f (nI t) s = some (nI 0, s)) ∨
    ((∀ g, g < 3 → nR s (nt (s 16 t)) g ≤ nF s g) ∧ ∃ c2 s2, D_F_takeUnits f 12 (some (kB K t)) c = some (0, c2) ∧ D_M_gets f (nI t) s = some (nI 1, s2) ∧ CRep K c2 s2 ∧ cN c2 = cN c ∧ cq c2 c ∧ RI t s (nt (s 16 t)) 3 s2 true) := by
  have t16 := hI.t16 ht
  obtain ⟨c2, s2, fl, w1, w2, w3, w4, w5, w6⟩ := roles_both (f := f) (kk := (fun (v13 : Int32) (s14 : rx_S) => oj (fun (s16 : rx_S) => ozb v13 (some (v13, s16))) fun J15 => if v13 = 0 then ob (D_M_giveBack f (nI t) s14) fun x17 s18 => J15 s18 else J15 s14)) hI hf ht 3 0 f f c s true (by omega) (by omega) (by omega) h (RI_0 h22)
  cases fl
  · refine Or.inl ⟨fun z => ?_, ?_⟩
    · have := w6.2.2.2.2.2.2.1.mpr z
      exact absurd this (by decide)
    · show D_M_gets_4 f (nI t) _ f (b01 true) (nI 0) s = _
      rw [w2, b_oj, if_pos (show b01 false = 0 from rfl), D_M_giveBack, give_M t16 h22 3 0 f s2 (by omega) (by omega) w6.1 (fun j hj => w6.2.1 j (by omega)) (fun i _ hi => ?_) (fun u => ?_), b_ob]
      · exact ozb_0
      · rcases w6.2.2.2.1 i hi with q | ⟨u, u1, u2, u3, _⟩
        · exact Or.inl q.1
        · exact Or.inr ⟨u, u1, u2, u3⟩
      · rcases w6.2.2.2.2.1 u with q | ⟨q1, q2, i, q3, q4⟩
        · exact Or.inl q
        · exact Or.inr ⟨q1, q2, i, Nat.zero_le _, q3, q4⟩
  · refine Or.inr ⟨w6.2.2.2.2.2.2.1.mp rfl, c2, s2, w1, ?_, w3, w4, w5, w6⟩
    show D_M_gets_4 f (nI t) _ f (b01 true) (nI 0) s = _
    rw [w2, b_oj, if_neg (show ¬ b01 true = 0 by decide)]
    exact ozb_1
end TAK
