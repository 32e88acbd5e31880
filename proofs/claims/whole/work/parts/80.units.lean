/-! release: enough units -/
section UNI
variable {f : Nat} {K : kx} {W : Nat → Nat → Nat} {bd : Nat} {c : cx_S} {s : rx_S}
/-- how many of n are v -/
def hm (x : Nat → Int32) (o : Nat) (v : Int32) : Nat → Nat
  | 0 => 0
  | n + 1 => hm x o v n + if x (o + n) = v then 1 else 0
theorem hm_le {x : Nat → Int32} {o : Nat} {v : Int32} : ∀ n, hm x o v n ≤ n
  | 0 => Nat.le_refl _
  | n + 1 => by
    have := hm_le (x := x) (o := o) (v := v) n
    rw [hm]; split <;> omega
theorem un_C (h : CRep K c s) {l1 : Option Nat} {g : Int32} {kk : Int32 → cx_S → Option (Int32 × cx_S)} : ∀ d i k, i + d = 6 → d < k → D_C_hasEnoughUnits_13 f l1 (some 13) g kk k (nI (hm (s 1) 0 g i)) (nI i) c = kk (nI (hm (s 1) 0 g 6)) c := by
  intro d
  induction d with
  | zero =>
    intro i k hi hk
    obtain ⟨k, rfl⟩ : ∃ k', k = k' + 1 := ⟨k - 1, by omega⟩
    have e : i = 6 := by omega
    subst e
    rw [D_C_hasEnoughUnits_13, if_pos (Int32.le_refl _)]
  | succ d ih =>
    intro i k hi hk
    obtain ⟨k, rfl⟩ : ∃ k', k = k' + 1 := ⟨k - 1, by omega⟩
    have e := ih (i + 1) k (by omega) (by omega)
    rw [hm, Nat.zero_add] at e
    rw [D_C_hasEnoughUnits_13, if_neg (nI_ge (by omega) (by decide)), b_oa h.fix.h13 (by omega) (by decide), h.fix.unA i (by omega), b_oc (h.fix.hUn i (by omega)), b_oj, h.ug i (by omega), nI_add]
    by_cases q : s 1 i = g
    · rw [if_pos q, nI_add]; rw [if_pos q] at e; exact e
    · rw [if_neg q]; rw [if_neg q] at e; exact e
theorem un_M {l1 l2 g : Int32} {kk : Int32 → rx_S → Option (Int32 × rx_S)} : ∀ d i k, i + d = 6 → d < k → D_M_hasUnits_15 f l1 l2 g kk k (nI (hm (s 1) 0 g i)) (nI i) s = kk (nI (hm (s 1) 0 g 6)) s := by
  intro d
  induction d with
  | zero =>
    intro i k hi hk
    obtain ⟨k, rfl⟩ : ∃ k', k = k' + 1 := ⟨k - 1, by omega⟩
    have e : i = 6 := by omega
    subst e
    rw [D_M_hasUnits_15, if_pos (Int32.le_refl _)]
  | succ d ih =>
    intro i k hi hk
    obtain ⟨k, rfl⟩ : ∃ k', k = k' + 1 := ⟨k - 1, by omega⟩
    have e := ih (i + 1) k (by omega) (by omega)
    rw [hm, Nat.zero_add] at e
    rw [D_M_hasUnits_15, if_neg (nI_ge (by omega) (by decide)), b_og (by omega) (by decide), b_oj, nI_add]
    by_cases q : s 1 i = g
    · rw [if_pos q, nI_add]; rw [if_pos q] at e; exact e
    · rw [if_neg q]; rw [if_neg q] at e; exact e
theorem ro_C (h : CRep K c s) {r : Nat} (hr : r < 4) {g : Int32} (hf : 2 ^ 31 ≤ f) : D_R_countRoles f (40 + 3 * r) g c = some (nI (hm (s 6) (3 * r) g 3), c) := by
  have key : ∀ d i k, i + d = 3 → d < k → D_R_countRoles_4 f (40 + 3 * r) g k (nI (hm (s 6) (3 * r) g i)) (nI i) c = some (nI (hm (s 6) (3 * r) g 3), c) := by
    intro d
    induction d with
    | zero =>
      intro i k hi hk
      obtain ⟨k, rfl⟩ : ∃ k', k = k' + 1 := ⟨k - 1, by omega⟩
      have e : i = 3 := by omega
      subst e
      rw [D_R_countRoles_4, if_pos (Int32.le_refl _)]
    | succ d ih =>
      intro i k hi hk
      obtain ⟨k, rfl⟩ : ∃ k', k = k' + 1 := ⟨k - 1, by omega⟩
      have e := ih (i + 1) k (by omega) (by omega)
      rw [hm] at e
      rw [D_R_countRoles_4, if_neg (nI_ge (by omega) (by decide)), b_oc (h.fix.hRec r hr), h.fix.grp r hr, b_oa (h.fix.hGrp r hr) (by omega) (by decide), b_oj, h.rgr r hr i (by omega), nI_add]
      by_cases q : s 6 (3 * r + i) = g
      · rw [if_pos q, nI_add]; rw [if_pos q] at e; exact e
      · rw [if_neg q]; rw [if_neg q] at e; exact e
  exact key 3 0 f (by omega) (by omega)
theorem ro_M {r : Nat} (hr : r < 4) {l2 g : Int32} {n : Nat} (hn : n < 2 ^ 20) {kk : Int32 → rx_S → Option (Int32 × rx_S)} : ∀ d i k, i + d = 3 → d < k → D_M_hasUnits_53 f (nI r) l2 g kk k (nI n - nI (hm (s 6) (3 * r) g i)) (nI i) s = kk (nI n - nI (hm (s 6) (3 * r) g 3)) s := by
  intro d
  induction d with
  | zero =>
    intro i k hi hk
    obtain ⟨k, rfl⟩ : ∃ k', k = k' + 1 := ⟨k - 1, by omega⟩
    have e : i = 3 := by omega
    subst e
    rw [D_M_hasUnits_53, if_pos (Int32.le_refl _)]
  | succ d ih =>
    intro i k hi hk
    obtain ⟨k, rfl⟩ : ∃ k', k = k' + 1 := ⟨k - 1, by omega⟩
    have e := ih (i + 1) k (by omega) (by omega)
    rw [hm] at e
    rw [D_M_hasUnits_53, if_neg (nI_ge (by omega) (by decide)), pk_mul, nI_add, b_og (by omega) (by decide), b_oj, nI_add]
    by_cases q : s 6 (3 * r + i) = g
    · rw [if_pos q]; rw [if_pos q] at e
      rw [← nI_add] at e
      have z : nI n - nI (hm (s 6) (3 * r) g i) - nI 1 = nI n - (nI (hm (s 6) (3 * r) g i) + nI 1) := by
        rw [Int32.sub_eq_add_neg, Int32.sub_eq_add_neg, Int32.sub_eq_add_neg, Int32.neg_add, Int32.add_assoc, Int32.sub_eq_add_neg]
      rw [z]; exact e
    · rw [if_neg q]; rw [if_neg q] at e; exact e
def EU (s : rx_S) (r : Nat) : Prop := ∀ g, g < 3 → hm (s 6) (3 * r) (nI g) 3 ≤ hm (s 1) 0 (nI g) 6
theorem eu_C (h : CRep K c s) {r : Nat} (hr : r < 4) (hf : 2 ^ 31 ≤ f) : ∃ y, D_C_hasEnoughUnits f 5 (some (40 + 3 * r)) (some 13) c = some (y, c) ∧ TF y (EU s r) := by
  have key : ∀ d g k, g + d = 3 → d < k → (∀ j, j < g → hm (s 6) (3 * r) (nI j) 3 ≤ hm (s 1) 0 (nI j) 6) → ∃ y, D_C_hasEnoughUnits_2 f (some (40 + 3 * r)) (some 13) k (nI g) c = some (y, c) ∧ TF y (EU s r) := by
    intro d
    induction d with
    | zero =>
      intro g k hg hk hj
      obtain ⟨k, rfl⟩ : ∃ k', k = k' + 1 := ⟨k - 1, by omega⟩
      have e : g = 3 := by omega
      subst e
      exact ⟨nI 1, by rw [D_C_hasEnoughUnits_2, if_pos (Int32.le_refl _)], TF.y hj⟩
    | succ d ih =>
      intro g k hg hk hj
      obtain ⟨k, rfl⟩ : ∃ k', k = k' + 1 := ⟨k - 1, by omega⟩
      have a := hm_le (x := s 6) (o := 3 * r) (v := nI g) 3
      have b := hm_le (x := s 1) (o := 0) (v := nI g) 6
      have e := un_C (f := f) (l1 := some (40 + 3 * r)) (g := nI g) (kk := fun v6 s7 => oc 6 (some (40 + 3 * r)) s7 fun p8 => ob (D_R_countRoles f p8 (nI g) s7) fun x9 s10 => if x9 ≤ v6 then D_C_hasEnoughUnits_2 f (some (40 + 3 * r)) (some 13) k (nI g + nI 1) s10 else some (nI 0, s10)) h 6 0 f (by omega) (by omega)
      have e : D_C_hasEnoughUnits_13 f (some (40 + 3 * r)) (some 13) (nI g) _ f (nI 0) (nI 0) c = _ := e
      have ev : D_C_hasEnoughUnits_2 f (some (40 + 3 * r)) (some 13) (k + 1) (nI g) c = if hm (s 6) (3 * r) (nI g) 3 ≤ hm (s 1) 0 (nI g) 6 then D_C_hasEnoughUnits_2 f (some (40 + 3 * r)) (some 13) k (nI (g + 1)) c else some (nI 0, c) := by
        rw [D_C_hasEnoughUnits_2, if_neg (nI_ge (by omega) (by decide)), e, b_oc (h.fix.hRec r hr), ro_C h hr hf, b_ob, nI_add]
        by_cases q : hm (s 6) (3 * r) (nI g) 3 ≤ hm (s 1) 0 (nI g) 6
        · rw [if_pos q, if_pos (nI_le q (by omega))]
        · rw [if_neg q, if_neg (nI_ge (by omega) (by omega))]
      rw [ev]
      by_cases q : hm (s 6) (3 * r) (nI g) 3 ≤ hm (s 1) 0 (nI g) 6
      · rw [if_pos q]
        exact ih (g + 1) k (by omega) (by omega) (fun j hj2 => by
          by_cases e : j = g
          · rw [e]; exact q
          · exact hj j (by omega))
      · rw [if_neg q]
        exact ⟨nI 0, rfl, TF.n (fun z => q (z g (by omega)))⟩
  exact key 3 0 f (by omega) (by omega) (fun j hj => by omega)
theorem eu_M {r : Nat} (hr : r < 4) (hf : 2 ^ 31 ≤ f) : ∃ y, D_M_hasUnits f (nI r) s = some (y, s) ∧ TF y (EU s r) := by
  have key : ∀ d g k b, g + d = 3 → d < k → TF b (∀ j, j < g → hm (s 6) (3 * r) (nI j) 3 ≤ hm (s 1) 0 (nI j) 6) → ∃ y, D_M_hasUnits_4 f (nI r) k b (nI g) s = some (y, s) ∧ TF y (EU s r) := by
    intro d
    induction d with
    | zero =>
      intro g k b hg hk hb
      obtain ⟨k, rfl⟩ : ∃ k', k = k' + 1 := ⟨k - 1, by omega⟩
      have e : g = 3 := by omega
      subst e
      refine ⟨b, ?_, hb⟩
      rw [D_M_hasUnits_4, if_pos (Int32.le_refl _)]
      rcases hb with ⟨rfl, _⟩ | ⟨rfl, _⟩
      · exact ozb_1
      · exact ozb_0
    | succ d ih =>
      intro g k b hg hk hb
      obtain ⟨k, rfl⟩ : ∃ k', k = k' + 1 := ⟨k - 1, by omega⟩
      have a := hm_le (x := s 6) (o := 3 * r) (v := nI g) 3
      have b6 := hm_le (x := s 1) (o := 0) (v := nI g) 6
      have st : ∃ b2, D_M_hasUnits_4 f (nI r) (k + 1) b (nI g) s = D_M_hasUnits_4 f (nI r) k b2 (nI (g + 1)) s ∧ TF b2 (∀ j, j < g + 1 → hm (s 6) (3 * r) (nI j) 3 ≤ hm (s 1) 0 (nI j) 6) := by
        have e2 := ro_M (f := f) (s := s) hr (l2 := b) (g := nI g) (n := hm (s 1) 0 (nI g) 6) (by omega) (kk := fun v9 s10 => oj (fun (x12 : Int32) => D_M_hasUnits_4 f (nI r) k x12 (nI g + nI 1) s10) fun J11 => oj (fun (_ : Unit) => J11 (nI 0)) fun J13 => if b = 0 then J13 () else if v9 < 0 then J13 () else J11 (nI 1)) 3 0 f (by omega) (by omega)
        have e1 := un_M (f := f) (s := s) (l1 := nI r) (l2 := b) (g := nI g) (kk := fun v4 s5 => D_M_hasUnits_53 f (nI r) b (nI g) (fun v9 s10 => oj (fun (x12 : Int32) => D_M_hasUnits_4 f (nI r) k x12 (nI g + nI 1) s10) fun J11 => oj (fun (_ : Unit) => J11 (nI 0)) fun J13 => if b = 0 then J13 () else if v9 < 0 then J13 () else J11 (nI 1)) f v4 (nI 0) s5) 6 0 f (by omega) (by omega)
        have e1 : D_M_hasUnits_15 f (nI r) b (nI g) _ f (nI 0) (nI 0) s = _ := e1
        have z0 : ∀ x : Int32, x - nI (hm (s 6) (3 * r) (nI g) 0) = x := fun x => Int32.sub_zero x
        rw [z0] at e2
        rw [D_M_hasUnits_4, if_neg (nI_ge (by omega) (by decide)), e1, e2]
        simp only [b_oj, nI_add]
        have neg : (nI (hm (s 1) 0 (nI g) 6) - nI (hm (s 6) (3 * r) (nI g) 3) < 0) ↔ ¬ hm (s 6) (3 * r) (nI g) 3 ≤ hm (s 1) 0 (nI g) 6 := by
          rw [Int32.lt_iff_toInt_lt, pk_sub_toInt (by omega) (by omega), show (0 : Int32).toInt = 0 from by decide]
          omega
        rcases hb with ⟨rfl, q⟩ | ⟨rfl, q⟩
        · rw [if_neg (by decide)]
          by_cases z : hm (s 6) (3 * r) (nI g) 3 ≤ hm (s 1) 0 (nI g) 6
          · rw [if_neg (fun w => neg.mp w z)]
            refine ⟨_, rfl, TF.y (fun j hj => ?_)⟩
            by_cases e : j = g
            · rw [e]; exact z
            · exact q j (by omega)
          · rw [if_pos (neg.mpr z)]
            exact ⟨_, rfl, TF.n (fun w => z (w g (by omega)))⟩
        · rw [if_pos (show nI 0 = 0 from rfl)]
          exact ⟨_, rfl, TF.n (fun w => q (fun j hj => w j (by omega)))⟩
      obtain ⟨b2, w1, w2⟩ := st
      rw [w1]
      exact ih (g + 1) k b2 (by omega) (by omega) w2
  exact key 3 0 f (nI 1) (by omega) (by omega) (TF.y (fun j hj => by omega))
end UNI
