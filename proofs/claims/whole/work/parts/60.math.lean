/-! numbers: sums, pigeons, the moves' potential -/
def gs (g x : Nat → Nat) : Nat → Nat
  | 0 => 0
  | m + 1 => gs g x m + g (x m)
theorem gs_congr {g x y : Nat → Nat} {m : Nat} (h : ∀ k, k < m → y k = x k) : gs g y m = gs g x m := by
  induction m with
  | zero => rfl
  | succ m ih => rw [gs, gs, ih (fun k hk => h k (by omega)), h m (by omega)]
theorem gs_set {g x y : Nat → Nat} {m j : Nat} (hj : j < m) (h : ∀ k, k < m → k ≠ j → y k = x k) : gs g y m + g (x j) = gs g x m + g (y j) := by
  induction m with
  | zero => omega
  | succ m ih =>
    rw [gs, gs]
    by_cases e : j = m
    · subst e
      rw [gs_congr (fun k hk => h k (by omega) (by omega))]; omega
    · have := ih (by omega) (fun k hk hkj => h k (by omega) hkj)
      rw [h m (by omega) (fun q => e q.symm)]; omega
theorem gs_drop {g x y : Nat → Nat} {m j : Nat} (hj : j ≤ m) (h1 : ∀ k, k < j → y k = x k) (h2 : ∀ k, j ≤ k → k < m → y k = x (k + 1)) : gs g y m + g (x j) = gs g x (m + 1) := by
  induction m with
  | zero =>
    have : j = 0 := by omega
    subst this
    rfl
  | succ m ih =>
    by_cases e : j = m + 1
    · subst e
      rw [gs_congr h1]; rfl
    · have := ih (by omega) (fun k hk hkj => h2 k hk (by omega))
      rw [gs, gs, h2 m (by omega) (by omega)]
      rw [← this]; omega
theorem gs_mem {g x : Nat → Nat} {m j : Nat} (hj : j < m) : g (x j) ≤ gs g x m := by
  induction m with
  | zero => omega
  | succ m ih =>
    rw [gs]
    by_cases e : j = m
    · subst e; omega
    · have := ih (by omega); omega
theorem gs_two {g x : Nat → Nat} {m j k : Nat} (hj : j < m) (hk : k < m) (h : j ≠ k) : g (x j) + g (x k) ≤ gs g x m := by
  induction m with
  | zero => omega
  | succ m ih =>
    rw [gs]
    by_cases e : j = m
    · subst e
      have := gs_mem (g := g) (x := x) (show k < j by omega); omega
    · by_cases e2 : k = m
      · subst e2
        have := gs_mem (g := g) (x := x) (show j < k by omega); omega
      · have := ih (by omega) (by omega); omega
theorem gs_ge {g x : Nat → Nat} {m : Nat} (h : ∀ k, k < m → 1 ≤ g (x k)) : m ≤ gs g x m := by
  induction m with
  | zero => omega
  | succ m ih =>
    rw [gs]
    have := ih (fun k hk => h k (by omega))
    have := h m (by omega); omega
theorem gs_le {g g2 x : Nat → Nat} {m : Nat} (h : ∀ k, k < m → g (x k) ≤ g2 (x k)) : gs g x m ≤ gs g2 x m := by
  induction m with
  | zero => exact Nat.le_refl _
  | succ m ih =>
    rw [gs, gs]
    have := ih (fun k hk => h k (by omega))
    have := h m (by omega); omega
/-- pigeons -/
theorem php : ∀ (n : Nat) (l : List Nat), l.Nodup → (∀ x, x ∈ l → x < n) → l.length ≤ n := by
  intro n
  induction n with
  | zero =>
    intro l _ h
    cases l with
    | nil => exact Nat.le_refl _
    | cons a l => exact absurd (h a (List.mem_cons_self)) (by omega)
  | succ n ih =>
    intro l hl h
    by_cases q : n ∈ l
    · have h1 := ih (l.erase n) (hl.erase n) (fun x hx => by
        have h2 := h x (List.mem_of_mem_erase hx)
        have h3 : x ≠ n := fun e => by
          subst e
          exact absurd hx (hl.not_mem_erase)
        omega)
      rw [List.length_erase_of_mem q] at h1
      omega
    · exact Nat.le_succ_of_le (ih l hl (fun x hx => by
        have h2 := h x hx
        have h3 : x ≠ n := fun e => q (e ▸ hx)
        omega))
/-- pigeons by a function -/
theorem php_f (n m : Nat) (x : Nat → Nat) (h1 : ∀ i, i < m → x i < n) (h2 : ∀ i, i < m → ∀ j, j < m → x i = x j → i = j) : m ≤ n := by
  have h := php n ((List.range m).map x) (by
    clear h1
    induction m with
    | zero => simp
    | succ m ih =>
      rw [List.range_succ, List.map_append, List.nodup_append]
      refine ⟨ih (fun i hi j hj e => h2 i (by omega) j (by omega) e), by simp, ?_⟩
      intro a ha b hb e
      simp at ha hb
      obtain ⟨i, hi, rfl⟩ := ha
      have := h2 i (by omega) m (by omega) (by rw [e, hb])
      omega) (by
    intro y hy
    simp at hy
    obtain ⟨i, hi, rfl⟩ := hy
    exact h1 i hi)
  simpa using h
def pP : Nat → Nat
  | 0 => 1
  | 1 => 2
  | m + 2 => 6 * pP (m + 1) + 1
def sS (g : Nat → Nat) : Nat → Nat
  | 0 => 0
  | n + 1 => sS g n + g n
def nN (W x : Nat → Nat) (m i : Nat) : Nat := gs (fun p => if p ≤ i then W p else 0) x m
def tT (kd a l W : Nat → Nat) (i N : Nat) : Nat := N + if kd i = 8 then (N * a i - l i * W i) * pP i else 0
def psi (kd a l W N : Nat → Nat) : Nat := sS (fun i => tT kd a l W i (N i)) 12
theorem pP_pos : ∀ m, 1 ≤ pP m
  | 0 => by decide
  | 1 => by decide
  | m + 2 => by rw [pP]; omega
theorem sS_le {g g2 : Nat → Nat} {n : Nat} (h : ∀ i, i < n → g2 i ≤ g i) : sS g2 n ≤ sS g n := by
  induction n with
  | zero => exact Nat.le_refl _
  | succ n ih =>
    have := ih (fun i hi => h i (by omega))
    have := h n (by omega)
    rw [sS, sS]; omega
theorem sS_drop {g g2 : Nat → Nat} {n p d : Nat} (hp : p < n) (h : ∀ i, i < n → g2 i ≤ g i) (hd : g2 p + d ≤ g p) : sS g2 n + d ≤ sS g n := by
  induction n with
  | zero => omega
  | succ n ih =>
    rw [sS, sS]
    by_cases e : p = n
    · subst e
      have := sS_le (fun i hi => h i (Nat.lt_succ_of_lt hi)); omega
    · have := ih (by omega) (fun i hi => h i (by omega))
      have := h n (by omega); omega
theorem tT_mono {kd a l W : Nat → Nat} {i N N2 : Nat} (h : N2 ≤ N) : tT kd a l W i N2 + (N - N2) ≤ tT kd a l W i N := by
  unfold tT
  by_cases q : kd i = 8
  · rw [if_pos q, if_pos q]
    have h1 : (N2 * a i - l i * W i) * pP i ≤ (N * a i - l i * W i) * pP i := Nat.mul_le_mul_right _ (Nat.sub_le_sub_right (Nat.mul_le_mul_right _ h) _)
    omega
  · rw [if_neg q, if_neg q]; omega
/-- a move forward -/
theorem psi_fwd {kd a l l2 W N N2 : Nat → Nat} {p d : Nat} (hp : p < 12) (hN : ∀ i, i < 12 → N2 i ≤ N i) (hd : N2 p + d ≤ N p) (hl : ∀ i, i < 12 → i ≠ p → l2 i = l i)
    (hlp : l2 p = l p ∨ kd p ≠ 8 ∨ (N2 p + W p ≤ N p ∧ l p ≤ a p)) : psi kd a l2 W N2 + d ≤ psi kd a l W N := by
  unfold psi
  have hpp : tT kd a l2 W p (N2 p) + d ≤ tT kd a l W p (N p) := by
    rcases hlp with e | e | ⟨e1, e2⟩
    · have := tT_mono (kd := kd) (a := a) (l := l) (W := W) (i := p) (hN p hp)
      have e3 : tT kd a l2 W p (N2 p) = tT kd a l W p (N2 p) := by unfold tT; rw [e]
      rw [e3]; omega
    · unfold tT
      rw [if_neg e, if_neg e]; omega
    · unfold tT
      by_cases q : kd p = 8
      · rw [if_pos q, if_pos q]
        have h1 : (N2 p * a p - l2 p * W p) * pP p ≤ (N p * a p - l p * W p) * pP p := by
          refine Nat.mul_le_mul_right _ ?_
          have h2 : (N2 p + W p) * a p ≤ N p * a p := Nat.mul_le_mul_right _ e1
          have h3 : l p * W p ≤ a p * W p := Nat.mul_le_mul_right _ e2
          rw [Nat.add_mul] at h2
          rw [Nat.mul_comm (a p) (W p)] at h3
          omega
        omega
      · rw [if_neg q, if_neg q]; omega
  refine sS_drop hp (fun i hi => ?_) hpp
  by_cases e : i = p
  · subst e
    show tT kd a l2 W i (N2 i) ≤ tT kd a l W i (N i)
    omega
  · show tT kd a l2 W i (N2 i) ≤ tT kd a l W i (N i)
    have := tT_mono (kd := kd) (a := a) (l := l) (W := W) (i := i) (hN i hi)
    have e3 : tT kd a l2 W i (N2 i) = tT kd a l W i (N2 i) := by unfold tT; rw [hl i hi e]
    rw [e3]; omega
theorem tT_up {kd a l W : Nat → Nat} {i N N2 w : Nat} (ha : kd i = 8 → a i ≤ 5) (h : N2 ≤ N + w) : tT kd a l W i N2 ≤ tT kd a l W i N + w * (1 + if kd i = 8 then 5 * pP i else 0) := by
  unfold tT
  by_cases q : kd i = 8
  · rw [if_pos q, if_pos q, if_pos q]
    have h1 : (N2 * a i - l i * W i) ≤ (N * a i - l i * W i) + w * 5 := by
      have h2 : N2 * a i ≤ (N + w) * a i := Nat.mul_le_mul_right _ h
      have h3 : w * a i ≤ w * 5 := Nat.mul_le_mul_left _ (ha q)
      rw [Nat.add_mul] at h2
      omega
    have h4 := Nat.mul_le_mul_right (pP i) h1
    rw [Nat.add_mul, Nat.mul_assoc] at h4
    rw [Nat.mul_add, Nat.mul_one]
    omega
  · rw [if_neg q, if_neg q, if_neg q]; omega
theorem psi_low {kd a l l2 W N N2 : Nat → Nat} {p w : Nat} (hk0 : kd 0 ≠ 8) (ha : ∀ i, kd i = 8 → a i ≤ 5) (hN : ∀ i, i < p → N2 i ≤ N i + w) (hl : ∀ i, i < p → l2 i = l i) : ∀ m, m ≤ p → sS (fun i => tT kd a l2 W i (N2 i)) m + w ≤ sS (fun i => tT kd a l W i (N i)) m + w * pP m := by
  intro m
  induction m with
  | zero => intro _; rw [sS, sS, pP]; omega
  | succ m ih =>
    intro hm
    have h1 := ih (by omega)
    have h2 := tT_up (kd := kd) (a := a) (l := l) (W := W) (i := m) (ha m) (hN m (by omega))
    have e3 : tT kd a l2 W m (N2 m) = tT kd a l W m (N2 m) := by unfold tT; rw [hl m (by omega)]
    rw [sS, sS, e3]
    have h3 : w * pP m + w * (1 + if kd m = 8 then 5 * pP m else 0) ≤ w * pP (m + 1) := by
      rw [← Nat.mul_add]
      refine Nat.mul_le_mul_left _ ?_
      cases m with
      | zero => rw [if_neg hk0]; decide
      | succ m =>
        rw [show pP (m + 1 + 1) = 6 * pP (m + 1) + 1 from rfl]
        split <;> omega
    omega
/-- a LOOP's way back -/
theorem psi_back {kd a l l2 W N N2 : Nat → Nat} {p : Nat} (hp : p < 12) (hk0 : kd 0 ≠ 8) (hkp : kd p = 8) (ha : ∀ i, kd i = 8 → a i ≤ 5) (hN : ∀ i, i < p → N2 i ≤ N i + W p) (hN2 : ∀ i, p ≤ i → i < 12 → N2 i ≤ N i) (hl : ∀ i, i < 12 → i ≠ p → l2 i = l i)
    (hlp : l2 p = l p + 1) (hla : l p < a p) (hW : W p ≤ N p) (hW1 : 1 ≤ W p) : psi kd a l2 W N2 + 1 ≤ psi kd a l W N := by
  unfold psi
  have key : ∀ m, p < m → m ≤ 12 → sS (fun i => tT kd a l2 W i (N2 i)) m + 1 ≤ sS (fun i => tT kd a l W i (N i)) m := by
    intro m
    induction m with
    | zero => intro h; omega
    | succ m ih =>
      intro hm hm2
      rw [sS, sS]
      by_cases e : p = m
      · subst e
        have h1 := psi_low (kd := kd) (a := a) (l := l) (l2 := l2) (W := W) hk0 ha hN (fun i hi => hl i (by omega) (by omega)) p (Nat.le_refl _)
        have h2 : tT kd a l2 W p (N2 p) + W p * pP p ≤ tT kd a l W p (N p) := by
          unfold tT
          rw [if_pos hkp, if_pos hkp, hlp]
          have h3 : (N2 p * a p - (l p + 1) * W p) + W p ≤ N p * a p - l p * W p := by
            have h4 : N2 p * a p ≤ N p * a p := Nat.mul_le_mul_right _ (hN2 p (Nat.le_refl _) hp)
            have h5 : W p * a p ≤ N p * a p := Nat.mul_le_mul_right _ hW
            have h6 : (l p + 1) * W p ≤ a p * W p := Nat.mul_le_mul_right _ hla
            rw [Nat.mul_comm (a p)] at h6
            rw [Nat.add_mul] at h6 ⊢
            omega
          have h7 := Nat.mul_le_mul_right (pP p) h3
          rw [Nat.add_mul] at h7
          have := hN2 p (Nat.le_refl _) hp
          omega
        omega
      · have h1 := ih (by omega) (by omega)
        have h2 := tT_mono (kd := kd) (a := a) (l := l) (W := W) (i := m) (hN2 m (by omega) (by omega))
        have e3 : tT kd a l2 W m (N2 m) = tT kd a l W m (N2 m) := by unfold tT; rw [hl m (by omega) (by omega)]
        rw [e3]; omega
  exact key 12 hp (Nat.le_refl _)
theorem psi_max {kd a l W N : Nat → Nat} (hk0 : kd 0 ≠ 8) (hk11 : kd 11 ≠ 8) (ha : ∀ i, kd i = 8 → a i ≤ 5) (hN : ∀ i, i < 12 → N i ≤ 8) : psi kd a l W N ≤ 1064204696 := by
  have h := psi_low (kd := kd) (a := a) (l := l) (l2 := l) (W := W) (N := fun _ => 0) (N2 := N) (p := 11) (w := 8) hk0 ha (fun i hi => by have := hN i (by omega); omega) (fun _ _ => rfl) 11 (Nat.le_refl _)
  have h0 : sS (fun i => tT kd a l W i 0) 11 = 0 := by
    have : ∀ m, sS (fun i => tT kd a l W i 0) m = 0 := by
      intro m
      induction m with
      | zero => rfl
      | succ m ih => rw [sS, ih]; simp [tT]
    exact this 11
  rw [h0] at h
  unfold psi
  rw [sS]
  have h11 : tT kd a l W 11 (N 11) ≤ 8 := by
    unfold tT
    rw [if_neg hk11]
    have := hN 11 (by omega); omega
  have e : pP 11 = 133025587 := by decide
  rw [e] at h
  omega
theorem nN_fwd {W x y : Nat → Nat} {m j : Nat} (hj : j < m) (h : ∀ k, k < m → k ≠ j → y k = x k) (hlt : x j < y j) (hW : W (y j) ≤ W (x j)) : (∀ i, nN W y m i ≤ nN W x m i) ∧ nN W y m (x j) + W (x j) ≤ nN W x m (x j) := by
  refine ⟨fun i => ?_, ?_⟩
  · have e := gs_set (g := fun p => if p ≤ i then W p else 0) hj h
    unfold nN
    by_cases q : y j ≤ i
    · rw [if_pos q, if_pos (show x j ≤ i by omega)] at e; omega
    · rw [if_neg q] at e; omega
  · have e := gs_set (g := fun p => if p ≤ x j then W p else 0) hj h
    unfold nN
    rw [if_neg (show ¬ y j ≤ x j by omega), if_pos (Nat.le_refl _)] at e
    omega
theorem nN_back {W x y : Nat → Nat} {m j : Nat} (hj : j < m) (h : ∀ k, k < m → k ≠ j → y k = x k) (hW : W (y j) ≤ W (x j)) (hlt : y j < x j) : (∀ i, i < x j → nN W y m i ≤ nN W x m i + W (x j)) ∧ (∀ i, x j ≤ i → nN W y m i ≤ nN W x m i) ∧ W (x j) ≤ nN W x m (x j) := by
  refine ⟨fun i hi => ?_, fun i hi => ?_, ?_⟩
  · have e := gs_set (g := fun p => if p ≤ i then W p else 0) hj h
    unfold nN
    rw [if_neg (show ¬ x j ≤ i by omega)] at e
    have : (if y j ≤ i then W (y j) else 0) ≤ W (x j) := by split <;> omega
    omega
  · have e := gs_set (g := fun p => if p ≤ i then W p else 0) hj h
    unfold nN
    rw [if_pos hi, if_pos (show y j ≤ i by omega)] at e
    omega
  · have e := gs_mem (g := fun p => if p ≤ x j then W p else 0) (x := x) hj
    simp only [Nat.le_refl, if_true] at e
    exact e
theorem nN_fork {W x y : Nat → Nat} {m j : Nat} (hj : j < m) (h : ∀ k, k < m → k ≠ j → y k = x k) (h1 : x j < y j) (h2 : x j < y m) (hW : W (y j) + W (y m) ≤ W (x j)) : (∀ i, nN W y (m + 1) i ≤ nN W x m i) ∧ nN W y (m + 1) (x j) + W (x j) ≤ nN W x m (x j) := by
  refine ⟨fun i => ?_, ?_⟩
  · have e := gs_set (g := fun p => if p ≤ i then W p else 0) hj h
    unfold nN
    rw [gs]
    by_cases q : x j ≤ i
    · rw [if_pos q] at e
      have q1 : (if y j ≤ i then W (y j) else 0) ≤ W (y j) := by split <;> omega
      have q2 : (if y m ≤ i then W (y m) else 0) ≤ W (y m) := by split <;> omega
      omega
    · rw [if_neg (show ¬ y j ≤ i by omega), if_neg q] at e
      rw [if_neg (show ¬ y m ≤ i by omega)]; omega
  · have e := gs_set (g := fun p => if p ≤ x j then W p else 0) hj h
    unfold nN
    rw [gs]
    rw [if_neg (show ¬ y j ≤ x j by omega), if_pos (Nat.le_refl _)] at e
    rw [if_neg (show ¬ y m ≤ x j by omega)]
    omega
theorem nN_join {W x y z : Nat → Nat} {m j k : Nat} (hj : j < m + 1) (hk : k < m + 1) (hjk : j ≠ k) (he : x k = x j) (h : ∀ i, i < m + 1 → i ≠ j → y i = x i) (h1 : x j < y j) (hz1 : ∀ i, i < k → z i = y i) (hz2 : ∀ i, k ≤ i → i < m → z i = y (i + 1)) (hW : W (y j) ≤ 2 * W (x j)) : (∀ i, nN W z m i ≤ nN W x (m + 1) i) ∧ nN W z m (x j) + W (x j) ≤ nN W x (m + 1) (x j) := by
  have hyk : y k = x j := by rw [h k hk (fun q => hjk q.symm), he]
  refine ⟨fun i => ?_, ?_⟩
  · have e := gs_set (g := fun p => if p ≤ i then W p else 0) hj h
    have e2 := gs_drop (g := fun p => if p ≤ i then W p else 0) (show k ≤ m by omega) hz1 hz2
    unfold nN
    rw [hyk] at e2
    by_cases q : x j ≤ i
    · rw [if_pos q] at e e2
      have q1 : (if y j ≤ i then W (y j) else 0) ≤ W (y j) := by split <;> omega
      omega
    · rw [if_neg (show ¬ y j ≤ i by omega), if_neg q] at e
      omega
  · have e := gs_set (g := fun p => if p ≤ x j then W p else 0) hj h
    have e2 := gs_drop (g := fun p => if p ≤ x j then W p else 0) (show k ≤ m by omega) hz1 hz2
    unfold nN
    rw [hyk, if_pos (Nat.le_refl _)] at e2
    rw [if_neg (show ¬ y j ≤ x j by omega), if_pos (Nat.le_refl _)] at e
    omega
