/-! release: what is reached -/
section RCB
variable {f : Nat} {K : kx} {W : Nat → Nat → Nat} {bd : Nat} {c : cx_S} {s : rx_S}
/-- s with another field k -/
def wf (s : rx_S) (k : Nat) (m : Nat → Int32) : rx_S := fun k2 => if k2 = k then m else s k2
theorem wf_up {k j : Nat} {m : Nat → Int32} {v : Int32} : rx_up (wf s k m) k j v = wf s k (upd m j v) := by
  funext k2
  unfold rx_up wf
  by_cases e : k2 = k
  · rw [if_pos e, if_pos e, if_pos rfl]
  · rw [if_neg e, if_neg e, if_neg e]
theorem wf_at {k : Nat} {m : Nat → Int32} : wf s k m k = m := if_pos rfl
theorem wf_id {k : Nat} : wf s k (s k) = s := by
  funext k2
  unfold wf
  split
  · next q => rw [q]
  · rfl
def En (n : Nat) (g : Nat → Int32) (x : Nat → Nat) : Prop := ∀ j, j < n → g j = nI (x j)
theorem En_up {n : Nat} {g : Nat → Int32} {x : Nat → Nat} {j v : Nat} (h : En n g x) : En n (upd g j (nI v)) (up x j v) := fun k hk => by
  by_cases e : k = j
  · rw [e, upd_s, up_eq]
  · rw [upd_o e, up_ne e]; exact h k hk
/-- a sound recipe, its links -/
def SR (s : rx_S) (r : Nat) : Prop := 0 < nt (s 7 r) ∧ ∀ j, j < nt (s 7 r) → SX s r j
theorem SR.nx {r : Nat} (h : SR s r) {i : Nat} (hi : i < nt (s 7 r)) (hk : zk s r i ≠ 9) : s 13 (12 * r + i) = nI (zn s r i) ∧ i < zn s r i ∧ zn s r i < nt (s 7 r) := by
  have q := (h.2 i hi).2.1 hk
  exact ⟨q.1.eq, q.2, q.1.lt⟩
theorem SR.ot {r : Nat} (h : SR s r) {i : Nat} (hi : i < nt (s 7 r)) (hk : zk s r i = 5 ∨ zk s r i = 7 ∨ zk s r i = 8) : s 14 (12 * r + i) = nI (zo s r i) ∧ zo s r i < nt (s 7 r) := by
  by_cases e : zk s r i = 8
  · have q := (h.2 i hi).2.2.2 e
    exact ⟨q.eq, by have := q.lt; show nt (s 14 _) < _; omega⟩
  · have q := (h.2 i hi).2.2.1 (by omega)
    exact ⟨q.1.eq, q.1.lt⟩
theorem SR.snd {r : Nat} (h : SR s r) : Snd (nt (s 7 r)) (zk s r) (zn s r) (zo s r) := fun i hi => by
  have q := h.2 i hi
  refine ⟨fun k => ?_, fun k => ?_, fun k => ?_⟩
  · have := h.nx hi k; omega
  · have := q.2.2.1 k
    exact ⟨this.2, this.1.lt⟩
  · exact (q.2.2.2 k).lt
theorem way_C0 (h : CRep K c s) (hI : Iv K W bd s) {r i : Nat} (hr : r < 4) (hi : i < nt (s 7 r)) : D_S_wayOut f (kS K r i) (nI 0) c = some (if zk s r i = 9 then -1 else s 13 (12 * r + i), c) := by
  have hs := h.sh r hr i hi
  have k10 := hI.i9 r hr i hi
  have e : (s 9 (12 * r + i) = nI 9) ↔ zk s r i = 9 := by
    rw [k10.eq, nI_eq (by have := k10.lt; omega) (by decide)]
  unfold D_S_wayOut
  simp only [if_pos (show nI 0 = 0 from rfl), b_oc hs.2, b_oj, h.s0 r hr i hi, h.s4 r hr i hi]
  by_cases q : zk s r i = 9
  · rw [if_pos (e.mpr q), if_pos q]
  · rw [if_neg (fun z => q (e.mp z)), if_neg q]
theorem way_C1 (h : CRep K c s) (hI : Iv K W bd s) {r i : Nat} (hr : r < 4) (hi : i < nt (s 7 r)) : D_S_wayOut f (kS K r i) (nI 1) c = some (if zk s r i = 5 ∨ zk s r i = 7 ∨ zk s r i = 8 then s 14 (12 * r + i) else -1, c) := by
  have hs := h.sh r hr i hi
  have k10 := hI.i9 r hr i hi
  have kl := k10.lt
  have e : ∀ v, v < 10 → ((s 9 (12 * r + i) = nI v) ↔ zk s r i = v) := fun v hv => by
    rw [k10.eq, nI_eq (by omega) (by omega)]
  unfold D_S_wayOut
  simp only [if_neg (show ¬ nI 1 = 0 by decide), b_oc hs.2, b_oj, h.s0 r hr i hi, h.s5 r hr i hi, e 5 (by decide), e 7 (by decide), e 8 (by decide)]
  by_cases q5 : zk s r i = 5
  · rw [if_pos q5, if_pos (Or.inl q5)]
  by_cases q7 : zk s r i = 7
  · rw [if_neg q5, if_pos q7, if_pos (Or.inr (Or.inl q7))]
  by_cases q8 : zk s r i = 8
  · rw [if_neg q5, if_neg q7, if_pos q8, if_pos (Or.inr (Or.inr q8))]
  · rw [if_neg q5, if_neg q7, if_neg q8, if_neg (by omega)]
theorem reach_t (h : CRep K c s) {t : Nat} (ht : t < 12) : D_C_reach f 5 (nI t) c = some (0, cx_ui c 400 6 t (nI 1)) := by
  unfold D_C_reach
  simp only [b_below_t ht (show 12 < 2 ^ 31 by decide), b_ob, b_oj, b_10, if_false, b_oc h.fix.h5, h.fix.f112, b_oa h.fix.h6 ht (show 12 < 2 ^ 31 by decide)]
theorem reach_n : D_C_reach f 5 (-1) c = some (0, c) := by
  unfold D_C_reach
  simp only [b_below_f (n := 12) (x := -1) (Or.inl (by decide)), b_ob, b_oj, b_00, if_true]
theorem up_01 {x : Nat → Nat} {i : Nat} (h : ∀ j, x j ≤ 1) : ∀ j, up x i 1 j ≤ 1 := fun j => by
  show (if j = i then 1 else x j) ≤ 1
  split
  · omega
  · exact h j
theorem rS_01 {kd nx ot x : Nat → Nat} {i : Nat} (h : ∀ j, x j ≤ 1) : ∀ j, rS kd nx ot x i j ≤ 1 := by
  unfold rS
  split
  · split
    · exact up_01 (up_01 h)
    · exact up_01 h
  · split
    · exact up_01 h
    · exact h
def rRow (kd nx ot x : Nat → Nat) : Nat → Nat → Nat
  | 0 => x
  | i + 1 => rS kd nx ot (rRow kd nx ot x i) i
def rRnd (n : Nat) (kd nx ot x : Nat → Nat) : Nat → Nat → Nat
  | 0 => x
  | k + 1 => rRow kd nx ot (rRnd n kd nx ot x k) n
theorem rRow_01 {kd nx ot x : Nat → Nat} (h : ∀ j, x j ≤ 1) : ∀ i j, rRow kd nx ot x i j ≤ 1
  | 0 => h
  | i + 1 => rS_01 (rRow_01 h i)
theorem rRnd_01 {n : Nat} {kd nx ot x : Nat → Nat} (h : ∀ j, x j ≤ 1) : ∀ i j, rRnd n kd nx ot x i j ≤ 1
  | 0 => h
  | i + 1 => rRow_01 (rRnd_01 h i) n
theorem rRow_rk {n : Nat} {kd nx ot x : Nat → Nat} (h : RkI n kd nx ot x) : ∀ i, i ≤ n → RkI n kd nx ot (rRow kd nx ot x i)
  | 0, _ => h
  | i + 1, hi => rS_ok (rRow_rk h i (by omega)) (by omega)
theorem rRnd_rk {n : Nat} {kd nx ot x : Nat → Nat} (h : RkI n kd nx ot x) : ∀ i, RkI n kd nx ot (rRnd n kd nx ot x i)
  | 0 => h
  | i + 1 => rRow_rk (rRnd_rk h i) n (Nat.le_refl _)
abbrev rX (s : rx_S) (r : Nat) : Nat → Nat := rRnd (nt (s 7 r)) (zk s r) (zn s r) (zo s r) (up (fun _ => 0) 0 1) (nt (s 7 r))
/-- one step's turn, class -/
theorem row_C (h : CRep K c s) (hI : Iv K W bd s) {r : Nat} (hr : r < 4) (hS : SR s r) {l2 : Int32} {kk : cx_S → Option (Int32 × cx_S)} {i k : Nat} {g : Nat → Int32} {x : Nat → Nat} (hi : i < nt (s 7 r)) (hg : En 12 g x) (hx : ∀ j, x j ≤ 1) :
    ∃ g2, D_C_isAllReached_27 f 5 (some (40 + 3 * r)) l2 kk (k + 1) (nI i) (ws c 6 g) = D_C_isAllReached_27 f 5 (some (40 + 3 * r)) l2 kk k (nI (i + 1)) (ws c 6 g2) ∧ En 12 g2 (rS (zk s r) (zn s r) (zo s r) x i) := by
  have m7 := hI.i7 r hr
  have ml := m7.lt
  have hw : ∀ g, CRep K (ws c 6 g) s := fun g => CRep_ws h (by unfold Sc; omega)
  have em : ∀ g, cI (ws c 6 g) 97 (40 + 3 * r) 0 = nI (nt (s 7 r)) := fun g => by rw [(hw g).rm r hr]; exact m7.eq
  have hst := h.sh r hr i hi
  have hst2 : ∀ g, cR (ws c 6 g) 407 (42 + 3 * r) i = some (kS K r i) := fun g => hst.1
  have hst3 : ∀ g, cH (ws c 6 g) (kS K r i) = some (8, 0) := fun g => hst.2
  have go : D_C_isAllReached_27 f 5 (some (40 + 3 * r)) l2 kk (k + 1) (nI i) (ws c 6 g) = if g i = nI 1 then ob (D_C_reach f 5 (if zk s r i = 9 then -1 else s 13 (12 * r + i)) (ws c 6 g)) (fun _ s21 => oc 6 (some (40 + 3 * r)) s21 fun p22 => oa 407 (cR s21 99 p22 0) (nI i) s21 fun a23 j24 => oc 8 (cR s21 407 a23 j24) s21 fun p25 => ob (D_S_wayOut f p25 (nI 1) s21) fun x26 s27 => oc 7 (some 5) s27 fun p28 => ob (D_C_reach f p28 x26 s27) fun x29 s30 => D_C_isAllReached_27 f 5 (some (40 + 3 * r)) l2 kk k (nI (i + 1)) s30) else D_C_isAllReached_27 f 5 (some (40 + 3 * r)) l2 kk k (nI (i + 1)) (ws c 6 g) := by
    rw [D_C_isAllReached_27, b_oc ((hw g).fix.hRec r hr), em, if_neg (nI_ge hi (by omega)), b_oc (hw g).fix.h5, (hw g).fix.f112, b_oa (hw g).fix.h6 (by omega) (by decide), b_oj, ws_at, nI_add]
    by_cases q : g i = nI 1
    · rw [if_pos q, if_pos q, (hw g).fix.stp r hr, b_oa ((hw g).fix.hStp r hr) (by omega) (by decide), hst2, b_oc (hst3 g), way_C0 (hw g) hI hr hi, b_ob, b_oc (hw g).fix.h5]
    · rw [if_neg q, if_neg q]
  have two : ∀ g, oc 6 (some (40 + 3 * r)) (ws c 6 g) (fun p22 => oa 407 (cR (ws c 6 g) 99 p22 0) (nI i) (ws c 6 g) fun a23 j24 => oc 8 (cR (ws c 6 g) 407 a23 j24) (ws c 6 g) fun p25 => ob (D_S_wayOut f p25 (nI 1) (ws c 6 g)) fun x26 s27 => oc 7 (some 5) s27 fun p28 => ob (D_C_reach f p28 x26 s27) fun x29 s30 => D_C_isAllReached_27 f 5 (some (40 + 3 * r)) l2 kk k (nI (i + 1)) s30) = D_C_isAllReached_27 f 5 (some (40 + 3 * r)) l2 kk k (nI (i + 1)) (ws c 6 (if zk s r i = 5 ∨ zk s r i = 7 ∨ zk s r i = 8 then upd g (zo s r i) (nI 1) else g)) := by
    intro g
    rw [b_oc ((hw g).fix.hRec r hr), (hw g).fix.stp r hr, b_oa ((hw g).fix.hStp r hr) (by omega) (by decide), hst2, b_oc (hst3 g), way_C1 (hw g) hI hr hi, b_ob, b_oc (hw g).fix.h5]
    by_cases q : zk s r i = 5 ∨ zk s r i = 7 ∨ zk s r i = 8
    · obtain ⟨e1, e2⟩ := hS.ot hi q
      rw [if_pos q, if_pos q, e1, reach_t (hw g) (by omega), b_ob, ws_ui]
    · rw [if_neg q, if_neg q, reach_n, b_ob]
  have hgi := hg i (by omega)
  rw [go]
  unfold rS
  by_cases q : x i = 0
  · have q1 : ¬ g i = nI 1 := by rw [hgi, q]; decide
    rw [if_neg q1]
    refine ⟨g, rfl, ?_⟩
    simp only [q, ne_eq, not_true_eq_false, false_and, if_false]
    exact hg
  · have x1 : x i = 1 := by have := hx i; omega
    have q1 : g i = nI 1 := by rw [hgi, x1]
    rw [if_pos q1]
    by_cases k9 : zk s r i = 9
    · rw [if_pos k9, reach_n, b_ob, two]
      refine ⟨_, rfl, ?_⟩
      simp only [k9, ne_eq, not_true_eq_false, and_false, if_false]
      simp (decide := true) only [if_false, and_false]
      exact hg
    · obtain ⟨e1, e2, e3⟩ := hS.nx hi k9
      rw [if_neg k9, e1, reach_t (hw g) (by omega), b_ob, ws_ui, two]
      refine ⟨_, rfl, ?_⟩
      have z1 : x i ≠ 0 ∧ zk s r i ≠ 9 := ⟨q, k9⟩
      have z2 : up x (zn s r i) 1 i ≠ 0 := by rw [up_ne (by omega)]; exact q
      simp only [if_pos z1]
      by_cases ko : zk s r i = 5 ∨ zk s r i = 7 ∨ zk s r i = 8
      · rw [if_pos ko, if_pos ⟨z2, ko⟩]
        exact En_up (En_up hg)
      · rw [if_neg ko, if_neg (fun z => ko z.2)]
        exact En_up hg
theorem rows_C (h : CRep K c s) (hI : Iv K W bd s) {r : Nat} (hr : r < 4) (hS : SR s r) {l2 : Int32} {kk : cx_S → Option (Int32 × cx_S)} {x : Nat → Nat} (hx : ∀ j, x j ≤ 1) : ∀ d i k g, i + d = nt (s 7 r) → d < k → En 12 g (rRow (zk s r) (zn s r) (zo s r) x i) →
    ∃ g2, D_C_isAllReached_27 f 5 (some (40 + 3 * r)) l2 kk k (nI i) (ws c 6 g) = kk (ws c 6 g2) ∧ En 12 g2 (rRow (zk s r) (zn s r) (zo s r) x (nt (s 7 r))) := by
  have m7 := hI.i7 r hr
  have ml := m7.lt
  have hw : ∀ g, CRep K (ws c 6 g) s := fun g => CRep_ws h (by unfold Sc; omega)
  have em : ∀ g, cI (ws c 6 g) 97 (40 + 3 * r) 0 = nI (nt (s 7 r)) := fun g => by rw [(hw g).rm r hr]; exact m7.eq
  intro d
  induction d with
  | zero =>
    intro i k g hi hk hg
    obtain ⟨k, rfl⟩ : ∃ k', k = k' + 1 := ⟨k - 1, by omega⟩
    have e : i = nt (s 7 r) := by omega
    refine ⟨g, ?_, by rw [e] at hg; exact hg⟩
    rw [D_C_isAllReached_27, b_oc ((hw g).fix.hRec r hr), em, if_pos (by rw [e]; exact Int32.le_refl _)]
  | succ d ih =>
    intro i k g hi hk hg
    obtain ⟨k, rfl⟩ : ∃ k', k = k' + 1 := ⟨k - 1, by omega⟩
    obtain ⟨g2, w1, w2⟩ := row_C (f := f) (l2 := l2) (kk := kk) (k := k) h hI hr hS (show i < nt (s 7 r) by omega) hg (rRow_01 hx i)
    obtain ⟨g3, w3, w4⟩ := ih (i + 1) k g2 (by omega) (by omega) w2
    exact ⟨g3, by rw [w1, w3], w4⟩
theorem rnds_C (h : CRep K c s) (hI : Iv K W bd s) {r : Nat} (hr : r < 4) (hS : SR s r) (hf : 2 ^ 31 ≤ f) {kk : cx_S → Option (Int32 × cx_S)} {x : Nat → Nat} (hx : ∀ j, x j ≤ 1) : ∀ d i k g, i + d = nt (s 7 r) → d < k → En 12 g (rRnd (nt (s 7 r)) (zk s r) (zn s r) (zo s r) x i) →
    ∃ g2, D_C_isAllReached_17 f 5 (some (40 + 3 * r)) kk k (nI i) (ws c 6 g) = kk (ws c 6 g2) ∧ En 12 g2 (rRnd (nt (s 7 r)) (zk s r) (zn s r) (zo s r) x (nt (s 7 r))) := by
  have m7 := hI.i7 r hr
  have ml := m7.lt
  have hw : ∀ g, CRep K (ws c 6 g) s := fun g => CRep_ws h (by unfold Sc; omega)
  have em : ∀ g, cI (ws c 6 g) 97 (40 + 3 * r) 0 = nI (nt (s 7 r)) := fun g => by rw [(hw g).rm r hr]; exact m7.eq
  intro d
  induction d with
  | zero =>
    intro i k g hi hk hg
    obtain ⟨k, rfl⟩ : ∃ k', k = k' + 1 := ⟨k - 1, by omega⟩
    have e : i = nt (s 7 r) := by omega
    refine ⟨g, ?_, by rw [e] at hg; exact hg⟩
    rw [D_C_isAllReached_17, b_oc ((hw g).fix.hRec r hr), em, if_pos (by rw [e]; exact Int32.le_refl _)]
  | succ d ih =>
    intro i k g hi hk hg
    obtain ⟨k, rfl⟩ : ∃ k', k = k' + 1 := ⟨k - 1, by omega⟩
    obtain ⟨g2, w1, w2⟩ := rows_C (f := f) (l2 := nI i) (kk := fun s31 => D_C_isAllReached_17 f 5 (some (40 + 3 * r)) kk k (nI i + nI 1) s31) h hI hr hS (rRnd_01 hx i) (nt (s 7 r)) 0 f g (by omega) (by omega) hg
    obtain ⟨g3, w3, w4⟩ := ih (i + 1) k g2 (by omega) (by omega) w2
    refine ⟨g3, ?_, w4⟩
    rw [D_C_isAllReached_17, b_oc ((hw g).fix.hRec r hr), em, if_neg (nI_ge (by omega) (by omega)), ← w3]
    have w1 : D_C_isAllReached_27 f 5 (some (40 + 3 * r)) (nI i) _ f (nI 0) (ws c 6 g) = _ := w1
    rw [w1, nI_add]
theorem sS_all {x : Nat → Nat} (h : ∀ j, x j ≤ 1) : ∀ n, sS x n ≤ n ∧ (sS x n = n ↔ ∀ j, j < n → x j ≠ 0)
  | 0 => ⟨Nat.le_refl _, fun _ j hj => by omega, fun _ => rfl⟩
  | n + 1 => by
    obtain ⟨a, b⟩ := sS_all h n
    have := h n
    rw [sS]
    refine ⟨by omega, fun q j hj => ?_, fun q => ?_⟩
    · by_cases e : j = n
      · rw [e]; omega
      · exact b.mp (by omega) j (by omega)
    · have := b.mpr (fun j hj => q j (by omega))
      have := q n (by omega)
      omega
theorem x0_01 : ∀ j, up (fun _ => 0) 0 1 j ≤ 1 := fun j => by show (if j = 0 then 1 else 0) ≤ 1; split <;> omega
theorem all_C (h : CRep K c s) (hI : Iv K W bd s) {r : Nat} (hr : r < 4) (hS : SR s r) (hf : 2 ^ 31 ≤ f) : ∃ y g, D_C_isAllReached f 5 (some (40 + 3 * r)) c = some (y, ws c 6 g) ∧ TF y (∀ j, j < nt (s 7 r) → rX s r j ≠ 0) := by
  have m7 := hI.i7 r hr
  have ml := m7.lt
  have hw : ∀ g, CRep K (ws c 6 g) s := fun g => CRep_ws h (by unfold Sc; omega)
  have em : ∀ g, cI (ws c 6 g) 97 (40 + 3 * r) 0 = nI (nt (s 7 r)) := fun g => by rw [(hw g).rm r hr]; exact m7.eq
  obtain ⟨g0, w1, w2⟩ := b_fill (f := f) (v := nI 0) h.fix.h6 (by decide) hf
  have e0 : En 12 (upd g0 0 (nI 1)) (up (fun _ => 0) 0 1) := En_up (fun j hj => w2 j hj)
  have x01 := rRnd_01 (n := nt (s 7 r)) (kd := zk s r) (nx := zn s r) (ot := zo s r) x0_01 (nt (s 7 r))
  obtain ⟨g1, w3, w4⟩ := rnds_C (f := f) (kk := fun (s32 : cx_S) => D_C_isAllReached_89 f 5 (some (40 + 3 * r)) (fun (v37 : Int32) (s38 : cx_S) => oc 6 (some (40 + 3 * r)) s38 fun p39 => oj (fun (x41 : Int32) => ozb x41 (some (x41, s38))) fun J40 => if v37 = (cI s38 97 p39 0) then J40 (nI 1) else J40 (nI 0)) f (nI 0) (nI 0) s32) h hI hr hS hf x0_01 (nt (s 7 r)) 0 f (upd g0 0 (nI 1)) (by omega) (by omega) e0
  have sm : ∀ (kk : Int32 → cx_S → Option (Int32 × cx_S)) d i k, i + d = nt (s 7 r) → d < k → D_C_isAllReached_89 f 5 (some (40 + 3 * r)) kk k (nI (sS (rX s r) i)) (nI i) (ws c 6 g1) = kk (nI (sS (rX s r) (nt (s 7 r)))) (ws c 6 g1) := by
    intro kk d
    induction d with
    | zero =>
      intro i k hi hk
      obtain ⟨k, rfl⟩ : ∃ k', k = k' + 1 := ⟨k - 1, by omega⟩
      have e : i = nt (s 7 r) := by omega
      rw [D_C_isAllReached_89, b_oc ((hw g1).fix.hRec r hr), em, if_pos (by rw [e]; exact Int32.le_refl _), e]
    | succ d ih =>
      intro i k hi hk
      obtain ⟨k, rfl⟩ : ∃ k', k = k' + 1 := ⟨k - 1, by omega⟩
      have e2 := ih (i + 1) k (by omega) (by omega)
      rw [sS] at e2
      rw [D_C_isAllReached_89, b_oc ((hw g1).fix.hRec r hr), em, if_neg (nI_ge (by omega) (by omega)), b_oc (hw g1).fix.h5, (hw g1).fix.f112, b_oa (hw g1).fix.h6 (by omega) (by decide), ws_at, w4 i (by omega), nI_add, nI_add]
      exact e2
  have fin := sm (fun (v37 : Int32) (s38 : cx_S) => oc 6 (some (40 + 3 * r)) s38 fun p39 => oj (fun (x41 : Int32) => ozb x41 (some (x41, s38))) fun J40 => if v37 = (cI s38 97 p39 0) then J40 (nI 1) else J40 (nI 0)) (nt (s 7 r)) 0 f (by omega) (by omega)
  obtain ⟨sa, sb⟩ := sS_all (x := rX s r) x01 (nt (s 7 r))
  unfold D_C_isAllReached
  rw [b_oc h.fix.h5, h.fix.f112, w1, b_ob, b_oc (hw g0).fix.h5, (hw g0).fix.f112, b_oa (hw g0).fix.h6 (by decide) (by decide), ws_ui]
  have w3 : D_C_isAllReached_17 f 5 (some (40 + 3 * r)) _ f (nI 0) (ws c 6 (upd g0 0 (nI 1))) = _ := w3
  rw [w3]
  have fin : D_C_isAllReached_89 f 5 (some (40 + 3 * r)) _ f (nI 0) (nI 0) (ws c 6 g1) = _ := fin
  rw [fin]
  simp only [b_oc ((hw g1).fix.hRec r hr), b_oj, em, nI_eq (show sS (rX s r) (nt (s 7 r)) < 2 ^ 31 by omega) (show nt (s 7 r) < 2 ^ 31 by omega)]
  by_cases q : sS (rX s r) (nt (s 7 r)) = nt (s 7 r)
  · rw [if_pos q, ozb_1]
    exact ⟨_, g1, rfl, TF.y (sb.mp q)⟩
  · rw [if_neg q, ozb_0]
    exact ⟨_, g1, rfl, TF.n (fun z => q (sb.mpr z))⟩
/-! the reference -/
theorem ho_M (hI : Iv K W bd s) {r i : Nat} {s2 : rx_S} (hr : r < 4) (hi : i < nt (s 7 r)) : D_M_hasOther f (s 9 (12 * r + i)) s2 = some (if zk s r i = 5 ∨ zk s r i = 7 ∨ zk s r i = 8 then nI 1 else nI 0, s2) := by
  have k10 := hI.i9 r hr i hi
  have ke := k10.eq
  have kl := k10.lt
  have kk : zk s r i = nt (s 9 (12 * r + i)) := rfl
  rw [kk, ke]
  generalize nt (s 9 (12 * r + i)) = k at *
  rw [nt_nI (by omega)]
  have : k = 0 ∨ k = 1 ∨ k = 2 ∨ k = 3 ∨ k = 4 ∨ k = 5 ∨ k = 6 ∨ k = 7 ∨ k = 8 ∨ k = 9 := by omega
  unfold D_M_hasOther
  rcases this with rfl | rfl | rfl | rfl | rfl | rfl | rfl | rfl | rfl | rfl <;> simp (decide := true) only [b_oj, if_true, if_false, ozb_0, ozb_1]
theorem row_M (hI : Iv K W bd s) {r : Nat} (hr : r < 4) (hS : SR s r) {l2 : Int32} {kk : rx_S → Option (Int32 × rx_S)} {i k : Nat} {g : Nat → Int32} {x : Nat → Nat} (hi : i < nt (s 7 r)) (hg : En 12 g x) (hx : ∀ j, x j ≤ 1) :
    ∃ g2, D_M_isWhole_43 f (nI r) l2 kk (k + 1) (nI i) (wf s 47 g) = D_M_isWhole_43 f (nI r) l2 kk k (nI (i + 1)) (wf s 47 g2) ∧ En 12 g2 (rS (zk s r) (zn s r) (zo s r) x i) := by
  have m7 := hI.i7 r hr
  have ml := m7.lt
  have e7 : ∀ g, wf s 47 g 7 r = nI (nt (s 7 r)) := fun g => m7.eq
  have k10 := hI.i9 r hr i hi
  have k9 : ∀ g, (wf s 47 g 9 (12 * r + i) = nI 9) ↔ zk s r i = 9 := fun g => by
    show s 9 (12 * r + i) = nI 9 ↔ _
    rw [k10.eq, nI_eq (by have := k10.lt; omega) (by decide)]
  have hoM : ∀ g, D_M_hasOther f (wf s 47 g 9 (12 * r + i)) (wf s 47 g) = some (if zk s r i = 5 ∨ zk s r i = 7 ∨ zk s r i = 8 then nI 1 else nI 0, wf s 47 g) := fun g => ho_M hI hr hi
  have hgi := hg i (by omega)
  rw [D_M_isWhole_43, b_og hr (by decide), e7, if_neg (nI_ge hi (by omega)), b_og (show i < 12 by omega) (by decide)]
  simp only [b_oj, nI_add, pk_mul, b_og (show 12 * r + i < 48 by omega) (show 48 < 2 ^ 31 by decide), wf_at, hgi]
  unfold rS
  by_cases q : x i = 0
  · simp only [q, b_00, if_true, ne_eq, not_true_eq_false, false_and, if_false, wf_at, hgi]
    exact ⟨g, rfl, hg⟩
  · have x1 : x i = 1 := by have := hx i; omega
    simp only [x1, b_10, if_false]
    by_cases q9 : zk s r i = 9
    · rw [if_pos ((k9 g).mpr q9)]
      simp only [wf_at, hgi, x1, b_10, if_false, hoM, b_ob, q9]
      simp (decide := true) only [if_false, if_true, and_false]
      exact ⟨g, rfl, hg⟩
    · obtain ⟨e1, e2, e3⟩ := hS.nx hi q9
      have e1' : wf s 47 g 13 (12 * r + i) = nI (zn s r i) := e1
      rw [if_neg (fun z => q9 ((k9 g).mp z)), e1', b_og (by omega) (by decide), wf_up]
      have z2 : up x (zn s r i) 1 i ≠ 0 := by rw [up_ne (by omega)]; exact q
      have gi : upd g (zn s r i) (nI 1) i = nI 1 := by rw [upd_o (by omega), hgi, x1]
      simp only [wf_at, gi, b_10, if_false, hoM, b_ob]
      rw [if_pos (show (1 ≠ 0 ∧ zk s r i ≠ 9) from ⟨by decide, q9⟩)]
      by_cases ko : zk s r i = 5 ∨ zk s r i = 7 ∨ zk s r i = 8
      · obtain ⟨o1, o2⟩ := hS.ot hi ko
        have o1' : wf s 47 (upd g (zn s r i) (nI 1)) 14 (12 * r + i) = nI (zo s r i) := o1
        rw [if_pos ko, if_neg (by decide), o1', b_og (by omega) (by decide), wf_up, if_pos ⟨z2, ko⟩]
        exact ⟨_, rfl, En_up (En_up hg)⟩
      · rw [if_neg ko, if_pos (show nI 0 = 0 from rfl), if_neg (fun z => ko z.2)]
        exact ⟨_, rfl, En_up hg⟩
theorem rows_M (hI : Iv K W bd s) {r : Nat} (hr : r < 4) (hS : SR s r) {l2 : Int32} {kk : rx_S → Option (Int32 × rx_S)} {x : Nat → Nat} (hx : ∀ j, x j ≤ 1) : ∀ d i k g, i + d = nt (s 7 r) → d < k → En 12 g (rRow (zk s r) (zn s r) (zo s r) x i) →
    ∃ g2, D_M_isWhole_43 f (nI r) l2 kk k (nI i) (wf s 47 g) = kk (wf s 47 g2) ∧ En 12 g2 (rRow (zk s r) (zn s r) (zo s r) x (nt (s 7 r))) := by
  have m7 := hI.i7 r hr
  have ml := m7.lt
  have e7 : ∀ g, wf s 47 g 7 r = nI (nt (s 7 r)) := fun g => m7.eq
  intro d
  induction d with
  | zero =>
    intro i k g hi hk hg
    obtain ⟨k, rfl⟩ : ∃ k', k = k' + 1 := ⟨k - 1, by omega⟩
    have e : i = nt (s 7 r) := by omega
    refine ⟨g, ?_, by rw [e] at hg; exact hg⟩
    rw [D_M_isWhole_43, b_og hr (by decide), e7, if_pos (by rw [e]; exact Int32.le_refl _)]
  | succ d ih =>
    intro i k g hi hk hg
    obtain ⟨k, rfl⟩ : ∃ k', k = k' + 1 := ⟨k - 1, by omega⟩
    obtain ⟨g2, w1, w2⟩ := row_M (f := f) (l2 := l2) (kk := kk) (k := k) hI hr hS (show i < nt (s 7 r) by omega) hg (rRow_01 hx i)
    obtain ⟨g3, w3, w4⟩ := ih (i + 1) k g2 (by omega) (by omega) w2
    exact ⟨g3, by rw [w1, w3], w4⟩
theorem rnds_M (hI : Iv K W bd s) {r : Nat} (hr : r < 4) (hS : SR s r) (hf : 2 ^ 31 ≤ f) {kk : rx_S → Option (Int32 × rx_S)} {x : Nat → Nat} (hx : ∀ j, x j ≤ 1) : ∀ d i k g, i + d = nt (s 7 r) → d < k → En 12 g (rRnd (nt (s 7 r)) (zk s r) (zn s r) (zo s r) x i) →
    ∃ g2, D_M_isWhole_31 f (nI r) kk k (nI i) (wf s 47 g) = kk (wf s 47 g2) ∧ En 12 g2 (rRnd (nt (s 7 r)) (zk s r) (zn s r) (zo s r) x (nt (s 7 r))) := by
  have m7 := hI.i7 r hr
  have ml := m7.lt
  have e7 : ∀ g, wf s 47 g 7 r = nI (nt (s 7 r)) := fun g => m7.eq
  intro d
  induction d with
  | zero =>
    intro i k g hi hk hg
    obtain ⟨k, rfl⟩ : ∃ k', k = k' + 1 := ⟨k - 1, by omega⟩
    have e : i = nt (s 7 r) := by omega
    refine ⟨g, ?_, by rw [e] at hg; exact hg⟩
    rw [D_M_isWhole_31, b_og hr (by decide), e7, if_pos (by rw [e]; exact Int32.le_refl _)]
  | succ d ih =>
    intro i k g hi hk hg
    obtain ⟨k, rfl⟩ : ∃ k', k = k' + 1 := ⟨k - 1, by omega⟩
    obtain ⟨g2, w1, w2⟩ := rows_M (f := f) (l2 := nI i) (kk := fun s18 => D_M_isWhole_31 f (nI r) kk k (nI i + nI 1) s18) hI hr hS (rRnd_01 hx i) (nt (s 7 r)) 0 f g (by omega) (by omega) hg
    obtain ⟨g3, w3, w4⟩ := ih (i + 1) k g2 (by omega) (by omega) w2
    refine ⟨g3, ?_, w4⟩
    rw [D_M_isWhole_31, b_og hr (by decide), e7, if_neg (nI_ge (by omega) (by omega)), ← w3]
    have w1 : D_M_isWhole_43 f (nI r) (nI i) _ f (nI 0) (wf s 47 g) = _ := w1
    rw [w1, nI_add]
theorem whole_fin (hI : Iv K W bd s) {r : Nat} (hr : r < 4) {g : Nat → Int32} {x : Nat → Nat} (hg : En 12 g x) (hx : ∀ j, x j ≤ 1) : ∀ d i k b, i + d = nt (s 7 r) → d < k → TF b (∀ j, j < i → x j ≠ 0) → ∃ y, D_M_isWhole_147 f (nI r) k b (nI i) (wf s 47 g) = some (y, wf s 47 g) ∧ TF y (∀ j, j < nt (s 7 r) → x j ≠ 0) := by
  have m7 := hI.i7 r hr
  have ml := m7.lt
  have e7 : ∀ g, wf s 47 g 7 r = nI (nt (s 7 r)) := fun g => m7.eq
  intro d
  induction d with
  | zero =>
    intro i k b hi hk hb
    obtain ⟨k, rfl⟩ : ∃ k', k = k' + 1 := ⟨k - 1, by omega⟩
    have e : i = nt (s 7 r) := by omega
    rw [e] at hb
    refine ⟨b, ?_, hb⟩
    rw [D_M_isWhole_147, b_og hr (by decide), e7, if_pos (by rw [e]; exact Int32.le_refl _)]
    rcases hb with ⟨rfl, _⟩ | ⟨rfl, _⟩
    · exact ozb_1
    · exact ozb_0
  | succ d ih =>
    intro i k b hi hk hb
    obtain ⟨k, rfl⟩ : ∃ k', k = k' + 1 := ⟨k - 1, by omega⟩
    have step : ∃ b2, D_M_isWhole_147 f (nI r) (k + 1) b (nI i) (wf s 47 g) = D_M_isWhole_147 f (nI r) k b2 (nI (i + 1)) (wf s 47 g) ∧ TF b2 (∀ j, j < i + 1 → x j ≠ 0) := by
      rw [D_M_isWhole_147, b_og hr (by decide), e7, if_neg (nI_ge (by omega) (by omega))]
      simp only [b_oj, nI_add, b_og (show i < 12 by omega) (show 12 < 2 ^ 31 by decide), wf_at, hg i (by omega)]
      rcases hb with ⟨rfl, q⟩ | ⟨rfl, q⟩
      · rw [if_neg (by decide)]
        by_cases z : x i = 0
        · rw [z, if_pos (show nI 0 = 0 from rfl)]
          exact ⟨_, rfl, TF.n (fun w => w i (by omega) z)⟩
        · have : x i = 1 := by have := hx i; omega
          rw [this, if_neg (by decide)]
          refine ⟨_, rfl, TF.y (fun j hj => ?_)⟩
          by_cases e : j = i
          · rw [e]; exact z
          · exact q j (by omega)
      · rw [if_pos (show nI 0 = 0 from rfl)]
        exact ⟨_, rfl, TF.n (fun w => q (fun j hj => w j (by omega)))⟩
    obtain ⟨b2, w1, w2⟩ := step
    obtain ⟨y, w3, w4⟩ := ih (i + 1) k b2 (by omega) (by omega) w2
    exact ⟨y, by rw [w1, w3], w4⟩
theorem all_M (hI : Iv K W bd s) {r : Nat} (hr : r < 4) (hS : SR s r) (hf : 2 ^ 31 ≤ f) : ∃ y g, D_M_isWhole f (nI r) s = some (y, wf s 47 g) ∧ TF y (∀ j, j < nt (s 7 r) → rX s r j ≠ 0) := by
  have m7 := hI.i7 r hr
  have ml := m7.lt
  have ini : ∀ (kk : rx_S → Option (Int32 × rx_S)) d i k g, i + d = 12 → d < k → (∀ j, j < i → g j = nI (up (fun _ => 0) 0 1 j)) → ∃ g2, D_M_isWhole_2 f (nI r) kk k (nI i) (wf s 47 g) = kk (wf s 47 g2) ∧ En 12 g2 (up (fun _ => 0) 0 1) := by
    intro kk d
    induction d with
    | zero =>
      intro i k g hi hk hg
      obtain ⟨k, rfl⟩ : ∃ k', k = k' + 1 := ⟨k - 1, by omega⟩
      have e : i = 12 := by omega
      subst e
      exact ⟨g, by rw [D_M_isWhole_2, if_pos (Int32.le_refl _)], hg⟩
    | succ d ih =>
      intro i k g hi hk hg
      obtain ⟨k, rfl⟩ : ∃ k', k = k' + 1 := ⟨k - 1, by omega⟩
      obtain ⟨g2, w1, w2⟩ := ih (i + 1) k (upd g i (nI (up (fun _ => 0) 0 1 i))) (by omega) (by omega) (fun j hj => by
        by_cases e : j = i
        · rw [e, upd_s]
        · rw [upd_o e]; exact hg j (by omega))
      refine ⟨g2, ?_, w2⟩
      rw [← w1, D_M_isWhole_2, if_neg (nI_ge (by omega) (by decide))]
      simp only [b_oj, nI_add, b_og (show i < 12 by omega) (show 12 < 2 ^ 31 by decide), wf_up]
      by_cases e : i = 0
      · subst e
        rw [if_pos (show nI 0 = 0 from rfl), ozb_1, up_eq]
      · rw [if_neg (nI_ne0 (by omega) (by omega)), ozb_0, up_ne e]
  obtain ⟨g1, w1, w2⟩ := ini (fun (s4 : rx_S) => D_M_isWhole_31 f (nI r) (fun (s19 : rx_S) => D_M_isWhole_147 f (nI r) f (nI 1) (nI 0) s19) f (nI 0) s4) 12 0 f (s 47) (by omega) (by omega) (fun j hj => by omega)
  obtain ⟨g2, w3, w4⟩ := rnds_M (f := f) (kk := fun (s19 : rx_S) => D_M_isWhole_147 f (nI r) f (nI 1) (nI 0) s19) hI hr hS hf x0_01 (nt (s 7 r)) 0 f g1 (by omega) (by omega) w2
  obtain ⟨y, w5, w6⟩ := whole_fin (f := f) hI hr w4 (rRnd_01 x0_01 _) (nt (s 7 r)) 0 f (nI 1) (by omega) (by omega) (TF.y (fun j hj => by omega))
  refine ⟨y, g2, ?_, w6⟩
  unfold D_M_isWhole
  rw [wf_id] at w1
  have w1 : D_M_isWhole_2 f (nI r) _ f (nI 0) s = _ := w1
  rw [w1]
  have w3 : D_M_isWhole_31 f (nI r) _ f (nI 0) (wf s 47 g1) = _ := w3
  rw [w3]; exact w5
theorem rX_rnk {r : Nat} (h : ∀ j, j < nt (s 7 r) → rX s r j ≠ 0) : ∃ rk, Rnk (nt (s 7 r)) (zk s r) (zn s r) (zo s r) rk := by
  refine rk_rnk (rRnd_rk ⟨fun _ => 0, fun i hi h0 => ?_⟩ _) h
  rw [up_ne h0] at hi
  exact absurd rfl hi
end RCB
