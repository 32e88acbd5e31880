def zI (p : Prop) [Decidable p] : Int32 := if p then 1 else 0
theorem zI_t {p : Prop} [Decidable p] (h : p) : zI p = 1 := if_pos h
theorem zI_f {p : Prop} [Decidable p] (h : ¬ p) : zI p = 0 := if_neg h
theorem zI_eq0 {p : Prop} [Decidable p] : zI p = 0 ↔ ¬ p := by
  unfold zI
  split
  · next h => exact ⟨fun q => absurd q (by decide), fun q => absurd h q⟩
  · next h => exact ⟨fun _ => h, fun _ => rfl⟩
theorem zI_nar {p : Prop} [Decidable p] : narrow .boolean (.int (zI p)) = .int (zI p) := by
  unfold zI
  split <;> rfl
theorem zI_vn {p : Prop} [Decidable p] : vp_nar .boolean (zI p) = zI p := by
  unfold zI
  split <;> rfl
theorem zI_fits {p : Prop} [Decidable p] : fits .boolean (.int (zI p)) = true := by
  unfold zI
  split <;> rfl
theorem zI_congr {p q : Prop} [Decidable p] [Decidable q] (h : p ↔ q) : zI p = zI q := by
  unfold zI
  by_cases hp : p
  · rw [if_pos hp, if_pos (h.mp hp)]
  · rw [if_neg hp, if_neg (fun x => hp (h.mpr x))]
section RX2
variable {G : bm_G} {M K : bm_M} {pc : Nat} {L L' : bm_L} {st : List Value} {s : rx_S} {Q : bm_R → rx_S → Prop}
def rx_Ti (G : bm_G) (M : bm_M) (av : List Value) (s : rx_S) (Q : Int32 → rx_S → Prop) : Prop := rx_T G M av s (fun v s2 => ∃ x, v = some (.int x) ∧ Q x s2)
def rx_Tv (G : bm_G) (M : bm_M) (av : List Value) (s : rx_S) (Q : rx_S → Prop) : Prop := rx_T G M av s (fun v s2 => v = none ∧ Q s2)
theorem rx_all {av : List Value} (h : av.all (fun v => v.category == 1) = true) : ∀ v ∈ av, v.category = 1 := fun v hv => by simpa using List.all_eq_true.mp h v hv
theorem rx_meti {av : List Value} {Q : Int32 → rx_S → Prop} (hy : plainName M.1.cls = true) (hc : av.all (fun v => v.category == 1) = true) (hn : av.length ≤ M.2.2.1)
    (k : rx G M 0 (av.map some ++ List.replicate (M.2.2.1 - av.length) none) [] s (fun r s2 => ∃ x, r = .inl (some (.int x)) ∧ Q x s2)) : rx_Ti G M av s Q :=
  rx_met hy (rx_all hc) hn (k.mono fun r s2 w => by
    obtain ⟨x, e, q⟩ := w
    exact ⟨_, e, x, rfl, q⟩)
theorem rx_metv {av : List Value} {Q : rx_S → Prop} (hy : plainName M.1.cls = true) (hc : av.all (fun v => v.category == 1) = true) (hn : av.length ≤ M.2.2.1)
    (k : rx G M 0 (av.map some ++ List.replicate (M.2.2.1 - av.length) none) [] s (fun r s2 => r = .inl none ∧ Q s2)) : rx_Tv G M av s Q :=
  rx_met hy (rx_all hc) hn (k.mono fun r s2 w => ⟨_, w.1, rfl, w.2⟩)
theorem rx_inc {i k : Nat} (hd : decode M.2.1 pc = .ok (.iinc i 1, 3)) (hn : i < M.2.2.1) (hl : L[i]? = some (some (.int (nI k)))) (kk : rx G M (pc + 3) (L.set i (some (.int (nI (k + 1))))) st s Q) : rx G M pc L st s Q :=
  rx_iinc hd hn hl (by rw [show nI k + Int32.ofInt 1 = nI (k + 1) from (nI_succ k).symm]; exact kk)
theorem rx_iaddN {a b : Nat} (hd : decode M.2.1 pc = .ok (.iadd, 1)) (k : rx G M (pc + 1) L (.int (nI (a + b)) :: st) s Q) : rx G M pc L (.int (nI b) :: .int (nI a) :: st) s Q := rx_iadd hd (by rw [nI_add]; exact k)
theorem rx_imulN {a b : Nat} (hd : decode M.2.1 pc = .ok (.imul, 1)) (k : rx G M (pc + 1) L (.int (nI (a * b)) :: st) s Q) : rx G M pc L (.int (nI b) :: .int (nI a) :: st) s Q := rx_imul hd (by rw [pk_mul]; exact k)
theorem rx_isubN {a b : Nat} (hab : b ≤ a) (hd : decode M.2.1 pc = .ok (.isub, 1)) (k : rx G M (pc + 1) L (.int (nI (a - b)) :: st) s Q) : rx G M pc L (.int (nI b) :: .int (nI a) :: st) s Q := rx_isub hd (by rw [pk_sub hab]; exact k)
theorem rx_callV0  (hg : bm_iv M K pc 11 0) (hst : (st.map fun v => v.category).sum ≤ 8) (hc : rx_Ti G K (.ref rx_o :: []) s (fun x s2 => rx G M (pc + 3) L (.int x :: st) s2 Q)) : rx G M pc L (.ref rx_o :: st) s Q :=
  rx_callV (av := []) hg rfl hst (hc.mono fun v s2 w => by
    obtain ⟨x, rfl, w⟩ := w
    exact w)
theorem rx_callV0v  (hg : bm_iv M K pc 11 0) (hst : (st.map fun v => v.category).sum ≤ 8) (hc : rx_Tv G K (.ref rx_o :: []) s (fun s2 => rx G M (pc + 3) L st s2 Q)) : rx G M pc L (.ref rx_o :: st) s Q :=
  rx_callV (av := []) hg rfl hst (hc.mono fun v s2 w => by
    obtain ⟨rfl, w⟩ := w
    exact w)
theorem rx_callS1 {a : Value} (hg : bm_is M K pc 1) (hst : (st.map fun v => v.category).sum ≤ 8) (hc : rx_Ti G K [a] s (fun x s2 => rx G M (pc + 3) L (.int x :: st) s2 Q)) : rx G M pc L (a :: st) s Q :=
  rx_callS (av := [a]) hg rfl hst (hc.mono fun v s2 w => by
    obtain ⟨x, rfl, w⟩ := w
    exact w)
theorem rx_callV1 {a : Value} (hg : bm_iv M K pc 11 1) (hst : (st.map fun v => v.category).sum ≤ 8) (hc : rx_Ti G K (.ref rx_o :: [a]) s (fun x s2 => rx G M (pc + 3) L (.int x :: st) s2 Q)) : rx G M pc L (a :: .ref rx_o :: st) s Q :=
  rx_callV (av := [a]) hg rfl hst (hc.mono fun v s2 w => by
    obtain ⟨x, rfl, w⟩ := w
    exact w)
theorem rx_callS1v {a : Value} (hg : bm_is M K pc 1) (hst : (st.map fun v => v.category).sum ≤ 8) (hc : rx_Tv G K [a] s (fun s2 => rx G M (pc + 3) L st s2 Q)) : rx G M pc L (a :: st) s Q :=
  rx_callS (av := [a]) hg rfl hst (hc.mono fun v s2 w => by
    obtain ⟨rfl, w⟩ := w
    exact w)
theorem rx_callV1v {a : Value} (hg : bm_iv M K pc 11 1) (hst : (st.map fun v => v.category).sum ≤ 8) (hc : rx_Tv G K (.ref rx_o :: [a]) s (fun s2 => rx G M (pc + 3) L st s2 Q)) : rx G M pc L (a :: .ref rx_o :: st) s Q :=
  rx_callV (av := [a]) hg rfl hst (hc.mono fun v s2 w => by
    obtain ⟨rfl, w⟩ := w
    exact w)
theorem rx_callS2 {a b : Value} (hg : bm_is M K pc 2) (hst : (st.map fun v => v.category).sum ≤ 8) (hc : rx_Ti G K [a, b] s (fun x s2 => rx G M (pc + 3) L (.int x :: st) s2 Q)) : rx G M pc L (b :: a :: st) s Q :=
  rx_callS (av := [a, b]) hg rfl hst (hc.mono fun v s2 w => by
    obtain ⟨x, rfl, w⟩ := w
    exact w)
theorem rx_callV2 {a b : Value} (hg : bm_iv M K pc 11 2) (hst : (st.map fun v => v.category).sum ≤ 8) (hc : rx_Ti G K (.ref rx_o :: [a, b]) s (fun x s2 => rx G M (pc + 3) L (.int x :: st) s2 Q)) : rx G M pc L (b :: a :: .ref rx_o :: st) s Q :=
  rx_callV (av := [a, b]) hg rfl hst (hc.mono fun v s2 w => by
    obtain ⟨x, rfl, w⟩ := w
    exact w)
theorem rx_callS2v {a b : Value} (hg : bm_is M K pc 2) (hst : (st.map fun v => v.category).sum ≤ 8) (hc : rx_Tv G K [a, b] s (fun s2 => rx G M (pc + 3) L st s2 Q)) : rx G M pc L (b :: a :: st) s Q :=
  rx_callS (av := [a, b]) hg rfl hst (hc.mono fun v s2 w => by
    obtain ⟨rfl, w⟩ := w
    exact w)
theorem rx_callV2v {a b : Value} (hg : bm_iv M K pc 11 2) (hst : (st.map fun v => v.category).sum ≤ 8) (hc : rx_Tv G K (.ref rx_o :: [a, b]) s (fun s2 => rx G M (pc + 3) L st s2 Q)) : rx G M pc L (b :: a :: .ref rx_o :: st) s Q :=
  rx_callV (av := [a, b]) hg rfl hst (hc.mono fun v s2 w => by
    obtain ⟨rfl, w⟩ := w
    exact w)
theorem rx_callS3 {a b c : Value} (hg : bm_is M K pc 3) (hst : (st.map fun v => v.category).sum ≤ 8) (hc : rx_Ti G K [a, b, c] s (fun x s2 => rx G M (pc + 3) L (.int x :: st) s2 Q)) : rx G M pc L (c :: b :: a :: st) s Q :=
  rx_callS (av := [a, b, c]) hg rfl hst (hc.mono fun v s2 w => by
    obtain ⟨x, rfl, w⟩ := w
    exact w)
theorem rx_callV3 {a b c : Value} (hg : bm_iv M K pc 11 3) (hst : (st.map fun v => v.category).sum ≤ 8) (hc : rx_Ti G K (.ref rx_o :: [a, b, c]) s (fun x s2 => rx G M (pc + 3) L (.int x :: st) s2 Q)) : rx G M pc L (c :: b :: a :: .ref rx_o :: st) s Q :=
  rx_callV (av := [a, b, c]) hg rfl hst (hc.mono fun v s2 w => by
    obtain ⟨x, rfl, w⟩ := w
    exact w)
theorem rx_callS3v {a b c : Value} (hg : bm_is M K pc 3) (hst : (st.map fun v => v.category).sum ≤ 8) (hc : rx_Tv G K [a, b, c] s (fun s2 => rx G M (pc + 3) L st s2 Q)) : rx G M pc L (c :: b :: a :: st) s Q :=
  rx_callS (av := [a, b, c]) hg rfl hst (hc.mono fun v s2 w => by
    obtain ⟨rfl, w⟩ := w
    exact w)
theorem rx_callV3v {a b c : Value} (hg : bm_iv M K pc 11 3) (hst : (st.map fun v => v.category).sum ≤ 8) (hc : rx_Tv G K (.ref rx_o :: [a, b, c]) s (fun s2 => rx G M (pc + 3) L st s2 Q)) : rx G M pc L (c :: b :: a :: .ref rx_o :: st) s Q :=
  rx_callV (av := [a, b, c]) hg rfl hst (hc.mono fun v s2 w => by
    obtain ⟨rfl, w⟩ := w
    exact w)
theorem rx_callS4 {a b c d : Value} (hg : bm_is M K pc 4) (hst : (st.map fun v => v.category).sum ≤ 8) (hc : rx_Ti G K [a, b, c, d] s (fun x s2 => rx G M (pc + 3) L (.int x :: st) s2 Q)) : rx G M pc L (d :: c :: b :: a :: st) s Q :=
  rx_callS (av := [a, b, c, d]) hg rfl hst (hc.mono fun v s2 w => by
    obtain ⟨x, rfl, w⟩ := w
    exact w)
theorem rx_callV4 {a b c d : Value} (hg : bm_iv M K pc 11 4) (hst : (st.map fun v => v.category).sum ≤ 8) (hc : rx_Ti G K (.ref rx_o :: [a, b, c, d]) s (fun x s2 => rx G M (pc + 3) L (.int x :: st) s2 Q)) : rx G M pc L (d :: c :: b :: a :: .ref rx_o :: st) s Q :=
  rx_callV (av := [a, b, c, d]) hg rfl hst (hc.mono fun v s2 w => by
    obtain ⟨x, rfl, w⟩ := w
    exact w)
theorem rx_callS4v {a b c d : Value} (hg : bm_is M K pc 4) (hst : (st.map fun v => v.category).sum ≤ 8) (hc : rx_Tv G K [a, b, c, d] s (fun s2 => rx G M (pc + 3) L st s2 Q)) : rx G M pc L (d :: c :: b :: a :: st) s Q :=
  rx_callS (av := [a, b, c, d]) hg rfl hst (hc.mono fun v s2 w => by
    obtain ⟨rfl, w⟩ := w
    exact w)
theorem rx_callV4v {a b c d : Value} (hg : bm_iv M K pc 11 4) (hst : (st.map fun v => v.category).sum ≤ 8) (hc : rx_Tv G K (.ref rx_o :: [a, b, c, d]) s (fun s2 => rx G M (pc + 3) L st s2 Q)) : rx G M pc L (d :: c :: b :: a :: .ref rx_o :: st) s Q :=
  rx_callV (av := [a, b, c, d]) hg rfl hst (hc.mono fun v s2 w => by
    obtain ⟨rfl, w⟩ := w
    exact w)
theorem rx_callS5 {a b c d e : Value} (hg : bm_is M K pc 5) (hst : (st.map fun v => v.category).sum ≤ 8) (hc : rx_Ti G K [a, b, c, d, e] s (fun x s2 => rx G M (pc + 3) L (.int x :: st) s2 Q)) : rx G M pc L (e :: d :: c :: b :: a :: st) s Q :=
  rx_callS (av := [a, b, c, d, e]) hg rfl hst (hc.mono fun v s2 w => by
    obtain ⟨x, rfl, w⟩ := w
    exact w)
theorem rx_callV5 {a b c d e : Value} (hg : bm_iv M K pc 11 5) (hst : (st.map fun v => v.category).sum ≤ 8) (hc : rx_Ti G K (.ref rx_o :: [a, b, c, d, e]) s (fun x s2 => rx G M (pc + 3) L (.int x :: st) s2 Q)) : rx G M pc L (e :: d :: c :: b :: a :: .ref rx_o :: st) s Q :=
  rx_callV (av := [a, b, c, d, e]) hg rfl hst (hc.mono fun v s2 w => by
    obtain ⟨x, rfl, w⟩ := w
    exact w)
theorem rx_callS5v {a b c d e : Value} (hg : bm_is M K pc 5) (hst : (st.map fun v => v.category).sum ≤ 8) (hc : rx_Tv G K [a, b, c, d, e] s (fun s2 => rx G M (pc + 3) L st s2 Q)) : rx G M pc L (e :: d :: c :: b :: a :: st) s Q :=
  rx_callS (av := [a, b, c, d, e]) hg rfl hst (hc.mono fun v s2 w => by
    obtain ⟨rfl, w⟩ := w
    exact w)
theorem rx_callV5v {a b c d e : Value} (hg : bm_iv M K pc 11 5) (hst : (st.map fun v => v.category).sum ≤ 8) (hc : rx_Tv G K (.ref rx_o :: [a, b, c, d, e]) s (fun s2 => rx G M (pc + 3) L st s2 Q)) : rx G M pc L (e :: d :: c :: b :: a :: .ref rx_o :: st) s Q :=
  rx_callV (av := [a, b, c, d, e]) hg rfl hst (hc.mono fun v s2 w => by
    obtain ⟨rfl, w⟩ := w
    exact w)
theorem rx_zif_eq {p : Prop} [Decidable p] {off : Int} {tgt : Nat} (hd : decode M.2.1 pc = .ok (.ifCond .eq off, 3)) (ht : (pc : Int) + off = (tgt : Int)) (kt : ¬ p → rx G M tgt L st s Q) (kf : p → rx G M (pc + 3) L st s Q) : rx G M pc L (.int (zI p) :: st) s Q :=
  rx_if_eq hd ht (fun q => kt (zI_eq0.mp q)) (fun q => kf (by by_cases h : p; exact h; exact absurd (zI_eq0.mpr h) q))
theorem rx_zif_ne {p : Prop} [Decidable p] {off : Int} {tgt : Nat} (hd : decode M.2.1 pc = .ok (.ifCond .ne off, 3)) (ht : (pc : Int) + off = (tgt : Int)) (kt : p → rx G M tgt L st s Q) (kf : ¬ p → rx G M (pc + 3) L st s Q) : rx G M pc L (.int (zI p) :: st) s Q :=
  rx_if_ne hd ht (fun q => kt (by by_cases h : p; exact h; exact absurd (zI_eq0.mpr h) q)) (fun q => kf (zI_eq0.mp q))
theorem zq1 {p : Prop} [Decidable p] {Q : Int32 → rx_S → Prop} (hq : Q (zI p) s) (h : p) : Q (nI 1) s := by rw [zI_t h] at hq; exact hq
theorem zq0 {p : Prop} [Decidable p] {Q : Int32 → rx_S → Prop} (hq : Q (zI p) s) (h : ¬ p) : Q (nI 0) s := by rw [zI_f h] at hq; exact hq
/-- a number in a range, as a Nat -/
theorem ix_of {x : Int32} (n : Nat) {M : Int32} (hM : M.toInt = n) (h : 0 ≤ x ∧ x ≤ M) : ∃ j, j < n + 1 ∧ x = nI j ∧ x.toNatClampNeg = j := by
  obtain ⟨j, hj, rfl⟩ := nI_of2 hM (Int32.not_lt.mpr h.1) h.2
  have h31 : n < 2 ^ 31 := by
    have := Int32.toInt_lt M
    omega
  exact ⟨j, by omega, rfl, nI_clamp (by omega)⟩
end RX2
