/-! the line is served -/
section CLM
variable {f : Nat} {K : kx} {W : Nat → Nat → Nat} {bd : Nat} {c : cx_S} {s : rx_S}
/-- how many of the line's first j wait -/
def wp (K : kx) (st : Nat → Int32) : Nat → Nat
  | 0 => 0
  | j + 1 => wp K st j + if st (kN K j) = nI 1 then 1 else 0
def nwp (K : kx) (st : Nat → Int32) (j : Nat) : List Nat := ((List.range j).map (kN K)).filter (fun t => st t == nI 1)
theorem nwp_s {st : Nat → Int32} {j : Nat} : nwp K st (j + 1) = nwp K st j ++ if st (kN K j) = nI 1 then [kN K j] else [] := by
  unfold nwp
  rw [List.range_succ, List.map_append, List.filter_append]
  congr 1
  by_cases e : st (kN K j) = nI 1
  · rw [if_pos e]; simp [e]
  · rw [if_neg e]; simp [e]
theorem nwp_len {st : Nat → Int32} : ∀ j, (nwp K st j).length = wp K st j := by
  intro j
  induction j with
  | zero => rfl
  | succ j ih =>
    rw [nwp_s, List.length_append, ih, wp]
    split <;> rfl
theorem nwp_at {st : Nat → Int32} {j : Nat} (hj : st (kN K j) = nI 1) : ∀ d, (nwp K st (j + 1 + d)).getD (wp K st j) 0 = kN K j ∧ wp K st j < (nwp K st (j + 1 + d)).length := by
  intro d
  induction d with
  | zero =>
    have e : nwp K st (j + 1 + 0) = nwp K st j ++ [kN K j] := by rw [Nat.add_zero, nwp_s, if_pos hj]
    rw [e]
    refine ⟨?_, ?_⟩
    · rw [← nwp_len]; exact getD_app2
    · rw [List.length_append, nwp_len]; simp
  | succ d ih =>
    rw [← Nat.add_assoc, nwp_s]
    by_cases e : st (kN K (j + 1 + d)) = nI 1
    · rw [if_pos e, getD_app1 ih.2, List.length_append]
      exact ⟨ih.1, by have := ih.2; omega⟩
    · rw [if_neg e, List.append_nil]; exact ih
def acc (K : kx) (s : rx_S) : Nat → Nat
  | 0 => 0
  | j + 1 => if s 18 (kN K j) = nI 1 then acc K s j ||| nd s (nt (s 16 (kN K j))) else acc K s j
def Ok (s : rx_S) (t B : Nat) : Prop := ∀ g, g < 3 → okG s (nt (s 16 t)) B g
def Fl (K : kx) (s : rx_S) (i : Nat) : Prop := ∀ j, j < i → s 18 (kN K j) = nI 1 → ¬ Ok s (kN K j) (acc K s j)
theorem Ok_iff (hI : Iv K W bd s) {t B : Nat} (ht : t < nt (s 15 0)) (hB : B < 8) : Ok s t B ↔ (B &&& nd s (nt (s 16 t)) = 0 ∧ ∀ g, g < 3 → nR s (nt (s 16 t)) g ≤ nF s g) := by
  obtain ⟨n1, n2⟩ := nd_ok hI.i6 (hI.ib t ht).1.lt
  rw [bt3 _ hB _ n1]
  constructor
  · intro z
    refine ⟨fun q hq w => (z q hq ((n2 q hq).mp w.2)).1 w.1, fun g hg => ?_⟩
    by_cases e : 0 < nR s (nt (s 16 t)) g
    · exact (z g hg e).2
    · omega
  · rintro ⟨z1, z2⟩ g hg e
    exact ⟨fun w => z1 g hg ⟨w, (n2 g hg).mpr e⟩, z2 g hg⟩
theorem acc_lt (hI : Iv K W bd s) : ∀ j, j ≤ kM K → acc K s j < 8 := by
  intro j
  induction j with
  | zero => intro _; rw [acc]; decide
  | succ j ih =>
    intro hj
    have a := ih (by omega)
    rw [acc]
    split
    · exact (bn5 _ a _ (nd_ok hI.i6 (hI.ib _ (hI.ln.2.1 j (by omega))).1.lt).1).1
    · exact a
theorem line_at (hI : Iv K W bd s) {j : Nat} (hj : j < kM K) (hw : s 18 (kN K j) = nI 1) : s 29 (wp K (s 18) j) = nI (kN K j) ∧ wp K (s 18) j < wp K (s 18) (kM K) ∧ wp K (s 18) (kM K) ≤ 16 := by
  have a := nwp_at (K := K) hw (kM K - (j + 1))
  rw [show j + 1 + (kM K - (j + 1)) = kM K by omega] at a
  have l := nw_len hI.ln
  have l2 : (nwp K (s 18) (kM K)).length ≤ 16 := l.1
  have e := hI.ln.2.2.2.2.2 (wp K (s 18) j) a.2
  refine ⟨by rw [e]; exact congrArg nI a.1, by have := a.2; rw [nwp_len] at this; exact this, by rw [nwp_len] at l2; exact l2⟩
theorem line_n (hI : Iv K W bd s) : s 28 0 = nI (wp K (s 18) (kM K)) := by
  rw [hI.ln.2.2.2.2.1]
  show nI (nwp K (s 18) (kM K)).length = _
  rw [nwp_len]
theorem wait_22 (hI : Iv K W bd s) {t : Nat} (ht : t < nt (s 15 0)) (hw : s 18 t = nI 1) : s 19 t = nI 0 ∧ ∀ k, k < 3 → s 22 (3 * t + k) = -1 := by
  rcases (hI.ib t ht).2.2.2.2.2.1 with z | z | z | z
  · rw [hw] at z; exact absurd z (by decide)
  · rw [hw] at z; exact absurd z (by decide)
  · rw [hw] at z; exact absurd z (by decide)
  · exact z
/-- the ones that cannot: the reference goes past them -/
theorem pass_M (h : CRep K c s) (hI : Iv K W bd s) (hf : 2 ^ 31 ≤ f) {kk : Int32 → rx_S → Option (Int32 × rx_S)} : ∀ j, j ≤ kM K → Fl K s j → ∀ n, D_M_claim_12 f kk (n + wp K (s 18) j) (nI 0) (nI 0) (nI 0) s = D_M_claim_12 f kk n (nI 0) (nI (acc K s j)) (nI (wp K (s 18) j)) s := by
  intro j
  induction j with
  | zero => intro _ _ n; rfl
  | succ j ih =>
    intro hj hF n
    have t15 := hI.ln.2.1 j (by omega)
    have t16 := hI.t16 t15
    rw [wp, acc]
    by_cases hw : s 18 (kN K j) = nI 1
    · rw [if_pos hw, if_pos hw, show n + (wp K (s 18) j + 1) = (n + 1) + wp K (s 18) j by omega, ih (by omega) (fun q hq => hF q (by omega)) (n + 1)]
      obtain ⟨l1, l2, l3⟩ := line_at hI (show j < kM K by omega) hw
      have nf := hF j (by omega) hw
      have aB := acc_lt hI j (by omega)
      rw [Ok_iff hI t15 aB] at nf
      have b := (hI.ib _ t15).1
      obtain ⟨n1, n2⟩ := nd_ok hI.i6 b.lt
      have nm := needs_M (f := f) hI.i6 hf t16 b
      have w22 := wait_22 hI t15 hw
      rw [D_M_claim_12, line_n hI, if_neg (nI_ge l2 (by omega)), if_pos (show nI 0 = 0 from rfl), b_og (by omega) (by decide), l1, nm, b_ob]
      simp only [b_oj]
      have tail : (ob (D_M_needs f (nI (kN K j)) s) fun x7 s8 => if nI 0 = 0 then D_M_claim_12 f kk n (nI 0) (nI (acc K s j) ||| x7) (nI (wp K (s 18) j) + nI 1) s8 else ob (D_M_leaveLine f (nI (kN K j)) s8) fun x11 s12 => og 16 (nI (kN K j)) fun j13 => og 128 ((nI 8) * (nI (kN K j))) fun j14 => ob (D_M_move f (nI (kN K j)) (rx_up (rx_up (rx_up (rx_up s12 18 j13 (nI 2)) 19 j13 (nI 1)) 23 j14 (nI 0)) 26 j14 (nI 0))) fun x15 s16 => D_M_claim_12 f kk n (nI 0) (nI (acc K s j) ||| x7) (nI (wp K (s 18) j) + nI 1) s16) = D_M_claim_12 f kk n (nI 0) (nI (acc K s j ||| nd s (nt (s 16 (kN K j))))) (nI (wp K (s 18) j + 1)) s := by
        rw [nm, b_ob, if_pos (show nI 0 = 0 from rfl), ib_or _ aB _ n1, nI_add]
      by_cases e : acc K s j &&& nd s (nt (s 16 (kN K j))) = 0
      · rw [if_pos (by rw [ib_and _ aB _ n1]; exact e)]
        rcases claim_one (f := f) h hI hf t15 w22.2 with ⟨_, q⟩ | ⟨q, _⟩
        · rw [q, b_ob, if_pos (show nI 0 = 0 from rfl)]
          exact tail
        · exact absurd ⟨e, q⟩ nf
      · rw [if_neg (by rw [ib_and _ aB _ n1]; exact e)]
        exact tail
    · rw [if_neg hw, if_neg hw]
      exact ih (by omega) (fun q hq => hF q (by omega)) n
end CLM
