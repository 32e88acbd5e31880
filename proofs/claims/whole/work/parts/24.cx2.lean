theorem cx_hst {st : List Value} (h : ∀ v ∈ st, v.category = 1) (hl : st.length ≤ 8) : (st.map fun v => v.category).sum ≤ 8 := by
  have e : (st.map fun v => v.category).sum = st.length := by
    induction st with
    | nil => rfl
    | cons v t ih =>
      rw [List.map_cons, List.sum_cons, h v (List.mem_cons_self ..), ih (fun w hw => h w (List.mem_cons_of_mem _ hw)) (by simp at hl; omega), List.length_cons]; omega
  omega
section CX2
variable {G : bm_G} {M K : bm_M} {pc : Nat} {L L' : bm_L} {st : List Value} {s : cx_S} {Q : bm_R → cx_S → Prop}
def cx_Ti (G : bm_G) (M : bm_M) (av : List Value) (s : cx_S) (Q : Int32 → cx_S → Prop) : Prop := cx_T G M av s (fun v s2 => ∃ x, v = some (.int x) ∧ Q x s2)
def cx_Tr (G : bm_G) (M : bm_M) (av : List Value) (s : cx_S) (Q : Option Nat → cx_S → Prop) : Prop := cx_T G M av s (fun v s2 => ∃ x, v = some (va_rf x) ∧ Q x s2)
def cx_Tv (G : bm_G) (M : bm_M) (av : List Value) (s : cx_S) (Q : cx_S → Prop) : Prop := cx_T G M av s (fun v s2 => v = none ∧ Q s2)
theorem cx_meti {av : List Value} {Q : Int32 → cx_S → Prop} (hy : plainName M.1.cls = true) (hc : ∀ v ∈ av, v.category = 1) (hn : av.length ≤ M.2.2.1)
    (k : cx G M 0 (av.map some ++ List.replicate (M.2.2.1 - av.length) none) [] s (fun r s2 => ∃ x, r = .inl (some (.int x)) ∧ Q x s2)) : cx_Ti G M av s Q :=
  cx_met hy hc hn (k.mono fun r s2 w => by
    obtain ⟨x, e, q⟩ := w
    exact ⟨_, e, x, rfl, q⟩)
theorem cx_metr {av : List Value} {Q : Option Nat → cx_S → Prop} (hy : plainName M.1.cls = true) (hc : ∀ v ∈ av, v.category = 1) (hn : av.length ≤ M.2.2.1)
    (k : cx G M 0 (av.map some ++ List.replicate (M.2.2.1 - av.length) none) [] s (fun r s2 => ∃ x, r = .inl (some (va_rf x)) ∧ Q x s2)) : cx_Tr G M av s Q :=
  cx_met hy hc hn (k.mono fun r s2 w => by
    obtain ⟨x, e, q⟩ := w
    exact ⟨_, e, x, rfl, q⟩)
theorem cx_metv {av : List Value} {Q : cx_S → Prop} (hy : plainName M.1.cls = true) (hc : ∀ v ∈ av, v.category = 1) (hn : av.length ≤ M.2.2.1)
    (k : cx G M 0 (av.map some ++ List.replicate (M.2.2.1 - av.length) none) [] s (fun r s2 => r = .inl none ∧ Q s2)) : cx_Tv G M av s Q :=
  cx_met hy hc hn (k.mono fun r s2 w => ⟨_, w.1, rfl, w.2⟩)
theorem cx_iincP {i : Nat} {x : Int32} (hd : decode M.2.1 pc = .ok (.iinc i 1, 3)) (hn : i < M.2.2.1) (hl : L[i]? = some (some (.int x))) (k : cx G M (pc + 3) (L.set i (some (.int (x + nI 1)))) st s Q) : cx G M pc L st s Q := cx_iinc hd hn hl (by rw [ox_p1]; exact k)
theorem cx_iincM {i : Nat} {x : Int32} (hd : decode M.2.1 pc = .ok (.iinc i (-1), 3)) (hn : i < M.2.2.1) (hl : L[i]? = some (some (.int x))) (k : cx G M (pc + 3) (L.set i (some (.int (x - nI 1)))) st s Q) : cx G M pc L st s Q := cx_iinc hd hn hl (by rw [ox_m1]; exact k)
theorem cx_tab {d hi : Int} {offs : Array Int} {len : Nat} {x : Int32} {off : Int} {tgt : Nat} (hd : decode M.2.1 pc = .ok (.tableswitch d 0 hi offs, len)) (i : Nat) (hx : x = nI i) (hi1 : i < 2 ^ 31) (h2 : ¬ hi < (i : Int)) (ho : offs[i]? = some off) (ht : (pc : Int) + off = (tgt : Int)) (k : cx G M tgt L st s Q) : cx G M pc L (.int x :: st) s Q := by
  subst hx
  refine cx_tableIn hd ?_ ?_ (off := off) ?_ ht k
  · rw [nI_toInt hi1]; omega
  · rw [nI_toInt hi1]; exact h2
  · rw [nI_toInt hi1]
    rw [show ((i : Int) - 0).toNat = i from by omega]
    exact ho
theorem cx_tabL {d hi : Int} {lo : Nat} {offs : Array Int} {len : Nat} {x : Int32} {off : Int} {tgt : Nat} (hd : decode M.2.1 pc = .ok (.tableswitch d (lo : Int) hi offs, len)) (i : Nat) (hx : x = nI i) (hi1 : i < 2 ^ 31) (h1 : lo ≤ i) (h2 : ¬ hi < (i : Int)) (ho : offs[i - lo]? = some off) (ht : (pc : Int) + off = (tgt : Int)) (k : cx G M tgt L st s Q) : cx G M pc L (.int x :: st) s Q := by
  subst hx
  refine cx_tableIn hd ?_ ?_ (off := off) ?_ ht k
  · rw [nI_toInt hi1]; omega
  · rw [nI_toInt hi1]; exact h2
  · rw [nI_toInt hi1]
    rw [show ((i : Int) - (lo : Int)).toNat = i - lo from by omega]
    exact ho
theorem cx_look {d : Int} {ps : Array (Int × Int)} {len : Nat} {x : Int32} {tgt : Nat} (off : Int) (hd : decode M.2.1 pc = .ok (.lookupswitch d ps, len)) (hp : (ps.toList.zip (ps.toList.drop 1)).all (fun (a, next) => a.1 < next.1) = true) (ho : Op.lookupswitch.offset ps.toList d x.toInt = off) (ht : (pc : Int) + off = (tgt : Int)) (k : cx G M tgt L st s Q) : cx G M pc L (.int x :: st) s Q := cx_lookup hd hp ho ht k
theorem cx_ldc {idx : Nat} {v : Int32} (hd : decode M.2.1 pc = .ok (.ldc idx, 2)) (hw : Cond.constant M.1.cls idx v ∈ bm_Ts) (k : cx G M (pc + 2) L (.int v :: st) s Q) : cx G M pc L st s Q := fun h0 hr => bm_ldc hd hw (k h0 hr)
theorem cx_gets {idx : Nat} (hd : decode M.2.1 pc = .ok (.getstatic idx, 3)) (hw : Cond.fieldLinkNest M.1.cls idx "BatchHall" "NO_PARTS" "[I" "BatchHall" ∈ bm_Nx) (k : cx G M (pc + 3) L (va_rf (some 0) :: st) s Q) : cx G M pc L st s Q := fun h0 hr => bm_gets hd hw (k h0 hr)
theorem cx_acmp_eq {o1 o2 : Option Nat} {off : Int} {tgt : Nat} (hd : decode M.2.1 pc = .ok (.if_acmp .eq off, 3)) (ht : (pc : Int) + off = (tgt : Int)) (g1 : ∀ p, o1 = some p → 2 ≤ p) (g2 : ∀ p, o2 = some p → 2 ≤ p) (kt : o1 = o2 → cx G M tgt L st s Q) (kf : ¬ o1 = o2 → cx G M (pc + 3) L st s Q) : cx G M pc L (va_rf o2 :: va_rf o1 :: st) s Q := fun h0 hr => bm_acmp_eq hd ht g1 g2 (fun q => kt q h0 hr) (fun q => kf q h0 hr)
theorem cx_acmp_ne {o1 o2 : Option Nat} {off : Int} {tgt : Nat} (hd : decode M.2.1 pc = .ok (.if_acmp .ne off, 3)) (ht : (pc : Int) + off = (tgt : Int)) (g1 : ∀ p, o1 = some p → 2 ≤ p) (g2 : ∀ p, o2 = some p → 2 ≤ p) (kt : ¬ o1 = o2 → cx G M tgt L st s Q) (kf : o1 = o2 → cx G M (pc + 3) L st s Q) : cx G M pc L (va_rf o2 :: va_rf o1 :: st) s Q := fun h0 hr => bm_acmp_ne hd ht g1 g2 (fun q => kt q h0 hr) (fun q => kf q h0 hr)
theorem cx_min {ix : Nat} {x y : Int32} (hd : decode M.2.1 pc = .ok (.invokestatic ix, 3)) (hl : Cond.methodLink M.1.cls ix me_Z_min.1 ∈ bm_Ts) (hf : 1 ≤ M.2.2.2.2.1) (hlo : 21 ≤ M.2.2.2.2.2) (hst : (st.map fun v => v.category).sum ≤ 8) (k : cx G M (pc + 3) L (.int (if y < x then y else x) :: st) s Q) : cx G M pc L (.int y :: .int x :: st) s Q := fun h0 hr => bm_min hd hl hf hlo hst (k h0 hr)
theorem cx_callV0 {ci p : Nat} {o : Option Nat} (hg : bm_iv M K pc ci 0) (hst : (st.map fun v => v.category).sum ≤ 8) (hci : ci < 400) (eo : o = some p) (hs : cH s p = some (ci, 0)) (hc : cx_Ti G K (va_rf (some p) :: []) s (fun x s2 => cx G M (pc + 3) L (.int x :: st) s2 Q)) : cx G M pc L (va_rf o :: st) s Q :=
  cx_callV (av := []) hg rfl hst hci eo hs (hc.mono fun v s2 w => by
    obtain ⟨x, rfl, w⟩ := w
    exact w)
theorem cx_callV0v {ci p : Nat} {o : Option Nat} (hg : bm_iv M K pc ci 0) (hst : (st.map fun v => v.category).sum ≤ 8) (hci : ci < 400) (eo : o = some p) (hs : cH s p = some (ci, 0)) (hc : cx_Tv G K (va_rf (some p) :: []) s (fun s2 => cx G M (pc + 3) L st s2 Q)) : cx G M pc L (va_rf o :: st) s Q :=
  cx_callV (av := []) hg rfl hst hci eo hs (hc.mono fun v s2 w => by
    obtain ⟨rfl, w⟩ := w
    exact w)
theorem cx_callI0v {p : Nat} {o : Option Nat} (hg : bm_ii M K pc 0) (hst : (st.map fun v => v.category).sum ≤ 8) (eo : o = some p) (hc : cx_Tv G K (va_rf (some p) :: []) s (fun s2 => cx G M (pc + 3) L st s2 Q)) : cx G M pc L (va_rf o :: st) s Q :=
  cx_callI (av := []) hg rfl hst eo (hc.mono fun v s2 w => by
    obtain ⟨rfl, w⟩ := w
    exact w)
theorem cx_callV0r {ci p : Nat} {o : Option Nat} (hg : bm_iv M K pc ci 0) (hst : (st.map fun v => v.category).sum ≤ 8) (hci : ci < 400) (eo : o = some p) (hs : cH s p = some (ci, 0)) (hc : cx_Tr G K (va_rf (some p) :: []) s (fun x s2 => cx G M (pc + 3) L (va_rf x :: st) s2 Q)) : cx G M pc L (va_rf o :: st) s Q :=
  cx_callV (av := []) hg rfl hst hci eo hs (hc.mono fun v s2 w => by
    obtain ⟨x, rfl, w⟩ := w
    exact w)
theorem cx_callS1 {a : Value} (hg : bm_is M K pc 1) (hst : (st.map fun v => v.category).sum ≤ 8) (hc : cx_Ti G K [a] s (fun x s2 => cx G M (pc + 3) L (.int x :: st) s2 Q)) : cx G M pc L (a :: st) s Q :=
  cx_callS (av := [a]) hg rfl hst (hc.mono fun v s2 w => by
    obtain ⟨x, rfl, w⟩ := w
    exact w)
theorem cx_callV1 {a : Value} {ci p : Nat} {o : Option Nat} (hg : bm_iv M K pc ci 1) (hst : (st.map fun v => v.category).sum ≤ 8) (hci : ci < 400) (eo : o = some p) (hs : cH s p = some (ci, 0)) (hc : cx_Ti G K (va_rf (some p) :: [a]) s (fun x s2 => cx G M (pc + 3) L (.int x :: st) s2 Q)) : cx G M pc L (a :: va_rf o :: st) s Q :=
  cx_callV (av := [a]) hg rfl hst hci eo hs (hc.mono fun v s2 w => by
    obtain ⟨x, rfl, w⟩ := w
    exact w)
theorem cx_callS1v {a : Value} (hg : bm_is M K pc 1) (hst : (st.map fun v => v.category).sum ≤ 8) (hc : cx_Tv G K [a] s (fun s2 => cx G M (pc + 3) L st s2 Q)) : cx G M pc L (a :: st) s Q :=
  cx_callS (av := [a]) hg rfl hst (hc.mono fun v s2 w => by
    obtain ⟨rfl, w⟩ := w
    exact w)
theorem cx_callV1v {a : Value} {ci p : Nat} {o : Option Nat} (hg : bm_iv M K pc ci 1) (hst : (st.map fun v => v.category).sum ≤ 8) (hci : ci < 400) (eo : o = some p) (hs : cH s p = some (ci, 0)) (hc : cx_Tv G K (va_rf (some p) :: [a]) s (fun s2 => cx G M (pc + 3) L st s2 Q)) : cx G M pc L (a :: va_rf o :: st) s Q :=
  cx_callV (av := [a]) hg rfl hst hci eo hs (hc.mono fun v s2 w => by
    obtain ⟨rfl, w⟩ := w
    exact w)
theorem cx_callI1v {a : Value} {p : Nat} {o : Option Nat} (hg : bm_ii M K pc 1) (hst : (st.map fun v => v.category).sum ≤ 8) (eo : o = some p) (hc : cx_Tv G K (va_rf (some p) :: [a]) s (fun s2 => cx G M (pc + 3) L st s2 Q)) : cx G M pc L (a :: va_rf o :: st) s Q :=
  cx_callI (av := [a]) hg rfl hst eo (hc.mono fun v s2 w => by
    obtain ⟨rfl, w⟩ := w
    exact w)
theorem cx_callS1r {a : Value} (hg : bm_is M K pc 1) (hst : (st.map fun v => v.category).sum ≤ 8) (hc : cx_Tr G K [a] s (fun x s2 => cx G M (pc + 3) L (va_rf x :: st) s2 Q)) : cx G M pc L (a :: st) s Q :=
  cx_callS (av := [a]) hg rfl hst (hc.mono fun v s2 w => by
    obtain ⟨x, rfl, w⟩ := w
    exact w)
theorem cx_callV1r {a : Value} {ci p : Nat} {o : Option Nat} (hg : bm_iv M K pc ci 1) (hst : (st.map fun v => v.category).sum ≤ 8) (hci : ci < 400) (eo : o = some p) (hs : cH s p = some (ci, 0)) (hc : cx_Tr G K (va_rf (some p) :: [a]) s (fun x s2 => cx G M (pc + 3) L (va_rf x :: st) s2 Q)) : cx G M pc L (a :: va_rf o :: st) s Q :=
  cx_callV (av := [a]) hg rfl hst hci eo hs (hc.mono fun v s2 w => by
    obtain ⟨x, rfl, w⟩ := w
    exact w)
theorem cx_callS2 {a b : Value} (hg : bm_is M K pc 2) (hst : (st.map fun v => v.category).sum ≤ 8) (hc : cx_Ti G K [a, b] s (fun x s2 => cx G M (pc + 3) L (.int x :: st) s2 Q)) : cx G M pc L (b :: a :: st) s Q :=
  cx_callS (av := [a, b]) hg rfl hst (hc.mono fun v s2 w => by
    obtain ⟨x, rfl, w⟩ := w
    exact w)
theorem cx_callV2 {a b : Value} {ci p : Nat} {o : Option Nat} (hg : bm_iv M K pc ci 2) (hst : (st.map fun v => v.category).sum ≤ 8) (hci : ci < 400) (eo : o = some p) (hs : cH s p = some (ci, 0)) (hc : cx_Ti G K (va_rf (some p) :: [a, b]) s (fun x s2 => cx G M (pc + 3) L (.int x :: st) s2 Q)) : cx G M pc L (b :: a :: va_rf o :: st) s Q :=
  cx_callV (av := [a, b]) hg rfl hst hci eo hs (hc.mono fun v s2 w => by
    obtain ⟨x, rfl, w⟩ := w
    exact w)
theorem cx_callS2v {a b : Value} (hg : bm_is M K pc 2) (hst : (st.map fun v => v.category).sum ≤ 8) (hc : cx_Tv G K [a, b] s (fun s2 => cx G M (pc + 3) L st s2 Q)) : cx G M pc L (b :: a :: st) s Q :=
  cx_callS (av := [a, b]) hg rfl hst (hc.mono fun v s2 w => by
    obtain ⟨rfl, w⟩ := w
    exact w)
theorem cx_callV2v {a b : Value} {ci p : Nat} {o : Option Nat} (hg : bm_iv M K pc ci 2) (hst : (st.map fun v => v.category).sum ≤ 8) (hci : ci < 400) (eo : o = some p) (hs : cH s p = some (ci, 0)) (hc : cx_Tv G K (va_rf (some p) :: [a, b]) s (fun s2 => cx G M (pc + 3) L st s2 Q)) : cx G M pc L (b :: a :: va_rf o :: st) s Q :=
  cx_callV (av := [a, b]) hg rfl hst hci eo hs (hc.mono fun v s2 w => by
    obtain ⟨rfl, w⟩ := w
    exact w)
theorem cx_callI2v {a b : Value} {p : Nat} {o : Option Nat} (hg : bm_ii M K pc 2) (hst : (st.map fun v => v.category).sum ≤ 8) (eo : o = some p) (hc : cx_Tv G K (va_rf (some p) :: [a, b]) s (fun s2 => cx G M (pc + 3) L st s2 Q)) : cx G M pc L (b :: a :: va_rf o :: st) s Q :=
  cx_callI (av := [a, b]) hg rfl hst eo (hc.mono fun v s2 w => by
    obtain ⟨rfl, w⟩ := w
    exact w)
theorem cx_callS2r {a b : Value} (hg : bm_is M K pc 2) (hst : (st.map fun v => v.category).sum ≤ 8) (hc : cx_Tr G K [a, b] s (fun x s2 => cx G M (pc + 3) L (va_rf x :: st) s2 Q)) : cx G M pc L (b :: a :: st) s Q :=
  cx_callS (av := [a, b]) hg rfl hst (hc.mono fun v s2 w => by
    obtain ⟨x, rfl, w⟩ := w
    exact w)
theorem cx_callV2r {a b : Value} {ci p : Nat} {o : Option Nat} (hg : bm_iv M K pc ci 2) (hst : (st.map fun v => v.category).sum ≤ 8) (hci : ci < 400) (eo : o = some p) (hs : cH s p = some (ci, 0)) (hc : cx_Tr G K (va_rf (some p) :: [a, b]) s (fun x s2 => cx G M (pc + 3) L (va_rf x :: st) s2 Q)) : cx G M pc L (b :: a :: va_rf o :: st) s Q :=
  cx_callV (av := [a, b]) hg rfl hst hci eo hs (hc.mono fun v s2 w => by
    obtain ⟨x, rfl, w⟩ := w
    exact w)
theorem cx_callS3 {a b c : Value} (hg : bm_is M K pc 3) (hst : (st.map fun v => v.category).sum ≤ 8) (hc : cx_Ti G K [a, b, c] s (fun x s2 => cx G M (pc + 3) L (.int x :: st) s2 Q)) : cx G M pc L (c :: b :: a :: st) s Q :=
  cx_callS (av := [a, b, c]) hg rfl hst (hc.mono fun v s2 w => by
    obtain ⟨x, rfl, w⟩ := w
    exact w)
theorem cx_callV3 {a b c : Value} {ci p : Nat} {o : Option Nat} (hg : bm_iv M K pc ci 3) (hst : (st.map fun v => v.category).sum ≤ 8) (hci : ci < 400) (eo : o = some p) (hs : cH s p = some (ci, 0)) (hc : cx_Ti G K (va_rf (some p) :: [a, b, c]) s (fun x s2 => cx G M (pc + 3) L (.int x :: st) s2 Q)) : cx G M pc L (c :: b :: a :: va_rf o :: st) s Q :=
  cx_callV (av := [a, b, c]) hg rfl hst hci eo hs (hc.mono fun v s2 w => by
    obtain ⟨x, rfl, w⟩ := w
    exact w)
theorem cx_callS3v {a b c : Value} (hg : bm_is M K pc 3) (hst : (st.map fun v => v.category).sum ≤ 8) (hc : cx_Tv G K [a, b, c] s (fun s2 => cx G M (pc + 3) L st s2 Q)) : cx G M pc L (c :: b :: a :: st) s Q :=
  cx_callS (av := [a, b, c]) hg rfl hst (hc.mono fun v s2 w => by
    obtain ⟨rfl, w⟩ := w
    exact w)
theorem cx_callV3v {a b c : Value} {ci p : Nat} {o : Option Nat} (hg : bm_iv M K pc ci 3) (hst : (st.map fun v => v.category).sum ≤ 8) (hci : ci < 400) (eo : o = some p) (hs : cH s p = some (ci, 0)) (hc : cx_Tv G K (va_rf (some p) :: [a, b, c]) s (fun s2 => cx G M (pc + 3) L st s2 Q)) : cx G M pc L (c :: b :: a :: va_rf o :: st) s Q :=
  cx_callV (av := [a, b, c]) hg rfl hst hci eo hs (hc.mono fun v s2 w => by
    obtain ⟨rfl, w⟩ := w
    exact w)
theorem cx_callI3v {a b c : Value} {p : Nat} {o : Option Nat} (hg : bm_ii M K pc 3) (hst : (st.map fun v => v.category).sum ≤ 8) (eo : o = some p) (hc : cx_Tv G K (va_rf (some p) :: [a, b, c]) s (fun s2 => cx G M (pc + 3) L st s2 Q)) : cx G M pc L (c :: b :: a :: va_rf o :: st) s Q :=
  cx_callI (av := [a, b, c]) hg rfl hst eo (hc.mono fun v s2 w => by
    obtain ⟨rfl, w⟩ := w
    exact w)
theorem cx_callS3r {a b c : Value} (hg : bm_is M K pc 3) (hst : (st.map fun v => v.category).sum ≤ 8) (hc : cx_Tr G K [a, b, c] s (fun x s2 => cx G M (pc + 3) L (va_rf x :: st) s2 Q)) : cx G M pc L (c :: b :: a :: st) s Q :=
  cx_callS (av := [a, b, c]) hg rfl hst (hc.mono fun v s2 w => by
    obtain ⟨x, rfl, w⟩ := w
    exact w)
theorem cx_callV3r {a b c : Value} {ci p : Nat} {o : Option Nat} (hg : bm_iv M K pc ci 3) (hst : (st.map fun v => v.category).sum ≤ 8) (hci : ci < 400) (eo : o = some p) (hs : cH s p = some (ci, 0)) (hc : cx_Tr G K (va_rf (some p) :: [a, b, c]) s (fun x s2 => cx G M (pc + 3) L (va_rf x :: st) s2 Q)) : cx G M pc L (c :: b :: a :: va_rf o :: st) s Q :=
  cx_callV (av := [a, b, c]) hg rfl hst hci eo hs (hc.mono fun v s2 w => by
    obtain ⟨x, rfl, w⟩ := w
    exact w)
theorem cx_callS4 {a b c d : Value} (hg : bm_is M K pc 4) (hst : (st.map fun v => v.category).sum ≤ 8) (hc : cx_Ti G K [a, b, c, d] s (fun x s2 => cx G M (pc + 3) L (.int x :: st) s2 Q)) : cx G M pc L (d :: c :: b :: a :: st) s Q :=
  cx_callS (av := [a, b, c, d]) hg rfl hst (hc.mono fun v s2 w => by
    obtain ⟨x, rfl, w⟩ := w
    exact w)
theorem cx_callV4 {a b c d : Value} {ci p : Nat} {o : Option Nat} (hg : bm_iv M K pc ci 4) (hst : (st.map fun v => v.category).sum ≤ 8) (hci : ci < 400) (eo : o = some p) (hs : cH s p = some (ci, 0)) (hc : cx_Ti G K (va_rf (some p) :: [a, b, c, d]) s (fun x s2 => cx G M (pc + 3) L (.int x :: st) s2 Q)) : cx G M pc L (d :: c :: b :: a :: va_rf o :: st) s Q :=
  cx_callV (av := [a, b, c, d]) hg rfl hst hci eo hs (hc.mono fun v s2 w => by
    obtain ⟨x, rfl, w⟩ := w
    exact w)
theorem cx_callS4v {a b c d : Value} (hg : bm_is M K pc 4) (hst : (st.map fun v => v.category).sum ≤ 8) (hc : cx_Tv G K [a, b, c, d] s (fun s2 => cx G M (pc + 3) L st s2 Q)) : cx G M pc L (d :: c :: b :: a :: st) s Q :=
  cx_callS (av := [a, b, c, d]) hg rfl hst (hc.mono fun v s2 w => by
    obtain ⟨rfl, w⟩ := w
    exact w)
theorem cx_callV4v {a b c d : Value} {ci p : Nat} {o : Option Nat} (hg : bm_iv M K pc ci 4) (hst : (st.map fun v => v.category).sum ≤ 8) (hci : ci < 400) (eo : o = some p) (hs : cH s p = some (ci, 0)) (hc : cx_Tv G K (va_rf (some p) :: [a, b, c, d]) s (fun s2 => cx G M (pc + 3) L st s2 Q)) : cx G M pc L (d :: c :: b :: a :: va_rf o :: st) s Q :=
  cx_callV (av := [a, b, c, d]) hg rfl hst hci eo hs (hc.mono fun v s2 w => by
    obtain ⟨rfl, w⟩ := w
    exact w)
theorem cx_callI4v {a b c d : Value} {p : Nat} {o : Option Nat} (hg : bm_ii M K pc 4) (hst : (st.map fun v => v.category).sum ≤ 8) (eo : o = some p) (hc : cx_Tv G K (va_rf (some p) :: [a, b, c, d]) s (fun s2 => cx G M (pc + 3) L st s2 Q)) : cx G M pc L (d :: c :: b :: a :: va_rf o :: st) s Q :=
  cx_callI (av := [a, b, c, d]) hg rfl hst eo (hc.mono fun v s2 w => by
    obtain ⟨rfl, w⟩ := w
    exact w)
theorem cx_callS4r {a b c d : Value} (hg : bm_is M K pc 4) (hst : (st.map fun v => v.category).sum ≤ 8) (hc : cx_Tr G K [a, b, c, d] s (fun x s2 => cx G M (pc + 3) L (va_rf x :: st) s2 Q)) : cx G M pc L (d :: c :: b :: a :: st) s Q :=
  cx_callS (av := [a, b, c, d]) hg rfl hst (hc.mono fun v s2 w => by
    obtain ⟨x, rfl, w⟩ := w
    exact w)
theorem cx_callV4r {a b c d : Value} {ci p : Nat} {o : Option Nat} (hg : bm_iv M K pc ci 4) (hst : (st.map fun v => v.category).sum ≤ 8) (hci : ci < 400) (eo : o = some p) (hs : cH s p = some (ci, 0)) (hc : cx_Tr G K (va_rf (some p) :: [a, b, c, d]) s (fun x s2 => cx G M (pc + 3) L (va_rf x :: st) s2 Q)) : cx G M pc L (d :: c :: b :: a :: va_rf o :: st) s Q :=
  cx_callV (av := [a, b, c, d]) hg rfl hst hci eo hs (hc.mono fun v s2 w => by
    obtain ⟨x, rfl, w⟩ := w
    exact w)
theorem cx_callS5 {a b c d e : Value} (hg : bm_is M K pc 5) (hst : (st.map fun v => v.category).sum ≤ 8) (hc : cx_Ti G K [a, b, c, d, e] s (fun x s2 => cx G M (pc + 3) L (.int x :: st) s2 Q)) : cx G M pc L (e :: d :: c :: b :: a :: st) s Q :=
  cx_callS (av := [a, b, c, d, e]) hg rfl hst (hc.mono fun v s2 w => by
    obtain ⟨x, rfl, w⟩ := w
    exact w)
theorem cx_callV5 {a b c d e : Value} {ci p : Nat} {o : Option Nat} (hg : bm_iv M K pc ci 5) (hst : (st.map fun v => v.category).sum ≤ 8) (hci : ci < 400) (eo : o = some p) (hs : cH s p = some (ci, 0)) (hc : cx_Ti G K (va_rf (some p) :: [a, b, c, d, e]) s (fun x s2 => cx G M (pc + 3) L (.int x :: st) s2 Q)) : cx G M pc L (e :: d :: c :: b :: a :: va_rf o :: st) s Q :=
  cx_callV (av := [a, b, c, d, e]) hg rfl hst hci eo hs (hc.mono fun v s2 w => by
    obtain ⟨x, rfl, w⟩ := w
    exact w)
theorem cx_callS5v {a b c d e : Value} (hg : bm_is M K pc 5) (hst : (st.map fun v => v.category).sum ≤ 8) (hc : cx_Tv G K [a, b, c, d, e] s (fun s2 => cx G M (pc + 3) L st s2 Q)) : cx G M pc L (e :: d :: c :: b :: a :: st) s Q :=
  cx_callS (av := [a, b, c, d, e]) hg rfl hst (hc.mono fun v s2 w => by
    obtain ⟨rfl, w⟩ := w
    exact w)
theorem cx_callV5v {a b c d e : Value} {ci p : Nat} {o : Option Nat} (hg : bm_iv M K pc ci 5) (hst : (st.map fun v => v.category).sum ≤ 8) (hci : ci < 400) (eo : o = some p) (hs : cH s p = some (ci, 0)) (hc : cx_Tv G K (va_rf (some p) :: [a, b, c, d, e]) s (fun s2 => cx G M (pc + 3) L st s2 Q)) : cx G M pc L (e :: d :: c :: b :: a :: va_rf o :: st) s Q :=
  cx_callV (av := [a, b, c, d, e]) hg rfl hst hci eo hs (hc.mono fun v s2 w => by
    obtain ⟨rfl, w⟩ := w
    exact w)
theorem cx_callI5v {a b c d e : Value} {p : Nat} {o : Option Nat} (hg : bm_ii M K pc 5) (hst : (st.map fun v => v.category).sum ≤ 8) (eo : o = some p) (hc : cx_Tv G K (va_rf (some p) :: [a, b, c, d, e]) s (fun s2 => cx G M (pc + 3) L st s2 Q)) : cx G M pc L (e :: d :: c :: b :: a :: va_rf o :: st) s Q :=
  cx_callI (av := [a, b, c, d, e]) hg rfl hst eo (hc.mono fun v s2 w => by
    obtain ⟨rfl, w⟩ := w
    exact w)
theorem cx_callS5r {a b c d e : Value} (hg : bm_is M K pc 5) (hst : (st.map fun v => v.category).sum ≤ 8) (hc : cx_Tr G K [a, b, c, d, e] s (fun x s2 => cx G M (pc + 3) L (va_rf x :: st) s2 Q)) : cx G M pc L (e :: d :: c :: b :: a :: st) s Q :=
  cx_callS (av := [a, b, c, d, e]) hg rfl hst (hc.mono fun v s2 w => by
    obtain ⟨x, rfl, w⟩ := w
    exact w)
theorem cx_callV5r {a b c d e : Value} {ci p : Nat} {o : Option Nat} (hg : bm_iv M K pc ci 5) (hst : (st.map fun v => v.category).sum ≤ 8) (hci : ci < 400) (eo : o = some p) (hs : cH s p = some (ci, 0)) (hc : cx_Tr G K (va_rf (some p) :: [a, b, c, d, e]) s (fun x s2 => cx G M (pc + 3) L (va_rf x :: st) s2 Q)) : cx G M pc L (e :: d :: c :: b :: a :: va_rf o :: st) s Q :=
  cx_callV (av := [a, b, c, d, e]) hg rfl hst hci eo hs (hc.mono fun v s2 w => by
    obtain ⟨x, rfl, w⟩ := w
    exact w)
end CX2
theorem sw_outL {x : Int32} (lo n : Nat) (hn : n < 2 ^ 31) (h : ∀ j, lo ≤ j → j ≤ n → ¬ x = nI j) : x.toInt < (lo : Int) ∨ (n : Int) < x.toInt := by
  by_cases h0 : x < 0
  · left
    have := Int32.lt_iff_toInt_lt.mp h0
    have e : (0 : Int32).toInt = 0 := by decide
    omega
  · obtain ⟨j, hj, rfl⟩ := nI_of h0
    rw [nI_toInt hj]
    by_cases q1 : j < lo
    · left; omega
    · by_cases q : j ≤ n
      · exact absurd rfl (h j (by omega) q)
      · right; omega
theorem nI_toInt_ne {x : Int32} {i : Nat} (h : ¬ x = nI i) (hi : i < 2 ^ 31) : ¬ x.toInt = (i : Int) := fun q => h (Int32.toInt_inj.mp (by rw [nI_toInt hi]; exact q))
theorem look_out2 {d a b : Int} {i k : Nat} {x : Int32} (h1 : ¬ x = nI i) (h2 : ¬ x = nI k) (g1 : i < 2 ^ 31 := by decide) (g2 : k < 2 ^ 31 := by decide) : Op.lookupswitch.offset [((i : Int), a), ((k : Int), b)] d x.toInt = d := by
  have e1 := nI_toInt_ne h1 g1
  have e2 := nI_toInt_ne h2 g2
  simp [Op.lookupswitch.offset, e1, e2, Ne.symm e1, Ne.symm e2]
theorem look_out3 {d a b w : Int} {i k m : Nat} {x : Int32} (h1 : ¬ x = nI i) (h2 : ¬ x = nI k) (h3 : ¬ x = nI m) (g1 : i < 2 ^ 31 := by decide) (g2 : k < 2 ^ 31 := by decide) (g3 : m < 2 ^ 31 := by decide) : Op.lookupswitch.offset [((i : Int), a), ((k : Int), b), ((m : Int), w)] d x.toInt = d := by
  have e1 := nI_toInt_ne h1 g1
  have e2 := nI_toInt_ne h2 g2
  have e3 := nI_toInt_ne h3 g3
  simp [Op.lookupswitch.offset, e1, e2, e3, Ne.symm e1, Ne.symm e2, Ne.symm e3]
def oc {β : Type} (ci : Nat) (o : Option Nat) (c : cx_S) (k : Nat → Option β) : Option β := match o with
  | none => none
  | some p => if cH c p = some (ci, 0) then k p else none
def oh {β : Type} (w : Option (Nat × Nat)) (T : Nat) (k : Nat → Option β) : Option β := match w with
  | none => none
  | some w => if w.1 = T then k w.2 else none
def oa {β : Type} (T : Nat) (o : Option Nat) (i : Int32) (c : cx_S) (k : Nat → Nat → Option β) : Option β := match o with
  | none => none
  | some a => oh (cH c a) T (fun n => og n i (k a))
def oq {β : Type} (T : Nat) (o : Option Nat) (c : cx_S) (k : Nat → Nat → Option β) : Option β := match o with
  | none => none
  | some a => oh (cH c a) T (k a)
/-- no reference, or one to what the run has made -/
def o2 {β : Type} (o : Option Nat) (k : Option β) : Option β := if o = some 0 ∨ o = some 1 then none else k
theorem o2_inv {β : Type} {o : Option Nat} {k : Option β} {w : β} (h : o2 o k = some w) : (∀ p, o = some p → 2 ≤ p) ∧ k = some w := by
  unfold o2 at h
  split at h
  · exact absurd h (by simp)
  · next q =>
    refine ⟨fun p e => ?_, h⟩
    subst e
    rcases p with _ | _ | p
    · exact absurd (Or.inl rfl) q
    · exact absurd (Or.inr rfl) q
    · omega
theorem oh_inv {β : Type} {o : Option (Nat × Nat)} {T : Nat} {k : Nat → Option β} {w : β} (h : oh o T k = some w) : ∃ n, o = some (T, n) ∧ k n = some w := by
  cases o with
  | none => exact absurd h (by simp [oh])
  | some v =>
    have h2 : (if v.1 = T then k v.2 else none) = some w := h
    split at h2
    · next q => subst q; exact ⟨v.2, rfl, h2⟩
    · exact absurd h2 (by simp)
theorem oh_ok {β : Type} {T n : Nat} {k : Nat → Option β} : oh (some (T, n)) T k = k n := if_pos rfl
/-- something may be made -/
def on {β : Type} (c : cx_S) (k : Option β) : Option β := if 2 ≤ cN c ∧ (cN c < 52 ∨ 96 ≤ cN c) then k else none
theorem oc_some {β : Type} {ci p : Nat} {c : cx_S} {k : Nat → Option β} (h : cH c p = some (ci, 0)) : oc ci (some p) c k = k p := if_pos h
theorem oc_inv {β : Type} {ci : Nat} {o : Option Nat} {c : cx_S} {k : Nat → Option β} {w : β} (h : oc ci o c k = some w) : ∃ p, o = some p ∧ cH c p = some (ci, 0) ∧ k p = some w := by
  cases o with
  | none => exact absurd h (by simp [oc])
  | some p =>
    have h2 : (if cH c p = some (ci, 0) then k p else none) = some w := h
    split at h2
    · next q => exact ⟨p, rfl, q, h2⟩
    · exact absurd h2 (by simp)
theorem og_inv2 {β : Type} {n : Nat} {i : Int32} {k : Nat → Option β} {w : β} (h : og n i k = some w) : ∃ j, j < n ∧ j < 2 ^ 31 ∧ i = nI j ∧ k j = some w := by
  unfold og at h
  split at h
  · next q =>
    have h0 : ¬ i < 0 := fun hlt => by
      have := Int32.lt_iff_toInt_lt.mp hlt
      have e : (0 : Int32).toInt = 0 := by decide
      omega
    obtain ⟨j, hj, rfl⟩ := nI_of h0
    rw [nI_clamp hj] at h
    rw [nI_toInt hj] at q
    exact ⟨j, by omega, hj, rfl, h⟩
  · exact absurd h (by simp)
theorem oa_inv {β : Type} {T : Nat} {o : Option Nat} {i : Int32} {c : cx_S} {k : Nat → Nat → Option β} {w : β} (h : oa T o i c k = some w) : ∃ a n j, o = some a ∧ cH c a = some (T, n) ∧ j < n ∧ j < 2 ^ 31 ∧ i = nI j ∧ k a j = some w := by
  cases o with
  | none => exact absurd h (by simp [oa])
  | some a =>
    obtain ⟨n, e, h2⟩ := oh_inv (show oh (cH c a) T (fun n => og n i (k a)) = some w from h)
    obtain ⟨j, h3, h4, h5, h6⟩ := og_inv2 h2
    exact ⟨a, n, j, rfl, e, h3, h4, h5, h6⟩
theorem oa_ok {β : Type} {T a n j : Nat} {c : cx_S} {k : Nat → Nat → Option β} (h : cH c a = some (T, n)) (hj : j < n) (h31 : j < 2 ^ 31) : oa T (some a) (nI j) c k = k a j := by
  show oh (cH c a) T (fun n => og n (nI j) (k a)) = _
  rw [h, oh_ok]
  unfold og
  rw [if_pos (by rw [nI_toInt h31]; omega), nI_clamp h31]
theorem oq_inv {β : Type} {T : Nat} {o : Option Nat} {c : cx_S} {k : Nat → Nat → Option β} {w : β} (h : oq T o c k = some w) : ∃ a n, o = some a ∧ cH c a = some (T, n) ∧ k a n = some w := by
  cases o with
  | none => exact absurd h (by simp [oq])
  | some a =>
    obtain ⟨n, e, h2⟩ := oh_inv (show oh (cH c a) T (k a) = some w from h)
    exact ⟨a, n, rfl, e, h2⟩
theorem oq_ok {β : Type} {T a n : Nat} {c : cx_S} {k : Nat → Nat → Option β} (h : cH c a = some (T, n)) : oq T (some a) c k = k a n := by
  show oh (cH c a) T (k a) = _
  rw [h, oh_ok]
theorem on_inv {β : Type} {c : cx_S} {k : Option β} {w : β} (h : on c k = some w) : (2 ≤ cN c ∧ (cN c < 52 ∨ 96 ≤ cN c)) ∧ k = some w := by
  unfold on at h
  split at h
  · next q => exact ⟨q, h⟩
  · exact absurd h (by simp)
theorem ox_r {σ : Type} {Q : bm_R → σ → Prop} {x r : Option Nat} {s s9 : σ} (hq : Q (.inl (some (va_rf r))) s9) (h : some (x, s) = some (r, s9)) : Q (.inl (some (va_rf x))) s := by
  cases h; exact hq
