/-! Arrays.copyOf, by hand: a shorter copy (the run never asks for one as long as the array) -/
def cx_cp (c : cx_S) (p a m : Nat) : cx_S := (fun F q j => if F = 400 ∧ q = p ∧ j < m then cI c 400 a j else cI c F q j, c.2)
def D_A_copyOf (_f : Nat) (l0 : Option Nat) (l1 : Int32) (s : cx_S) : Option (Option Nat × cx_S) :=
  o2 l0 <| oq 400 l0 s fun a n => if n ≤ 1000000 then og n l1 fun m => on s <| some (some (cN s), cx_cp (cx_mk s (400, m) m) (cN s) a m) else none
theorem cx_cell_cp {c : cx_S} {p a m p2 : Nat} {k : Nat × Nat} (h : p2 ≠ p) : cx_cell (cx_cp c p a m) p2 k = cx_cell c p2 k := by
  have e1 : ∀ F, cI (cx_cp c p a m) F p2 = cI c F p2 := fun F => by
    funext i
    show (if F = 400 ∧ p2 = p ∧ i < m then cI c 400 a i else cI c F p2 i) = _
    rw [if_neg (fun q => h q.2.1)]
  unfold cx_cell
  rw [cx_fs_ext (c := c) (fun i b _ => by unfold cx_fv; rw [e1]; rfl), e1]; rfl
section CX4
variable {G : bm_G} {M K : bm_M} {pc : Nat} {L L' : bm_L} {st : List Value} {s : cx_S} {Q : bm_R → cx_S → Prop}
theorem cx_have {a : Nat} {k : Nat × Nat} (hs : cH s a = some k) (kk : a < cN s → cx G M pc L st s Q) : cx G M pc L st s Q := fun h hr => kk (by
  have := hr.2.2.1 a k hs
  rw [← hr.1]
  exact (List.getElem?_eq_some_iff.mp this).1) h hr
theorem cx_acopy {ix a0 a n0 n1 q : Nat} {o0 o1 : Option Nat} {x : Int32} (hd : decode M.2.1 pc = .ok (.invokestatic ix, 3)) (hl : Cond.methodLink M.1.cls ix arraycopyName ∈ bm_Ts) (e0 : o0 = some a0) (e1 : o1 = some a) (hs0 : cH s a0 = some (400, n0)) (hs1 : cH s a = some (400, n1)) (g0 : 2 ≤ a0) (g1 : 2 ≤ a) (hx : x = nI q) (hm : q ≤ n0) (hm1 : q ≤ n1) (h31 : q < 2 ^ 31) (hfr : 1 ≤ M.2.2.2.2.1) (hlo : 60 ≤ M.2.2.2.2.2) (hst : (st.map fun v => v.category).sum ≤ 8)
    (k : cx G M (pc + 3) L st (cx_cp s a a0 q) Q) : cx G M pc L (.int x :: .int (nI 0) :: va_rf o1 :: .int (nI 0) :: va_rf o0 :: st) s Q := fun h0 hr => by
  subst e0 e1 hx
  have e : cx_cell (cx_cp s a a0 q) a (400, n1) = .inl (0, n1, .inl (va_cpy (cI s 400 a0) (cI s 400 a) 0 0 q)) := by
    rw [cx_cellI]
    have : cI (cx_cp s a a0 q) 400 a = va_cpy (cI s 400 a0) (cI s 400 a) 0 0 q := by
      funext i
      show (if 400 = 400 ∧ a = a ∧ i < q then cI s 400 a0 i else cI s 400 a i) = if 0 ≤ i ∧ i < 0 + q then cI s 400 a0 (0 + (i - 0)) else cI s 400 a i
      by_cases e : i < q
      · rw [if_pos ⟨rfl, rfl, e⟩, if_pos (by omega), show 0 + (i - 0) = i from by omega]
      · rw [if_neg (fun w => e w.2.2), if_neg (by omega)]
    rw [this]
  have w := cx_set (c2 := cx_cp s a a0 q) hr hs1 rfl (fun p2 k2 h2 => cx_cell_cp h2) e (by rw [cx_cellI]; rfl)
  exact bm_acopy hd hl (cx_arI hr hs0) (cx_arI hr hs1) g0 g1 hm hm1 h31 hfr hlo hst (cx_then w.2 (k _ w.1))
end CX4
theorem E_A_copyOf {G : bm_G} {f : Nat} {l0 : Option Nat} {l1 : Int32} {s sz : cx_S} {r : Option Nat} {Q : Option Nat → cx_S → Prop} (h : D_A_copyOf f l0 l1 s = some (r, sz)) (hq : Q r sz) : cx_Tr G me_A_copyOf [va_rf (l0), .int (l1)] s Q := by
  unfold D_A_copyOf at h
  obtain ⟨h2, h⟩ := o2_inv h
  obtain ⟨a, n, rfl, ha, h⟩ := oq_inv h
  split at h
  · next hn =>
    obtain ⟨m, hm, h31, em, h3⟩ := og_inv2 h
    obtain ⟨hon, h4⟩ := on_inv h3
    clear h h3
    subst em
    cases h4
    refine cx_metr (by decide) (List.forall_mem_cons.mpr ⟨cx_cat, (List.forall_mem_cons.mpr ⟨rfl, (fun _ q => nomatch q)⟩)⟩) (Nat.le_of_ble_eq_true rfl) ?_
    refine cx_iload_n d_A_copyOf_0 rfl ?_
    refine cx_aload_n d_A_copyOf_1 rfl ?_
    refine cx_alen d_A_copyOf_2 rfl ha ?_
    refine cx_icmp_ne (tgt := 14) d_A_copyOf_3 (by decide) (fun _ => ?_) (fun q => absurd q ?_)
    · refine cx_have ha (fun hlt => ?_)
      have hne : ¬ a = cN s := by omega
      have ha2 : cH (cx_mk s (400, m) m) a = some (400, n) := by
        show (if a = cN s then some (400, m) else cH s a) = _
        rw [if_neg hne]; exact ha
      have hb2 : cH (cx_mk s (400, m) m) (cN s) = some (400, m) := by
        show (if cN s = cN s then some (400, m) else cH s (cN s)) = _
        rw [if_pos rfl]
      refine cx_iload_n d_A_copyOf_14 rfl ?_
      refine cx_newI (N := m) n_A_copyOf_15 hon.2 hon.1 rfl (by omega) ?_
      refine cx_astore_n d_A_copyOf_17 (by decide) ?_
      refine cx_aload_n (o := some a) d_A_copyOf_18 rfl ?_
      refine cx_iconst (v := nI 0) d_A_copyOf_19 (by decide) ?_
      refine cx_aload_n (o := some (cN s)) d_A_copyOf_20 rfl ?_
      refine cx_iconst (v := nI 0) d_A_copyOf_21 (by decide) ?_
      refine cx_aload_n (o := some a) d_A_copyOf_22 rfl ?_
      refine cx_alen d_A_copyOf_23 rfl ha2 ?_
      refine cx_iload_n (x := nI m) d_A_copyOf_24 rfl ?_
      refine cx_min d_A_copyOf_25 ml_A_304 (by decide) (by decide) (cx_hst (List.forall_mem_cons.mpr ⟨rfl, List.forall_mem_cons.mpr ⟨cx_cat, List.forall_mem_cons.mpr ⟨rfl, List.forall_mem_cons.mpr ⟨cx_cat, (fun _ q => nomatch q)⟩⟩⟩⟩) (Nat.le_of_ble_eq_true rfl)) ?_
      refine cx_acopy d_A_copyOf_28 ml_A_150 rfl rfl ha2 hb2 (h2 a rfl) hon.1 (if_pos (nI_lt hm (by omega))) (by omega) (Nat.le_refl _) h31 (by decide) (by decide) (Nat.le_of_ble_eq_true rfl) ?_
      refine cx_aload_n (o := some (cN s)) d_A_copyOf_31 rfl ?_
      exact cx_aret d_A_copyOf_32 rfl (Or.inr ⟨_, rfl⟩) ⟨_, rfl, hq⟩
    · rw [nI_eq h31 (by omega)]; omega
  · exact absurd h (by simp)
