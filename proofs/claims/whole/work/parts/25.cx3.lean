/-! methods that may throw -/
section CX3
variable {G : bm_G} {M K : bm_M} {pc : Nat} {L L' : bm_L} {st : List Value} {s : cx_S} {Q : bm_R → cx_S → Prop}
def cx_T2 (G : bm_G) (M : bm_M) (av : List Value) (s : cx_S) (Q : bm_R → cx_S → Prop) : Prop := ∀ h, cx_rep h s → bm_T2 G M av h (cx_P h Q)
/-- what a throwing method ends with, as a Value's answer -/
abbrev xr_i : Nat ⊕ Int32 → bm_R
  | .inl x => .inr x
  | .inr v => .inl (some (.int v))
abbrev xr_v : Nat ⊕ Int32 → bm_R
  | .inl x => .inr x
  | .inr _ => .inl none
abbrev xr_r : Nat ⊕ Option Nat → bm_R
  | .inl x => .inr x
  | .inr v => .inl (some (va_rf v))
theorem cx_met2 {av : List Value} (hy : plainName M.1.cls = true) (hc : ∀ v ∈ av, v.category = 1) (hn : av.length ≤ M.2.2.1)
    (k : cx G M 0 (av.map some ++ List.replicate (M.2.2.1 - av.length) none) [] s Q) : cx_T2 G M av s Q := fun h hr => bm_met2 hy hc hn (k h hr)
theorem cx_throw {ci : Nat} (hfl : G.1.flags = pinnedFlags ++ [noTraceFlag]) (hg : bm_tw M pc ci) (hci : ci < 400) (hk : cx_ks ci = []) (hns : bm_ns ci = 6) (hn : 2 ≤ cN s ∧ (cN s < 52 ∨ 96 ≤ cN s)) (hp : Q (.inr (cN s)) (cx_mk s (ci, 0) 6)) : cx G M pc L [] s Q := fun h0 hr => by
  have e : cx_cell (cx_mk s (ci, 0) 6) (cN s) (ci, 0) = .inr (ci, []) := by
    unfold cx_cell
    rw [if_pos hci]
    show Sum.inr (ci, cx_fs _ _ ci) = _
    have : cx_fs (cx_mk s (ci, 0) 6) (cN s) ci = [] := by unfold cx_fs; rw [hk]; rfl
    rw [this]
  have w := cx_push (k := (ci, 0)) (z := 6) hr hn.2 hn.1 e hns
  refine bm_throw hfl hg ⟨w.2, _, w.1, ?_⟩
  rw [hr.1]; exact hp
theorem cx_callX {n ci p : Nat} {o : Option Nat} {av : List Value} (hg : bm_iv M K pc ci n) (hnl : ∃ ix, decode M.2.1 pc = .ok (.invokevirtual ix, 3) ∧ Cond.methodLink M.1.cls ix K.1 ∈ bm_Ts) (wc : Cond.code M.1 M.2.1 M.2.2.1 M.2.2.2.1 ∈ bm_Ts) (hn : av.length = n) (hst : (st.map fun v => v.category).sum ≤ 8) (hci : ci < 400) (eo : o = some p) (hs : cH s p = some (ci, 0))
    (hc : cx_T2 G K (va_rf (some p) :: av) s (fun r s2 => match r with
      | .inl v => cx G M (pc + 3) L (v.toList ++ st) s2 Q
      | .inr x => Q (.inr x) s2)) : cx G M pc L (av.reverse ++ va_rf o :: st) s Q := fun h hr => by
  subst eo
  obtain ⟨r, hf, hM, w1, s2, w2, w3⟩ := hc h hr
  cases r with
  | inl v => exact bm_callV hg hn (cx_obj hr hci hs) hst ⟨v, hf, hM, cx_then w1 (w3 hf w2)⟩
  | inr x => exact bm_callVx hg hnl wc hn (cx_obj hr hci hs) hst hM ⟨w1, s2, w2, w3⟩
/-- a call of findBatch -/
theorem cx_callX1r {a : Value} {ci p : Nat} {o : Option Nat} {r : Nat ⊕ Option Nat} {s2 : cx_S} (hg : bm_iv M K pc ci 1) (hnl : ∃ ix, decode M.2.1 pc = .ok (.invokevirtual ix, 3) ∧ Cond.methodLink M.1.cls ix K.1 ∈ bm_Ts) (wc : Cond.code M.1 M.2.1 M.2.2.1 M.2.2.2.1 ∈ bm_Ts) (hst : (st.map fun v => v.category).sum ≤ 8) (hci : ci < 400) (eo : o = some p) (hs : cH s p = some (ci, 0))
    (hc : ∀ Q2 : bm_R → cx_S → Prop, Q2 (xr_r r) s2 → cx_T2 G K (va_rf (some p) :: [a]) s Q2)
    (kx : ∀ x, r = .inl x → Q (.inr x) s2) (kr : ∀ v, r = .inr v → cx G M (pc + 3) L (va_rf v :: st) s2 Q) : cx G M pc L (a :: va_rf o :: st) s Q := by
  refine cx_callX (av := [a]) hg hnl wc rfl hst hci eo hs (hc _ ?_)
  cases r with
  | inl x => exact kx x rfl
  | inr v => exact kr v rfl
end CX3
theorem ox_xi {σ : Type} {Q : bm_R → σ → Prop} {x : Int32} {r : Nat ⊕ Int32} {s s9 : σ} (hq : Q (xr_i r) s9) (h : some (Sum.inr x, s) = some (r, s9)) : Q (.inl (some (.int x))) s := by
  cases h; exact hq
theorem ox_xv {σ : Type} {Q : bm_R → σ → Prop} {x : Int32} {r : Nat ⊕ Int32} {s s9 : σ} (hq : Q (xr_v r) s9) (h : some (Sum.inr x, s) = some (r, s9)) : Q (.inl none) s := by
  cases h; exact hq
theorem ox_xr {σ : Type} {Q : bm_R → σ → Prop} {x : Option Nat} {r : Nat ⊕ Option Nat} {s s9 : σ} (hq : Q (xr_r r) s9) (h : some (Sum.inr x, s) = some (r, s9)) : Q (.inl (some (va_rf x))) s := by
  cases h; exact hq
theorem ox_ti {σ : Type} {Q : bm_R → σ → Prop} {x : Nat} {r : Nat ⊕ Int32} {s s9 : σ} (hq : Q (xr_i r) s9) (h : some (Sum.inl x, s) = some (r, s9)) : Q (.inr x) s := by
  cases h; exact hq
theorem ox_tv {σ : Type} {Q : bm_R → σ → Prop} {x : Nat} {r : Nat ⊕ Int32} {s s9 : σ} (hq : Q (xr_v r) s9) (h : some (Sum.inl x, s) = some (r, s9)) : Q (.inr x) s := by
  cases h; exact hq
theorem ox_tr {σ : Type} {Q : bm_R → σ → Prop} {x : Nat} {r : Nat ⊕ Option Nat} {s s9 : σ} (hq : Q (xr_r r) s9) (h : some (Sum.inl x, s) = some (r, s9)) : Q (.inr x) s := by
  cases h; exact hq
/-- what follows a call that may throw -/
def ot {α β : Type} (x : Nat ⊕ α) (c : cx_S) (k : α → Option ((Nat ⊕ β) × cx_S)) : Option ((Nat ⊕ β) × cx_S) := match x with
  | .inl p => some (.inl p, c)
  | .inr v => k v
