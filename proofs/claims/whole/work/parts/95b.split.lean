/-! shares and rests -/
section SPL
variable {f : Nat} {W : Nat → Nat → Nat} {bd : Nat} {c : cx_S} {s : rx_S}
def W2 (c : cx_S) (g h : Nat → Int32) : cx_S := ws (ws c 18 g) 19 h
def V2 (s : rx_S) (g h : Nat → Int32) : rx_S := fun k => if k = 38 then g else if k = 39 then h else s k
variable {g h g2 h2 : Nat → Int32}
theorem V2_38 {j : Nat} {x : Int32} : rx_up (V2 s g h) 38 j x = V2 s (upd g j x) h := by
  funext k i
  by_cases e : k = 38
  · subst e; rfl
  · rw [up_k e]
    show (if k = 38 then g else if k = 39 then h else s k) i = (if k = 38 then upd g j x else if k = 39 then h else s k) i
    rw [if_neg e, if_neg e]
theorem V2_39 {j : Nat} {x : Int32} : rx_up (V2 s g h) 39 j x = V2 s g (upd h j x) := by
  funext k i
  by_cases e : k = 39
  · subst e; rfl
  · rw [up_k e]
    show (if k = 38 then g else if k = 39 then h else s k) i = (if k = 38 then g else if k = 39 then upd h j x else s k) i
    rw [if_neg e, if_neg e]
theorem V2_o {k : Nat} (h1 : k ≠ 38) (h2 : k ≠ 39) : V2 s g h k = s k := by
  show (if k = 38 then g else if k = 39 then h else s k) = _
  rw [if_neg h1, if_neg h2]
theorem V2_id : V2 s (s 38) (s 39) = s := by
  funext k
  show (if k = 38 then s 38 else if k = 39 then s 39 else s k) = s k
  by_cases e : k = 38
  · rw [if_pos e, e]
  · rw [if_neg e]
    by_cases e2 : k = 39
    · rw [if_pos e2, e2]
    · rw [if_neg e2]
theorem ws_co {p q j : Nat} {v : Int32} (e : q ≠ p) : cx_ui (ws c p g) 400 q j v = ws (cx_ui c 400 q j v) p g := by
  refine Prod.ext ?_ rfl
  funext F r i
  show (if F = 400 ∧ r = q ∧ i = j then v else if F = 400 ∧ r = p then g i else cI c F r i) = if F = 400 ∧ r = p then g i else (if F = 400 ∧ r = q ∧ i = j then v else cI c F r i)
  by_cases e1 : F = 400 ∧ r = p
  · rw [if_neg (fun z => e (by rw [← z.2.1, e1.2])), if_pos e1, if_pos e1]
  · rw [if_neg e1, if_neg e1]
theorem W2_18 {j : Nat} {x : Int32} : cx_ui (W2 c g h) 400 18 j x = W2 c (upd g j x) h := by
  unfold W2
  rw [ws_co (by decide), ws_ui]
theorem W2_19 {j : Nat} {x : Int32} : cx_ui (W2 c g h) 400 19 j x = W2 c g (upd h j x) := by
  unfold W2
  rw [ws_ui]
theorem W2_a {j : Nat} : cI (W2 c g h) 400 18 j = g j := by
  unfold W2
  rw [ws_o (by decide), ws_at]
theorem W2_b {j : Nat} : cI (W2 c g h) 400 19 j = h j := by
  unfold W2
  rw [ws_at]
theorem W2_o {F p j : Nat} (h1 : ¬ (F = 400 ∧ (p = 18 ∨ p = 19))) : cI (W2 c g h) F p j = cI c F p j := by
  unfold W2
  rw [ws_o (fun z => h1 ⟨z.1, Or.inr z.2⟩), ws_o (fun z => h1 ⟨z.1, Or.inl z.2⟩)]
theorem W2_id : W2 c (cI c 400 18) (cI c 400 19) = c := by
  unfold W2
  rw [ws_id, ws_id]
theorem CU_W2 (hr : CU c s) : CU (W2 c g h) s := CU_ws (CU_ws hr (by decide)) (by decide)
theorem CU_V2 (hr : CU c s) : CU c (V2 s g h) := CU_s hr (V2_o (by decide) (by decide)) (V2_o (by decide) (by decide)) (V2_o (by decide) (by decide))
theorem split_both (hr : CU c s) {u v m A T : Nat} {kk : Int32 → rx_S → Option (Int32 × rx_S)} (hu : u < 6) (hm : s 3 u = nI m) (hm1 : m ≤ 100) (hA : A ≤ 10) (hT : T < 2 ^ 27) (hT1 : 1 ≤ T) (hU : ∀ j, j < m → s 5 (100 * u + j) = nI (nt (s 5 (100 * u + j))) ∧ nt (s 5 (100 * u + j)) ≤ T) : ∀ d i n1 n2 g h g2 h2 sN, i + d = m → d < n1 → d < n2 → (∀ j, j < i → g j = nI (sN j) ∧ g2 j = g j ∧ h2 j = h j ∧ sN j ≤ 10) →
    ∃ g' h' g2' h2' sN', D_V_splitByAmounts_6 f 17 (some (22 + 3 * u)) (nI A) (nI T) n1 (nI (gs (fun v => v) sN i)) (nI i) (W2 c g h) = some (nI (gs (fun v => v) sN' m), W2 c g' h') ∧
      D_M_carry_13 f (nI u) (nI v) (nI A) (nI T) kk n2 (nI A - nI (gs (fun v => v) sN i)) (nI i) (V2 s g2 h2) = kk (nI A - nI (gs (fun v => v) sN' m)) (V2 s g2' h2') ∧ ∀ j, j < m → g' j = nI (sN' j) ∧ g2' j = g' j ∧ h2' j = h' j ∧ sN' j ≤ 10 := by
  have em : nt (s 3 u) = m := by rw [hm, nt_nI (by omega)]
  intro d
  induction d with
  | zero =>
    intro i n1 n2 g h g2 h2 sN hi hn1 hn2 hs
    obtain ⟨n1, rfl⟩ : ∃ k', n1 = k' + 1 := ⟨n1 - 1, by omega⟩
    obtain ⟨n2, rfl⟩ : ∃ k', n2 = k' + 1 := ⟨n2 - 1, by omega⟩
    have e : i = m := by omega
    subst e
    have hr2 : CU (W2 c g h) s := CU_W2 hr
    refine ⟨g, h, g2, h2, sN, ?_, ?_, hs⟩
    · rw [D_V_splitByAmounts_6, b_oc (hr2.fix.hUn u hu), b_oj, hr2.uh u hu, hm, if_pos (Int32.le_refl _)]
    · rw [D_M_carry_13, b_og hu (by decide), V2_o (by decide) (by decide), hm, if_pos (Int32.le_refl _)]
  | succ d ih =>
    intro i n1 n2 g h g2 h2 sN hi hn1 hn2 hs
    obtain ⟨n1, rfl⟩ : ∃ k', n1 = k' + 1 := ⟨n1 - 1, by omega⟩
    obtain ⟨n2, rfl⟩ : ∃ k', n2 = k' + 1 := ⟨n2 - 1, by omega⟩
    have him : i < m := by omega
    have hr2 : CU (W2 c g h) s := CU_W2 hr
    obtain ⟨ae, aT⟩ := hU i him
    generalize haa : nt (s 5 (100 * u + i)) = a at *
    have od1 : ∀ {β : Type} {k : Option β}, od (nI T) k = k := fun {β k} => if_neg (nI_ne0 (by omega) (by omega))
    have aA : A * a < 2 ^ 31 := by
      have : A * a ≤ 10 * T := Nat.mul_le_mul hA aT
      omega
    have shE : nI A * nI a / nI T = nI (A * a / T) := by rw [pk_mul, pk_div aA (by omega) (by omega)]
    have shl : A * a / T ≤ 10 := by
      have h1 : A * a / T ≤ A * T / T := Nat.div_le_div_right (Nat.mul_le_mul_left _ aT)
      rw [Nat.mul_div_cancel _ (by omega)] at h1
      omega
    obtain ⟨g', h', g2', h2', sN', w1, w2, w3⟩ := ih (i + 1) n1 n2 (upd g i (nI (A * a / T))) (upd h i (nI A * nI a - nI (A * a / T) * nI T)) (upd g2 i (nI (A * a / T))) (upd h2 i (nI A * nI a - nI (A * a / T) * nI T)) (fun j => if j = i then A * a / T else sN j) (by omega) (by omega) (by omega) (fun j hj => by
      by_cases e : j = i
      · subst e
        rw [upd_s, upd_s, upd_s, upd_s]
        show nI (A * a / T) = nI (if j = j then A * a / T else sN j) ∧ _ ∧ _ ∧ (if j = j then A * a / T else sN j) ≤ 10
        rw [if_pos rfl]
        exact ⟨rfl, rfl, rfl, shl⟩
      · rw [upd_o e, upd_o e, upd_o e, upd_o e]
        show g j = nI (if j = i then A * a / T else sN j) ∧ _ ∧ _ ∧ (if j = i then A * a / T else sN j) ≤ 10
        rw [if_neg e]; exact hs j (by omega))
    have gE : gs (fun v => v) (fun j => if j = i then A * a / T else sN j) (i + 1) = gs (fun v => v) sN i + A * a / T := by
      rw [gs, if_pos rfl]
      congr 1
      exact gs_congr (fun k hk => if_neg (by omega))
    rw [gE] at w1 w2
    have r164 : cR (W2 c g h) 164 (22 + 3 * u) 0 = some (24 + 3 * u) := hr2.fix.amts u hu
    have hA4 := hr2.fix.hAmts u hu
    have ra : cI (W2 c g h) 400 (24 + 3 * u) i = nI a := (hr2.ua u hu i (by omega)).trans ae
    refine ⟨g', h', g2', h2', sN', ?_, ?_, w3⟩
    · rw [D_V_splitByAmounts_6, b_oc (hr2.fix.hUn u hu), b_oj, hr2.uh u hu, hm, if_neg (nI_ge him (by omega)), if_neg (show ¬ nI T ≤ 0 from nI_ge (a := 0) (by omega) (by omega)), r164, b_oa hA4 (by omega) (by decide), b_oc hr2.fix.h17, od1, hr2.fix.f80, b_oa hr2.fix.h18 (by omega) (by decide), od1, ra, shE, W2_18]
      have hr3 : CU (W2 c (upd g i (nI (A * a / T))) h) s := CU_W2 hr
      rw [hr3.fix.f81, b_oa hr2.fix.h19 (by omega) (by decide), W2_19]
      have hr4 : CU (W2 c (upd g i (nI (A * a / T))) (upd h i (nI A * nI a - nI (A * a / T) * nI T))) s := CU_W2 hr
      rw [hr4.fix.f80, b_oa hr2.fix.h18 (by omega) (by decide), W2_a, upd_s, nI_add, nI_add]
      exact w1
    · have x5 : ∀ g h, V2 s g h 5 (100 * u + i) = nI a := fun g h => by rw [V2_o (by decide) (by decide)]; exact ae
      rw [D_M_carry_13, b_og hu (by decide), V2_o (k := 3) (by decide) (by decide), hm, if_neg (nI_ge him (by omega)), pk_mul, nI_add, b_og (by omega) (by decide), od1, b_og (show i < 100 by omega) (by decide), od1, V2_38, x5, x5, shE, V2_39]
      rw [show V2 s (upd g2 i (nI (A * a / T))) (upd h2 i (nI A * nI a - nI (A * a / T) * nI T)) 38 i = nI (A * a / T) from upd_s, Int32.sub_sub, nI_add, nI_add]
      exact w2
/-- who gets one more -/
theorem best_both (hr : CU c s) {u v m : Nat} {l5 : Int32} {k32 : Int32 → cx_S → Option (Int32 × cx_S)} {k144 : Int32 → rx_S → Option (Int32 × rx_S)} (hu : u < 6) (hm : s 3 u = nI m) (hm1 : m ≤ 100) (hh : ∀ j, j < m → h2 j = h j) : ∀ d i b n1 n2, i + d = m → d < n1 → d < n2 → b < m →
    ∃ b2, b2 < m ∧ D_V_giveOneMore_4 f 17 (nI m) k32 n1 (nI b) (nI i) (W2 c g h) = k32 (nI b2) (W2 c g h) ∧ D_M_carry_101 f (nI u) (nI v) l5 k144 n2 (nI b) (nI i) (V2 s g2 h2) = k144 (nI b2) (V2 s g2 h2) := by
  have hr2 : CU (W2 c g h) s := CU_W2 hr
  intro d
  induction d with
  | zero =>
    intro i b n1 n2 hi hn1 hn2 hb
    obtain ⟨n1, rfl⟩ : ∃ k', n1 = k' + 1 := ⟨n1 - 1, by omega⟩
    obtain ⟨n2, rfl⟩ : ∃ k', n2 = k' + 1 := ⟨n2 - 1, by omega⟩
    have e : i = m := by omega
    subst e
    refine ⟨b, hb, ?_, ?_⟩
    · rw [D_V_giveOneMore_4, if_pos (Int32.le_refl _)]
    · rw [D_M_carry_101, b_og hu (by decide), V2_o (by decide) (by decide), hm, if_pos (Int32.le_refl _)]
  | succ d ih =>
    intro i b n1 n2 hi hn1 hn2 hb
    obtain ⟨n1, rfl⟩ : ∃ k', n1 = k' + 1 := ⟨n1 - 1, by omega⟩
    obtain ⟨n2, rfl⟩ : ∃ k', n2 = k' + 1 := ⟨n2 - 1, by omega⟩
    have him : i < m := by omega
    rw [D_V_giveOneMore_4, if_neg (nI_ge him (by omega)), b_oc hr2.fix.h17, hr2.fix.f81, b_oa hr2.fix.h19 (by omega) (by decide), b_oa hr2.fix.h19 (by omega) (by decide), b_oj, W2_b, W2_b, nI_add]
    rw [D_M_carry_101, b_og hu (by decide), V2_o (k := 3) (by decide) (by decide), hm, if_neg (nI_ge him (by omega)), b_og (show i < 100 by omega) (by decide), b_og (show b < 100 by omega) (by decide), b_oj, nI_add]
    rw [show V2 s g2 h2 39 i = h i from hh i him, show V2 s g2 h2 39 b = h b from hh b hb]
    by_cases e : h i ≤ h b
    · rw [if_pos e, if_pos e]; exact ih (i + 1) b n1 n2 (by omega) (by omega) (by omega) hb
    · rw [if_neg e, if_neg e]; exact ih (i + 1) i n1 n2 (by omega) (by omega) (by omega) him
theorem lack_both (hr : CU c s) (hf : 2 ^ 31 ≤ f) {u v m D : Nat} {k53 : cx_S → Option (Int32 × cx_S)} {k169 : rx_S → Option (Int32 × rx_S)} (hu : u < 6) (hm : s 3 u = nI m) (hm1 : m ≤ 100) (hm0 : 1 ≤ m) (hD : D ≤ 10) : ∀ d i n1 n2 g h g2 h2 sN, i + d = D → d < n1 → d < n2 → (∀ j, j < m → g j = nI (sN j) ∧ g2 j = g j ∧ h2 j = h j) → gs (fun v => v) sN m ≤ 1000 + i →
    ∃ g' h' g2' h2' sN', D_V_transfer_32 f 17 (some (22 + 3 * u)) (some (22 + 3 * v)) (nI D) k53 n1 (nI i) (W2 c g h) = k53 (W2 c g' h') ∧ D_M_carry_90 f (nI u) (nI v) k169 n2 (nI (D - i)) (V2 s g2 h2) = k169 (V2 s g2' h2') ∧ (∀ j, j < m → g' j = nI (sN' j) ∧ g2' j = g' j) ∧ gs (fun v => v) sN' m ≤ 1010 := by
  intro d
  induction d with
  | zero =>
    intro i n1 n2 g h g2 h2 sN hi hn1 hn2 hs hg
    obtain ⟨n1, rfl⟩ : ∃ k', n1 = k' + 1 := ⟨n1 - 1, by omega⟩
    obtain ⟨n2, rfl⟩ : ∃ k', n2 = k' + 1 := ⟨n2 - 1, by omega⟩
    have e : i = D := by omega
    subst e
    refine ⟨g, h, g2, h2, sN, ?_, ?_, fun j hj => ⟨(hs j hj).1, (hs j hj).2.1⟩, by omega⟩
    · rw [D_V_transfer_32, if_pos (Int32.le_refl _)]
    · rw [D_M_carry_90, Nat.sub_self, if_pos (by decide)]
  | succ d ih =>
    intro i n1 n2 g h g2 h2 sN hi hn1 hn2 hs hg
    obtain ⟨n1, rfl⟩ : ∃ k', n1 = k' + 1 := ⟨n1 - 1, by omega⟩
    obtain ⟨n2, rfl⟩ : ∃ k', n2 = k' + 1 := ⟨n2 - 1, by omega⟩
    have hr2 : CU (W2 c g h) s := CU_W2 hr
    obtain ⟨b, hb, w1, w2⟩ := best_both (f := f) (v := v) (g := g) (g2 := g2) (h := h) (h2 := h2) (l5 := nI (D - i)) (k32 := (fun (v8 : Int32) (s9 : cx_S) => oc 5 (some 17) s9 fun p10 => oa 400 (cR s9 80 p10 0) v8 s9 fun a11 j12 => oa 400 (cR (cx_ui s9 400 a11 j12 ((cI s9 400 a11 j12) + (nI 1))) 81 p10 0) v8 s9 fun a13 j14 => some (0, cx_ui (cx_ui s9 400 a11 j12 ((cI s9 400 a11 j12) + (nI 1))) 400 a13 j14 ((-1))))) (k144 := (fun (v13 : Int32) (s14 : rx_S) => og 100 v13 fun j15 => D_M_carry_90 f (nI u) (nI v) k169 n2 (nI (D - i) - nI 1) (rx_up (rx_up s14 38 j15 ((s14 38 j15) + (nI 1))) 39 j15 ((-1))))) hr hu hm hm1 (fun j hj => (hs j hj).2.2) (m - 1) 1 0 f f (by omega) (by omega) (by omega) (by omega)
    have hb' := hs b hb
    have bsum := gs_mem (g := fun v => v) (x := sN) hb
    obtain ⟨g', h', g2', h2', sN', y1, y2, y3, y4⟩ := ih (i + 1) n1 n2 (upd g b (nI (sN b + 1))) (upd h b (-1)) (upd g2 b (nI (sN b + 1))) (upd h2 b (-1)) (fun j => if j = b then sN b + 1 else sN j) (by omega) (by omega) (by omega) (fun j hj => by
      by_cases e : j = b
      · subst e
        rw [upd_s, upd_s, upd_s, upd_s]
        show nI (sN j + 1) = nI (if j = j then sN j + 1 else sN j) ∧ _
        rw [if_pos rfl]
        exact ⟨rfl, rfl, rfl⟩
      · rw [upd_o e, upd_o e, upd_o e, upd_o e]
        show g j = nI (if j = b then sN b + 1 else sN j) ∧ _
        rw [if_neg e]; exact hs j hj) (by
      have := gs_set (g := fun v => v) (x := sN) (y := fun j => if j = b then sN b + 1 else sN j) hb (fun k hk e => if_neg e)
      rw [if_pos rfl] at this
      omega)
    refine ⟨g', h', g2', h2', sN', ?_, ?_, y3, y4⟩
    · rw [D_V_transfer_32, if_neg (nI_ge (show i < D by omega) (by omega)), b_oc (hr2.fix.hUn u hu), b_oc hr2.fix.h17, hr2.uh u hu, hm, D_V_giveOneMore]
      rw [w1, b_oc hr2.fix.h17, hr2.fix.f80, b_oa hr2.fix.h18 (by omega) (by decide), W2_a, hb'.1, nI_add, W2_18]
      have hr3 : CU (W2 c (upd g b (nI (sN b + 1))) h) s := CU_W2 hr
      rw [hr3.fix.f81, b_oa hr2.fix.h19 (by omega) (by decide), W2_19, b_ob, nI_add]
      exact y1
    · rw [D_M_carry_90, if_neg (show ¬ nI (D - i) ≤ 0 from nI_ge (a := 0) (by omega) (by omega)), w2, b_og (show b < 100 by omega) (by decide), show V2 s g2 h2 38 b = nI (sN b) from hb'.2.1.trans hb'.1, nI_add, V2_38, V2_39, nI_sub (by omega), Nat.sub_sub]
      exact y2
end SPL
