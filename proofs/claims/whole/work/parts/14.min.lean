/-! Math.min, by the library's row -/
theorem bm_min_code : me_Z_min.2.1 = Lib.Math.min.code := by decide +kernel
section BM14
variable {G : bm_G} {M : bm_M} {pc : Nat} {L L' : bm_L} {st : List Value} {h : bm_H} {P : bm_R → bm_H → Prop}
theorem bm_min {ix : Nat} {x y : Int32} (hd : decode M.2.1 pc = .ok (.invokestatic ix, 3)) (hl : Cond.methodLink M.1.cls ix me_Z_min.1 ∈ bm_Ts) (hf : 1 ≤ M.2.2.2.2.1) (hlo : 21 ≤ M.2.2.2.2.2) (hst : (st.map fun v => v.category).sum ≤ 8)
    (k : bm_W G M (pc + 3) L (.int (if y < x then y else x) :: st) h P) : bm_W G M pc L (.int y :: .int x :: st) h P := by
  obtain ⟨r, hf', ⟨h1, h2, h3⟩, hP⟩ := k
  refine ⟨r, hf', ⟨h1, h2, fun p e R s m args below meth c H locs ls c0 s0 hS hp hL => ?_⟩, hP⟩
  have w := h3 p e R s m args below meth c H locs ls c0 s0 hS hp hL
  obtain ⟨q1, q2, q3, q4, q5, q6, q7, q8⟩ := hp
  have hfr : M.2.2.2.2.1 ≤ R.frames := hS.2.2.2.2.2.2.2.2.1
  have hlr : M.2.2.2.2.2 ≤ R.locals := hS.2.2.2.2.2.2.2.2.2.1
  have hst2 : ((st.map (bm_v G)).map fun v => v.category).sum ≤ 8 := by
    rw [List.map_map]
    have e2 : (fun v => Value.category v) ∘ bm_v G = fun v => Value.category v := by
      funext v
      cases v <;> rfl
    rw [e2]; exact hst
  have hc : (Cond.code Lib.Math.min.name Lib.Math.min.code 2 (some .int)).before args s = true := by
    rw [← bm_min_code]; exact bm_Sts hS _ kc_Z_min
  exact va_mmin hS.1 hS.2.1 (by rw [hS.2.2.1, hL.2.1]) (bm_Sown hS) (bm_Sts hS _ hl) (bm_Sts hS _ kt_Z_min) (bm_Sts hS _ in_java_lang_Math) hc (by omega) (by omega) (by omega) (by omega) hd w
end BM14
