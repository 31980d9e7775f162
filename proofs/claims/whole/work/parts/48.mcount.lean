/-! THE MODEL: count -/
section M6
variable {sh : Shp} {R : RM} {I : IM} {d : Nat} {s : ST} {w : WD} {q h lo hi : Int}
theorem c7_loop (hX : MX sh R) (hm : mR I s) (hs : okS s) {a1 a4 : AV} : ∀ (k j : Nat), j + k = 8 → ev S0 d 207 220 [.inr (.inl 392), a1, .inl ((sumN (fun i => if s.2.2.2.2.1 i = -1 then 0 else 1) j : Nat) : Int), .inl (j : Int), a4] [] (sh, I, R) = some (some (.inl ((usdH s : Nat) : Int)), (sh, I, R)) := by
  obtain ⟨t9, r9, tg_, lg⟩ := hX.1
  obtain ⟨r4, t4, l4⟩ := hX.g 4 396 8 (by decide)
  intro k
  induction k with
  | zero =>
    intro j hj
    obtain rfl : j = 8 := by omega
    have hc : (8 : Int) ≤ ((8 : Nat) : Int) := by decide
    simp (disch := first | assumption | omega | exact Nat.le_of_ble_eq_true rfl | decide) only [u_207_220, u_207_221, u_207_223, u_207_249, u_207_250, hc, if_true]
    rfl
  | succ k ih =>
    intro j hj
    have hc8 : ¬ (8 : Int) ≤ (j : Int) := by omega
    have hle : sumN (fun i => if s.2.2.2.2.1 i = -1 then 0 else 1) j ≤ 1 * j := sumN_le j (fun i hi => by split <;> omega)
    have hv := hm.2.2.2.2.1 j (by omega)
    have hlv := livN_ge (hs.2.2.2.2.2.2.1 j (by omega))
    have ih := ih (j + 1) (by omega)
    rw [sumN_step _ j] at ih
    generalize sumN (fun i => if s.2.2.2.2.1 i = -1 then 0 else 1) j = S at ih hle
    rw [u_207_220]
    by_cases hn : s.2.2.2.2.1 j = -1
    · simp only [if_pos hn, Nat.add_zero] at ih
      rw [hn] at hv
      have hlt : (-1 : Int) < 0 := by decide
      simp (disch := first | assumption | omega | exact Nat.le_of_ble_eq_true rfl | decide) only [u_207_221, u_207_223, u_207_226, u_207_227, u_207_228, u_207_231, u_207_232, u_207_233, u_207_236, u_207_237, u_207_240, u_207_241, u_207_242, u_207_243, u_207_246, hc8, if_false, if_true, r4, rv_some, hv, hlt, wrI, Int.add_zero, n1, ih]
    · simp only [if_neg hn] at ih
      have hlt : ¬ s.2.2.2.2.1 j < 0 := by omega
      simp (disch := first | assumption | omega | exact Nat.le_of_ble_eq_true rfl | decide) only [u_207_221, u_207_223, u_207_226, u_207_227, u_207_228, u_207_231, u_207_232, u_207_233, u_207_236, u_207_237, u_207_240, u_207_241, u_207_242, u_207_243, u_207_246, hc8, if_false, r4, rv_some, hv, hlt, wrI, n1, ih]
theorem c8_loop (hX : MX sh R) (hm : mR I s) {a1 a4 : AV} : ∀ (k j : Nat), j + k = 4 → ev S0 d 207 253 [.inr (.inl 392), a1, .inl ((sumN (fun i => if s.2.2.2.1 i = none then 0 else 1) j : Nat) : Int), .inl (j : Int), a4] [] (sh, I, R) = some (some (.inl ((usdS s : Nat) : Int)), (sh, I, R)) := by
  obtain ⟨t9, r9, tg_, lg⟩ := hX.1
  obtain ⟨r5, t5, l5⟩ := hX.g 5 397 4 (by decide)
  intro k
  induction k with
  | zero =>
    intro j hj
    obtain rfl : j = 4 := by omega
    have hc : (4 : Int) ≤ ((4 : Nat) : Int) := by decide
    simp (disch := first | assumption | omega | exact Nat.le_of_ble_eq_true rfl | decide) only [u_207_253, u_207_254, u_207_255, u_207_281, u_207_282, hc, if_true]
    rfl
  | succ k ih =>
    intro j hj
    have hc8 : ¬ (4 : Int) ≤ (j : Int) := by omega
    have hle : sumN (fun i => if s.2.2.2.1 i = none then 0 else 1) j ≤ 1 * j := sumN_le j (fun i hi => by split <;> omega)
    have hv := hm.2.2.2.1 j (by omega)
    have ih := ih (j + 1) (by omega)
    rw [sumN_step _ j] at ih
    generalize sumN (fun i => if s.2.2.2.1 i = none then 0 else 1) j = S at ih hle
    rw [u_207_253]
    generalize s.2.2.2.1 j = sv at hv ih
    cases sv with
    | none =>
      simp only [if_true, Nat.add_zero] at ih
      have hv : I 397 (j : Int) = -1 := hv
      have hlt : (-1 : Int) < 0 := by decide
      simp (disch := first | assumption | omega | exact Nat.le_of_ble_eq_true rfl | decide) only [u_207_254, u_207_255, u_207_258, u_207_259, u_207_260, u_207_263, u_207_264, u_207_265, u_207_268, u_207_269, u_207_272, u_207_273, u_207_274, u_207_275, u_207_278, hc8, if_false, if_true, r5, rv_some, hv, hlt, wrI, Int.add_zero, n1, ih]
    | some t =>
      rw [if_neg (by simp)] at ih
      have hv : I 397 (j : Int) = (t.length : Int) := hv.1
      have hlt : ¬ (t.length : Int) < 0 := by omega
      simp (disch := first | assumption | omega | exact Nat.le_of_ble_eq_true rfl | decide) only [u_207_254, u_207_255, u_207_258, u_207_259, u_207_260, u_207_263, u_207_264, u_207_265, u_207_268, u_207_269, u_207_272, u_207_273, u_207_274, u_207_275, u_207_278, hc8, if_false, r5, rv_some, hv, hlt, wrI, n1, ih]
theorem kk_eq (w : WD) (a : Int) : sumN (fun i => if a ≤ (w.1 i).1 ∧ (w.1 i).1 ≤ a then 1 else 0) 30 = cntK w a := by
  refine sumN_congr 30 (fun i hi => ?_)
  by_cases h : (w.1 i).1 = a
  · rw [if_pos h, if_pos (by omega)]
  · rw [if_neg h, if_neg (by omega)]
theorem kk_23 (w : WD) : sumN (fun i => if 2 ≤ (w.1 i).1 ∧ (w.1 i).1 ≤ 3 then 1 else 0) 30 = cntK w 2 + cntK w 3 := by
  refine sumN_add 30 (fun i hi => ?_)
  by_cases h : (w.1 i).1 = 2
  · rw [if_pos h, if_pos (by omega), if_neg (by omega)]
  · by_cases h3 : (w.1 i).1 = 3
    · rw [if_neg h, if_pos (by omega), if_pos h3]
    · rw [if_neg h, if_neg (by omega), if_neg h3]
theorem MM_count (hX : MX sh R) (hm : mR I s) (hs : okS s) : ME sh R I (d + 3) 207 [.inl q] (b_count s q, s) := by
  obtain ⟨t9, r9, tg_, lg⟩ := hX.1
  have hW := hm.1
  refine ME.same hm ?_
  unfold b_count
  rw [c_207]
  by_cases q0 : q = 0
  · have e : ((manyW s.1 : Nat) : Int) = ((30 - cntK s.1 0 : Nat) : Int) := by rw [manyW_eq]
    simp (disch := first | assumption | omega | exact Nat.le_of_ble_eq_true rfl | decide) only [u_207_0, u_207_1, u_207_2, u_207_3, u_207_52, u_207_53, u_207_56, u_207_57, u_207_58, u_207_59, u_207_60, u_207_63, u_207_64, u_207_65, u_207_66, u_207_67, u_207_70, u_207_71, u_207_72, u_207_73, u_207_74, u_207_77, u_207_283, u_207_284, ev_sw, ev_sw0, q0, Int.natCast_zero, Int.cast_ofNat_Int, Int.reduceEq, if_true, if_false, m_many hX.1 hW, e, bnd_some, psh_some]
  · by_cases q1 : q = 1
    · simp (disch := first | assumption | omega | exact Nat.le_of_ble_eq_true rfl | decide) only [u_207_0, u_207_1, u_207_2, u_207_3, u_207_52, u_207_53, u_207_56, u_207_57, u_207_58, u_207_59, u_207_60, u_207_63, u_207_64, u_207_65, u_207_66, u_207_67, u_207_70, u_207_71, u_207_72, u_207_73, u_207_74, u_207_77, u_207_283, u_207_284, ev_sw, ev_sw0, q1, Int.natCast_zero, Int.cast_ofNat_Int, Int.reduceEq, if_true, if_false, m_ofK hX hW, kk_eq, bnd_some, psh_some]
    · by_cases q2 : q = 2
      · simp (disch := first | assumption | omega | exact Nat.le_of_ble_eq_true rfl | decide) only [u_207_0, u_207_1, u_207_2, u_207_3, u_207_52, u_207_53, u_207_56, u_207_57, u_207_58, u_207_59, u_207_60, u_207_63, u_207_64, u_207_65, u_207_66, u_207_67, u_207_70, u_207_71, u_207_72, u_207_73, u_207_74, u_207_77, u_207_283, u_207_284, ev_sw, ev_sw0, q2, Int.natCast_zero, Int.cast_ofNat_Int, Int.reduceEq, if_true, if_false, m_ofK hX hW, kk_23, bnd_some, psh_some]
      · by_cases q3 : q = 3
        · simp (disch := first | assumption | omega | exact Nat.le_of_ble_eq_true rfl | decide) only [u_207_0, u_207_1, u_207_2, u_207_3, u_207_52, u_207_53, u_207_56, u_207_57, u_207_58, u_207_59, u_207_60, u_207_63, u_207_64, u_207_65, u_207_66, u_207_67, u_207_70, u_207_71, u_207_72, u_207_73, u_207_74, u_207_77, u_207_283, u_207_284, ev_sw, ev_sw0, q3, Int.natCast_zero, Int.cast_ofNat_Int, Int.reduceEq, if_true, if_false, m_ofK hX hW, kk_eq, bnd_some, psh_some]
        · by_cases q4 : q = 4
          · have c4 := c4_loop (d := d + 2) (a1 := .inl q) (a4 := .inr (.inr 1)) hX hW hs.1 30 0 (by omega)
            subst q4
            have c4 : ev S0 (d + 2) 207 80 [.inr (.inl 392), .inl 4, .inl 0, .inl 0, .inr (.inr 1)] [] (sh, I, R) = some (some (.inl ((cntF s.1 : Nat) : Int)), (sh, I, R)) := c4
            simp (disch := first | assumption | omega | exact Nat.le_of_ble_eq_true rfl | decide) only [u_207_0, u_207_1, u_207_2, u_207_3, u_207_52, u_207_53, u_207_56, u_207_57, u_207_58, u_207_59, u_207_60, u_207_63, u_207_64, u_207_65, u_207_66, u_207_67, u_207_70, u_207_71, u_207_72, u_207_73, u_207_74, u_207_77, u_207_78, u_207_79, u_207_283, u_207_284, ev_sw, ev_sw0, Int.natCast_zero, Int.cast_ofNat_Int, Int.reduceEq, if_true, if_false, c4]
          · by_cases q5 : q = 5
            · have c5 := c5_loop (d := d + 1) (a1 := .inl q) hX hW hs.1 30 0 (.inr (.inr 1)) (by omega)
              subst q5
              have c5 : ev S0 (d + 2) 207 123 [.inr (.inl 392), .inl 5, .inl 0, .inl 0, .inr (.inr 1)] [] (sh, I, R) = some (some (.inl ((cntR s.1 : Nat) : Int)), (sh, I, R)) := c5
              simp (disch := first | assumption | omega | exact Nat.le_of_ble_eq_true rfl | decide) only [u_207_0, u_207_1, u_207_2, u_207_3, u_207_121, u_207_122, u_207_283, u_207_284, ev_sw, ev_sw0, Int.natCast_zero, Int.cast_ofNat_Int, Int.reduceEq, if_true, if_false, c5]
            · by_cases q6 : q = 6
              · have c6 := c6_loop (d := d + 2) (a1 := .inl q) (a4 := .inr (.inr 1)) hX hW hs.1 9 0 (by omega)
                subst q6
                have c6 : ev S0 (d + 2) 207 191 [.inr (.inl 392), .inl 6, .inl 0, .inl 0, .inr (.inr 1)] [] (sh, I, R) = some (some (.inl ((cntS s.1 : Nat) : Int)), (sh, I, R)) := c6
                simp (disch := first | assumption | omega | exact Nat.le_of_ble_eq_true rfl | decide) only [u_207_0, u_207_1, u_207_2, u_207_3, u_207_189, u_207_190, u_207_283, u_207_284, ev_sw, ev_sw0, Int.natCast_zero, Int.cast_ofNat_Int, Int.reduceEq, if_true, if_false, c6]
              · by_cases q7 : q = 7
                · have c7 := c7_loop (d := d + 2) (a1 := .inl q) (a4 := .inr (.inr 1)) hX hm hs 8 0 (by omega)
                  subst q7
                  have c7 : ev S0 (d + 2) 207 220 [.inr (.inl 392), .inl 7, .inl 0, .inl 0, .inr (.inr 1)] [] (sh, I, R) = some (some (.inl ((usdH s : Nat) : Int)), (sh, I, R)) := c7
                  simp (disch := first | assumption | omega | exact Nat.le_of_ble_eq_true rfl | decide) only [u_207_0, u_207_1, u_207_2, u_207_3, u_207_218, u_207_219, u_207_283, u_207_284, ev_sw, ev_sw0, Int.natCast_zero, Int.cast_ofNat_Int, Int.reduceEq, if_true, if_false, c7]
                · by_cases q8 : q = 8
                  · have c8 := c8_loop (d := d + 2) (a1 := .inl q) (a4 := .inr (.inr 1)) hX hm 4 0 (by omega)
                    subst q8
                    have c8 : ev S0 (d + 2) 207 253 [.inr (.inl 392), .inl 8, .inl 0, .inl 0, .inr (.inr 1)] [] (sh, I, R) = some (some (.inl ((usdS s : Nat) : Int)), (sh, I, R)) := c8
                    simp (disch := first | assumption | omega | exact Nat.le_of_ble_eq_true rfl | decide) only [u_207_0, u_207_1, u_207_2, u_207_3, u_207_251, u_207_252, u_207_283, u_207_284, ev_sw, ev_sw0, Int.natCast_zero, Int.cast_ofNat_Int, Int.reduceEq, if_true, if_false, c8]
                  · simp (disch := first | assumption | omega | exact Nat.le_of_ble_eq_true rfl | decide) only [u_207_0, u_207_1, u_207_2, u_207_3, u_207_283, u_207_284, ev_sw, ev_sw0, q0, q1, q2, q3, q4, q5, q6, q7, q8, Int.natCast_zero, Int.cast_ofNat_Int, Int.reduceEq, if_true, if_false]
end M6
