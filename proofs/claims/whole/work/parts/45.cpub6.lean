/-! THE CLASS: tells, count -/
section C6
variable {sh : Shp} {R : RM} {I : IM} {d : Nat} {s : ST} {q h : Int}
theorem CC_tells (hC : CS sh R) (hc : cR I s) (hs : okS s) : CE sh R I (d + 2) 115 [.inl h, .inl q] (b_tells s h q, s) := by
  obtain ⟨hH, -, -, -, -, -, ⟨r6, t6, l6⟩, -⟩ := id hC
  have tc := hH.1
  have rc := hH.2.1
  have tw := hH.2.2.1
  refine CE.same hc ?_
  unfold b_tells
  rw [c_115]
  by_cases hh : ish h
  · rw [if_neg (Classical.not_not.mpr hh)]
    by_cases hq : 0 ≤ q ∧ q ≤ 4
    · rw [if_neg (Classical.not_not.mpr hq)]
      have c0 : ¬ q < 0 := by omega
      have c1 : q ≤ 4 := by omega
      obtain ⟨h, rfl⟩ : ∃ q' : Nat, h = (q' : Int) := ⟨h.toNat, by have := hh.1; omega⟩
      have h8 : h < 8 := by have := hh.2; omega
      rw [Int.toNat_natCast]
      have hv := hc.2.2.2.2.1 h h8
      have hlv := hs.2.2.2.2.2.2.1 h h8
      by_cases hn : s.2.2.2.2.1 h = -1
      · rw [if_pos hn]
        have hnl : ¬ live s.1 (-1) := fun q => absurd q.1 (by decide)
        rw [hn] at hv
        simp (disch := first | assumption | omega | exact Nat.le_of_ble_eq_true rfl | decide) only [u_115_0, u_115_1, u_115_4, u_115_7, u_115_8, u_115_11, u_115_12, u_115_13, u_115_16, u_115_17, u_115_18, u_115_19, u_115_22, u_115_23, u_115_26, u_115_27, u_115_28, u_115_31, u_115_31n, u_115_32, u_115_32n, u_115_33, u_115_33n, u_115_36, u_115_38, u_115_39, u_115_40, u_115_72, u_115_72n, u_115_73, u_115_76, u_115_77, u_115_80, u_115_80n, u_115_81, u_115_84, u_115_87, u_115_90, u_115_92, u_115_93, u_115_93n, u_115_94, u_115_97, u_115_98, u_115_101, u_115_101n, u_115_102, u_115_105, u_115_106, u_115_109, u_115_109n, u_115_110, u_115_113, u_115_114, u_115_115, u_115_118, u_115_121, u_115_123, u_115_124, u_115_124n, u_115_125, u_115_128, u_115_129, u_115_132, u_115_132n, u_115_133, u_115_136, u_115_137, u_115_138, u_115_141, u_115_144, u_115_146, u_115_147, u_115_147n, u_115_148, u_115_151, u_115_152, u_115_155, u_115_157, u_115_157n, u_115_158, u_115_161, u_115_162, u_115_162n, u_115_163, u_115_166, u_115_167, u_115_170, u_115_172, u_115_173, u_115_173n, u_115_174, u_115_177, s_isHandle, if_pos hh, bnd_some, psh_some, Int.reduceEq, if_false, if_true, c0, c1, rc, r6, rv_some, hv, s_atN hH.2.2 hc.1 hnl]
      · rw [if_neg hn]
        obtain ⟨o, ho, ho3, hk⟩ := liv_nat (hlv.resolve_left hn)
        rw [ho] at hv
        rw [ho, Int.toNat_natCast]
        have hok := hs.1.1 o ho3
        obtain ⟨n1_, n2⟩ := hH.2.2.2.2.2.2.2.2.2.2.2.2.1 o ho3
        obtain ⟨nt, nr0, nr1, nF, nt4, nl4⟩ := n2
        have nft := nF.1
        obtain ⟨x1, x2, x3, x4, x5, x6⟩ := hc.1.1 o ho3
        have x50 := x5.1
        have hat := fun dd => s_atL (d := dd) hH.2.2 hc.1 ho3 hk
        have hrl := hok.2.2.2.2.2.2.2.1
        have h3a := hok.2.2.2.2.2.2.2.2.2.1
        have h3b := hok.2.2.2.2.2.2.2.2.2.2.1
        by_cases q1 : q = 1
        · subst q1
          rw [if_pos rfl]
          by_cases k1 : (s.1.1 o).1 = 1
          · rw [if_pos k1]
            simp (disch := first | assumption | omega | exact Nat.le_of_ble_eq_true rfl | decide) only [u_115_0, u_115_1, u_115_4, u_115_7, u_115_8, u_115_11, u_115_12, u_115_13, u_115_16, u_115_17, u_115_18, u_115_19, u_115_22, u_115_23, u_115_26, u_115_27, u_115_28, u_115_31, u_115_31n, u_115_32, u_115_32n, u_115_33, u_115_33n, u_115_36, u_115_38, u_115_39, u_115_40, u_115_72, u_115_72n, u_115_73, u_115_76, u_115_77, u_115_80, u_115_80n, u_115_81, u_115_84, u_115_87, u_115_90, u_115_92, u_115_93, u_115_93n, u_115_94, u_115_97, u_115_98, u_115_101, u_115_101n, u_115_102, u_115_105, u_115_106, u_115_109, u_115_109n, u_115_110, u_115_113, u_115_114, u_115_115, u_115_118, u_115_121, u_115_123, u_115_124, u_115_124n, u_115_125, u_115_128, u_115_129, u_115_132, u_115_132n, u_115_133, u_115_136, u_115_137, u_115_138, u_115_141, u_115_144, u_115_146, u_115_147, u_115_147n, u_115_148, u_115_151, u_115_152, u_115_155, u_115_157, u_115_157n, u_115_158, u_115_161, u_115_162, u_115_162n, u_115_163, u_115_166, u_115_167, u_115_170, u_115_172, u_115_173, u_115_173n, u_115_174, u_115_177, s_isHandle, if_pos hh, bnd_some, psh_some, Int.reduceEq, not_true, not_false_eq_true, if_false, if_true, rc, r6, rv_some, hv, hat, ev_sw, ev_sw0, Int.natCast_zero, Int.cast_ofNat_Int, x1, if_neg c0, if_pos c1, k1, nr0, x50]
          · rw [if_neg k1]
            simp (disch := first | assumption | omega | exact Nat.le_of_ble_eq_true rfl | decide) only [u_115_0, u_115_1, u_115_4, u_115_7, u_115_8, u_115_11, u_115_12, u_115_13, u_115_16, u_115_17, u_115_18, u_115_19, u_115_22, u_115_23, u_115_26, u_115_27, u_115_28, u_115_31, u_115_31n, u_115_32, u_115_32n, u_115_33, u_115_33n, u_115_36, u_115_38, u_115_39, u_115_40, u_115_72, u_115_72n, u_115_73, u_115_76, u_115_77, u_115_80, u_115_80n, u_115_81, u_115_84, u_115_87, u_115_90, u_115_92, u_115_93, u_115_93n, u_115_94, u_115_97, u_115_98, u_115_101, u_115_101n, u_115_102, u_115_105, u_115_106, u_115_109, u_115_109n, u_115_110, u_115_113, u_115_114, u_115_115, u_115_118, u_115_121, u_115_123, u_115_124, u_115_124n, u_115_125, u_115_128, u_115_129, u_115_132, u_115_132n, u_115_133, u_115_136, u_115_137, u_115_138, u_115_141, u_115_144, u_115_146, u_115_147, u_115_147n, u_115_148, u_115_151, u_115_152, u_115_155, u_115_157, u_115_157n, u_115_158, u_115_161, u_115_162, u_115_162n, u_115_163, u_115_166, u_115_167, u_115_170, u_115_172, u_115_173, u_115_173n, u_115_174, u_115_177, s_isHandle, if_pos hh, bnd_some, psh_some, Int.reduceEq, not_true, not_false_eq_true, if_false, if_true, rc, r6, rv_some, hv, hat, ev_sw, ev_sw0, Int.natCast_zero, Int.cast_ofNat_Int, x1, if_neg c0, if_pos c1, k1]
        · rw [if_neg q1]
          by_cases q2 : q = 2
          · subst q2
            rw [if_pos rfl]
            by_cases k2 : (s.1.1 o).1 = 2
            · have hl2 := hok.2.2.2.2.1 k2
              have hv0 := x4.at (j := 0) (by omega)
              have hv0 : I (1 + 4 + 5 * o + 4) 0 = (s.1.1 o).2.2.1[0]'(by omega) := hv0
              rw [if_pos (Or.inl k2), getD_at (by omega : 0 < (s.1.1 o).2.2.1.length)]
              unfold nT
              simp (disch := first | assumption | omega | exact Nat.le_of_ble_eq_true rfl | decide) only [u_115_0, u_115_1, u_115_4, u_115_7, u_115_8, u_115_11, u_115_12, u_115_13, u_115_16, u_115_17, u_115_18, u_115_19, u_115_22, u_115_23, u_115_26, u_115_27, u_115_28, u_115_31, u_115_31n, u_115_32, u_115_32n, u_115_33, u_115_33n, u_115_36, u_115_38, u_115_39, u_115_40, u_115_72, u_115_72n, u_115_73, u_115_76, u_115_77, u_115_80, u_115_80n, u_115_81, u_115_84, u_115_87, u_115_90, u_115_92, u_115_93, u_115_93n, u_115_94, u_115_97, u_115_98, u_115_101, u_115_101n, u_115_102, u_115_105, u_115_106, u_115_109, u_115_109n, u_115_110, u_115_113, u_115_114, u_115_115, u_115_118, u_115_121, u_115_123, u_115_124, u_115_124n, u_115_125, u_115_128, u_115_129, u_115_132, u_115_132n, u_115_133, u_115_136, u_115_137, u_115_138, u_115_141, u_115_144, u_115_146, u_115_147, u_115_147n, u_115_148, u_115_151, u_115_152, u_115_155, u_115_157, u_115_157n, u_115_158, u_115_161, u_115_162, u_115_162n, u_115_163, u_115_166, u_115_167, u_115_170, u_115_172, u_115_173, u_115_173n, u_115_174, u_115_177, s_isHandle, if_pos hh, bnd_some, psh_some, Int.reduceEq, not_true, not_false_eq_true, if_false, if_true, rc, r6, rv_some, hv, hat, ev_sw, ev_sw0, Int.natCast_zero, Int.cast_ofNat_Int, x1, if_neg c0, if_pos c1, k2, nr1, hv0, s_orNot]
            · by_cases k3 : (s.1.1 o).1 = 3
              · have hl2 := hok.2.2.2.2.2.1 k3
                have hv0 := x4.at (j := 0) (by omega)
                have hv0 : I (1 + 4 + 5 * o + 4) 0 = (s.1.1 o).2.2.1[0]'(by omega) := hv0
                rw [if_pos (Or.inr k3), getD_at (by omega : 0 < (s.1.1 o).2.2.1.length)]
                unfold nT
                simp (disch := first | assumption | omega | exact Nat.le_of_ble_eq_true rfl | decide) only [u_115_0, u_115_1, u_115_4, u_115_7, u_115_8, u_115_11, u_115_12, u_115_13, u_115_16, u_115_17, u_115_18, u_115_19, u_115_22, u_115_23, u_115_26, u_115_27, u_115_28, u_115_31, u_115_31n, u_115_32, u_115_32n, u_115_33, u_115_33n, u_115_36, u_115_38, u_115_39, u_115_40, u_115_72, u_115_72n, u_115_73, u_115_76, u_115_77, u_115_80, u_115_80n, u_115_81, u_115_84, u_115_87, u_115_90, u_115_92, u_115_93, u_115_93n, u_115_94, u_115_97, u_115_98, u_115_101, u_115_101n, u_115_102, u_115_105, u_115_106, u_115_109, u_115_109n, u_115_110, u_115_113, u_115_114, u_115_115, u_115_118, u_115_121, u_115_123, u_115_124, u_115_124n, u_115_125, u_115_128, u_115_129, u_115_132, u_115_132n, u_115_133, u_115_136, u_115_137, u_115_138, u_115_141, u_115_144, u_115_146, u_115_147, u_115_147n, u_115_148, u_115_151, u_115_152, u_115_155, u_115_157, u_115_157n, u_115_158, u_115_161, u_115_162, u_115_162n, u_115_163, u_115_166, u_115_167, u_115_170, u_115_172, u_115_173, u_115_173n, u_115_174, u_115_177, s_isHandle, if_pos hh, bnd_some, psh_some, Int.reduceEq, not_true, not_false_eq_true, if_false, if_true, rc, r6, rv_some, hv, hat, ev_sw, ev_sw0, Int.natCast_zero, Int.cast_ofNat_Int, x1, if_neg c0, if_pos c1, k3, nr1, hv0, s_orNot]
              · rw [if_neg (fun q => q.elim k2 k3)]
                simp (disch := first | assumption | omega | exact Nat.le_of_ble_eq_true rfl | decide) only [u_115_0, u_115_1, u_115_4, u_115_7, u_115_8, u_115_11, u_115_12, u_115_13, u_115_16, u_115_17, u_115_18, u_115_19, u_115_22, u_115_23, u_115_26, u_115_27, u_115_28, u_115_31, u_115_31n, u_115_32, u_115_32n, u_115_33, u_115_33n, u_115_36, u_115_38, u_115_39, u_115_40, u_115_72, u_115_72n, u_115_73, u_115_76, u_115_77, u_115_80, u_115_80n, u_115_81, u_115_84, u_115_87, u_115_90, u_115_92, u_115_93, u_115_93n, u_115_94, u_115_97, u_115_98, u_115_101, u_115_101n, u_115_102, u_115_105, u_115_106, u_115_109, u_115_109n, u_115_110, u_115_113, u_115_114, u_115_115, u_115_118, u_115_121, u_115_123, u_115_124, u_115_124n, u_115_125, u_115_128, u_115_129, u_115_132, u_115_132n, u_115_133, u_115_136, u_115_137, u_115_138, u_115_141, u_115_144, u_115_146, u_115_147, u_115_147n, u_115_148, u_115_151, u_115_152, u_115_155, u_115_157, u_115_157n, u_115_158, u_115_161, u_115_162, u_115_162n, u_115_163, u_115_166, u_115_167, u_115_170, u_115_172, u_115_173, u_115_173n, u_115_174, u_115_177, s_isHandle, if_pos hh, bnd_some, psh_some, Int.reduceEq, not_true, not_false_eq_true, if_false, if_true, rc, r6, rv_some, hv, hat, ev_sw, ev_sw0, Int.natCast_zero, Int.cast_ofNat_Int, x1, if_neg c0, if_pos c1, k2, k3]
          · rw [if_neg q2]
            by_cases q3 : q = 3
            · subst q3
              rw [if_pos rfl]
              by_cases k3 : (s.1.1 o).1 = 3
              · have hl2 := hok.2.2.2.2.2.1 k3
                have hv0 := x4.at (j := 2) (by omega)
                have hv0 : I (1 + 4 + 5 * o + 4) 2 = (s.1.1 o).2.2.1[2]'(by omega) := hv0
                rw [if_pos k3, getD_at (by omega : 2 < (s.1.1 o).2.2.1.length)]
                unfold nT
                simp (disch := first | assumption | omega | exact Nat.le_of_ble_eq_true rfl | decide) only [u_115_0, u_115_1, u_115_4, u_115_7, u_115_8, u_115_11, u_115_12, u_115_13, u_115_16, u_115_17, u_115_18, u_115_19, u_115_22, u_115_23, u_115_26, u_115_27, u_115_28, u_115_31, u_115_31n, u_115_32, u_115_32n, u_115_33, u_115_33n, u_115_36, u_115_38, u_115_39, u_115_40, u_115_72, u_115_72n, u_115_73, u_115_76, u_115_77, u_115_80, u_115_80n, u_115_81, u_115_84, u_115_87, u_115_90, u_115_92, u_115_93, u_115_93n, u_115_94, u_115_97, u_115_98, u_115_101, u_115_101n, u_115_102, u_115_105, u_115_106, u_115_109, u_115_109n, u_115_110, u_115_113, u_115_114, u_115_115, u_115_118, u_115_121, u_115_123, u_115_124, u_115_124n, u_115_125, u_115_128, u_115_129, u_115_132, u_115_132n, u_115_133, u_115_136, u_115_137, u_115_138, u_115_141, u_115_144, u_115_146, u_115_147, u_115_147n, u_115_148, u_115_151, u_115_152, u_115_155, u_115_157, u_115_157n, u_115_158, u_115_161, u_115_162, u_115_162n, u_115_163, u_115_166, u_115_167, u_115_170, u_115_172, u_115_173, u_115_173n, u_115_174, u_115_177, s_isHandle, if_pos hh, bnd_some, psh_some, Int.reduceEq, not_true, not_false_eq_true, if_false, if_true, rc, r6, rv_some, hv, hat, ev_sw, ev_sw0, Int.natCast_zero, Int.cast_ofNat_Int, x1, if_neg c0, if_pos c1, k3, nr1, hv0, s_orNot]
              · rw [if_neg k3]
                simp (disch := first | assumption | omega | exact Nat.le_of_ble_eq_true rfl | decide) only [u_115_0, u_115_1, u_115_4, u_115_7, u_115_8, u_115_11, u_115_12, u_115_13, u_115_16, u_115_17, u_115_18, u_115_19, u_115_22, u_115_23, u_115_26, u_115_27, u_115_28, u_115_31, u_115_31n, u_115_32, u_115_32n, u_115_33, u_115_33n, u_115_36, u_115_38, u_115_39, u_115_40, u_115_72, u_115_72n, u_115_73, u_115_76, u_115_77, u_115_80, u_115_80n, u_115_81, u_115_84, u_115_87, u_115_90, u_115_92, u_115_93, u_115_93n, u_115_94, u_115_97, u_115_98, u_115_101, u_115_101n, u_115_102, u_115_105, u_115_106, u_115_109, u_115_109n, u_115_110, u_115_113, u_115_114, u_115_115, u_115_118, u_115_121, u_115_123, u_115_124, u_115_124n, u_115_125, u_115_128, u_115_129, u_115_132, u_115_132n, u_115_133, u_115_136, u_115_137, u_115_138, u_115_141, u_115_144, u_115_146, u_115_147, u_115_147n, u_115_148, u_115_151, u_115_152, u_115_155, u_115_157, u_115_157n, u_115_158, u_115_161, u_115_162, u_115_162n, u_115_163, u_115_166, u_115_167, u_115_170, u_115_172, u_115_173, u_115_173n, u_115_174, u_115_177, s_isHandle, if_pos hh, bnd_some, psh_some, Int.reduceEq, not_true, not_false_eq_true, if_false, if_true, rc, r6, rv_some, hv, hat, ev_sw, ev_sw0, Int.natCast_zero, Int.cast_ofNat_Int, x1, if_neg c0, if_pos c1, k3]
            · rw [if_neg q3]
              by_cases q4 : q = 4
              · subst q4
                rw [if_pos rfl]
                by_cases k4 : (s.1.1 o).1 = 4
                · rw [if_pos k4]
                  simp (disch := first | assumption | omega | exact Nat.le_of_ble_eq_true rfl | decide) only [u_115_0, u_115_1, u_115_4, u_115_7, u_115_8, u_115_11, u_115_12, u_115_13, u_115_16, u_115_17, u_115_18, u_115_19, u_115_22, u_115_23, u_115_26, u_115_27, u_115_28, u_115_31, u_115_31n, u_115_32, u_115_32n, u_115_33, u_115_33n, u_115_36, u_115_38, u_115_39, u_115_40, u_115_72, u_115_72n, u_115_73, u_115_76, u_115_77, u_115_80, u_115_80n, u_115_81, u_115_84, u_115_87, u_115_90, u_115_92, u_115_93, u_115_93n, u_115_94, u_115_97, u_115_98, u_115_101, u_115_101n, u_115_102, u_115_105, u_115_106, u_115_109, u_115_109n, u_115_110, u_115_113, u_115_114, u_115_115, u_115_118, u_115_121, u_115_123, u_115_124, u_115_124n, u_115_125, u_115_128, u_115_129, u_115_132, u_115_132n, u_115_133, u_115_136, u_115_137, u_115_138, u_115_141, u_115_144, u_115_146, u_115_147, u_115_147n, u_115_148, u_115_151, u_115_152, u_115_155, u_115_157, u_115_157n, u_115_158, u_115_161, u_115_162, u_115_162n, u_115_163, u_115_166, u_115_167, u_115_170, u_115_172, u_115_173, u_115_173n, u_115_174, u_115_177, s_isHandle, if_pos hh, bnd_some, psh_some, Int.reduceEq, not_true, not_false_eq_true, if_false, if_true, rc, r6, rv_some, hv, hat, ev_sw, ev_sw0, Int.natCast_zero, Int.cast_ofNat_Int, x1, if_neg c0, if_pos c1, k4, x2, x3, wrI]
                · rw [if_neg k4]
                  simp (disch := first | assumption | omega | exact Nat.le_of_ble_eq_true rfl | decide) only [u_115_0, u_115_1, u_115_4, u_115_7, u_115_8, u_115_11, u_115_12, u_115_13, u_115_16, u_115_17, u_115_18, u_115_19, u_115_22, u_115_23, u_115_26, u_115_27, u_115_28, u_115_31, u_115_31n, u_115_32, u_115_32n, u_115_33, u_115_33n, u_115_36, u_115_38, u_115_39, u_115_40, u_115_72, u_115_72n, u_115_73, u_115_76, u_115_77, u_115_80, u_115_80n, u_115_81, u_115_84, u_115_87, u_115_90, u_115_92, u_115_93, u_115_93n, u_115_94, u_115_97, u_115_98, u_115_101, u_115_101n, u_115_102, u_115_105, u_115_106, u_115_109, u_115_109n, u_115_110, u_115_113, u_115_114, u_115_115, u_115_118, u_115_121, u_115_123, u_115_124, u_115_124n, u_115_125, u_115_128, u_115_129, u_115_132, u_115_132n, u_115_133, u_115_136, u_115_137, u_115_138, u_115_141, u_115_144, u_115_146, u_115_147, u_115_147n, u_115_148, u_115_151, u_115_152, u_115_155, u_115_157, u_115_157n, u_115_158, u_115_161, u_115_162, u_115_162n, u_115_163, u_115_166, u_115_167, u_115_170, u_115_172, u_115_173, u_115_173n, u_115_174, u_115_177, s_isHandle, if_pos hh, bnd_some, psh_some, Int.reduceEq, not_true, not_false_eq_true, if_false, if_true, rc, r6, rv_some, hv, hat, ev_sw, ev_sw0, Int.natCast_zero, Int.cast_ofNat_Int, x1, if_neg c0, if_pos c1, k4]
              · rw [if_neg q4]
                simp (disch := first | assumption | omega | exact Nat.le_of_ble_eq_true rfl | decide) only [u_115_0, u_115_1, u_115_4, u_115_7, u_115_8, u_115_11, u_115_12, u_115_13, u_115_16, u_115_17, u_115_18, u_115_19, u_115_22, u_115_23, u_115_26, u_115_27, u_115_28, u_115_31, u_115_31n, u_115_32, u_115_32n, u_115_33, u_115_33n, u_115_36, u_115_38, u_115_39, u_115_40, u_115_72, u_115_72n, u_115_73, u_115_76, u_115_77, u_115_80, u_115_80n, u_115_81, u_115_84, u_115_87, u_115_90, u_115_92, u_115_93, u_115_93n, u_115_94, u_115_97, u_115_98, u_115_101, u_115_101n, u_115_102, u_115_105, u_115_106, u_115_109, u_115_109n, u_115_110, u_115_113, u_115_114, u_115_115, u_115_118, u_115_121, u_115_123, u_115_124, u_115_124n, u_115_125, u_115_128, u_115_129, u_115_132, u_115_132n, u_115_133, u_115_136, u_115_137, u_115_138, u_115_141, u_115_144, u_115_146, u_115_147, u_115_147n, u_115_148, u_115_151, u_115_152, u_115_155, u_115_157, u_115_157n, u_115_158, u_115_161, u_115_162, u_115_162n, u_115_163, u_115_166, u_115_167, u_115_170, u_115_172, u_115_173, u_115_173n, u_115_174, u_115_177, s_isHandle, if_pos hh, bnd_some, psh_some, Int.reduceEq, not_true, not_false_eq_true, if_false, if_true, rc, r6, rv_some, hv, hat, ev_sw, ev_sw0, Int.natCast_zero, Int.cast_ofNat_Int, x1, if_neg c0, if_pos c1, q1, q2, q3, q4]
    · rw [if_pos hq]
      by_cases c0 : q < 0
      · simp (disch := first | assumption | omega | exact Nat.le_of_ble_eq_true rfl | decide) only [u_115_0, u_115_1, u_115_4, u_115_7, u_115_8, u_115_11, u_115_12, u_115_13, u_115_16, u_115_17, u_115_18, u_115_19, u_115_22, u_115_23, u_115_26, u_115_27, u_115_28, u_115_31, u_115_31n, u_115_32, u_115_32n, u_115_33, u_115_33n, u_115_36, u_115_38, u_115_39, u_115_40, u_115_72, u_115_72n, u_115_73, u_115_76, u_115_77, u_115_80, u_115_80n, u_115_81, u_115_84, u_115_87, u_115_90, u_115_92, u_115_93, u_115_93n, u_115_94, u_115_97, u_115_98, u_115_101, u_115_101n, u_115_102, u_115_105, u_115_106, u_115_109, u_115_109n, u_115_110, u_115_113, u_115_114, u_115_115, u_115_118, u_115_121, u_115_123, u_115_124, u_115_124n, u_115_125, u_115_128, u_115_129, u_115_132, u_115_132n, u_115_133, u_115_136, u_115_137, u_115_138, u_115_141, u_115_144, u_115_146, u_115_147, u_115_147n, u_115_148, u_115_151, u_115_152, u_115_155, u_115_157, u_115_157n, u_115_158, u_115_161, u_115_162, u_115_162n, u_115_163, u_115_166, u_115_167, u_115_170, u_115_172, u_115_173, u_115_173n, u_115_174, u_115_177, s_isHandle, if_pos hh, bnd_some, psh_some, Int.reduceEq, if_false, if_true, c0]
      · have c1 : ¬ q ≤ 4 := by omega
        simp (disch := first | assumption | omega | exact Nat.le_of_ble_eq_true rfl | decide) only [u_115_0, u_115_1, u_115_4, u_115_7, u_115_8, u_115_11, u_115_12, u_115_13, u_115_16, u_115_17, u_115_18, u_115_19, u_115_22, u_115_23, u_115_26, u_115_27, u_115_28, u_115_31, u_115_31n, u_115_32, u_115_32n, u_115_33, u_115_33n, u_115_36, u_115_38, u_115_39, u_115_40, u_115_72, u_115_72n, u_115_73, u_115_76, u_115_77, u_115_80, u_115_80n, u_115_81, u_115_84, u_115_87, u_115_90, u_115_92, u_115_93, u_115_93n, u_115_94, u_115_97, u_115_98, u_115_101, u_115_101n, u_115_102, u_115_105, u_115_106, u_115_109, u_115_109n, u_115_110, u_115_113, u_115_114, u_115_115, u_115_118, u_115_121, u_115_123, u_115_124, u_115_124n, u_115_125, u_115_128, u_115_129, u_115_132, u_115_132n, u_115_133, u_115_136, u_115_137, u_115_138, u_115_141, u_115_144, u_115_146, u_115_147, u_115_147n, u_115_148, u_115_151, u_115_152, u_115_155, u_115_157, u_115_157n, u_115_158, u_115_161, u_115_162, u_115_162n, u_115_163, u_115_166, u_115_167, u_115_170, u_115_172, u_115_173, u_115_173n, u_115_174, u_115_177, s_isHandle, if_pos hh, bnd_some, psh_some, Int.reduceEq, if_false, if_true, c0, c1]
  · rw [if_pos hh]
    simp (disch := first | assumption | omega | exact Nat.le_of_ble_eq_true rfl | decide) only [u_115_0, u_115_1, u_115_4, u_115_7, u_115_8, u_115_11, u_115_12, u_115_13, u_115_16, u_115_17, u_115_18, u_115_19, u_115_22, u_115_23, u_115_26, u_115_27, u_115_28, u_115_31, u_115_31n, u_115_32, u_115_32n, u_115_33, u_115_33n, u_115_36, u_115_38, u_115_39, u_115_40, u_115_72, u_115_72n, u_115_73, u_115_76, u_115_77, u_115_80, u_115_80n, u_115_81, u_115_84, u_115_87, u_115_90, u_115_92, u_115_93, u_115_93n, u_115_94, u_115_97, u_115_98, u_115_101, u_115_101n, u_115_102, u_115_105, u_115_106, u_115_109, u_115_109n, u_115_110, u_115_113, u_115_114, u_115_115, u_115_118, u_115_121, u_115_123, u_115_124, u_115_124n, u_115_125, u_115_128, u_115_129, u_115_132, u_115_132n, u_115_133, u_115_136, u_115_137, u_115_138, u_115_141, u_115_144, u_115_146, u_115_147, u_115_147n, u_115_148, u_115_151, u_115_152, u_115_155, u_115_157, u_115_157n, u_115_158, u_115_161, u_115_162, u_115_162n, u_115_163, u_115_166, u_115_167, u_115_170, u_115_172, u_115_173, u_115_173n, u_115_174, u_115_177, s_isHandle, if_neg hh, bnd_some, psh_some, if_true]
theorem uH_loop (hC : CS sh R) (hc : cR I s) : ∀ (k j : Nat), j + k = 8 → ev S0 d 117 4 [.inr (.inl 0), .inl ((sumN (fun i => if s.2.2.2.2.1 i = -1 then 0 else 1) j : Nat) : Int), .inl (j : Int)] [] (sh, I, R) = some (some (.inl ((usdH s : Nat) : Int)), (sh, I, R)) := by
  obtain ⟨hH, -, -, -, -, -, ⟨r6, t6, l6⟩, -⟩ := id hC
  have tc := hH.1
  intro k
  induction k with
  | zero =>
    intro j hj
    obtain rfl : j = 8 := by omega
    have hc : (8 : Int) ≤ ((8 : Nat) : Int) := by decide
    simp (disch := first | assumption | omega | exact Nat.le_of_ble_eq_true rfl | decide) only [u_117_4, u_117_5, u_117_7, u_117_34, u_117_35, hc, if_true]
    rfl
  | succ k ih =>
    intro j hj
    have hc8 : ¬ (8 : Int) ≤ (j : Int) := by omega
    have hle : sumN (fun i => if s.2.2.2.2.1 i = -1 then 0 else 1) j ≤ 1 * j := sumN_le j (fun i hi => by split <;> omega)
    have hv := hc.2.2.2.2.1 j (by omega)
    have ih := ih (j + 1) (by omega)
    have e : sumN (fun i => if s.2.2.2.2.1 i = -1 then 0 else 1) (j + 1) = sumN (fun i => if s.2.2.2.2.1 i = -1 then 0 else 1) j + (if s.2.2.2.2.1 j = -1 then 0 else 1) := rfl
    rw [e] at ih
    clear e
    generalize sumN (fun i => if s.2.2.2.2.1 i = -1 then 0 else 1) j = S at ih hle
    rw [u_117_4]
    by_cases hn : s.2.2.2.2.1 j = -1
    · rw [if_pos hn, Nat.add_zero] at ih
      have hw : wr ((S : Int) + 0) = (S : Int) := by rw [wrI (by omega) (by omega)]; omega
      simp (disch := first | assumption | omega | exact Nat.le_of_ble_eq_true rfl | decide) only [u_117_5, u_117_7, u_117_10, u_117_11, u_117_12, u_117_15, u_117_16, u_117_17, u_117_18, u_117_21, u_117_22, u_117_25, u_117_26, u_117_27, u_117_28, u_117_31, hc8, if_false, r6, rv_some, hv, hn, not_true, hw, wrN, ih]
    · rw [if_neg hn] at ih
      simp (disch := first | assumption | omega | exact Nat.le_of_ble_eq_true rfl | decide) only [u_117_5, u_117_7, u_117_10, u_117_11, u_117_12, u_117_15, u_117_16, u_117_17, u_117_18, u_117_21, u_117_22, u_117_25, u_117_26, u_117_27, u_117_28, u_117_31, hc8, if_false, if_true, r6, rv_some, hv, hn, not_false_eq_true, wrN, ih]
theorem s_usdH (hC : CS sh R) (hc : cR I s) : cl (d + 1) 117 [.inr (.inl 0)] (sh, I, R) = some (some (.inl ((usdH s : Nat) : Int)), (sh, I, R)) := by
  rw [c_117, u_117_0, u_117_1, u_117_2, u_117_3]
  exact uH_loop (d := d) hC hc 8 0 (by omega)
theorem uS_loop (hC : CS sh R) (hc : cR I s) : ∀ (k j : Nat), j + k = 4 → ev S0 (d + 1) 118 4 [.inr (.inl 0), .inl ((sumN (fun i => if s.2.2.2.1 i = none then 0 else 1) j : Nat) : Int), .inl (j : Int)] [] (sh, I, R) = some (some (.inl ((usdS s : Nat) : Int)), (sh, I, R)) := by
  obtain ⟨⟨tc, -⟩, -, -, -, -, ⟨r5, t5, l5, hq5⟩, -⟩ := id hC
  have hT : 200 ≤ tg sh 381 ∧ tg sh 381 < 210 := by rw [t5]; decide
  intro k
  induction k with
  | zero =>
    intro j hj
    obtain rfl : j = 4 := by omega
    have hc : (4 : Int) ≤ ((4 : Nat) : Int) := by decide
    simp (disch := first | assumption | omega | exact Nat.le_of_ble_eq_true rfl | decide) only [u_118_4, u_118_5, u_118_6, u_118_35, u_118_36, hc, if_true]
    rfl
  | succ k ih =>
    intro j hj
    have hc8 : ¬ (4 : Int) ≤ (j : Int) := by omega
    have hle : sumN (fun i => if s.2.2.2.1 i = none then 0 else 1) j ≤ 1 * j := sumN_le j (fun i hi => by split <;> omega)
    obtain ⟨e1, e2⟩ := hq5 j (by omega)
    have te := e2.1
    have hv := hc.2.2.2.1 j (by omega)
    have ih := ih (j + 1) (by omega)
    have e : sumN (fun i => if s.2.2.2.1 i = none then 0 else 1) (j + 1) = sumN (fun i => if s.2.2.2.1 i = none then 0 else 1) j + (if s.2.2.2.1 j = none then 0 else 1) := rfl
    rw [e] at ih
    clear e
    generalize sumN (fun i => if s.2.2.2.1 i = none then 0 else 1) j = S at ih hle
    rw [u_118_4]
    generalize s.2.2.2.1 j = sv at hv ih
    cases sv with
    | none =>
      simp only [if_true, Nat.add_zero] at ih
      have hv : I (384 + 2 * j) 1 = -1 := hv
      have hw : wr ((S : Int) + 0) = (S : Int) := by rw [wrI (by omega) (by omega)]; omega
      simp (disch := first | assumption | omega | exact Nat.le_of_ble_eq_true rfl | decide) only [u_118_5, u_118_6, u_118_9, u_118_10, u_118_11, u_118_14, u_118_15, u_118_16, u_118_19, u_118_22, u_118_23, u_118_26, u_118_27, u_118_28, u_118_29, u_118_32, hc8, if_false, r5, rv_some, e1, s_isNothing te, hv, if_true, bnd_some, psh_some, Int.reduceEq, hw, wrN, ih]
    | some t =>
      rw [if_neg (by simp)] at ih
      have hv := (show isSg I (384 + 2 * j) t from hv).1
      have hn : ¬ (t.length : Int) = -1 := by omega
      simp (disch := first | assumption | omega | exact Nat.le_of_ble_eq_true rfl | decide) only [u_118_5, u_118_6, u_118_9, u_118_10, u_118_11, u_118_14, u_118_15, u_118_16, u_118_19, u_118_22, u_118_23, u_118_26, u_118_27, u_118_28, u_118_29, u_118_32, hc8, if_false, r5, rv_some, e1, s_isNothing te, hv, hn, if_true, bnd_some, psh_some, Int.reduceEq, wrN, ih]
theorem s_usdS (hC : CS sh R) (hc : cR I s) : cl (d + 2) 118 [.inr (.inl 0)] (sh, I, R) = some (some (.inl ((usdS s : Nat) : Int)), (sh, I, R)) := by
  rw [c_118, u_118_0, u_118_1, u_118_2, u_118_3]
  exact uS_loop (d := d) hC hc 4 0 (by omega)
theorem CC_count (hC : CS sh R) (hc : cR I s) (hs : okS s) : CE sh R I (d + 3) 116 [.inl q] (b_count s q, s) := by
  have hH := hC.1
  have tc := hH.1
  have rc := hH.2.1
  have tw := hH.2.2.1
  have hW := hc.1
  have l2 := cntK_le s.1 2
  have l3 := cntK_le s.1 3
  refine CE.same hc ?_
  unfold b_count
  rw [c_116]
  by_cases q0 : q = 0
  · simp (disch := first | assumption | omega | exact Nat.le_of_ble_eq_true rfl | decide) only [u_116_0, u_116_1, u_116_52, u_116_53, u_116_56, u_116_59, u_116_60, u_116_61, u_116_64, u_116_65, u_116_68, u_116_69, u_116_70, u_116_73, u_116_74, u_116_77, u_116_78, u_116_81, u_116_82, u_116_85, u_116_86, u_116_87, u_116_88, u_116_91, u_116_92, u_116_95, u_116_96, u_116_97, u_116_100, u_116_103, u_116_104, u_116_105, u_116_108, u_116_111, u_116_112, u_116_113, u_116_116, u_116_119, u_116_120, u_116_121, u_116_124, u_116_125, u_116_126, u_116_129, u_116_130, u_116_131, ev_sw, ev_sw0, q0, Int.natCast_zero, Int.cast_ofNat_Int, Int.reduceEq, if_true, if_false, rc, rv_some, s_howMany hH.2.2 hW, bnd_some, psh_some]
  · by_cases q1 : q = 1
    · simp (disch := first | assumption | omega | exact Nat.le_of_ble_eq_true rfl | decide) only [u_116_0, u_116_1, u_116_52, u_116_53, u_116_56, u_116_59, u_116_60, u_116_61, u_116_64, u_116_65, u_116_68, u_116_69, u_116_70, u_116_73, u_116_74, u_116_77, u_116_78, u_116_81, u_116_82, u_116_85, u_116_86, u_116_87, u_116_88, u_116_91, u_116_92, u_116_95, u_116_96, u_116_97, u_116_100, u_116_103, u_116_104, u_116_105, u_116_108, u_116_111, u_116_112, u_116_113, u_116_116, u_116_119, u_116_120, u_116_121, u_116_124, u_116_125, u_116_126, u_116_129, u_116_130, u_116_131, ev_sw, ev_sw0, q1, Int.natCast_zero, Int.cast_ofNat_Int, Int.reduceEq, if_true, if_false, rc, rv_some, s_hmo hH.2.2 hW, bnd_some, psh_some]
    · by_cases q2 : q = 2
      · simp (disch := first | assumption | omega | exact Nat.le_of_ble_eq_true rfl | decide) only [u_116_0, u_116_1, u_116_52, u_116_53, u_116_56, u_116_59, u_116_60, u_116_61, u_116_64, u_116_65, u_116_68, u_116_69, u_116_70, u_116_73, u_116_74, u_116_77, u_116_78, u_116_81, u_116_82, u_116_85, u_116_86, u_116_87, u_116_88, u_116_91, u_116_92, u_116_95, u_116_96, u_116_97, u_116_100, u_116_103, u_116_104, u_116_105, u_116_108, u_116_111, u_116_112, u_116_113, u_116_116, u_116_119, u_116_120, u_116_121, u_116_124, u_116_125, u_116_126, u_116_129, u_116_130, u_116_131, ev_sw, ev_sw0, q2, Int.natCast_zero, Int.cast_ofNat_Int, Int.reduceEq, if_true, if_false, rc, rv_some, s_hmo hH.2.2 hW, bnd_some, psh_some, wrA]
      · by_cases q3 : q = 3
        · simp (disch := first | assumption | omega | exact Nat.le_of_ble_eq_true rfl | decide) only [u_116_0, u_116_1, u_116_52, u_116_53, u_116_56, u_116_59, u_116_60, u_116_61, u_116_64, u_116_65, u_116_68, u_116_69, u_116_70, u_116_73, u_116_74, u_116_77, u_116_78, u_116_81, u_116_82, u_116_85, u_116_86, u_116_87, u_116_88, u_116_91, u_116_92, u_116_95, u_116_96, u_116_97, u_116_100, u_116_103, u_116_104, u_116_105, u_116_108, u_116_111, u_116_112, u_116_113, u_116_116, u_116_119, u_116_120, u_116_121, u_116_124, u_116_125, u_116_126, u_116_129, u_116_130, u_116_131, ev_sw, ev_sw0, q3, Int.natCast_zero, Int.cast_ofNat_Int, Int.reduceEq, if_true, if_false, rc, rv_some, s_hmo hH.2.2 hW, bnd_some, psh_some]
        · by_cases q4 : q = 4
          · simp (disch := first | assumption | omega | exact Nat.le_of_ble_eq_true rfl | decide) only [u_116_0, u_116_1, u_116_52, u_116_53, u_116_56, u_116_59, u_116_60, u_116_61, u_116_64, u_116_65, u_116_68, u_116_69, u_116_70, u_116_73, u_116_74, u_116_77, u_116_78, u_116_81, u_116_82, u_116_85, u_116_86, u_116_87, u_116_88, u_116_91, u_116_92, u_116_95, u_116_96, u_116_97, u_116_100, u_116_103, u_116_104, u_116_105, u_116_108, u_116_111, u_116_112, u_116_113, u_116_116, u_116_119, u_116_120, u_116_121, u_116_124, u_116_125, u_116_126, u_116_129, u_116_130, u_116_131, ev_sw, ev_sw0, q4, Int.natCast_zero, Int.cast_ofNat_Int, Int.reduceEq, if_true, if_false, rc, rv_some, s_hmf hH.2.2 hW hs.1, bnd_some, psh_some]
          · by_cases q5 : q = 5
            · simp (disch := first | assumption | omega | exact Nat.le_of_ble_eq_true rfl | decide) only [u_116_0, u_116_1, u_116_52, u_116_53, u_116_56, u_116_59, u_116_60, u_116_61, u_116_64, u_116_65, u_116_68, u_116_69, u_116_70, u_116_73, u_116_74, u_116_77, u_116_78, u_116_81, u_116_82, u_116_85, u_116_86, u_116_87, u_116_88, u_116_91, u_116_92, u_116_95, u_116_96, u_116_97, u_116_100, u_116_103, u_116_104, u_116_105, u_116_108, u_116_111, u_116_112, u_116_113, u_116_116, u_116_119, u_116_120, u_116_121, u_116_124, u_116_125, u_116_126, u_116_129, u_116_130, u_116_131, ev_sw, ev_sw0, q5, Int.natCast_zero, Int.cast_ofNat_Int, Int.reduceEq, if_true, if_false, rc, rv_some, s_hmr2 hH.2.2 hW hs.1, bnd_some, psh_some]
            · by_cases q6 : q = 6
              · simp (disch := first | assumption | omega | exact Nat.le_of_ble_eq_true rfl | decide) only [u_116_0, u_116_1, u_116_52, u_116_53, u_116_56, u_116_59, u_116_60, u_116_61, u_116_64, u_116_65, u_116_68, u_116_69, u_116_70, u_116_73, u_116_74, u_116_77, u_116_78, u_116_81, u_116_82, u_116_85, u_116_86, u_116_87, u_116_88, u_116_91, u_116_92, u_116_95, u_116_96, u_116_97, u_116_100, u_116_103, u_116_104, u_116_105, u_116_108, u_116_111, u_116_112, u_116_113, u_116_116, u_116_119, u_116_120, u_116_121, u_116_124, u_116_125, u_116_126, u_116_129, u_116_130, u_116_131, ev_sw, ev_sw0, q6, Int.natCast_zero, Int.cast_ofNat_Int, Int.reduceEq, if_true, if_false, rc, rv_some, s_hmn hH.2.2 hW hs.1, bnd_some, psh_some]
              · by_cases q7 : q = 7
                · simp (disch := first | assumption | omega | exact Nat.le_of_ble_eq_true rfl | decide) only [u_116_0, u_116_1, u_116_52, u_116_53, u_116_56, u_116_59, u_116_60, u_116_61, u_116_64, u_116_65, u_116_68, u_116_69, u_116_70, u_116_73, u_116_74, u_116_77, u_116_78, u_116_81, u_116_82, u_116_85, u_116_86, u_116_87, u_116_88, u_116_91, u_116_92, u_116_95, u_116_96, u_116_97, u_116_100, u_116_103, u_116_104, u_116_105, u_116_108, u_116_111, u_116_112, u_116_113, u_116_116, u_116_119, u_116_120, u_116_121, u_116_124, u_116_125, u_116_126, u_116_129, u_116_130, u_116_131, ev_sw, ev_sw0, q7, Int.natCast_zero, Int.cast_ofNat_Int, Int.reduceEq, if_true, if_false, s_usdH hC hc, bnd_some, psh_some]
                · by_cases q8 : q = 8
                  · simp (disch := first | assumption | omega | exact Nat.le_of_ble_eq_true rfl | decide) only [u_116_0, u_116_1, u_116_52, u_116_53, u_116_56, u_116_59, u_116_60, u_116_61, u_116_64, u_116_65, u_116_68, u_116_69, u_116_70, u_116_73, u_116_74, u_116_77, u_116_78, u_116_81, u_116_82, u_116_85, u_116_86, u_116_87, u_116_88, u_116_91, u_116_92, u_116_95, u_116_96, u_116_97, u_116_100, u_116_103, u_116_104, u_116_105, u_116_108, u_116_111, u_116_112, u_116_113, u_116_116, u_116_119, u_116_120, u_116_121, u_116_124, u_116_125, u_116_126, u_116_129, u_116_130, u_116_131, ev_sw, ev_sw0, q8, Int.natCast_zero, Int.cast_ofNat_Int, Int.reduceEq, if_true, if_false, s_usdS hC hc, bnd_some, psh_some]
                  · simp (disch := first | assumption | omega | exact Nat.le_of_ble_eq_true rfl | decide) only [u_116_0, u_116_1, u_116_52, u_116_53, u_116_56, u_116_59, u_116_60, u_116_61, u_116_64, u_116_65, u_116_68, u_116_69, u_116_70, u_116_73, u_116_74, u_116_77, u_116_78, u_116_81, u_116_82, u_116_85, u_116_86, u_116_87, u_116_88, u_116_91, u_116_92, u_116_95, u_116_96, u_116_97, u_116_100, u_116_103, u_116_104, u_116_105, u_116_108, u_116_111, u_116_112, u_116_113, u_116_116, u_116_119, u_116_120, u_116_121, u_116_124, u_116_125, u_116_126, u_116_129, u_116_130, u_116_131, ev_sw, ev_sw0, q0, q1, q2, q3, q4, q5, q6, q7, q8, Int.natCast_zero, Int.cast_ofNat_Int, Int.reduceEq, if_true, if_false]
end C6
