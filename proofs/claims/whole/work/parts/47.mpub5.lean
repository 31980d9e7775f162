/-! THE MODEL: tells, count -/
theorem sumN_add {f g h : Nat → Nat} : ∀ n, (∀ i, i < n → h i = f i + g i) → sumN h n = sumN f n + sumN g n
  | 0, _ => rfl
  | n + 1, hh => by
    have h1 := sumN_add n (fun i hi => hh i (by omega))
    have h2 := hh n (by omega)
    show sumN h n + h n = (sumN f n + f n) + (sumN g n + g n)
    omega
theorem sumN_step (f : Nat → Nat) (n : Nat) : sumN f (n + 1) = sumN f n + f n := rfl
section M5
variable {sh : Shp} {R : RM} {I : IM} {d : Nat} {s : ST} {w : WD} {q h lo hi : Int}
theorem MM_tells (hX : MX sh R) (hm : mR I s) (hs : okS s) : ME sh R I (d + 3) 205 [.inl h, .inl q] (b_tells s h q, s) := by
  obtain ⟨t9, r9, tg_, lg⟩ := hX.1
  obtain ⟨r4, t4, l4⟩ := hX.g 4 396 8 (by decide)
  refine ME.same hm ?_
  unfold b_tells
  rw [c_205]
  by_cases hh : ish h
  · rw [if_neg (Classical.not_not.mpr hh)]
    by_cases hq : 0 ≤ q ∧ q ≤ 4
    · rw [if_neg (Classical.not_not.mpr hq)]
      obtain ⟨h, rfl⟩ : ∃ q' : Nat, h = (q' : Int) := ⟨h.toNat, by have := hh.1; omega⟩
      have h8 : h < 8 := by have := hh.2; omega
      rw [Int.toNat_natCast]
      have hv := hm.2.2.2.2.1 h h8
      have hlv := hs.2.2.2.2.2.2.1 h h8
      by_cases hn : s.2.2.2.2.1 h = -1
      · rw [if_pos hn]
        have hlt : ¬ (0 : Int) ≤ -1 := by decide
        rw [hn] at hv
        simp (disch := first | assumption | omega | exact Nat.le_of_ble_eq_true rfl | decide) only [u_205_0, u_205_1, u_205_4, u_205_7, u_205_8, u_205_9, u_205_10, u_205_13, u_205_16, u_205_17, u_205_18, u_205_19, u_205_22, u_205_23, u_205_24, u_205_25, u_205_26, u_205_29, u_205_31, u_205_32, u_205_33, u_205_36, u_205_37, u_205_38, u_205_39, u_205_40, u_205_42, u_205_43, u_205_72, u_205_74, u_205_75, u_205_77, u_205_78, u_205_81, u_205_82, u_205_85, u_205_87, u_205_88, u_205_89, u_205_90, u_205_93, u_205_95, u_205_96, u_205_98, u_205_99, u_205_102, u_205_104, u_205_105, u_205_108, u_205_109, u_205_110, u_205_111, u_205_114, u_205_117, u_205_120, u_205_122, u_205_123, u_205_125, u_205_126, u_205_129, u_205_130, u_205_131, u_205_132, u_205_135, u_205_138, u_205_141, u_205_143, u_205_144, u_205_146, u_205_147, u_205_150, u_205_152, u_205_153, u_205_156, u_205_158, u_205_159, u_205_160, u_205_161, u_205_162, u_205_163, u_205_166, u_205_168, u_205_169, u_205_170, u_205_171, u_205_172, u_205_175, u_205_177, m_isHandle, if_pos hh, m_in, if_pos hq, bnd_some, psh_some, Int.reduceEq, not_false_eq_true, if_false, if_true, r4, rv_some, hv, hlt]
      · rw [if_neg hn]
        obtain ⟨o, ho, ho3, hk⟩ := liv_nat (hlv.resolve_left hn)
        rw [ho] at hv
        rw [ho, Int.toNat_natCast]
        have hge : (0 : Int) ≤ (o : Int) := by omega
        have hok := hs.1.1 o ho3
        have x1 := (hm.1.1 o ho3).1
        obtain ⟨y1, y2, y3⟩ := (hm.1.1 o ho3).2 hk
        have y20 := y2.1
        have y30 := y3.1
        have h3a := hok.2.2.2.2.2.2.2.2.2.1
        have h3b := hok.2.2.2.2.2.2.2.2.2.2.1
        have hrl := hok.2.2.2.2.2.2.2.1
        by_cases q1 : q = 1
        · subst q1
          rw [if_pos rfl]
          by_cases k1 : (s.1.1 o).1 = 1
          · rw [if_pos k1]
            simp (disch := first | assumption | omega | exact Nat.le_of_ble_eq_true rfl | decide) only [u_205_0, u_205_1, u_205_4, u_205_7, u_205_8, u_205_9, u_205_10, u_205_13, u_205_16, u_205_17, u_205_18, u_205_19, u_205_22, u_205_23, u_205_24, u_205_25, u_205_26, u_205_29, u_205_31, u_205_32, u_205_33, u_205_36, u_205_37, u_205_38, u_205_39, u_205_40, u_205_42, u_205_43, u_205_72, u_205_74, u_205_75, u_205_77, u_205_78, u_205_81, u_205_82, u_205_85, u_205_87, u_205_88, u_205_89, u_205_90, u_205_93, u_205_95, u_205_96, u_205_98, u_205_99, u_205_102, u_205_104, u_205_105, u_205_108, u_205_109, u_205_110, u_205_111, u_205_114, u_205_117, u_205_120, u_205_122, u_205_123, u_205_125, u_205_126, u_205_129, u_205_130, u_205_131, u_205_132, u_205_135, u_205_138, u_205_141, u_205_143, u_205_144, u_205_146, u_205_147, u_205_150, u_205_152, u_205_153, u_205_156, u_205_158, u_205_159, u_205_160, u_205_161, u_205_162, u_205_163, u_205_166, u_205_168, u_205_169, u_205_170, u_205_171, u_205_172, u_205_175, u_205_177, m_isHandle, if_pos hh, m_in, if_pos hq, bnd_some, psh_some, Int.reduceEq, not_true, not_false_eq_true, if_false, if_true, r4, r9, rv_some, hv, if_pos hge, wrI, Int.zero_add, ev_sw, ev_sw0, Int.natCast_zero, Int.cast_ofNat_Int, x1, k1, y30]
          · rw [if_neg k1]
            simp (disch := first | assumption | omega | exact Nat.le_of_ble_eq_true rfl | decide) only [u_205_0, u_205_1, u_205_4, u_205_7, u_205_8, u_205_9, u_205_10, u_205_13, u_205_16, u_205_17, u_205_18, u_205_19, u_205_22, u_205_23, u_205_24, u_205_25, u_205_26, u_205_29, u_205_31, u_205_32, u_205_33, u_205_36, u_205_37, u_205_38, u_205_39, u_205_40, u_205_42, u_205_43, u_205_72, u_205_74, u_205_75, u_205_77, u_205_78, u_205_81, u_205_82, u_205_85, u_205_87, u_205_88, u_205_89, u_205_90, u_205_93, u_205_95, u_205_96, u_205_98, u_205_99, u_205_102, u_205_104, u_205_105, u_205_108, u_205_109, u_205_110, u_205_111, u_205_114, u_205_117, u_205_120, u_205_122, u_205_123, u_205_125, u_205_126, u_205_129, u_205_130, u_205_131, u_205_132, u_205_135, u_205_138, u_205_141, u_205_143, u_205_144, u_205_146, u_205_147, u_205_150, u_205_152, u_205_153, u_205_156, u_205_158, u_205_159, u_205_160, u_205_161, u_205_162, u_205_163, u_205_166, u_205_168, u_205_169, u_205_170, u_205_171, u_205_172, u_205_175, u_205_177, m_isHandle, if_pos hh, m_in, if_pos hq, bnd_some, psh_some, Int.reduceEq, not_true, not_false_eq_true, if_false, if_true, r4, r9, rv_some, hv, if_pos hge, wrI, Int.zero_add, ev_sw, ev_sw0, Int.natCast_zero, Int.cast_ofNat_Int, x1, k1]
        · rw [if_neg q1]
          by_cases q2 : q = 2
          · subst q2
            rw [if_pos rfl]
            by_cases k2 : (s.1.1 o).1 = 2
            · have hl2 := hok.2.2.2.2.1 k2
              have hro := m_refOf (I := I) (d := d + 1) (i := 0) hX.1 ho3 (by omega)
              rw [y2.at (j := 0) (by omega)] at hro
              have hro : cl (d + 2) 135 [.inr (.inl 392), .inl (o : Int), .inl 0] (sh, I, R) = some (some (.inl ((s.1.1 o).2.2.1[0]'(by omega))), (sh, I, R)) := hro
              have hnt := nT2_eq (okN_ref hok (List.getElem_mem (by omega : 0 < (s.1.1 o).2.2.1.length)))
              rw [if_pos (Or.inl k2), getD_at (by omega : 0 < (s.1.1 o).2.2.1.length)]
              simp (disch := first | assumption | omega | exact Nat.le_of_ble_eq_true rfl | decide) only [u_205_0, u_205_1, u_205_4, u_205_7, u_205_8, u_205_9, u_205_10, u_205_13, u_205_16, u_205_17, u_205_18, u_205_19, u_205_22, u_205_23, u_205_24, u_205_25, u_205_26, u_205_29, u_205_31, u_205_32, u_205_33, u_205_36, u_205_37, u_205_38, u_205_39, u_205_40, u_205_42, u_205_43, u_205_72, u_205_74, u_205_75, u_205_77, u_205_78, u_205_81, u_205_82, u_205_85, u_205_87, u_205_88, u_205_89, u_205_90, u_205_93, u_205_95, u_205_96, u_205_98, u_205_99, u_205_102, u_205_104, u_205_105, u_205_108, u_205_109, u_205_110, u_205_111, u_205_114, u_205_117, u_205_120, u_205_122, u_205_123, u_205_125, u_205_126, u_205_129, u_205_130, u_205_131, u_205_132, u_205_135, u_205_138, u_205_141, u_205_143, u_205_144, u_205_146, u_205_147, u_205_150, u_205_152, u_205_153, u_205_156, u_205_158, u_205_159, u_205_160, u_205_161, u_205_162, u_205_163, u_205_166, u_205_168, u_205_169, u_205_170, u_205_171, u_205_172, u_205_175, u_205_177, m_isHandle, if_pos hh, m_in, if_pos hq, bnd_some, psh_some, Int.reduceEq, not_true, not_false_eq_true, if_false, if_true, r4, r9, rv_some, hv, if_pos hge, wrI, Int.zero_add, ev_sw, ev_sw0, Int.natCast_zero, Int.cast_ofNat_Int, x1, k2, hro, m_told, hnt]
            · by_cases k3 : (s.1.1 o).1 = 3
              · have hl2 := hok.2.2.2.2.2.1 k3
                have hro := m_refOf (I := I) (d := d + 1) (i := 0) hX.1 ho3 (by omega)
                rw [y2.at (j := 0) (by omega)] at hro
                have hro : cl (d + 2) 135 [.inr (.inl 392), .inl (o : Int), .inl 0] (sh, I, R) = some (some (.inl ((s.1.1 o).2.2.1[0]'(by omega))), (sh, I, R)) := hro
                have hnt := nT2_eq (okN_ref hok (List.getElem_mem (by omega : 0 < (s.1.1 o).2.2.1.length)))
                rw [if_pos (Or.inr k3), getD_at (by omega : 0 < (s.1.1 o).2.2.1.length)]
                simp (disch := first | assumption | omega | exact Nat.le_of_ble_eq_true rfl | decide) only [u_205_0, u_205_1, u_205_4, u_205_7, u_205_8, u_205_9, u_205_10, u_205_13, u_205_16, u_205_17, u_205_18, u_205_19, u_205_22, u_205_23, u_205_24, u_205_25, u_205_26, u_205_29, u_205_31, u_205_32, u_205_33, u_205_36, u_205_37, u_205_38, u_205_39, u_205_40, u_205_42, u_205_43, u_205_72, u_205_74, u_205_75, u_205_77, u_205_78, u_205_81, u_205_82, u_205_85, u_205_87, u_205_88, u_205_89, u_205_90, u_205_93, u_205_95, u_205_96, u_205_98, u_205_99, u_205_102, u_205_104, u_205_105, u_205_108, u_205_109, u_205_110, u_205_111, u_205_114, u_205_117, u_205_120, u_205_122, u_205_123, u_205_125, u_205_126, u_205_129, u_205_130, u_205_131, u_205_132, u_205_135, u_205_138, u_205_141, u_205_143, u_205_144, u_205_146, u_205_147, u_205_150, u_205_152, u_205_153, u_205_156, u_205_158, u_205_159, u_205_160, u_205_161, u_205_162, u_205_163, u_205_166, u_205_168, u_205_169, u_205_170, u_205_171, u_205_172, u_205_175, u_205_177, m_isHandle, if_pos hh, m_in, if_pos hq, bnd_some, psh_some, Int.reduceEq, not_true, not_false_eq_true, if_false, if_true, r4, r9, rv_some, hv, if_pos hge, wrI, Int.zero_add, ev_sw, ev_sw0, Int.natCast_zero, Int.cast_ofNat_Int, x1, k3, hro, m_told, hnt]
              · rw [if_neg (fun q => q.elim k2 k3)]
                simp (disch := first | assumption | omega | exact Nat.le_of_ble_eq_true rfl | decide) only [u_205_0, u_205_1, u_205_4, u_205_7, u_205_8, u_205_9, u_205_10, u_205_13, u_205_16, u_205_17, u_205_18, u_205_19, u_205_22, u_205_23, u_205_24, u_205_25, u_205_26, u_205_29, u_205_31, u_205_32, u_205_33, u_205_36, u_205_37, u_205_38, u_205_39, u_205_40, u_205_42, u_205_43, u_205_72, u_205_74, u_205_75, u_205_77, u_205_78, u_205_81, u_205_82, u_205_85, u_205_87, u_205_88, u_205_89, u_205_90, u_205_93, u_205_95, u_205_96, u_205_98, u_205_99, u_205_102, u_205_104, u_205_105, u_205_108, u_205_109, u_205_110, u_205_111, u_205_114, u_205_117, u_205_120, u_205_122, u_205_123, u_205_125, u_205_126, u_205_129, u_205_130, u_205_131, u_205_132, u_205_135, u_205_138, u_205_141, u_205_143, u_205_144, u_205_146, u_205_147, u_205_150, u_205_152, u_205_153, u_205_156, u_205_158, u_205_159, u_205_160, u_205_161, u_205_162, u_205_163, u_205_166, u_205_168, u_205_169, u_205_170, u_205_171, u_205_172, u_205_175, u_205_177, m_isHandle, if_pos hh, m_in, if_pos hq, bnd_some, psh_some, Int.reduceEq, not_true, not_false_eq_true, if_false, if_true, r4, r9, rv_some, hv, if_pos hge, wrI, Int.zero_add, ev_sw, ev_sw0, Int.natCast_zero, Int.cast_ofNat_Int, x1, k2, k3]
          · rw [if_neg q2]
            by_cases q3 : q = 3
            · subst q3
              rw [if_pos rfl]
              by_cases k3 : (s.1.1 o).1 = 3
              · have hl2 := hok.2.2.2.2.2.1 k3
                have hro := m_refOf (I := I) (d := d + 1) (i := 2) hX.1 ho3 (by omega)
                rw [y2.at (j := 2) (by omega)] at hro
                have hro : cl (d + 2) 135 [.inr (.inl 392), .inl (o : Int), .inl 2] (sh, I, R) = some (some (.inl ((s.1.1 o).2.2.1[2]'(by omega))), (sh, I, R)) := hro
                have hnt := nT2_eq (okN_ref hok (List.getElem_mem (by omega : 2 < (s.1.1 o).2.2.1.length)))
                rw [if_pos k3, getD_at (by omega : 2 < (s.1.1 o).2.2.1.length)]
                simp (disch := first | assumption | omega | exact Nat.le_of_ble_eq_true rfl | decide) only [u_205_0, u_205_1, u_205_4, u_205_7, u_205_8, u_205_9, u_205_10, u_205_13, u_205_16, u_205_17, u_205_18, u_205_19, u_205_22, u_205_23, u_205_24, u_205_25, u_205_26, u_205_29, u_205_31, u_205_32, u_205_33, u_205_36, u_205_37, u_205_38, u_205_39, u_205_40, u_205_42, u_205_43, u_205_72, u_205_74, u_205_75, u_205_77, u_205_78, u_205_81, u_205_82, u_205_85, u_205_87, u_205_88, u_205_89, u_205_90, u_205_93, u_205_95, u_205_96, u_205_98, u_205_99, u_205_102, u_205_104, u_205_105, u_205_108, u_205_109, u_205_110, u_205_111, u_205_114, u_205_117, u_205_120, u_205_122, u_205_123, u_205_125, u_205_126, u_205_129, u_205_130, u_205_131, u_205_132, u_205_135, u_205_138, u_205_141, u_205_143, u_205_144, u_205_146, u_205_147, u_205_150, u_205_152, u_205_153, u_205_156, u_205_158, u_205_159, u_205_160, u_205_161, u_205_162, u_205_163, u_205_166, u_205_168, u_205_169, u_205_170, u_205_171, u_205_172, u_205_175, u_205_177, m_isHandle, if_pos hh, m_in, if_pos hq, bnd_some, psh_some, Int.reduceEq, not_true, not_false_eq_true, if_false, if_true, r4, r9, rv_some, hv, if_pos hge, wrI, Int.zero_add, ev_sw, ev_sw0, Int.natCast_zero, Int.cast_ofNat_Int, x1, k3, hro, m_told, hnt]
              · rw [if_neg k3]
                simp (disch := first | assumption | omega | exact Nat.le_of_ble_eq_true rfl | decide) only [u_205_0, u_205_1, u_205_4, u_205_7, u_205_8, u_205_9, u_205_10, u_205_13, u_205_16, u_205_17, u_205_18, u_205_19, u_205_22, u_205_23, u_205_24, u_205_25, u_205_26, u_205_29, u_205_31, u_205_32, u_205_33, u_205_36, u_205_37, u_205_38, u_205_39, u_205_40, u_205_42, u_205_43, u_205_72, u_205_74, u_205_75, u_205_77, u_205_78, u_205_81, u_205_82, u_205_85, u_205_87, u_205_88, u_205_89, u_205_90, u_205_93, u_205_95, u_205_96, u_205_98, u_205_99, u_205_102, u_205_104, u_205_105, u_205_108, u_205_109, u_205_110, u_205_111, u_205_114, u_205_117, u_205_120, u_205_122, u_205_123, u_205_125, u_205_126, u_205_129, u_205_130, u_205_131, u_205_132, u_205_135, u_205_138, u_205_141, u_205_143, u_205_144, u_205_146, u_205_147, u_205_150, u_205_152, u_205_153, u_205_156, u_205_158, u_205_159, u_205_160, u_205_161, u_205_162, u_205_163, u_205_166, u_205_168, u_205_169, u_205_170, u_205_171, u_205_172, u_205_175, u_205_177, m_isHandle, if_pos hh, m_in, if_pos hq, bnd_some, psh_some, Int.reduceEq, not_true, not_false_eq_true, if_false, if_true, r4, r9, rv_some, hv, if_pos hge, wrI, Int.zero_add, ev_sw, ev_sw0, Int.natCast_zero, Int.cast_ofNat_Int, x1, k3]
            · rw [if_neg q3]
              by_cases q4 : q = 4
              · subst q4
                rw [if_pos rfl]
                by_cases k4 : (s.1.1 o).1 = 4
                · rw [if_pos k4]
                  simp (disch := first | assumption | omega | exact Nat.le_of_ble_eq_true rfl | decide) only [u_205_0, u_205_1, u_205_4, u_205_7, u_205_8, u_205_9, u_205_10, u_205_13, u_205_16, u_205_17, u_205_18, u_205_19, u_205_22, u_205_23, u_205_24, u_205_25, u_205_26, u_205_29, u_205_31, u_205_32, u_205_33, u_205_36, u_205_37, u_205_38, u_205_39, u_205_40, u_205_42, u_205_43, u_205_72, u_205_74, u_205_75, u_205_77, u_205_78, u_205_81, u_205_82, u_205_85, u_205_87, u_205_88, u_205_89, u_205_90, u_205_93, u_205_95, u_205_96, u_205_98, u_205_99, u_205_102, u_205_104, u_205_105, u_205_108, u_205_109, u_205_110, u_205_111, u_205_114, u_205_117, u_205_120, u_205_122, u_205_123, u_205_125, u_205_126, u_205_129, u_205_130, u_205_131, u_205_132, u_205_135, u_205_138, u_205_141, u_205_143, u_205_144, u_205_146, u_205_147, u_205_150, u_205_152, u_205_153, u_205_156, u_205_158, u_205_159, u_205_160, u_205_161, u_205_162, u_205_163, u_205_166, u_205_168, u_205_169, u_205_170, u_205_171, u_205_172, u_205_175, u_205_177, m_isHandle, if_pos hh, m_in, if_pos hq, bnd_some, psh_some, Int.reduceEq, not_true, not_false_eq_true, if_false, if_true, r4, r9, rv_some, hv, if_pos hge, wrI, Int.zero_add, ev_sw, ev_sw0, Int.natCast_zero, Int.cast_ofNat_Int, x1, k4, y1, y20]
                · rw [if_neg k4]
                  simp (disch := first | assumption | omega | exact Nat.le_of_ble_eq_true rfl | decide) only [u_205_0, u_205_1, u_205_4, u_205_7, u_205_8, u_205_9, u_205_10, u_205_13, u_205_16, u_205_17, u_205_18, u_205_19, u_205_22, u_205_23, u_205_24, u_205_25, u_205_26, u_205_29, u_205_31, u_205_32, u_205_33, u_205_36, u_205_37, u_205_38, u_205_39, u_205_40, u_205_42, u_205_43, u_205_72, u_205_74, u_205_75, u_205_77, u_205_78, u_205_81, u_205_82, u_205_85, u_205_87, u_205_88, u_205_89, u_205_90, u_205_93, u_205_95, u_205_96, u_205_98, u_205_99, u_205_102, u_205_104, u_205_105, u_205_108, u_205_109, u_205_110, u_205_111, u_205_114, u_205_117, u_205_120, u_205_122, u_205_123, u_205_125, u_205_126, u_205_129, u_205_130, u_205_131, u_205_132, u_205_135, u_205_138, u_205_141, u_205_143, u_205_144, u_205_146, u_205_147, u_205_150, u_205_152, u_205_153, u_205_156, u_205_158, u_205_159, u_205_160, u_205_161, u_205_162, u_205_163, u_205_166, u_205_168, u_205_169, u_205_170, u_205_171, u_205_172, u_205_175, u_205_177, m_isHandle, if_pos hh, m_in, if_pos hq, bnd_some, psh_some, Int.reduceEq, not_true, not_false_eq_true, if_false, if_true, r4, r9, rv_some, hv, if_pos hge, wrI, Int.zero_add, ev_sw, ev_sw0, Int.natCast_zero, Int.cast_ofNat_Int, x1, k4]
              · obtain rfl : q = 0 := by omega
                rw [if_neg q4]
                simp (disch := first | assumption | omega | exact Nat.le_of_ble_eq_true rfl | decide) only [u_205_0, u_205_1, u_205_4, u_205_7, u_205_8, u_205_9, u_205_10, u_205_13, u_205_16, u_205_17, u_205_18, u_205_19, u_205_22, u_205_23, u_205_24, u_205_25, u_205_26, u_205_29, u_205_31, u_205_32, u_205_33, u_205_36, u_205_37, u_205_38, u_205_39, u_205_40, u_205_42, u_205_43, u_205_72, u_205_74, u_205_75, u_205_77, u_205_78, u_205_81, u_205_82, u_205_85, u_205_87, u_205_88, u_205_89, u_205_90, u_205_93, u_205_95, u_205_96, u_205_98, u_205_99, u_205_102, u_205_104, u_205_105, u_205_108, u_205_109, u_205_110, u_205_111, u_205_114, u_205_117, u_205_120, u_205_122, u_205_123, u_205_125, u_205_126, u_205_129, u_205_130, u_205_131, u_205_132, u_205_135, u_205_138, u_205_141, u_205_143, u_205_144, u_205_146, u_205_147, u_205_150, u_205_152, u_205_153, u_205_156, u_205_158, u_205_159, u_205_160, u_205_161, u_205_162, u_205_163, u_205_166, u_205_168, u_205_169, u_205_170, u_205_171, u_205_172, u_205_175, u_205_177, m_isHandle, if_pos hh, m_in, if_pos hq, bnd_some, psh_some, Int.reduceEq, not_true, not_false_eq_true, if_false, if_true, r4, r9, rv_some, hv, if_pos hge, wrI, Int.zero_add, ev_sw, ev_sw0, Int.natCast_zero, Int.cast_ofNat_Int, x1]
    · rw [if_pos hq]
      simp (disch := first | assumption | omega | exact Nat.le_of_ble_eq_true rfl | decide) only [u_205_0, u_205_1, u_205_4, u_205_7, u_205_8, u_205_9, u_205_10, u_205_13, u_205_16, u_205_17, u_205_18, u_205_19, u_205_22, u_205_23, u_205_24, u_205_25, u_205_26, u_205_29, u_205_31, u_205_32, u_205_33, u_205_36, u_205_37, u_205_38, u_205_39, u_205_40, u_205_42, u_205_43, u_205_72, u_205_74, u_205_75, u_205_77, u_205_78, u_205_81, u_205_82, u_205_85, u_205_87, u_205_88, u_205_89, u_205_90, u_205_93, u_205_95, u_205_96, u_205_98, u_205_99, u_205_102, u_205_104, u_205_105, u_205_108, u_205_109, u_205_110, u_205_111, u_205_114, u_205_117, u_205_120, u_205_122, u_205_123, u_205_125, u_205_126, u_205_129, u_205_130, u_205_131, u_205_132, u_205_135, u_205_138, u_205_141, u_205_143, u_205_144, u_205_146, u_205_147, u_205_150, u_205_152, u_205_153, u_205_156, u_205_158, u_205_159, u_205_160, u_205_161, u_205_162, u_205_163, u_205_166, u_205_168, u_205_169, u_205_170, u_205_171, u_205_172, u_205_175, u_205_177, m_isHandle, if_pos hh, m_in, if_neg hq, bnd_some, psh_some, Int.reduceEq, not_true, if_false]
  · rw [if_pos hh]
    simp (disch := first | assumption | omega | exact Nat.le_of_ble_eq_true rfl | decide) only [u_205_0, u_205_1, u_205_4, u_205_7, u_205_8, u_205_9, u_205_10, u_205_13, u_205_16, u_205_17, u_205_18, u_205_19, u_205_22, u_205_23, u_205_24, u_205_25, u_205_26, u_205_29, u_205_31, u_205_32, u_205_33, u_205_36, u_205_37, u_205_38, u_205_39, u_205_40, u_205_42, u_205_43, u_205_72, u_205_74, u_205_75, u_205_77, u_205_78, u_205_81, u_205_82, u_205_85, u_205_87, u_205_88, u_205_89, u_205_90, u_205_93, u_205_95, u_205_96, u_205_98, u_205_99, u_205_102, u_205_104, u_205_105, u_205_108, u_205_109, u_205_110, u_205_111, u_205_114, u_205_117, u_205_120, u_205_122, u_205_123, u_205_125, u_205_126, u_205_129, u_205_130, u_205_131, u_205_132, u_205_135, u_205_138, u_205_141, u_205_143, u_205_144, u_205_146, u_205_147, u_205_150, u_205_152, u_205_153, u_205_156, u_205_158, u_205_159, u_205_160, u_205_161, u_205_162, u_205_163, u_205_166, u_205_168, u_205_169, u_205_170, u_205_171, u_205_172, u_205_175, u_205_177, m_isHandle, if_neg hh, bnd_some, psh_some, if_true]
theorem ofK_loop (hX : MX sh R) (hW : isM I 393 w) : ∀ (k j : Nat), j + k = 30 → ev S0 (d + 1) 206 5 [.inr (.inl 392), .inl lo, .inl hi, .inl ((sumN (fun i => if lo ≤ (w.1 i).1 ∧ (w.1 i).1 ≤ hi then 1 else 0) j : Nat) : Int), .inl (j : Int)] [] (sh, I, R) = some (some (.inl ((sumN (fun i => if lo ≤ (w.1 i).1 ∧ (w.1 i).1 ≤ hi then 1 else 0) 30 : Nat) : Int)), (sh, I, R)) := by
  obtain ⟨t9, r9, tg_, lg⟩ := hX.1
  intro k
  induction k with
  | zero =>
    intro j hj
    obtain rfl : j = 30 := by omega
    have hc : (30 : Int) ≤ ((30 : Nat) : Int) := by decide
    simp (disch := first | assumption | omega | exact Nat.le_of_ble_eq_true rfl | decide) only [u_206_5, u_206_7, u_206_9, u_206_43, u_206_44, hc, if_true]
  | succ k ih =>
    intro j hj
    have hc8 : ¬ (30 : Int) ≤ (j : Int) := by omega
    have hle : sumN (fun i => if lo ≤ (w.1 i).1 ∧ (w.1 i).1 ≤ hi then 1 else 0) j ≤ 1 * j := sumN_le j (fun i hi => by split <;> omega)
    have hv := (hW.1 j (by omega)).1
    have ih := ih (j + 1) (by omega)
    rw [sumN_step _ j] at ih
    generalize sumN (fun i => if lo ≤ (w.1 i).1 ∧ (w.1 i).1 ≤ hi then 1 else 0) j = S at ih hle
    generalize sumN (fun i => if lo ≤ (w.1 i).1 ∧ (w.1 i).1 ≤ hi then 1 else 0) 30 = T at ih ⊢
    rw [u_206_5]
    by_cases hn : lo ≤ (w.1 j).1 ∧ (w.1 j).1 ≤ hi
    · simp only [if_pos hn] at ih
      simp (disch := first | assumption | omega | exact Nat.le_of_ble_eq_true rfl | decide) only [u_206_7, u_206_9, u_206_12, u_206_13, u_206_14, u_206_17, u_206_18, u_206_20, u_206_21, u_206_22, u_206_23, u_206_24, u_206_27, u_206_30, u_206_31, u_206_34, u_206_35, u_206_36, u_206_37, u_206_40, hc8, if_false, r9, rv_some, wrI, Int.zero_add, hv, m_in, if_pos hn, bnd_some, psh_some, Int.reduceEq, n1, ih]
    · simp only [if_neg hn, Nat.add_zero] at ih
      simp (disch := first | assumption | omega | exact Nat.le_of_ble_eq_true rfl | decide) only [u_206_7, u_206_9, u_206_12, u_206_13, u_206_14, u_206_17, u_206_18, u_206_20, u_206_21, u_206_22, u_206_23, u_206_24, u_206_27, u_206_30, u_206_31, u_206_34, u_206_35, u_206_36, u_206_37, u_206_40, hc8, if_false, if_true, r9, rv_some, wrI, Int.zero_add, Int.add_zero, hv, m_in, if_neg hn, bnd_some, psh_some, n1, ih]
theorem m_ofK (hX : MX sh R) (hW : isM I 393 w) : cl (d + 2) 206 [.inr (.inl 392), .inl lo, .inl hi] (sh, I, R) = some (some (.inl ((sumN (fun i => if lo ≤ (w.1 i).1 ∧ (w.1 i).1 ≤ hi then 1 else 0) 30 : Nat) : Int)), (sh, I, R)) := by
  rw [c_206, u_206_0, u_206_1, u_206_2, u_206_3]
  exact ofK_loop (d := d) hX hW 30 0 (by omega)
theorem c4_loop (hX : MX sh R) (hW : isM I 393 w) (hw : okW w) {a1 a4 : AV} : ∀ (k j : Nat), j + k = 30 → ev S0 d 207 80 [.inr (.inl 392), a1, .inl ((sumN (fun i => (w.1 i).2.2.2.length) j : Nat) : Int), .inl (j : Int), a4] [] (sh, I, R) = some (some (.inl ((sumN (fun i => (w.1 i).2.2.2.length) 30 : Nat) : Int)), (sh, I, R)) := by
  obtain ⟨t9, r9, tg_, lg⟩ := hX.1
  intro k
  induction k with
  | zero =>
    intro j hj
    obtain rfl : j = 30 := by omega
    have hc : (30 : Int) ≤ ((30 : Nat) : Int) := by decide
    simp (disch := first | assumption | omega | exact Nat.le_of_ble_eq_true rfl | decide) only [u_207_80, u_207_81, u_207_83, u_207_119, u_207_120, hc, if_true]
  | succ k ih =>
    intro j hj
    have hc8 : ¬ (30 : Int) ≤ (j : Int) := by omega
    have hle : sumN (fun i => (w.1 i).2.2.2.length) j ≤ 6 * j := sumN_le j (fun i hi => (hw.1 i (by omega)).2.2.2.2.2.2.2.2.1)
    have hv := (hW.1 j (by omega)).1
    have hok := hw.1 j (by omega)
    have h6 := hok.2.2.2.2.2.2.2.2.1
    have ih := ih (j + 1) (by omega)
    rw [sumN_step _ j] at ih
    generalize sumN (fun i => (w.1 i).2.2.2.length) j = S at ih hle
    generalize sumN (fun i => (w.1 i).2.2.2.length) 30 = T at ih ⊢
    rw [u_207_80]
    by_cases hn : (w.1 j).1 = 0
    · rw [(hok.2.2.1 hn).2] at ih
      simp only [List.length_nil, Nat.add_zero] at ih
      simp (disch := first | assumption | omega | exact Nat.le_of_ble_eq_true rfl | decide) only [u_207_81, u_207_83, u_207_86, u_207_87, u_207_88, u_207_91, u_207_92, u_207_93, u_207_94, u_207_95, u_207_98, u_207_99, u_207_102, u_207_104, u_207_105, u_207_106, u_207_107, u_207_110, u_207_111, u_207_112, u_207_113, u_207_116, hc8, if_false, if_true, r9, rv_some, wrI, Int.zero_add, Int.add_zero, hv, hn, n1, ih]
    · have hf := ((hW.1 j (by omega)).2 hn).2.2.1
      have hwa : wr ((S : Int) + ((w.1 j).2.2.2.length : Int)) = ((S + (w.1 j).2.2.2.length : Nat) : Int) := wrA (by omega)
      simp (disch := first | assumption | omega | exact Nat.le_of_ble_eq_true rfl | decide) only [u_207_81, u_207_83, u_207_86, u_207_87, u_207_88, u_207_91, u_207_92, u_207_93, u_207_94, u_207_95, u_207_98, u_207_99, u_207_102, u_207_104, u_207_105, u_207_106, u_207_107, u_207_110, u_207_111, u_207_112, u_207_113, u_207_116, hc8, if_false, r9, rv_some, hwa, wrI, Int.zero_add, hv, hn, hf, n1, ih]
theorem c5_inner (hX : MX sh R) (hW : isM I 393 w) (hw : okW w) {i : Nat} (hi : i < 30) (hk : (w.1 i).1 ≠ 0) {S : Nat} (hS : S < 1000) {a1 : AV} : ∀ (k j : Nat), j + k = (w.1 i).2.2.1.length → ev S0 (d + 1) 207 132 [.inr (.inl 392), a1, .inl ((S + nref ((w.1 i).2.2.1.take j) : Nat) : Int), .inl (i : Int), .inl (j : Int)] [] (sh, I, R) = ev S0 (d + 1) 207 181 [.inr (.inl 392), a1, .inl ((S + nref (w.1 i).2.2.1 : Nat) : Int), .inl (i : Int), .inl ((w.1 i).2.2.1.length : Int)] [] (sh, I, R) := by
  obtain ⟨t9, r9, tg_, lg⟩ := hX.1
  have hv := (hW.1 i hi).1
  have y2 := ((hW.1 i hi).2 hk).2.1
  have y20 := y2.1
  have hok := hw.1 i hi
  have h6 := hok.2.2.2.2.2.2.2.1
  intro k
  induction k with
  | zero =>
    intro j hj
    obtain rfl : j = (w.1 i).2.2.1.length := by omega
    have hc : ((w.1 i).2.2.1.length : Int) ≤ ((w.1 i).2.2.1.length : Int) := by omega
    rw [List.take_of_length_le (Nat.le_refl _)]
    simp (disch := first | assumption | omega | exact Nat.le_of_ble_eq_true rfl | decide) only [u_207_132, u_207_133, u_207_136, u_207_137, u_207_138, u_207_139, u_207_140, u_207_143, u_207_145, u_207_146, u_207_149, u_207_151, u_207_152, u_207_153, u_207_154, r9, rv_some, wrI, Int.zero_add, hv, hk, if_false, y20, if_pos hc]
  | succ k ih =>
    intro j hj
    have hjl : j < (w.1 i).2.2.1.length := by omega
    have hc : ¬ ((w.1 i).2.2.1.length : Int) ≤ (j : Int) := by omega
    have hro := m_refOf (I := I) (d := d) (i := j) hX.1 hi (by omega)
    rw [y2.at hjl] at hro
    have hrr := okN_ref hok (List.getElem_mem hjl)
    have hnl := nref_le ((w.1 i).2.2.1.take j)
    rw [List.length_take] at hnl
    have hs : nref ((w.1 i).2.2.1.take (j + 1)) = nref ((w.1 i).2.2.1.take j) + (if (w.1 i).2.2.1[j] = -1 then 0 else 1) := by
      unfold nref
      rw [List.take_succ_eq_append_getElem hjl, List.filter_append, List.length_append]
      congr 1
      by_cases hx : (w.1 i).2.2.1[j] = -1
      · simp [hx]
      · simp [hx]
    have ih := ih (j + 1) (by omega)
    rw [hs] at ih
    rw [u_207_132]
    by_cases hx : (w.1 i).2.2.1[j] = -1
    · rw [hx] at hro
      rw [if_pos hx] at ih
      have hlt : (-1 : Int) < 0 := by decide
      simp only [Nat.add_zero] at ih
      simp (disch := first | assumption | omega | exact Nat.le_of_ble_eq_true rfl | decide) only [u_207_133, u_207_136, u_207_137, u_207_138, u_207_139, u_207_140, u_207_143, u_207_145, u_207_146, u_207_149, u_207_151, u_207_152, u_207_153, u_207_154, u_207_157, u_207_158, u_207_159, u_207_160, u_207_162, u_207_165, u_207_168, u_207_169, u_207_172, u_207_173, u_207_174, u_207_175, u_207_178, r9, rv_some, wrI, Int.zero_add, Int.add_zero, hv, hk, if_false, if_true, y20, if_neg hc, hro, bnd_some, psh_some, hlt, n1, ih]
    · rw [if_neg hx, ← Nat.add_assoc] at ih
      have hlt : ¬ (w.1 i).2.2.1[j] < 0 := by omega
      simp (disch := first | assumption | omega | exact Nat.le_of_ble_eq_true rfl | decide) only [u_207_133, u_207_136, u_207_137, u_207_138, u_207_139, u_207_140, u_207_143, u_207_145, u_207_146, u_207_149, u_207_151, u_207_152, u_207_153, u_207_154, u_207_157, u_207_158, u_207_159, u_207_160, u_207_162, u_207_165, u_207_168, u_207_169, u_207_172, u_207_173, u_207_174, u_207_175, u_207_178, r9, rv_some, wrI, Int.zero_add, hv, hk, if_false, y20, if_neg hc, hro, bnd_some, psh_some, hlt, n1, ih]
theorem c5_loop (hX : MX sh R) (hW : isM I 393 w) (hw : okW w) {a1 : AV} : ∀ (k j : Nat) (a4 : AV), j + k = 30 → ev S0 (d + 1) 207 123 [.inr (.inl 392), a1, .inl ((sumN (fun i => nref (w.1 i).2.2.1) j : Nat) : Int), .inl (j : Int), a4] [] (sh, I, R) = some (some (.inl ((sumN (fun i => nref (w.1 i).2.2.1) 30 : Nat) : Int)), (sh, I, R)) := by
  obtain ⟨t9, r9, tg_, lg⟩ := hX.1
  intro k
  induction k with
  | zero =>
    intro j a4 hj
    obtain rfl : j = 30 := by omega
    have hc : (30 : Int) ≤ ((30 : Nat) : Int) := by decide
    simp (disch := first | assumption | omega | exact Nat.le_of_ble_eq_true rfl | decide) only [u_207_123, u_207_124, u_207_126, u_207_187, u_207_188, hc, if_true]
  | succ k ih =>
    intro j a4 hj
    have hc8 : ¬ (30 : Int) ≤ (j : Int) := by omega
    have hle : sumN (fun i => nref (w.1 i).2.2.1) j ≤ 6 * j := sumN_le j (fun i hi => Nat.le_trans (nref_le _) (hw.1 i (by omega)).2.2.2.2.2.2.2.1)
    have hv := (hW.1 j (by omega)).1
    have hok := hw.1 j (by omega)
    by_cases hn : (w.1 j).1 = 0
    · have ih := ih (j + 1) (.inl 0) (by omega)
      rw [sumN_step _ j, (hok.2.2.1 hn).1] at ih
      have ih : ev S0 (d + 1) 207 123 [.inr (.inl 392), a1, .inl ((sumN (fun i => nref (w.1 i).2.2.1) j : Nat) : Int), .inl ((j + 1 : Nat) : Int), .inl 0] [] (sh, I, R) = some (some (.inl ((sumN (fun i => nref (w.1 i).2.2.1) 30 : Nat) : Int)), (sh, I, R)) := ih
      rw [u_207_123]
      simp (disch := first | assumption | omega | exact Nat.le_of_ble_eq_true rfl | decide) only [u_207_124, u_207_126, u_207_129, u_207_130, u_207_132, u_207_133, u_207_136, u_207_137, u_207_138, u_207_139, u_207_140, u_207_181, u_207_184, hc8, if_false, if_true, r9, rv_some, wrI, Int.zero_add, hv, hn, n1, ih]
    · have ih := ih (j + 1) (.inl ((w.1 j).2.2.1.length : Int)) (by omega)
      have c5 := c5_inner (d := d) (a1 := a1) (S := sumN (fun i => nref (w.1 i).2.2.1) j) hX hW hw (show j < 30 by omega) hn (by omega) (w.1 j).2.2.1.length 0 (by omega)
      have c5 : ev S0 (d + 1) 207 132 [.inr (.inl 392), a1, .inl ((sumN (fun i => nref (w.1 i).2.2.1) j : Nat) : Int), .inl (j : Int), .inl 0] [] (sh, I, R) = _ := c5
      rw [sumN_step _ j] at ih
      rw [u_207_123]
      simp (disch := first | assumption | omega | exact Nat.le_of_ble_eq_true rfl | decide) only [u_207_124, u_207_126, u_207_129, u_207_130, hc8, if_false, c5]
      simp (disch := first | assumption | omega | exact Nat.le_of_ble_eq_true rfl | decide) only [u_207_181, u_207_184, wrI, n1, ih]
theorem c6_loop (hX : MX sh R) (hW : isM I 393 w) (hw : okW w) {a1 a4 : AV} : ∀ (k j : Nat), j + k = 9 → ev S0 d 207 191 [.inr (.inl 392), a1, .inl ((sumN (fun i => (w.2.1 i).length) j : Nat) : Int), .inl (j : Int), a4] [] (sh, I, R) = some (some (.inl ((sumN (fun i => (w.2.1 i).length) 9 : Nat) : Int)), (sh, I, R)) := by
  obtain ⟨t9, r9, tg_, lg⟩ := hX.1
  intro k
  induction k with
  | zero =>
    intro j hj
    obtain rfl : j = 9 := by omega
    have hc : (9 : Int) ≤ ((9 : Nat) : Int) := by decide
    simp (disch := first | assumption | omega | exact Nat.le_of_ble_eq_true rfl | decide) only [u_207_191, u_207_192, u_207_194, u_207_216, u_207_217, hc, if_true]
  | succ k ih =>
    intro j hj
    have hc8 : ¬ (9 : Int) ≤ (j : Int) := by omega
    have hle : sumN (fun i => (w.2.1 i).length) j ≤ 4 * j := sumN_le j (fun i hi => (hw.2.1 i (by omega)).1)
    have h4 := (hw.2.1 j (by omega)).1
    have hv := (hW.2.1 j (by omega)).1
    have ih := ih (j + 1) (by omega)
    rw [sumN_step _ j] at ih
    generalize sumN (fun i => (w.2.1 i).length) j = S at ih hle
    generalize sumN (fun i => (w.2.1 i).length) 9 = T at ih ⊢
    have hwa : wr ((S : Int) + ((w.2.1 j).length : Int)) = ((S + (w.2.1 j).length : Nat) : Int) := wrA (by omega)
    rw [u_207_191]
    simp (disch := first | assumption | omega | exact Nat.le_of_ble_eq_true rfl | decide) only [u_207_192, u_207_194, u_207_197, u_207_198, u_207_199, u_207_202, u_207_205, u_207_206, u_207_207, u_207_208, u_207_209, u_207_210, u_207_213, hc8, if_false, r9, rv_some, hwa, wrI, hv, n1, ih]
end M5
