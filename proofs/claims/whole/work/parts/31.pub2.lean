/-! THE CLASS: object, row, write, read, forget -/
theorem liv_nat {w : WD} {z : Int} (h : liv w z) : ∃ i : Nat, z = (i : Int) ∧ i < 30 ∧ (w.1 i).1 ≠ 0 := ⟨z.toNat, by have := h.1; omega, by have := h.1; have := h.2.1; omega, h.2.2⟩
theorem liv_of {w : WD} {i : Nat} (hi : i < 30) (hk : (w.1 i).1 ≠ 0) : liv w (i : Int) := ⟨by omega, by omega, by rw [Int.toNat_natCast]; exact hk⟩
theorem not_live {w : WD} {z : Int} (h : ¬ liv w z) : ¬ live w z := fun q => h ⟨q.1, q.2.1, q.2.2⟩
theorem setN_at (w : WD) (i : Nat) (x : ND) : (setN w i x).1 i = x := by simp [setN]
theorem setN_setN (w : WD) (i : Nat) (x y : ND) : setN (setN w i x) i y = setN w i y := by
  simp only [setN]
  congr 1
  funext j
  by_cases h : j = i <;> simp [h]
theorem setN_self (w : WD) (i : Nat) : setN w i (w.1 i) = w := by
  obtain ⟨w1, w2⟩ := w
  simp only [setN]
  congr 1
  funext j
  by_cases h : j = i
  · subst h; simp
  · simp [h]
theorem defs_setN (w : WD) (i : Nat) (x y : ND) : defs (setN w i x) y = defs w y := rfl
theorem okN_mono {w w' : WD} {x : ND} (h : okN w x) (hl : ∀ i : Nat, i < 30 → (w.1 i).1 ≠ 0 → (w'.1 i).1 ≠ 0) : okN w' x := by
  obtain ⟨h1, h2, h3, h4, h5, h6, h7, h8, h9, h10, h11, h12, h13⟩ := h
  refine ⟨h1, h2, h3, h4, h5, h6, h7, h8, h9, h10, h11, fun r hr => ?_, h13⟩
  rcases h12 r hr with h | ⟨i, a, b, c⟩
  · exact Or.inl h
  · exact Or.inr ⟨i, a, b, hl i b c⟩
/-- a new or a changed object, of a kind that is one -/
theorem okW_setN {w : WD} {i : Nat} {x : ND} (hw : okW w) (hx : okN (setN w i x) x) (hk : x.1 ≠ 0) : okW (setN w i x) := by
  refine ⟨fun j hj => ?_, hw.2.1, hw.2.2⟩
  by_cases hji : j = i
  · subst hji
    rw [setN_at]
    exact hx
  · have e : (setN w i x).1 j = w.1 j := by simp [setN, hji]
    rw [e]
    refine okN_mono (hw.1 j hj) (fun q hq hk2 => ?_)
    by_cases hqi : q = i
    · subst hqi
      rw [setN_at]
      exact hk
    · simp only [setN, if_neg hqi]
      exact hk2
section PUB
variable {sh : Shp} {R : RM} {I : IM} {d : Nat} {w : WD} {k v n x o : Int}
theorem okN_new (w : WD) {k : Int} (hk : 1 ≤ k ∧ k ≤ 3) : okN w (k, 0, List.replicate (rOf k) (-1), []) := by
  have h3 : rOf k = (if k = 1 then 0 else k.toNat) := rfl
  refine ⟨by dsimp only; omega, by dsimp only; omega, fun h => by dsimp only at h; omega, fun h => ?_, fun h => ?_, fun h => ?_, fun h => rfl, ?_, by dsimp only [List.length_nil]; omega, by dsimp only; omega, by dsimp only; omega, fun r hr => Or.inl (List.eq_of_mem_replicate hr), fun p hp => by cases hp⟩
  · dsimp only at h ⊢; rw [List.length_replicate, h3, if_pos h]
  · dsimp only at h ⊢; rw [List.length_replicate, h3, if_neg (by omega)]; omega
  · dsimp only at h ⊢; rw [List.length_replicate, h3, if_neg (by omega)]; omega
  · dsimp only; rw [List.length_replicate, h3]; split <;> omega
theorem C_object (hH : HS sh R) (h : isW I 1 w) (hw : okW w) : ∃ I', cl (d + 5) 88 [.inr (.inl 0), .inl k] (sh, I, R) = some (some (.inl (a_object w k).1), (sh, I', R)) ∧ isW I' 1 (a_object w k).2 ∧ FrW 1 I I' := by
  obtain ⟨tc, rc, hS⟩ := hH
  have t0 := hS.1
  rw [c_88]
  unfold a_object
  by_cases hk : 1 ≤ k ∧ k ≤ 3
  · rw [if_neg (Classical.not_not.mpr hk)]
    by_cases hf : freeW w = -1
    · rw [if_pos hf]
      refine ⟨I, ?_, h, fun _ _ => rfl⟩
      simp (disch := first | assumption | omega | exact Nat.le_of_ble_eq_true rfl | decide) only [u_88_0, u_88_1, u_88_4, u_88_7, u_88_8, u_88_9, u_88_10, u_88_13, u_88_16, u_88_19, u_88_21, u_88_22, u_88_23, u_88_26, u_88_27, u_88_28, u_88_29, u_88_32, u_88_35, u_88_36, u_88_37, u_88_40, u_88_41, u_88_44, u_88_44n, u_88_45, u_88_45n, u_88_46, u_88_46n, u_88_49, u_88_50, u_88_53, u_88_53n, u_88_54, u_88_54n, u_88_57, u_88_58, s_hasSch, if_pos hk, bnd_some, psh_some, Int.reduceEq, not_false_eq_true, if_true, if_false, rc, rv_some, s_isFullW hS h, hf]
    · rw [if_neg hf]
      rcases freeW_spec w with ⟨q, -⟩ | ⟨i, hi, hi30, hi0, -⟩
      · exact absurd q hf
      · rw [hi, Int.toNat_natCast]
        have hro : (if k = 1 then 0 else k) = ((rOf k : Nat) : Int) := by unfold rOf; split <;> omega
        have hne : ¬ ((i : Int) = -1) := by omega
        obtain ⟨I1, g1, g2, g3⟩ := s_make (d := d + 1) (kd := k) (hd := 0) (len := rOf k) hS h (by unfold rOf; split <;> omega) hi hi30
        have hok : okW (setN w i (k, 0, List.replicate (rOf k) (-1), [])) := okW_setN hw (okN_new _ hk) (by dsimp only; omega)
        have hk1 : ((setN w i (k, 0, List.replicate (rOf k) (-1), [])).1 i).1 = ((k.toNat : Nat) : Int) := by rw [setN_at]; dsimp only; omega
        obtain ⟨I2, g4, g5, g6⟩ := s_addDef (d := d) hS g2 hok hi30 hk1 (by omega) (by omega)
        rw [setN_at, setN_setN, defs_setN] at g5
        refine ⟨I2, ?_, g5, g3.tr g6⟩
        simp (disch := first | assumption | omega | exact Nat.le_of_ble_eq_true rfl | decide) only [u_88_0, u_88_1, u_88_4, u_88_7, u_88_8, u_88_9, u_88_10, u_88_13, u_88_16, u_88_19, u_88_21, u_88_22, u_88_23, u_88_26, u_88_27, u_88_28, u_88_29, u_88_32, u_88_35, u_88_36, u_88_37, u_88_40, u_88_41, u_88_44, u_88_44n, u_88_45, u_88_45n, u_88_46, u_88_46n, u_88_49, u_88_50, u_88_53, u_88_53n, u_88_54, u_88_54n, u_88_57, u_88_58, s_hasSch, if_pos hk, bnd_some, psh_some, psh_none, Int.reduceEq, not_false_eq_true, if_true, if_false, rc, rv_some, s_isFullW hS h, hi, hne, s_refsOf, hro, g1, s_atL hS g2 hi30 (by rw [hk1]; omega), g4]
  · rw [if_pos hk]
    refine ⟨I, ?_, h, fun _ _ => rfl⟩
    simp (disch := first | assumption | omega | exact Nat.le_of_ble_eq_true rfl | decide) only [u_88_0, u_88_1, u_88_4, u_88_7, u_88_8, u_88_9, u_88_10, u_88_13, u_88_16, u_88_19, u_88_21, u_88_22, u_88_23, u_88_26, u_88_27, u_88_28, u_88_29, u_88_32, u_88_35, u_88_36, u_88_37, u_88_40, u_88_41, u_88_44, u_88_44n, u_88_45, u_88_45n, u_88_46, u_88_46n, u_88_49, u_88_50, u_88_53, u_88_53n, u_88_54, u_88_54n, u_88_57, u_88_58, s_hasSch, if_neg hk, bnd_some, psh_some, Int.reduceEq, not_true, if_true, if_false]
theorem C_row (hH : HS sh R) (h : isW I 1 w) (hw : okW w) : ∃ I', cl (d + 4) 89 [.inr (.inl 0), .inl k, .inl n] (sh, I, R) = some (some (.inl (a_row w k n).1), (sh, I', R)) ∧ isW I' 1 (a_row w k n).2 ∧ FrW 1 I I' := by
  obtain ⟨tc, rc, hS⟩ := hH
  have t0 := hS.1
  rw [c_89]
  unfold a_row
  by_cases h1 : k < 0
  · rw [if_pos (Or.inl (by omega))]
    refine ⟨I, ?_, h, fun _ _ => rfl⟩
    simp (disch := first | assumption | omega | exact Nat.le_of_ble_eq_true rfl | decide) only [u_89_0, u_89_1, u_89_4, u_89_5, u_89_6, u_89_9, u_89_10, u_89_12, u_89_15, u_89_16, u_89_17, u_89_18, u_89_21, u_89_23, u_89_24, u_89_25, u_89_28, u_89_31, u_89_34, u_89_36, u_89_39, u_89_40, u_89_43, u_89_44, u_89_45, u_89_46, u_89_49, h1, if_true]
  · by_cases h2 : 3 < k
    · rw [if_pos (Or.inl (by omega))]
      refine ⟨I, ?_, h, fun _ _ => rfl⟩
      simp (disch := first | assumption | omega | exact Nat.le_of_ble_eq_true rfl | decide) only [u_89_0, u_89_1, u_89_4, u_89_5, u_89_6, u_89_9, u_89_10, u_89_12, u_89_15, u_89_16, u_89_17, u_89_18, u_89_21, u_89_23, u_89_24, u_89_25, u_89_28, u_89_31, u_89_34, u_89_36, u_89_39, u_89_40, u_89_43, u_89_44, u_89_45, u_89_46, u_89_49, h1, h2, if_true, if_false]
    · by_cases h3 : n ≤ 6
      · rw [if_neg (by omega)]
        by_cases h4 : 0 ≤ n
        · rw [if_neg (by omega)]
          by_cases hf : freeW w = -1
          · rw [if_pos hf]
            refine ⟨I, ?_, h, fun _ _ => rfl⟩
            simp (disch := first | assumption | omega | exact Nat.le_of_ble_eq_true rfl | decide) only [u_89_0, u_89_1, u_89_4, u_89_5, u_89_6, u_89_9, u_89_10, u_89_12, u_89_15, u_89_16, u_89_17, u_89_18, u_89_21, u_89_23, u_89_24, u_89_25, u_89_28, u_89_31, u_89_34, u_89_36, u_89_39, u_89_40, u_89_43, u_89_44, u_89_45, u_89_46, u_89_49, h1, h2, h3, h4, if_true, if_false, rc, rv_some, s_isFullW hS h, hf, bnd_some, psh_some, Int.reduceEq]
          · rw [if_neg hf]
            rcases freeW_spec w with ⟨q, -⟩ | ⟨i, hi, hi30, hi0, -⟩
            · exact absurd q hf
            · rw [hi, Int.toNat_natCast]
              obtain ⟨n, rfl⟩ : ∃ n' : Nat, n = (n' : Int) := ⟨n.toNat, by omega⟩
              rw [Int.toNat_natCast]
              have hne : ¬ ((i : Int) = -1) := by omega
              obtain ⟨I1, g1, g2, g3⟩ := s_make (d := d) (kd := 4) (hd := k) (len := n) hS h (by omega) hi hi30
              refine ⟨I1, ?_, g2, g3⟩
              simp (disch := first | assumption | omega | exact Nat.le_of_ble_eq_true rfl | decide) only [u_89_0, u_89_1, u_89_4, u_89_5, u_89_6, u_89_9, u_89_10, u_89_12, u_89_15, u_89_16, u_89_17, u_89_18, u_89_21, u_89_23, u_89_24, u_89_25, u_89_28, u_89_31, u_89_34, u_89_36, u_89_39, u_89_40, u_89_43, u_89_44, u_89_45, u_89_46, u_89_49, h1, h2, h3, h4, if_true, if_false, rc, rv_some, s_isFullW hS h, hi, hne, bnd_some, psh_some, Int.reduceEq, g1]
        · rw [if_pos (by omega)]
          refine ⟨I, ?_, h, fun _ _ => rfl⟩
          simp (disch := first | assumption | omega | exact Nat.le_of_ble_eq_true rfl | decide) only [u_89_0, u_89_1, u_89_4, u_89_5, u_89_6, u_89_9, u_89_10, u_89_12, u_89_15, u_89_16, u_89_17, u_89_18, u_89_21, u_89_23, u_89_24, u_89_25, u_89_28, u_89_31, u_89_34, u_89_36, u_89_39, u_89_40, u_89_43, u_89_44, u_89_45, u_89_46, u_89_49, h1, h2, h3, h4, if_true, if_false]
      · rw [if_pos (Or.inr (by omega))]
        refine ⟨I, ?_, h, fun _ _ => rfl⟩
        simp (disch := first | assumption | omega | exact Nat.le_of_ble_eq_true rfl | decide) only [u_89_0, u_89_1, u_89_4, u_89_5, u_89_6, u_89_9, u_89_10, u_89_12, u_89_15, u_89_16, u_89_17, u_89_18, u_89_21, u_89_23, u_89_24, u_89_25, u_89_28, u_89_31, u_89_34, u_89_36, u_89_39, u_89_40, u_89_43, u_89_44, u_89_45, u_89_46, u_89_49, h1, h2, h3, if_true, if_false]
theorem C_write (hH : HS sh R) (h : isW I 1 w) (hw : okW w) : ∃ I', cl (d + 4) 90 [.inr (.inl 0), .inl o, .inl n, .inl v] (sh, I, R) = some (some (.inl (a_write w o n v).1), (sh, I', R)) ∧ isW I' 1 (a_write w o n v).2 ∧ FrW 1 I I' := by
  obtain ⟨tc, rc, hS⟩ := hH
  have t0 := hS.1
  rw [c_90]
  unfold a_write
  by_cases hl : liv w o
  · rw [if_neg (Classical.not_not.mpr hl)]
    obtain ⟨i, rfl, hi, hk⟩ := liv_nat hl
    rw [Int.toNat_natCast]
    obtain ⟨t0', r0, r1, r2, t1, l1, t2, l2, t3, l3, hn, hs⟩ := id hS
    obtain ⟨n1, n2⟩ := hn i hi
    obtain ⟨tn, rn0, rn1, hF, -⟩ := id n2
    have tF := hF.1
    have hx := h.1 i hi
    have hok := hw.1 i hi
    by_cases h4 : (w.1 i).1 = 4
    · rw [if_pos h4]
      refine ⟨I, ?_, h, fun _ _ => rfl⟩
      simp (disch := first | assumption | omega | exact Nat.le_of_ble_eq_true rfl | decide) only [u_90_0, u_90_1, u_90_4, u_90_5, u_90_8, u_90_8n, u_90_10, u_90_10n, u_90_12, u_90_12n, u_90_15, u_90_15n, u_90_17, u_90_20, u_90_21, u_90_24, u_90_25, u_90_28, u_90_31, u_90_32, u_90_35, u_90_38, u_90_40, u_90_41, u_90_41n, u_90_43, u_90_46, u_90_47, u_90_48, u_90_51, rc, rv_some, s_atL hS h hi hk, bnd_some, psh_some, hx.1, h4, if_true]
    · rw [if_neg h4]
      by_cases hnm : isNm n
      · rw [if_neg (Classical.not_not.mpr hnm)]
        by_cases hnu : isNu v
        · rw [if_neg (Classical.not_not.mpr hnu)]
          obtain ⟨I1, g1, g2, g3⟩ := s_change (d := d) (n := n) (v := v) (m := 6) hF hx.2.2.2.2.1 hx.2.2.2.2.2 hok.2.2.2.2.2.2.2.2.1 (by decide)
          obtain ⟨g4, g5⟩ := isN_setF hx g2 g3
          refine ⟨I1, ?_, isW_setN h hi g4 g5, g5.W hi⟩
          simp (disch := first | assumption | omega | exact Nat.le_of_ble_eq_true rfl | decide) only [u_90_0, u_90_1, u_90_4, u_90_5, u_90_8, u_90_8n, u_90_10, u_90_10n, u_90_12, u_90_12n, u_90_15, u_90_15n, u_90_17, u_90_20, u_90_21, u_90_24, u_90_25, u_90_28, u_90_31, u_90_32, u_90_35, u_90_38, u_90_40, u_90_41, u_90_41n, u_90_43, u_90_46, u_90_47, u_90_48, u_90_51, rc, rv_some, s_atL hS h hi hk, bnd_some, psh_some, hx.1, h4, if_false, if_true, s_isName, s_isNumber, if_pos hnm, if_pos hnu, Int.reduceEq, not_false_eq_true, rn0, g1]
        · rw [if_pos hnu]
          refine ⟨I, ?_, h, fun _ _ => rfl⟩
          simp (disch := first | assumption | omega | exact Nat.le_of_ble_eq_true rfl | decide) only [u_90_0, u_90_1, u_90_4, u_90_5, u_90_8, u_90_8n, u_90_10, u_90_10n, u_90_12, u_90_12n, u_90_15, u_90_15n, u_90_17, u_90_20, u_90_21, u_90_24, u_90_25, u_90_28, u_90_31, u_90_32, u_90_35, u_90_38, u_90_40, u_90_41, u_90_41n, u_90_43, u_90_46, u_90_47, u_90_48, u_90_51, rc, rv_some, s_atL hS h hi hk, bnd_some, psh_some, hx.1, h4, if_false, if_true, s_isName, s_isNumber, if_pos hnm, if_neg hnu, Int.reduceEq, not_true]
      · rw [if_pos hnm]
        refine ⟨I, ?_, h, fun _ _ => rfl⟩
        simp (disch := first | assumption | omega | exact Nat.le_of_ble_eq_true rfl | decide) only [u_90_0, u_90_1, u_90_4, u_90_5, u_90_8, u_90_8n, u_90_10, u_90_10n, u_90_12, u_90_12n, u_90_15, u_90_15n, u_90_17, u_90_20, u_90_21, u_90_24, u_90_25, u_90_28, u_90_31, u_90_32, u_90_35, u_90_38, u_90_40, u_90_41, u_90_41n, u_90_43, u_90_46, u_90_47, u_90_48, u_90_51, rc, rv_some, s_atL hS h hi hk, bnd_some, psh_some, hx.1, h4, if_false, if_true, s_isName, if_neg hnm, Int.reduceEq, not_true]
  · rw [if_pos hl]
    refine ⟨I, ?_, h, fun _ _ => rfl⟩
    simp (disch := first | assumption | omega | exact Nat.le_of_ble_eq_true rfl | decide) only [u_90_0, u_90_1, u_90_4, u_90_5, u_90_8, u_90_8n, u_90_10, u_90_10n, u_90_12, u_90_12n, u_90_15, u_90_15n, u_90_17, u_90_20, u_90_21, u_90_24, u_90_25, u_90_28, u_90_31, u_90_32, u_90_35, u_90_38, u_90_40, u_90_41, u_90_41n, u_90_43, u_90_46, u_90_47, u_90_48, u_90_51, rc, rv_some, s_atN hS h (not_live hl), bnd_some, psh_some]
theorem C_read (hH : HS sh R) (h : isW I 1 w) (hw : okW w) : cl (d + 3) 91 [.inr (.inl 0), .inl o, .inl n] (sh, I, R) = some (some (.inl (a_read w o n)), (sh, I, R)) := by
  obtain ⟨tc, rc, hS⟩ := hH
  have t0 := hS.1
  rw [c_91]
  unfold a_read
  by_cases hl : liv w o
  · rw [if_neg (Classical.not_not.mpr hl)]
    obtain ⟨i, rfl, hi, hk⟩ := liv_nat hl
    rw [Int.toNat_natCast]
    obtain ⟨t0', r0, r1, r2, t1, l1, t2, l2, t3, l3, hn, hs⟩ := id hS
    obtain ⟨n1, n2⟩ := hn i hi
    obtain ⟨tn, rn0, rn1, hF, -⟩ := id n2
    have tF := hF.1
    have hx := h.1 i hi
    have hok := hw.1 i hi
    simp (disch := first | assumption | omega | exact Nat.le_of_ble_eq_true rfl | decide) only [u_91_0, u_91_1, u_91_4, u_91_5, u_91_8, u_91_8n, u_91_9, u_91_9n, u_91_10, u_91_10n, u_91_13, u_91_15, u_91_18, u_91_18n, u_91_19, u_91_22, u_91_23, u_91_26, rc, rv_some, s_atL hS h hi hk, bnd_some, psh_some, rn0, s_numberOf hF hx.2.2.2.2.1 hok.2.2.2.2.2.2.2.2.1]
  · rw [if_pos hl]
    simp (disch := first | assumption | omega | exact Nat.le_of_ble_eq_true rfl | decide) only [u_91_0, u_91_1, u_91_4, u_91_5, u_91_8, u_91_8n, u_91_9, u_91_9n, u_91_10, u_91_10n, u_91_13, u_91_15, u_91_18, u_91_18n, u_91_19, u_91_22, u_91_23, u_91_26, rc, rv_some, s_atN hS h (not_live hl), bnd_some, psh_some]
theorem frem_len (L : FL) (n : Int) (h : ¬ fidx L n = -1) : (frem L n).length = L.length - 1 := by
  rcases fidx_spec L n with ⟨h1, -⟩ | ⟨i, p, h1, hi, -⟩
  · exact absurd h1 h
  · rw [frem_eq L n 0 i (by rw [Nat.zero_add]; exact h1), List.length_eraseIdx, if_pos hi]
theorem C_forget (hH : HS sh R) (h : isW I 1 w) (hw : okW w) : ∃ I', cl (d + 3) 92 [.inr (.inl 0), .inl o, .inl n] (sh, I, R) = some (some (.inl (a_forget w o n).1), (sh, I', R)) ∧ isW I' 1 (a_forget w o n).2 ∧ FrW 1 I I' := by
  obtain ⟨tc, rc, hS⟩ := hH
  have t0 := hS.1
  rw [c_92]
  unfold a_forget
  by_cases hl : liv w o
  · rw [if_neg (Classical.not_not.mpr hl)]
    obtain ⟨i, rfl, hi, hk⟩ := liv_nat hl
    rw [Int.toNat_natCast]
    obtain ⟨t0', r0, r1, r2, t1, l1, t2, l2, t3, l3, hn, hs⟩ := id hS
    obtain ⟨n1, n2⟩ := hn i hi
    obtain ⟨tn, rn0, rn1, hF, -⟩ := id n2
    have tF := hF.1
    have hx := h.1 i hi
    have hok := hw.1 i hi
    by_cases hnm : isNm n
    · rw [if_neg (Classical.not_not.mpr hnm)]
      by_cases h4 : (w.1 i).1 = 4
      · rw [if_pos h4]
        refine ⟨I, ?_, h, fun _ _ => rfl⟩
        simp (disch := first | assumption | omega | exact Nat.le_of_ble_eq_true rfl | decide) only [u_92_0, u_92_1, u_92_4, u_92_5, u_92_8, u_92_8n, u_92_9, u_92_9n, u_92_10, u_92_10n, u_92_13, u_92_14, u_92_17, u_92_20, u_92_21, u_92_22, u_92_22n, u_92_23, u_92_26, u_92_27, u_92_30, u_92_32, u_92_33, u_92_33n, u_92_34, u_92_37, u_92_38, u_92_41, u_92_44, u_92_44n, u_92_45, u_92_48, u_92_51, u_92_54, u_92_56, rc, rv_some, s_atL hS h hi hk, bnd_some, psh_some, hx.1, h4, if_false, if_true, s_isName, if_pos hnm, Int.reduceEq, not_false_eq_true, not_true]
      · rw [if_neg h4]
        obtain ⟨I1, g1, g2, g3⟩ := s_remove (d := d) (n := n) hF hx.2.2.2.2.1 hok.2.2.2.2.2.2.2.2.1
        by_cases hf : fidx (w.1 i).2.2.2 n = -1
        · rw [if_pos hf] at g1 g2
          rw [if_pos hf]
          obtain ⟨g4, g5⟩ := isN_setF hx g2 g3
          have g6 := isW_setN h hi g4 g5
          have e : setF (w.1 i) (w.1 i).2.2.2 = w.1 i := rfl
          rw [e, setN_self] at g6
          refine ⟨I1, ?_, g6, g5.W hi⟩
          simp (disch := first | assumption | omega | exact Nat.le_of_ble_eq_true rfl | decide) only [u_92_0, u_92_1, u_92_4, u_92_5, u_92_8, u_92_8n, u_92_9, u_92_9n, u_92_10, u_92_10n, u_92_13, u_92_14, u_92_17, u_92_20, u_92_21, u_92_22, u_92_22n, u_92_23, u_92_26, u_92_27, u_92_30, u_92_32, u_92_33, u_92_33n, u_92_34, u_92_37, u_92_38, u_92_41, u_92_44, u_92_44n, u_92_45, u_92_48, u_92_51, u_92_54, u_92_56, rc, rv_some, s_atL hS h hi hk, bnd_some, psh_some, hx.1, h4, if_false, if_true, s_isName, if_pos hnm, Int.reduceEq, not_false_eq_true, not_true, rn0, g1]
        · rw [if_neg hf] at g1 g2
          rw [if_neg hf]
          obtain ⟨g4, g5⟩ := isN_setF hx g2 g3
          have g7 := g2.1
          rw [frem_len _ _ hf] at g7
          refine ⟨I1, ?_, isW_setN h hi g4 g5, g5.W hi⟩
          simp (disch := first | assumption | omega | exact Nat.le_of_ble_eq_true rfl | decide) only [u_92_0, u_92_1, u_92_4, u_92_5, u_92_8, u_92_8n, u_92_9, u_92_9n, u_92_10, u_92_10n, u_92_13, u_92_14, u_92_17, u_92_20, u_92_21, u_92_22, u_92_22n, u_92_23, u_92_26, u_92_27, u_92_30, u_92_32, u_92_33, u_92_33n, u_92_34, u_92_37, u_92_38, u_92_41, u_92_44, u_92_44n, u_92_45, u_92_48, u_92_51, u_92_54, u_92_56, rc, rv_some, s_atL hS h hi hk, bnd_some, psh_some, hx.1, h4, if_false, if_true, s_isName, if_pos hnm, Int.reduceEq, not_false_eq_true, not_true, rn0, g1, g7]
    · rw [if_pos hnm]
      refine ⟨I, ?_, h, fun _ _ => rfl⟩
      simp (disch := first | assumption | omega | exact Nat.le_of_ble_eq_true rfl | decide) only [u_92_0, u_92_1, u_92_4, u_92_5, u_92_8, u_92_8n, u_92_9, u_92_9n, u_92_10, u_92_10n, u_92_13, u_92_14, u_92_17, u_92_20, u_92_21, u_92_22, u_92_22n, u_92_23, u_92_26, u_92_27, u_92_30, u_92_32, u_92_33, u_92_33n, u_92_34, u_92_37, u_92_38, u_92_41, u_92_44, u_92_44n, u_92_45, u_92_48, u_92_51, u_92_54, u_92_56, rc, rv_some, s_atL hS h hi hk, bnd_some, psh_some, if_false, if_true, s_isName, if_neg hnm, Int.reduceEq, not_true]
  · rw [if_pos hl]
    refine ⟨I, ?_, h, fun _ _ => rfl⟩
    simp (disch := first | assumption | omega | exact Nat.le_of_ble_eq_true rfl | decide) only [u_92_0, u_92_1, u_92_4, u_92_5, u_92_8, u_92_8n, u_92_9, u_92_9n, u_92_10, u_92_10n, u_92_13, u_92_14, u_92_17, u_92_20, u_92_21, u_92_22, u_92_22n, u_92_23, u_92_26, u_92_27, u_92_30, u_92_32, u_92_33, u_92_33n, u_92_34, u_92_37, u_92_38, u_92_41, u_92_44, u_92_44n, u_92_45, u_92_48, u_92_51, u_92_54, u_92_56, rc, rv_some, s_atN hS h (not_live hl), bnd_some, psh_some]
end PUB
