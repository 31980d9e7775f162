/-! THE CLASS: graft, ref, of, name, copy -/
abbrev livN (w : WD) (z : Int) : Prop := z = -1 ∨ liv w z
def a_graft (w : WD) (o i to : Int) : Int × WD :=
  if ¬ liv w o then (-1, w) else if ¬ livN w to then (-1, w) else if ¬ (0 ≤ i ∧ i < ((w.1 o.toNat).2.2.1.length : Int)) then (-13, w) else
  if ¬ to = -1 ∧ mayH (w.1 o.toNat).1 (w.1 o.toNat).2.1 (w.1 to.toNat).1 = 0 then (-16, w) else
  (nT ((w.1 o.toNat).2.2.1.getD i.toNat 0), setN w o.toNat (setR (w.1 o.toNat) ((w.1 o.toNat).2.2.1.set i.toNat to)))
def a_ref (w : WD) (o i : Int) : Int := if ¬ liv w o then -1 else if ¬ (0 ≤ i ∧ i < ((w.1 o.toNat).2.2.1.length : Int)) then -13 else nT ((w.1 o.toNat).2.2.1.getD i.toNat 0)
def a_of (w : WD) (o q : Int) : Int :=
  if ¬ liv w o then -1 else if q = 0 then (w.1 o.toNat).1 else if q = 1 then ((w.1 o.toNat).2.2.2.length : Int) else if q = 2 then ((w.1 o.toNat).2.2.1.length : Int) else
  if q = 3 then (if (w.1 o.toNat).1 = 4 then 0 else ((fbes (w.1 o.toNat).2.2.2 (w.2.1 (curS w (w.1 o.toNat).1.toNat)) : Nat) : Int)) else
  if q = 4 then (if (w.1 o.toNat).1 = 4 then (w.1 o.toNat).2.1 else -2) else -1
def a_name (w : WD) (o i : Int) : Int :=
  if ¬ liv w o then -1 else if i < 0 then -1 else if (w.1 o.toNat).1 = 4 then -12 else if i < ((w.1 o.toNat).2.2.2.length : Int) then ((w.1 o.toNat).2.2.2.getD i.toNat (0, 0)).1 else -2
def a_copy (w : WD) (o : Int) : Int × WD :=
  if ¬ liv w o then (-1, w) else if ¬ (w.1 o.toNat).1 = 4 then (-12, w) else if freeW w = -1 then (-3, w) else (freeW w, setN w (freeW w).toNat (w.1 o.toNat))
theorem mayH_01 (a b c : Int) : mayH a b c = 0 ∨ mayH a b c = 1 := by
  unfold mayH
  repeat' split
  all_goals first | exact Or.inl rfl | exact Or.inr rfl
theorem getD_at {α : Type} {l : List α} {j : Nat} (h : j < l.length) (x : α) : l.getD j x = l[j] := by simp [List.getD, h]
section PUB
variable {sh : Shp} {R : RM} {I : IM} {d : Nat} {w : WD} {o i to q : Int}
theorem s_oon (hH : HS sh R) (h : isW I 1 w) {z : Int} : cl (d + 2) 120 [.inr (.inl 0), .inl z] (sh, I, R) = some (some (.inl (if livN w z then 1 else 0)), (sh, I, R)) := by
  obtain ⟨tc, rc, hS⟩ := hH
  have t0 := hS.1
  rw [c_120]
  by_cases h1 : z = -1
  · rw [if_pos (Or.inl h1)]
    simp (disch := first | assumption | omega | exact Nat.le_of_ble_eq_true rfl | decide) only [u_120_0, u_120_1, u_120_2, u_120_5, u_120_6, u_120_9, u_120_10, u_120_13, u_120_13n, u_120_16, u_120_17, u_120_20, u_120_21, h1, if_true]
  · by_cases hl : liv w z
    · rw [if_pos (Or.inr hl)]
      obtain ⟨i, rfl, hi, hk⟩ := liv_nat hl
      simp (disch := first | assumption | omega | exact Nat.le_of_ble_eq_true rfl | decide) only [u_120_0, u_120_1, u_120_2, u_120_5, u_120_6, u_120_9, u_120_10, u_120_13, u_120_13n, u_120_16, u_120_17, u_120_20, u_120_21, h1, if_false, rc, rv_some, s_atL hS h hi hk, bnd_some, psh_some]
    · rw [if_neg (fun q => q.elim h1 hl)]
      simp (disch := first | assumption | omega | exact Nat.le_of_ble_eq_true rfl | decide) only [u_120_0, u_120_1, u_120_2, u_120_5, u_120_6, u_120_9, u_120_10, u_120_13, u_120_13n, u_120_16, u_120_17, u_120_20, u_120_21, h1, if_false, rc, rv_some, s_atN hS h (not_live hl), bnd_some, psh_some]
theorem isN_setR {n j : Nat} {x : ND} {r : Int} (h : isN I n x) (hj : j < x.2.2.1.length) : isN (up I (n + 4) (j : Int) r) n (setR x (x.2.2.1.set j r)) ∧ FrN n I (up I (n + 4) (j : Int) r) := by
  obtain ⟨x1, x2, x3, x4, x5, x6⟩ := h
  refine ⟨⟨?_, ?_, ?_, fun i s hs => ?_, x5.cong (upf (by omega)) (upf (by omega)) (upf (by omega)), ?_⟩, fun k hk => upf (by omega)⟩
  · rw [upk (by omega)]; exact x1
  · rw [upk (by omega)]; exact x2
  · rw [upk (by omega), x3]; simp [setR]
  · have hs : (x.2.2.1.set j r)[i]? = some s := hs
    by_cases hij : i = j
    · subst hij
      rw [List.getElem?_set_self hj] at hs
      cases hs
      exact ups
    · rw [List.getElem?_set_ne (Ne.symm hij)] at hs
      rw [upj (by omega)]
      exact x4 i s hs
  · rw [upk (by omega)]; exact x6
theorem C_graft (hH : HS sh R) (h : isW I 1 w) (hw : okW w) : ∃ I', cl (d + 3) 93 [.inr (.inl 0), .inl o, .inl i, .inl to] (sh, I, R) = some (some (.inl (a_graft w o i to).1), (sh, I', R)) ∧ isW I' 1 (a_graft w o i to).2 ∧ FrW 1 I I' := by
  obtain ⟨tc, rc, hS⟩ := id hH
  have t0 := hS.1
  rw [c_93]
  unfold a_graft
  by_cases hl : liv w o
  · rw [if_neg (Classical.not_not.mpr hl)]
    obtain ⟨o, rfl, ho, hk⟩ := liv_nat hl
    rw [Int.toNat_natCast]
    obtain ⟨t0', r0, r1, r2, t1, l1, t2, l2, t3, l3, hn, hs⟩ := id hS
    obtain ⟨n1, n2⟩ := hn o ho
    obtain ⟨tn, rn0, rn1, hF, tn4, ln4⟩ := id n2
    have hx := h.1 o ho
    have hok := hw.1 o ho
    by_cases hto : livN w to
    · rw [if_neg (Classical.not_not.mpr hto)]
      by_cases hi : 0 ≤ i ∧ i < ((w.1 o).2.2.1.length : Int)
      · rw [if_neg (Classical.not_not.mpr hi)]
        obtain ⟨i, rfl⟩ : ∃ i' : Nat, i = (i' : Int) := ⟨i.toNat, by omega⟩
        rw [Int.toNat_natCast]
        have hil : i < (w.1 o).2.2.1.length := by omega
        have h6 := hok.2.2.2.2.2.2.2.1
        have hrd := hx.2.2.2.1.at hil
        rw [getD_at hil]
        obtain ⟨g1, g2⟩ := isN_setR (r := to) hx hil
        have hres : ¬ (¬ to = -1 ∧ mayH (w.1 o).1 (w.1 o).2.1 (w.1 to.toNat).1 = 0) → ∃ I', ev S0 (d + 2) 93 56 [.inr (.inl 0), .inl (o : Int), .inl (i : Int), .inl to, .inr (.inl (1 + 4 + 5 * o)), .inr (.inr 1)] [] (sh, I, R) = some (some (.inl (nT ((w.1 o).2.2.1[i]))), (sh, I', R)) ∧ isW I' 1 (setN w o (setR (w.1 o) ((w.1 o).2.2.1.set i to))) ∧ FrW 1 I I' := by
          intro _
          refine ⟨_, ?_, isW_setN h ho g1 g2, g2.W ho⟩
          simp (disch := first | assumption | omega | exact Nat.le_of_ble_eq_true rfl | decide) only [u_93_56, u_93_56n, u_93_58, u_93_61, u_93_62, u_93_63, u_93_65, u_93_65n, u_93_67, u_93_70, u_93_71, u_93_72, u_93_73, u_93_75, u_93_78, rn1, rv_some, hrd, s_orNot, bnd_some, psh_some]
          rfl
        by_cases h1 : to = -1
        · rw [if_neg (fun q => q.1 h1)]
          obtain ⟨I', e1, e2, e3⟩ := hres (fun q => q.1 h1)
          refine ⟨I', ?_, e2, e3⟩
          simp (disch := first | assumption | omega | exact Nat.le_of_ble_eq_true rfl | decide) only [u_93_0, u_93_1, u_93_4, u_93_5, u_93_8, u_93_8n, u_93_10, u_93_10n, u_93_12, u_93_12n, u_93_15, u_93_16, u_93_17, u_93_20, u_93_23, u_93_24, u_93_25, u_93_25n, u_93_27, u_93_28, u_93_31, u_93_34, u_93_36, u_93_37, u_93_37n, u_93_39, u_93_40, u_93_43, u_93_44, u_93_47, u_93_47n, u_93_50, u_93_53, rc, rv_some, s_atL hS h ho hk, bnd_some, psh_some, s_oon hH h, if_pos hto, Int.reduceEq, not_false_eq_true, if_true, s_hasPlaceN n2 hx, if_pos hi, s_atN hS h (not_live (w := w) (z := to) (by rw [h1]; exact fun q => by have := q.1; omega)), s_mayN n2]
          exact e1
        · have hlt := hto.resolve_left h1
          obtain ⟨to, rfl, hto30, htk⟩ := liv_nat hlt
          rw [Int.toNat_natCast] at hres ⊢
          obtain ⟨p1, p2⟩ := hn to hto30
          have hy := h.1 to hto30
          have hm := s_may (d := d + 1) (I := I) n2 p2
          rw [hx.1, hx.2.1, hy.1] at hm
          by_cases h0 : mayH (w.1 o).1 (w.1 o).2.1 (w.1 to).1 = 0
          · rw [if_pos ⟨h1, h0⟩]
            rw [h0] at hm
            refine ⟨I, ?_, h, fun _ _ => rfl⟩
            simp (disch := first | assumption | omega | exact Nat.le_of_ble_eq_true rfl | decide) only [u_93_0, u_93_1, u_93_4, u_93_5, u_93_8, u_93_8n, u_93_10, u_93_10n, u_93_12, u_93_12n, u_93_15, u_93_16, u_93_17, u_93_20, u_93_23, u_93_24, u_93_25, u_93_25n, u_93_27, u_93_28, u_93_31, u_93_34, u_93_36, u_93_37, u_93_37n, u_93_39, u_93_40, u_93_43, u_93_44, u_93_47, u_93_47n, u_93_50, u_93_53, u_93_55, rc, rv_some, s_atL hS h ho hk, s_atL hS h hto30 htk, bnd_some, psh_some, s_oon hH h, if_pos hto, Int.reduceEq, not_false_eq_true, not_true, if_true, if_false, s_hasPlaceN n2 hx, if_pos hi, hm]
          · rw [if_neg (fun q => h0 q.2)]
            obtain ⟨I', e1, e2, e3⟩ := hres (fun q => h0 q.2)
            have h11 : mayH (w.1 o).1 (w.1 o).2.1 (w.1 to).1 = 1 := (mayH_01 _ _ _).resolve_left h0
            rw [h11] at hm
            refine ⟨I', ?_, e2, e3⟩
            simp (disch := first | assumption | omega | exact Nat.le_of_ble_eq_true rfl | decide) only [u_93_0, u_93_1, u_93_4, u_93_5, u_93_8, u_93_8n, u_93_10, u_93_10n, u_93_12, u_93_12n, u_93_15, u_93_16, u_93_17, u_93_20, u_93_23, u_93_24, u_93_25, u_93_25n, u_93_27, u_93_28, u_93_31, u_93_34, u_93_36, u_93_37, u_93_37n, u_93_39, u_93_40, u_93_43, u_93_44, u_93_47, u_93_47n, u_93_50, u_93_53, u_93_55, rc, rv_some, s_atL hS h ho hk, s_atL hS h hto30 htk, bnd_some, psh_some, s_oon hH h, if_pos hto, Int.reduceEq, not_false_eq_true, not_true, if_true, if_false, s_hasPlaceN n2 hx, if_pos hi, hm]
            exact e1
      · rw [if_pos hi]
        refine ⟨I, ?_, h, fun _ _ => rfl⟩
        simp (disch := first | assumption | omega | exact Nat.le_of_ble_eq_true rfl | decide) only [u_93_0, u_93_1, u_93_4, u_93_5, u_93_8, u_93_8n, u_93_10, u_93_10n, u_93_12, u_93_12n, u_93_15, u_93_16, u_93_17, u_93_20, u_93_23, u_93_24, u_93_25, u_93_25n, u_93_27, u_93_28, u_93_31, u_93_34, u_93_36, u_93_37, u_93_37n, u_93_39, u_93_40, u_93_43, u_93_44, u_93_47, u_93_47n, u_93_50, u_93_53, u_93_55, rc, rv_some, s_atL hS h ho hk, bnd_some, psh_some, s_oon hH h, if_pos hto, Int.reduceEq, not_false_eq_true, not_true, if_true, if_false, s_hasPlaceN n2 hx, if_neg hi]
    · rw [if_pos hto]
      refine ⟨I, ?_, h, fun _ _ => rfl⟩
      simp (disch := first | assumption | omega | exact Nat.le_of_ble_eq_true rfl | decide) only [u_93_0, u_93_1, u_93_4, u_93_5, u_93_8, u_93_8n, u_93_10, u_93_10n, u_93_12, u_93_12n, u_93_15, u_93_16, u_93_17, u_93_20, u_93_23, u_93_24, u_93_25, u_93_25n, u_93_27, u_93_28, u_93_31, u_93_34, u_93_36, u_93_37, u_93_37n, u_93_39, u_93_40, u_93_43, u_93_44, u_93_47, u_93_47n, u_93_50, u_93_53, u_93_55, rc, rv_some, s_atL hS h ho hk, bnd_some, psh_some, s_oon hH h, if_neg hto, Int.reduceEq, not_true, if_false]
  · rw [if_pos hl]
    refine ⟨I, ?_, h, fun _ _ => rfl⟩
    simp (disch := first | assumption | omega | exact Nat.le_of_ble_eq_true rfl | decide) only [u_93_0, u_93_1, u_93_4, u_93_5, u_93_8, u_93_8n, u_93_10, u_93_10n, u_93_12, u_93_12n, u_93_15, u_93_16, u_93_17, u_93_20, u_93_23, u_93_24, u_93_25, u_93_25n, u_93_27, u_93_28, u_93_31, u_93_34, u_93_36, u_93_37, u_93_37n, u_93_39, u_93_40, u_93_43, u_93_44, u_93_47, u_93_47n, u_93_50, u_93_53, u_93_55, rc, rv_some, s_atN hS h (not_live hl), bnd_some, psh_some]
theorem C_ref (hH : HS sh R) (h : isW I 1 w) (hw : okW w) : cl (d + 2) 94 [.inr (.inl 0), .inl o, .inl i] (sh, I, R) = some (some (.inl (a_ref w o i)), (sh, I, R)) := by
  obtain ⟨tc, rc, hS⟩ := id hH
  have t0 := hS.1
  rw [c_94]
  unfold a_ref
  by_cases hl : liv w o
  · rw [if_neg (Classical.not_not.mpr hl)]
    obtain ⟨o, rfl, ho, hk⟩ := liv_nat hl
    rw [Int.toNat_natCast]
    obtain ⟨t0', r0, r1, r2, t1, l1, t2, l2, t3, l3, hn, hs⟩ := id hS
    obtain ⟨n1, n2⟩ := hn o ho
    obtain ⟨tn, rn0, rn1, hF, tn4, ln4⟩ := id n2
    have hx := h.1 o ho
    have h6 := (hw.1 o ho).2.2.2.2.2.2.2.1
    by_cases hi : 0 ≤ i ∧ i < ((w.1 o).2.2.1.length : Int)
    · rw [if_neg (Classical.not_not.mpr hi)]
      obtain ⟨i, rfl⟩ : ∃ i' : Nat, i = (i' : Int) := ⟨i.toNat, by omega⟩
      rw [Int.toNat_natCast]
      have hil : i < (w.1 o).2.2.1.length := by omega
      have hrd := hx.2.2.2.1.at hil
      rw [getD_at hil]
      simp (disch := first | assumption | omega | exact Nat.le_of_ble_eq_true rfl | decide) only [u_94_0, u_94_1, u_94_4, u_94_5, u_94_8, u_94_8n, u_94_9, u_94_9n, u_94_10, u_94_10n, u_94_13, u_94_14, u_94_15, u_94_15n, u_94_16, u_94_17, u_94_20, u_94_23, u_94_23n, u_94_24, u_94_27, u_94_28, u_94_29, u_94_32, u_94_35, u_94_37, rc, rv_some, s_atL hS h ho hk, bnd_some, psh_some, s_hasPlaceN n2 hx, if_pos hi, Int.reduceEq, if_false, rn1, hrd, s_orNot]
      rfl
    · rw [if_pos hi]
      simp (disch := first | assumption | omega | exact Nat.le_of_ble_eq_true rfl | decide) only [u_94_0, u_94_1, u_94_4, u_94_5, u_94_8, u_94_8n, u_94_9, u_94_9n, u_94_10, u_94_10n, u_94_13, u_94_14, u_94_15, u_94_15n, u_94_16, u_94_17, u_94_20, u_94_23, u_94_23n, u_94_24, u_94_27, u_94_28, u_94_29, u_94_32, u_94_35, u_94_37, rc, rv_some, s_atL hS h ho hk, bnd_some, psh_some, s_hasPlaceN n2 hx, if_neg hi, if_true]
  · rw [if_pos hl]
    simp (disch := first | assumption | omega | exact Nat.le_of_ble_eq_true rfl | decide) only [u_94_0, u_94_1, u_94_4, u_94_5, u_94_8, u_94_8n, u_94_9, u_94_9n, u_94_10, u_94_10n, u_94_13, u_94_14, u_94_15, u_94_15n, u_94_16, u_94_17, u_94_20, u_94_23, u_94_23n, u_94_24, u_94_27, u_94_28, u_94_29, u_94_32, u_94_35, u_94_37, rc, rv_some, s_atN hS h (not_live hl), bnd_some, psh_some]
theorem C_of (hH : HS sh R) (h : isW I 1 w) (hw : okW w) : cl (d + 5) 95 [.inr (.inl 0), .inl o, .inl q] (sh, I, R) = some (some (.inl (a_of w o q)), (sh, I, R)) := by
  obtain ⟨tc, rc, hS⟩ := id hH
  have t0 := hS.1
  rw [c_95]
  unfold a_of
  by_cases hl : liv w o
  · rw [if_neg (Classical.not_not.mpr hl)]
    obtain ⟨o, rfl, ho, hk⟩ := liv_nat hl
    rw [Int.toNat_natCast]
    obtain ⟨t0', r0, r1, r2, t1, l1, t2, l2, t3, l3, hn, hs⟩ := id hS
    obtain ⟨n1, n2⟩ := hn o ho
    obtain ⟨tn, rn0, rn1, hF, tn4, ln4⟩ := id n2
    have tF := hF.1
    have hx := h.1 o ho
    have hok := hw.1 o ho
    by_cases q0 : q = 0
    · simp (disch := first | assumption | omega | exact Nat.le_of_ble_eq_true rfl | decide) only [u_95_0, u_95_1, u_95_4, u_95_5, u_95_8, u_95_8n, u_95_9, u_95_9n, u_95_10, u_95_10n, u_95_13, u_95_14, u_95_15, u_95_16, u_95_52, u_95_52n, u_95_53, u_95_56, u_95_57, u_95_57n, u_95_58, u_95_61, u_95_64, u_95_65, u_95_65n, u_95_66, u_95_69, u_95_70, u_95_71, u_95_74, u_95_74n, u_95_75, u_95_75n, u_95_78, u_95_79, u_95_79n, u_95_80, u_95_83, u_95_84, u_95_87, u_95_87n, u_95_88, u_95_91, u_95_94, u_95_96, u_95_97, u_95_98, rc, rv_some, s_atL hS h ho hk, bnd_some, psh_some, q0, if_true, hx.1]
    · by_cases q1 : q = 1
      · simp (disch := first | assumption | omega | exact Nat.le_of_ble_eq_true rfl | decide) only [u_95_0, u_95_1, u_95_4, u_95_5, u_95_8, u_95_8n, u_95_9, u_95_9n, u_95_10, u_95_10n, u_95_13, u_95_14, u_95_15, u_95_16, u_95_52, u_95_52n, u_95_53, u_95_56, u_95_57, u_95_57n, u_95_58, u_95_61, u_95_64, u_95_65, u_95_65n, u_95_66, u_95_69, u_95_70, u_95_71, u_95_74, u_95_74n, u_95_75, u_95_75n, u_95_78, u_95_79, u_95_79n, u_95_80, u_95_83, u_95_84, u_95_87, u_95_87n, u_95_88, u_95_91, u_95_94, u_95_96, u_95_97, u_95_98, rc, rv_some, s_atL hS h ho hk, bnd_some, psh_some, q1, Int.reduceEq, if_true, if_false, rn0, hx.2.2.2.2.1.1]
      · by_cases q2 : q = 2
        · simp (disch := first | assumption | omega | exact Nat.le_of_ble_eq_true rfl | decide) only [u_95_0, u_95_1, u_95_4, u_95_5, u_95_8, u_95_8n, u_95_9, u_95_9n, u_95_10, u_95_10n, u_95_13, u_95_14, u_95_15, u_95_16, u_95_52, u_95_52n, u_95_53, u_95_56, u_95_57, u_95_57n, u_95_58, u_95_61, u_95_64, u_95_65, u_95_65n, u_95_66, u_95_69, u_95_70, u_95_71, u_95_74, u_95_74n, u_95_75, u_95_75n, u_95_78, u_95_79, u_95_79n, u_95_80, u_95_83, u_95_84, u_95_87, u_95_87n, u_95_88, u_95_91, u_95_94, u_95_96, u_95_97, u_95_98, rc, rv_some, s_atL hS h ho hk, bnd_some, psh_some, q2, Int.reduceEq, if_true, if_false, hx.2.2.1]
        · by_cases q3 : q = 3
          · by_cases h4 : (w.1 o).1 = 4
            · simp (disch := first | assumption | omega | exact Nat.le_of_ble_eq_true rfl | decide) only [u_95_0, u_95_1, u_95_4, u_95_5, u_95_8, u_95_8n, u_95_9, u_95_9n, u_95_10, u_95_10n, u_95_13, u_95_14, u_95_15, u_95_16, u_95_52, u_95_52n, u_95_53, u_95_56, u_95_57, u_95_57n, u_95_58, u_95_61, u_95_64, u_95_65, u_95_65n, u_95_66, u_95_69, u_95_70, u_95_71, u_95_74, u_95_74n, u_95_75, u_95_75n, u_95_78, u_95_79, u_95_79n, u_95_80, u_95_83, u_95_84, u_95_87, u_95_87n, u_95_88, u_95_91, u_95_94, u_95_96, u_95_97, u_95_98, rc, rv_some, s_atL hS h ho hk, bnd_some, psh_some, q3, Int.reduceEq, if_true, if_false, s_keptR hS h ho h4, h4]
            · have hz : (w.1 o).1 = (((w.1 o).1.toNat : Nat) : Int) := by have := hok.1; omega
              have e1 := s_kept (d := d) hS h hw ho hz (by have := hok.1; omega) (by have := hok.2.1; omega)
              simp (disch := first | assumption | omega | exact Nat.le_of_ble_eq_true rfl | decide) only [u_95_0, u_95_1, u_95_4, u_95_5, u_95_8, u_95_8n, u_95_9, u_95_9n, u_95_10, u_95_10n, u_95_13, u_95_14, u_95_15, u_95_16, u_95_52, u_95_52n, u_95_53, u_95_56, u_95_57, u_95_57n, u_95_58, u_95_61, u_95_64, u_95_65, u_95_65n, u_95_66, u_95_69, u_95_70, u_95_71, u_95_74, u_95_74n, u_95_75, u_95_75n, u_95_78, u_95_79, u_95_79n, u_95_80, u_95_83, u_95_84, u_95_87, u_95_87n, u_95_88, u_95_91, u_95_94, u_95_96, u_95_97, u_95_98, rc, rv_some, s_atL hS h ho hk, bnd_some, psh_some, q3, Int.reduceEq, if_true, if_false, e1, h4]
          · by_cases q4 : q = 4
            · by_cases h4 : (w.1 o).1 = 4
              · simp (disch := first | assumption | omega | exact Nat.le_of_ble_eq_true rfl | decide) only [u_95_0, u_95_1, u_95_4, u_95_5, u_95_8, u_95_8n, u_95_9, u_95_9n, u_95_10, u_95_10n, u_95_13, u_95_14, u_95_15, u_95_16, u_95_52, u_95_52n, u_95_53, u_95_56, u_95_57, u_95_57n, u_95_58, u_95_61, u_95_64, u_95_65, u_95_65n, u_95_66, u_95_69, u_95_70, u_95_71, u_95_74, u_95_74n, u_95_75, u_95_75n, u_95_78, u_95_79, u_95_79n, u_95_80, u_95_83, u_95_84, u_95_87, u_95_87n, u_95_88, u_95_91, u_95_94, u_95_96, u_95_97, u_95_98, rc, rv_some, s_atL hS h ho hk, bnd_some, psh_some, q4, Int.reduceEq, if_true, if_false, hx.1, hx.2.1, h4, not_true]
              · simp (disch := first | assumption | omega | exact Nat.le_of_ble_eq_true rfl | decide) only [u_95_0, u_95_1, u_95_4, u_95_5, u_95_8, u_95_8n, u_95_9, u_95_9n, u_95_10, u_95_10n, u_95_13, u_95_14, u_95_15, u_95_16, u_95_52, u_95_52n, u_95_53, u_95_56, u_95_57, u_95_57n, u_95_58, u_95_61, u_95_64, u_95_65, u_95_65n, u_95_66, u_95_69, u_95_70, u_95_71, u_95_74, u_95_74n, u_95_75, u_95_75n, u_95_78, u_95_79, u_95_79n, u_95_80, u_95_83, u_95_84, u_95_87, u_95_87n, u_95_88, u_95_91, u_95_94, u_95_96, u_95_97, u_95_98, rc, rv_some, s_atL hS h ho hk, bnd_some, psh_some, q4, Int.reduceEq, if_true, if_false, hx.1, hx.2.1, h4, not_false_eq_true]
            · simp (disch := first | assumption | omega | exact Nat.le_of_ble_eq_true rfl | decide) only [u_95_0, u_95_1, u_95_4, u_95_5, u_95_8, u_95_8n, u_95_9, u_95_9n, u_95_10, u_95_10n, u_95_13, u_95_14, u_95_15, u_95_16, u_95_52, u_95_52n, u_95_53, u_95_56, u_95_57, u_95_57n, u_95_58, u_95_61, u_95_64, u_95_65, u_95_65n, u_95_66, u_95_69, u_95_70, u_95_71, u_95_74, u_95_74n, u_95_75, u_95_75n, u_95_78, u_95_79, u_95_79n, u_95_80, u_95_83, u_95_84, u_95_87, u_95_87n, u_95_88, u_95_91, u_95_94, u_95_96, u_95_97, u_95_98, rc, rv_some, s_atL hS h ho hk, bnd_some, psh_some, q0, q1, q2, q3, q4, if_false]
  · rw [if_pos hl]
    simp (disch := first | assumption | omega | exact Nat.le_of_ble_eq_true rfl | decide) only [u_95_0, u_95_1, u_95_4, u_95_5, u_95_8, u_95_8n, u_95_9, u_95_9n, u_95_10, u_95_10n, u_95_13, u_95_14, u_95_15, u_95_16, u_95_52, u_95_52n, u_95_53, u_95_56, u_95_57, u_95_57n, u_95_58, u_95_61, u_95_64, u_95_65, u_95_65n, u_95_66, u_95_69, u_95_70, u_95_71, u_95_74, u_95_74n, u_95_75, u_95_75n, u_95_78, u_95_79, u_95_79n, u_95_80, u_95_83, u_95_84, u_95_87, u_95_87n, u_95_88, u_95_91, u_95_94, u_95_96, u_95_97, u_95_98, rc, rv_some, s_atN hS h (not_live hl), bnd_some, psh_some]
theorem C_name (hH : HS sh R) (h : isW I 1 w) (hw : okW w) : cl (d + 2) 96 [.inr (.inl 0), .inl o, .inl i] (sh, I, R) = some (some (.inl (a_name w o i)), (sh, I, R)) := by
  obtain ⟨tc, rc, hS⟩ := id hH
  have t0 := hS.1
  rw [c_96]
  unfold a_name
  by_cases hl : liv w o
  · rw [if_neg (Classical.not_not.mpr hl)]
    obtain ⟨o, rfl, ho, hk⟩ := liv_nat hl
    rw [Int.toNat_natCast]
    obtain ⟨t0', r0, r1, r2, t1, l1, t2, l2, t3, l3, hn, hs⟩ := id hS
    obtain ⟨n1, n2⟩ := hn o ho
    obtain ⟨tn, rn0, rn1, hF, tn4, ln4⟩ := id n2
    obtain ⟨tF, tF1, lF1, tF2, lF2, rF1, rF2⟩ := id hF
    have hx := h.1 o ho
    have h6 := (hw.1 o ho).2.2.2.2.2.2.2.2.1
    by_cases h0 : 0 ≤ i
    · have h0' : ¬ i < 0 := by omega
      rw [if_neg h0']
      by_cases h4 : (w.1 o).1 = 4
      · rw [if_pos h4]
        simp (disch := first | assumption | omega | exact Nat.le_of_ble_eq_true rfl | decide) only [u_96_0, u_96_1, u_96_4, u_96_5, u_96_8, u_96_8n, u_96_9, u_96_9n, u_96_10, u_96_10n, u_96_13, u_96_14, u_96_17, u_96_18, u_96_19, u_96_19n, u_96_20, u_96_23, u_96_24, u_96_27, u_96_29, u_96_30, u_96_31, u_96_31n, u_96_32, u_96_35, u_96_38, u_96_41, u_96_41n, u_96_42, u_96_45, u_96_48, u_96_49, u_96_50, u_96_53, u_96_55, rc, rv_some, s_atL hS h ho hk, bnd_some, psh_some, h0, if_true, hx.1, h4, not_true, if_false]
      · rw [if_neg h4]
        by_cases hi : i < ((w.1 o).2.2.2.length : Int)
        · rw [if_pos hi]
          obtain ⟨i, rfl⟩ : ∃ i' : Nat, i = (i' : Int) := ⟨i.toNat, by omega⟩
          rw [Int.toNat_natCast]
          have hil : i < (w.1 o).2.2.2.length := by omega
          have hge : ¬ ((w.1 o).2.2.2.length : Int) ≤ (i : Int) := by omega
          rw [getD_at hil]
          simp (disch := first | assumption | omega | exact Nat.le_of_ble_eq_true rfl | decide) only [u_96_0, u_96_1, u_96_4, u_96_5, u_96_8, u_96_8n, u_96_9, u_96_9n, u_96_10, u_96_10n, u_96_13, u_96_14, u_96_17, u_96_18, u_96_19, u_96_19n, u_96_20, u_96_23, u_96_24, u_96_27, u_96_29, u_96_30, u_96_31, u_96_31n, u_96_32, u_96_35, u_96_38, u_96_41, u_96_41n, u_96_42, u_96_45, u_96_48, u_96_49, u_96_50, u_96_53, u_96_55, rc, rv_some, s_atL hS h ho hk, bnd_some, psh_some, h0, if_true, hx.1, h4, not_false_eq_true, if_false, rn0, hx.2.2.2.2.1.1, hge, rF1, (hx.2.2.2.2.1.at hil).1]
        · rw [if_neg hi]
          have hge : ((w.1 o).2.2.2.length : Int) ≤ i := by omega
          simp (disch := first | assumption | omega | exact Nat.le_of_ble_eq_true rfl | decide) only [u_96_0, u_96_1, u_96_4, u_96_5, u_96_8, u_96_8n, u_96_9, u_96_9n, u_96_10, u_96_10n, u_96_13, u_96_14, u_96_17, u_96_18, u_96_19, u_96_19n, u_96_20, u_96_23, u_96_24, u_96_27, u_96_29, u_96_30, u_96_31, u_96_31n, u_96_32, u_96_35, u_96_38, u_96_41, u_96_41n, u_96_42, u_96_45, u_96_48, u_96_49, u_96_50, u_96_53, u_96_55, rc, rv_some, s_atL hS h ho hk, bnd_some, psh_some, h0, if_true, hx.1, h4, not_false_eq_true, if_false, rn0, hx.2.2.2.2.1.1, hge]
    · rw [if_pos (by omega)]
      simp (disch := first | assumption | omega | exact Nat.le_of_ble_eq_true rfl | decide) only [u_96_0, u_96_1, u_96_4, u_96_5, u_96_8, u_96_8n, u_96_9, u_96_9n, u_96_10, u_96_10n, u_96_13, u_96_14, u_96_17, u_96_18, u_96_19, u_96_19n, u_96_20, u_96_23, u_96_24, u_96_27, u_96_29, u_96_30, u_96_31, u_96_31n, u_96_32, u_96_35, u_96_38, u_96_41, u_96_41n, u_96_42, u_96_45, u_96_48, u_96_49, u_96_50, u_96_53, u_96_55, rc, rv_some, s_atL hS h ho hk, bnd_some, psh_some, h0, if_false]
  · rw [if_pos hl]
    simp (disch := first | assumption | omega | exact Nat.le_of_ble_eq_true rfl | decide) only [u_96_0, u_96_1, u_96_4, u_96_5, u_96_8, u_96_8n, u_96_9, u_96_9n, u_96_10, u_96_10n, u_96_13, u_96_14, u_96_17, u_96_18, u_96_19, u_96_19n, u_96_20, u_96_23, u_96_24, u_96_27, u_96_29, u_96_30, u_96_31, u_96_31n, u_96_32, u_96_35, u_96_38, u_96_41, u_96_41n, u_96_42, u_96_45, u_96_48, u_96_49, u_96_50, u_96_53, u_96_55, rc, rv_some, s_atN hS h (not_live hl), bnd_some, psh_some]
theorem C_copy (hH : HS sh R) (h : isW I 1 w) (hw : okW w) : ∃ I', cl (d + 6) 97 [.inr (.inl 0), .inl o] (sh, I, R) = some (some (.inl (a_copy w o).1), (sh, I', R)) ∧ isW I' 1 (a_copy w o).2 ∧ FrW 1 I I' := by
  obtain ⟨tc, rc, hS⟩ := id hH
  have t0 := hS.1
  rw [c_97]
  unfold a_copy
  by_cases hl : liv w o
  · rw [if_neg (Classical.not_not.mpr hl)]
    obtain ⟨o, rfl, ho, hk⟩ := liv_nat hl
    rw [Int.toNat_natCast]
    obtain ⟨t0', r0, r1, r2, t1, l1, t2, l2, t3, l3, hn, hs⟩ := id hS
    obtain ⟨n1, n2⟩ := hn o ho
    have tn := n2.1
    have hx := h.1 o ho
    by_cases h4 : (w.1 o).1 = 4
    · rw [if_neg (Classical.not_not.mpr h4)]
      by_cases hf : freeW w = -1
      · rw [if_pos hf]
        refine ⟨I, ?_, h, fun _ _ => rfl⟩
        simp (disch := first | assumption | omega | exact Nat.le_of_ble_eq_true rfl | decide) only [u_97_0, u_97_1, u_97_4, u_97_5, u_97_8, u_97_8n, u_97_9, u_97_9n, u_97_10, u_97_10n, u_97_13, u_97_14, u_97_15, u_97_15n, u_97_16, u_97_19, u_97_20, u_97_23, u_97_25, u_97_26, u_97_27, u_97_30, u_97_33, u_97_36, u_97_38, u_97_41, u_97_42, u_97_45, u_97_45n, u_97_46, u_97_46n, u_97_49, rc, rv_some, s_atL hS h ho hk, bnd_some, psh_some, hx.1, h4, if_true, if_false, s_isFullW hS h, hf, Int.reduceEq]
      · rw [if_neg hf]
        rcases freeW_spec w with ⟨q, -⟩ | ⟨i, hi, hi30, hi0, -⟩
        · exact absurd q hf
        · rw [hi, Int.toNat_natCast]
          have hne : ¬ ((i : Int) = -1) := by omega
          obtain ⟨I1, g1, g2, g3⟩ := s_makeSame (d := d) hS h hw hi hi30 ho hk
          refine ⟨I1, ?_, g2, g3⟩
          simp (disch := first | assumption | omega | exact Nat.le_of_ble_eq_true rfl | decide) only [u_97_0, u_97_1, u_97_4, u_97_5, u_97_8, u_97_8n, u_97_9, u_97_9n, u_97_10, u_97_10n, u_97_13, u_97_14, u_97_15, u_97_15n, u_97_16, u_97_19, u_97_20, u_97_23, u_97_25, u_97_26, u_97_27, u_97_30, u_97_33, u_97_36, u_97_38, u_97_41, u_97_42, u_97_45, u_97_45n, u_97_46, u_97_46n, u_97_49, rc, rv_some, s_atL hS h ho hk, bnd_some, psh_some, hx.1, h4, if_true, if_false, s_isFullW hS h, hi, hne, Int.reduceEq, g1]
    · rw [if_pos h4]
      refine ⟨I, ?_, h, fun _ _ => rfl⟩
      simp (disch := first | assumption | omega | exact Nat.le_of_ble_eq_true rfl | decide) only [u_97_0, u_97_1, u_97_4, u_97_5, u_97_8, u_97_8n, u_97_9, u_97_9n, u_97_10, u_97_10n, u_97_13, u_97_14, u_97_15, u_97_15n, u_97_16, u_97_19, u_97_20, u_97_23, u_97_25, u_97_26, u_97_27, u_97_30, u_97_33, u_97_36, u_97_38, u_97_41, u_97_42, u_97_45, u_97_45n, u_97_46, u_97_46n, u_97_49, rc, rv_some, s_atL hS h ho hk, bnd_some, psh_some, hx.1, h4, if_false]
  · rw [if_pos hl]
    refine ⟨I, ?_, h, fun _ _ => rfl⟩
    simp (disch := first | assumption | omega | exact Nat.le_of_ble_eq_true rfl | decide) only [u_97_0, u_97_1, u_97_4, u_97_5, u_97_8, u_97_8n, u_97_9, u_97_9n, u_97_10, u_97_10n, u_97_13, u_97_14, u_97_15, u_97_15n, u_97_16, u_97_19, u_97_20, u_97_23, u_97_25, u_97_26, u_97_27, u_97_30, u_97_33, u_97_36, u_97_38, u_97_41, u_97_42, u_97_45, u_97_45n, u_97_46, u_97_46n, u_97_49, rc, rv_some, s_atN hS h (not_live hl), bnd_some, psh_some]
end PUB
