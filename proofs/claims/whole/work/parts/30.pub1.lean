/-! WHAT THE CALLS DO, AS NUMBERS AND WORLDS: schemas and objects; and the class does so -/
abbrev inS (k v : Int) : Prop := (1 ≤ k ∧ k ≤ 3) ∧ 1 ≤ v ∧ v ≤ 3
abbrev isNm (n : Int) : Prop := 97 ≤ n ∧ n ≤ 104
abbrev isNu (v : Int) : Prop := -99 ≤ v ∧ v ≤ 99
abbrev liv (w : WD) (z : Int) : Prop := 0 ≤ z ∧ z < 30 ∧ ¬ (w.1 z.toNat).1 = 0
def sIx (k v : Int) : Nat := (3 * (k - 1) + v - 1).toNat
def setS (w : WD) (j : Nat) (L : FL) : WD := (w.1, fun i => if i = j then L else w.2.1 i, w.2.2)
def setC (w : WD) (k : Nat) (v : Int) : WD := (w.1, w.2.1, fun i => if i = k then v else w.2.2 i)
def nT (x : Int) : Int := if x = -1 then -2 else x
def a_schema (w : WD) (k v n x : Int) : Int × WD :=
  if ¬ inS k v then (-1, w) else if ¬ isNm n then (-1, w) else if ¬ isNu x then (-1, w) else
  if ¬ fidx (w.2.1 (sIx k v)) n = -1 then (-5, w) else
  if (w.2.1 (sIx k v)).length < 4 then (((w.2.1 (sIx k v)).length + 1 : Nat), setS w (sIx k v) (w.2.1 (sIx k v) ++ [(n, x)])) else (-3, w)
def a_version (w : WD) (k v : Int) : Int × WD := if ¬ inS k v then (-1, w) else (w.2.2 k.toNat, setC w k.toNat v)
def a_byDef (w : WD) (k v n : Int) : Int := if ¬ inS k v then -2000000000 else fnum (w.2.1 (sIx k v)) n
def rOf (k : Int) : Nat := if k = 1 then 0 else k.toNat
def newN (w : WD) (k : Int) : ND := defs w (k, 0, List.replicate (rOf k) (-1), [])
def a_object (w : WD) (k : Int) : Int × WD := if ¬ (1 ≤ k ∧ k ≤ 3) then (-1, w) else if freeW w = -1 then (-3, w) else (freeW w, setN w (freeW w).toNat (newN w k))
def a_row (w : WD) (k n : Int) : Int × WD := if ¬ (0 ≤ k ∧ k ≤ 3) ∨ 6 < n then (-1, w) else if n < 0 then (-14, w) else if freeW w = -1 then (-3, w) else (freeW w, setN w (freeW w).toNat (4, k, List.replicate n.toNat (-1), []))
def setF (x : ND) (L : FL) : ND := (x.1, x.2.1, x.2.2.1, L)
def setR (x : ND) (rs : List Int) : ND := (x.1, x.2.1, rs, x.2.2.2)
def a_write (w : WD) (o n v : Int) : Int × WD :=
  if ¬ liv w o then (-2000000000, w) else if (w.1 o.toNat).1 = 4 then (-2000000000, w) else if ¬ isNm n then (-2000000000, w) else if ¬ isNu v then (-2000000000, w) else
  (if fidx (w.1 o.toNat).2.2.2 n = -1 then (if (w.1 o.toNat).2.2.2.length < 6 then 0 else -2000000000) else fnum (w.1 o.toNat).2.2.2 n,
   setN w o.toNat (setF (w.1 o.toNat) (if fidx (w.1 o.toNat).2.2.2 n = -1 then (if (w.1 o.toNat).2.2.2.length < 6 then (w.1 o.toNat).2.2.2 ++ [(n, v)] else (w.1 o.toNat).2.2.2) else fupd (w.1 o.toNat).2.2.2 n v)))
def a_read (w : WD) (o n : Int) : Int := if ¬ liv w o then -2000000000 else fnum (w.1 o.toNat).2.2.2 n
def a_forget (w : WD) (o n : Int) : Int × WD :=
  if ¬ liv w o then (-1, w) else if ¬ isNm n then (-1, w) else if (w.1 o.toNat).1 = 4 then (-12, w) else
  if fidx (w.1 o.toNat).2.2.2 n = -1 then (-2, w) else (((w.1 o.toNat).2.2.2.length - 1 : Nat), setN w o.toNat (setF (w.1 o.toNat) (frem (w.1 o.toNat).2.2.2 n)))
theorem isW_setS {I I' : IM} {B j : Nat} {w : WD} {L : FL} (h : isW I B w) (hj : j < 9) (hL : isF I' (B + 154 + 3 * j) L) (hf : FrF (B + 154 + 3 * j) I I') : isW I' B (setS w j L) := by
  refine ⟨fun i hi => (h.1 i hi).cong (fun q a b => hf.1 q (by omega) (by omega) (by omega)), fun i hi => ?_, fun q a b => by rw [hf.1 _ (by omega) (by omega) (by omega)]; exact h.2.2 q a b⟩
  by_cases hij : i = j
  · subst hij
    refine ⟨?_, by rw [hf.2]; exact (h.2.1 i hi).2⟩
    simp only [setS, if_true]
    exact hL
  · refine ⟨?_, by rw [hf.1 _ (by omega) (by omega) (by omega)]; exact (h.2.1 i hi).2⟩
    simp only [setS, if_neg hij]
    exact (h.2.1 i hi).1.cong (hf.1 _ (by omega) (by omega) (by omega)) (hf.1 _ (by omega) (by omega) (by omega)) (hf.1 _ (by omega) (by omega) (by omega))
/-- a node's fields alone have changed -/
theorem isN_setF {I I' : IM} {n : Nat} {x : ND} {L : FL} (h : isN I n x) (hL : isF I' (n + 1) L) (hf : FrF (n + 1) I I') : isN I' n (setF x L) ∧ FrN n I I' := by
  obtain ⟨x1, x2, x3, x4, x5, x6⟩ := h
  refine ⟨⟨?_, ?_, ?_, fun j r hr => ?_, hL, ?_⟩, fun k hk => hf.1 k (by omega) (by omega) (by omega)⟩
  · rw [hf.1 _ (by omega) (by omega) (by omega)]; exact x1
  · rw [hf.1 _ (by omega) (by omega) (by omega)]; exact x2
  · rw [hf.1 _ (by omega) (by omega) (by omega)]; exact x3
  · rw [hf.1 _ (by omega) (by omega) (by omega)]; exact x4 j r hr
  · rw [hf.2]; exact x6
def HS (sh : Shp) (R : RM) : Prop := tg sh 0 = 8 ∧ R 0 0 = some 1 ∧ WS sh R 1
section PUB
variable {sh : Shp} {R : RM} {I : IM} {d : Nat} {w : WD} {k v n x o : Int}
theorem C_schema (hH : HS sh R) (h : isW I 1 w) (hw : okW w) : ∃ I', cl (d + 4) 85 [.inr (.inl 0), .inl k, .inl v, .inl n, .inl x] (sh, I, R) = some (some (.inl (a_schema w k v n x).1), (sh, I', R)) ∧ isW I' 1 (a_schema w k v n x).2 ∧ FrW 1 I I' := by
  obtain ⟨tc, rc, hS⟩ := hH
  have t0 := hS.1
  rw [c_85]
  unfold a_schema
  by_cases hin : inS k v
  · obtain ⟨k, rfl⟩ : ∃ k' : Nat, k = (k' : Int) := ⟨k.toNat, by have := hin.1; omega⟩
    obtain ⟨v, rfl⟩ : ∃ v' : Nat, v = (v' : Int) := ⟨v.toNat, by have := hin.2; omega⟩
    have hk1 : 1 ≤ k := by have := hin.1; omega
    have hk2 : k ≤ 3 := by have := hin.1; omega
    have hv1 : 1 ≤ v := by have := hin.2; omega
    have hv2 : v ≤ 3 := by have := hin.2; omega
    have hix : sIx (k : Int) (v : Int) = 3 * (k - 1) + v - 1 := by unfold sIx; omega
    have h9 : 3 * (k - 1) + v - 1 < 9 := by omega
    obtain ⟨t0', r0, r1, r2, t1, l1, t2, l2, t3, l3, hn, hs⟩ := id hS
    obtain ⟨s1, s2⟩ := hs _ h9
    obtain ⟨f1, f2⟩ := h.2.1 _ h9
    have ts := s2.1
    have hl4 := (hw.2.1 _ h9).1
    rw [if_neg (Classical.not_not.mpr hin), hix]
    have hc := s_schemaOf (I := I) (d := d + 1) hS hk1 hk2 hv1 hv2
    by_cases hnm : isNm n
    · rw [if_neg (Classical.not_not.mpr hnm)]
      by_cases hnu : isNu x
      · rw [if_neg (Classical.not_not.mpr hnu)]
        by_cases hf : fidx (w.2.1 (3 * (k - 1) + v - 1)) n = -1
        · rw [if_neg (Classical.not_not.mpr hf)]
          by_cases hl : (w.2.1 (3 * (k - 1) + v - 1)).length < 4
          · rw [if_pos hl]
            obtain ⟨I', g1, g2, g3⟩ := s_append (d := d + 1) (n := n) (v := x) (m := 4) s2 f1 f2 hl (by decide)
            have g4 := g2.1
            rw [List.length_append] at g4
            refine ⟨I', ?_, isW_setS h h9 g2 g3, fun q hq => g3.1 q (by omega) (by omega) (by omega)⟩
            simp (disch := first | assumption | omega | exact Nat.le_of_ble_eq_true rfl | decide) only [u_85_0, u_85_1, u_85_4, u_85_5, u_85_6, u_85_9, u_85_9n, u_85_11, u_85_11n, u_85_13, u_85_13n, u_85_16, u_85_17, u_85_20, u_85_23, u_85_25, u_85_28, u_85_31, u_85_32, u_85_33, u_85_33n, u_85_35, u_85_36, u_85_39, u_85_42, u_85_44, u_85_45, u_85_45n, u_85_47, u_85_48, u_85_50, u_85_53, u_85_56, u_85_56n, u_85_58, u_85_61, u_85_64, u_85_66, rc, rv_some, hc, bnd_some, psh_some, s_isName, s_isNumber, if_pos hnm, if_pos hnu, s_has s2 f1 (by omega : (w.2.1 (3 * (k - 1) + v - 1)).length ≤ 6), hf, Int.reduceEq, not_true, not_false_eq_true, if_true, if_false, g1, g4, List.length_cons, List.length_nil, Nat.zero_add]
          · rw [if_neg hl]
            refine ⟨I, ?_, h, fun _ _ => rfl⟩
            simp (disch := first | assumption | omega | exact Nat.le_of_ble_eq_true rfl | decide) only [u_85_0, u_85_1, u_85_4, u_85_5, u_85_6, u_85_9, u_85_9n, u_85_11, u_85_11n, u_85_13, u_85_13n, u_85_16, u_85_17, u_85_20, u_85_23, u_85_25, u_85_28, u_85_31, u_85_32, u_85_33, u_85_33n, u_85_35, u_85_36, u_85_39, u_85_42, u_85_44, u_85_45, u_85_45n, u_85_47, u_85_48, u_85_50, u_85_53, u_85_56, u_85_56n, u_85_58, u_85_61, u_85_64, u_85_66, rc, rv_some, hc, bnd_some, psh_some, s_isName, s_isNumber, if_pos hnm, if_pos hnu, s_has s2 f1 (by omega : (w.2.1 (3 * (k - 1) + v - 1)).length ≤ 6), hf, Int.reduceEq, not_true, not_false_eq_true, if_true, if_false, s_appendF (m := 4) s2 f1 f2 (by omega)]
        · rw [if_pos hf]
          refine ⟨I, ?_, h, fun _ _ => rfl⟩
          simp (disch := first | assumption | omega | exact Nat.le_of_ble_eq_true rfl | decide) only [u_85_0, u_85_1, u_85_4, u_85_5, u_85_6, u_85_9, u_85_9n, u_85_11, u_85_11n, u_85_13, u_85_13n, u_85_16, u_85_17, u_85_20, u_85_23, u_85_25, u_85_28, u_85_31, u_85_32, u_85_33, u_85_33n, u_85_35, u_85_36, u_85_39, u_85_42, u_85_44, u_85_45, u_85_45n, u_85_47, u_85_48, u_85_50, u_85_53, u_85_56, u_85_56n, u_85_58, u_85_61, u_85_64, u_85_66, rc, rv_some, hc, bnd_some, psh_some, s_isName, s_isNumber, if_pos hnm, if_pos hnu, s_has s2 f1 (by omega : (w.2.1 (3 * (k - 1) + v - 1)).length ≤ 6), hf, Int.reduceEq, not_true, not_false_eq_true, if_true, if_false]
      · rw [if_pos hnu]
        refine ⟨I, ?_, h, fun _ _ => rfl⟩
        simp (disch := first | assumption | omega | exact Nat.le_of_ble_eq_true rfl | decide) only [u_85_0, u_85_1, u_85_4, u_85_5, u_85_6, u_85_9, u_85_9n, u_85_11, u_85_11n, u_85_13, u_85_13n, u_85_16, u_85_17, u_85_20, u_85_23, u_85_25, u_85_28, u_85_31, u_85_32, u_85_33, u_85_33n, u_85_35, u_85_36, u_85_39, u_85_42, u_85_44, u_85_45, u_85_45n, u_85_47, u_85_48, u_85_50, u_85_53, u_85_56, u_85_56n, u_85_58, u_85_61, u_85_64, u_85_66, rc, rv_some, hc, bnd_some, psh_some, s_isName, s_isNumber, if_pos hnm, if_neg hnu, Int.reduceEq, not_true, not_false_eq_true, if_true, if_false]
    · rw [if_pos hnm]
      refine ⟨I, ?_, h, fun _ _ => rfl⟩
      simp (disch := first | assumption | omega | exact Nat.le_of_ble_eq_true rfl | decide) only [u_85_0, u_85_1, u_85_4, u_85_5, u_85_6, u_85_9, u_85_9n, u_85_11, u_85_11n, u_85_13, u_85_13n, u_85_16, u_85_17, u_85_20, u_85_23, u_85_25, u_85_28, u_85_31, u_85_32, u_85_33, u_85_33n, u_85_35, u_85_36, u_85_39, u_85_42, u_85_44, u_85_45, u_85_45n, u_85_47, u_85_48, u_85_50, u_85_53, u_85_56, u_85_56n, u_85_58, u_85_61, u_85_64, u_85_66, rc, rv_some, hc, bnd_some, psh_some, s_isName, s_isNumber, if_neg hnm, Int.reduceEq, not_true, not_false_eq_true, if_true, if_false]
  · rw [if_pos hin]
    refine ⟨I, ?_, h, fun _ _ => rfl⟩
    simp (disch := first | assumption | omega | exact Nat.le_of_ble_eq_true rfl | decide) only [u_85_0, u_85_1, u_85_4, u_85_5, u_85_6, u_85_9, u_85_9n, u_85_11, u_85_11n, u_85_13, u_85_13n, u_85_16, u_85_17, u_85_20, u_85_23, u_85_25, u_85_28, u_85_31, u_85_32, u_85_33, u_85_33n, u_85_35, u_85_36, u_85_39, u_85_42, u_85_44, u_85_45, u_85_45n, u_85_47, u_85_48, u_85_50, u_85_53, u_85_56, u_85_56n, u_85_58, u_85_61, u_85_64, u_85_66, rc, rv_some, s_schemaN hS hin, bnd_some, psh_some]
theorem C_version (hH : HS sh R) (h : isW I 1 w) (hw : okW w) : ∃ I', cl (d + 2) 86 [.inr (.inl 0), .inl k, .inl v] (sh, I, R) = some (some (.inl (a_version w k v).1), (sh, I', R)) ∧ isW I' 1 (a_version w k v).2 ∧ FrW 1 I I' := by
  obtain ⟨tc, rc, hS⟩ := hH
  obtain ⟨t0, r0, r1, r2, t1, l1, t2, l2, t3, l3, hn, hs⟩ := id hS
  rw [c_86]
  unfold a_version
  by_cases hk : 1 ≤ k ∧ k ≤ 3
  · by_cases hv : 1 ≤ v ∧ v ≤ 3
    · rw [if_neg (Classical.not_not.mpr ⟨hk, hv⟩)]
      obtain ⟨k, rfl⟩ : ∃ k' : Nat, k = (k' : Int) := ⟨k.toNat, by omega⟩
      rw [Int.toNat_natCast]
      have h1 : ¬ v < 1 := by omega
      have h2 : v ≤ 3 := by omega
      have hc : I 4 (k : Int) = w.2.2 k := h.2.2 k (by omega) (by omega)
      have t3' : tg sh 4 = 100 := t3
      have l3' : ln sh 4 = 4 := l3
      have r2' : R 1 2 = some 4 := r2
      refine ⟨up I 4 (k : Int) v, ?_, ⟨fun i hi => (h.1 i hi).cong (fun q a b => upf (by omega)), fun i hi => ⟨(h.2.1 i hi).1.cong (upf (by omega)) (upf (by omega)) (upf (by omega)), by rw [upf (by omega)]; exact (h.2.1 i hi).2⟩, fun q a b => ?_⟩, fun q hq => upf (by omega)⟩
      · simp (disch := first | assumption | omega | exact Nat.le_of_ble_eq_true rfl | decide) only [u_86_0, u_86_1, u_86_4, u_86_7, u_86_8, u_86_9, u_86_12, u_86_13, u_86_14, u_86_17, u_86_18, u_86_19, u_86_20, u_86_23, u_86_26, u_86_27, u_86_28, u_86_29, u_86_30, u_86_33, u_86_36, u_86_37, u_86_38, u_86_39, u_86_40, s_hasSch, if_pos hk, bnd_some, psh_some, Int.reduceEq, h1, h2, if_true, if_false, rc, r2', rv_some, hc]
      · by_cases hq : q = k
        · subst hq
          simp only [setC, if_true]
          exact ups
        · simp only [setC, if_neg hq]
          rw [upj (by omega)]
          exact h.2.2 q a b
    · rw [if_pos (fun q => hv q.2)]
      refine ⟨I, ?_, h, fun _ _ => rfl⟩
      by_cases h1 : v < 1
      · simp (disch := first | assumption | omega | exact Nat.le_of_ble_eq_true rfl | decide) only [u_86_0, u_86_1, u_86_4, u_86_7, u_86_8, u_86_9, u_86_12, u_86_13, u_86_14, u_86_17, u_86_18, u_86_19, u_86_20, u_86_23, u_86_26, u_86_27, u_86_28, u_86_29, u_86_30, u_86_33, u_86_36, u_86_37, u_86_38, u_86_39, u_86_40, s_hasSch, if_pos hk, bnd_some, psh_some, Int.reduceEq, h1, if_true, if_false]
      · have h2 : ¬ v ≤ 3 := by omega
        simp (disch := first | assumption | omega | exact Nat.le_of_ble_eq_true rfl | decide) only [u_86_0, u_86_1, u_86_4, u_86_7, u_86_8, u_86_9, u_86_12, u_86_13, u_86_14, u_86_17, u_86_18, u_86_19, u_86_20, u_86_23, u_86_26, u_86_27, u_86_28, u_86_29, u_86_30, u_86_33, u_86_36, u_86_37, u_86_38, u_86_39, u_86_40, s_hasSch, if_pos hk, bnd_some, psh_some, Int.reduceEq, h1, h2, if_true, if_false]
  · rw [if_pos (fun q => hk q.1)]
    refine ⟨I, ?_, h, fun _ _ => rfl⟩
    simp (disch := first | assumption | omega | exact Nat.le_of_ble_eq_true rfl | decide) only [u_86_0, u_86_1, u_86_4, u_86_7, u_86_8, u_86_9, u_86_12, u_86_13, u_86_14, u_86_17, u_86_18, u_86_19, u_86_20, u_86_23, u_86_26, u_86_27, u_86_28, u_86_29, u_86_30, u_86_33, u_86_36, u_86_37, u_86_38, u_86_39, u_86_40, s_hasSch, if_neg hk, bnd_some, psh_some, Int.reduceEq, if_true, if_false]
theorem C_byDef (hH : HS sh R) (h : isW I 1 w) (hw : okW w) : cl (d + 3) 87 [.inr (.inl 0), .inl k, .inl v, .inl n] (sh, I, R) = some (some (.inl (a_byDef w k v n)), (sh, I, R)) := by
  obtain ⟨tc, rc, hS⟩ := hH
  have t0 := hS.1
  rw [c_87]
  unfold a_byDef
  by_cases hin : inS k v
  · obtain ⟨k, rfl⟩ : ∃ k' : Nat, k = (k' : Int) := ⟨k.toNat, by have := hin.1; omega⟩
    obtain ⟨v, rfl⟩ : ∃ v' : Nat, v = (v' : Int) := ⟨v.toNat, by have := hin.2; omega⟩
    have hk1 : 1 ≤ k := by have := hin.1; omega
    have hk2 : k ≤ 3 := by have := hin.1; omega
    have hv1 : 1 ≤ v := by have := hin.2; omega
    have hv2 : v ≤ 3 := by have := hin.2; omega
    have hix : sIx (k : Int) (v : Int) = 3 * (k - 1) + v - 1 := by unfold sIx; omega
    have h9 : 3 * (k - 1) + v - 1 < 9 := by omega
    obtain ⟨t0', r0, r1, r2, t1, l1, t2, l2, t3, l3, hn, hs⟩ := id hS
    obtain ⟨s1, s2⟩ := hs _ h9
    obtain ⟨f1, f2⟩ := h.2.1 _ h9
    have ts := s2.1
    have hl4 := (hw.2.1 _ h9).1
    rw [if_neg (Classical.not_not.mpr hin), hix]
    simp (disch := first | assumption | omega | exact Nat.le_of_ble_eq_true rfl | decide) only [u_87_0, u_87_1, u_87_4, u_87_5, u_87_6, u_87_9, u_87_9n, u_87_11, u_87_11n, u_87_13, u_87_13n, u_87_16, u_87_18, u_87_21, u_87_21n, u_87_23, u_87_24, u_87_27, rc, rv_some, s_schemaOf hS hk1 hk2 hv1 hv2, bnd_some, psh_some, s_numberOf s2 f1 (by omega : (w.2.1 (3 * (k - 1) + v - 1)).length ≤ 6)]
  · rw [if_pos hin]
    simp (disch := first | assumption | omega | exact Nat.le_of_ble_eq_true rfl | decide) only [u_87_0, u_87_1, u_87_4, u_87_5, u_87_6, u_87_9, u_87_9n, u_87_11, u_87_11n, u_87_13, u_87_13n, u_87_16, u_87_18, u_87_21, u_87_21n, u_87_23, u_87_24, u_87_27, rc, rv_some, s_schemaN hS hin, bnd_some, psh_some]
end PUB
