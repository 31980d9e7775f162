/-! THE MODEL: meeting and telling -/
def MXl : List (Int × Nat × Nat) := [(1, 394, 744), (2, 395, 744), (4, 396, 8), (5, 397, 4), (6, 398, 800), (7, 399, 30), (8, 400, 30), (9, 401, 30), (11, 402, 200), (13, 403, 16), (14, 404, 16), (20, 405, 30), (21, 406, 6), (22, 407, 6), (23, 408, 30), (24, 409, 30), (25, 410, 30)]
def MX (sh : Shp) (R : RM) : Prop := MS sh R ∧ ∀ p ∈ MXl, R 392 p.1 = some p.2.1 ∧ tg sh p.2.1 = 100 ∧ ln sh p.2.1 = p.2.2
theorem MX.g {sh : Shp} {R : RM} (h : MX sh R) (i : Int) (a l : Nat) (hm : (i, a, l) ∈ MXl) : R 392 i = some a ∧ tg sh a = 100 ∧ ln sh a = l := h.2 (i, a, l) hm
theorem isM.cong {I I' : IM} {w : WD} (h : isM I 393 w) (h0 : I' 393 = I 393) : isM I' 393 w := by
  unfold isM mN mRf mFl mSc at h ⊢
  rw [h0]
  exact h
def isMm (I : IM) (m : List Int) : Prop := I 392 10 = (m.length : Int) ∧ (∀ i : Nat, i < 30 → I 400 (i : Int) = idm m (i : Int)) ∧ ∀ (j : Nat) (x : Int), m[j]? = some x → I 399 (j : Int) = x
theorem isMm.cong {I I' : IM} {m : List Int} (h : isMm I m) (h0 : I' 392 10 = I 392 10) (h1 : I' 400 = I 400) (h2 : I' 399 = I 399) : isMm I' m := ⟨by rw [h0]; exact h.1, fun i hi => by rw [h1]; exact h.2.1 i hi, fun j x hx => by rw [h2]; exact h.2.2 j x hx⟩
def isOut (I : IM) (t : List Int) : Prop := I 392 12 = (t.length : Int) ∧ ∀ (j : Nat) (c : Int), j < 200 → t[j]? = some c → I 402 (j : Int) = c
theorem isOut.cong {I I' : IM} {t : List Int} (h : isOut I t) (h0 : I' 392 12 = I 392 12) (h1 : I' 402 = I 402) : isOut I' t := ⟨by rw [h0]; exact h.1, fun j c hj hc => by rw [h1]; exact h.2 j c hj hc⟩
def FrU (I I' : IM) : Prop := (∀ k, k ≠ 392 → k ≠ 402 → I' k = I k) ∧ ∀ z, z ≠ 12 → I' 392 z = I 392 z
theorem FrU.rf {I : IM} : FrU I I := ⟨fun _ _ _ => rfl, fun _ _ => rfl⟩
theorem FrU.tr {I I1 I2 : IM} (h1 : FrU I I1) (h2 : FrU I1 I2) : FrU I I2 := ⟨fun k a b => (h2.1 k a b).trans (h1.1 k a b), fun z a => (h2.2 z a).trans (h1.2 z a)⟩
def FrT (I I' : IM) : Prop := (∀ k, k ≠ 392 → k ≠ 399 → k ≠ 400 → k ≠ 402 → I' k = I k) ∧ ∀ z, z ≠ 10 → z ≠ 12 → I' 392 z = I 392 z
theorem FrT.rf {I : IM} : FrT I I := ⟨fun _ _ _ _ _ => rfl, fun _ _ _ => rfl⟩
theorem FrT.tr {I I1 I2 : IM} (h1 : FrT I I1) (h2 : FrT I1 I2) : FrT I I2 := ⟨fun k a b c e => (h2.1 k a b c e).trans (h1.1 k a b c e), fun z a b => (h2.2 z a b).trans (h1.2 z a b)⟩
theorem FrU.T {I I' : IM} (h : FrU I I') : FrT I I' := ⟨fun k a _ _ b => h.1 k a b, fun z _ b => h.2 z b⟩
section MW
variable {sh : Shp} {R : RM} {I : IM} {d : Nat} {w : WD} {t m : List Int} {c v : Int}
theorem m_tells (hX : MX sh R) (h : isOut I t) (ht : t.length < 1000000) : ∃ I', cl (d + 1) 173 [.inr (.inl 392), .inl c] (sh, I, R) = some (none, (sh, I', R)) ∧ isOut I' (t ++ [c]) ∧ FrU I I' := by
  obtain ⟨t9, r9, tg_, lg⟩ := hX.1
  obtain ⟨r0, t1, l1⟩ := hX.g 11 402 200 (by decide)
  obtain ⟨h1, h2⟩ := id h
  have hlen : (t ++ [c]).length = t.length + 1 := by rw [List.length_append]; rfl
  rw [c_173]
  by_cases hl : (200 : Int) ≤ (t.length : Int)
  · refine ⟨up I 392 12 ((t.length + 1 : Nat) : Int), ?_, ⟨?_, fun j x hj hx => ?_⟩, ⟨fun k a b => upf a, fun z hz => upj hz⟩⟩
    · simp (disch := first | assumption | omega | exact Nat.le_of_ble_eq_true rfl | decide) only [u_173_0, u_173_1, u_173_4, u_173_7, u_173_10, u_173_11, u_173_14, u_173_15, u_173_18, u_173_19, u_173_20, u_173_21, u_173_22, u_173_25, u_173_26, u_173_27, u_173_30, h1, hl, if_true, wrN]
    · rw [ups, hlen]
    · rw [upk (by decide)]
      rw [List.getElem?_append_left (by omega)] at hx
      exact h2 j x hj hx
  · refine ⟨up (up I 402 (t.length : Int) c) 392 12 ((t.length + 1 : Nat) : Int), ?_, ⟨?_, fun j x hj hx => ?_⟩, ⟨fun k a b => by rw [upf a, upf b], fun z hz => by rw [upj hz, upk (by decide)]⟩⟩
    · simp (disch := first | assumption | omega | exact Nat.le_of_ble_eq_true rfl | decide) only [u_173_0, u_173_1, u_173_4, u_173_7, u_173_10, u_173_11, u_173_14, u_173_15, u_173_18, u_173_19, u_173_20, u_173_21, u_173_22, u_173_25, u_173_26, u_173_27, u_173_30, h1, hl, if_false, r0, rv_some, upk, wrN]
    · rw [ups, hlen]
    · rw [upk (by decide)]
      have := lenOf hx
      rw [hlen] at this
      by_cases hjl : j < t.length
      · rw [List.getElem?_append_left hjl] at hx
        rw [upj (by omega)]
        exact h2 j x hj hx
      · obtain rfl : j = t.length := by omega
        rw [List.getElem?_append_right (Nat.le_refl _), Nat.sub_self] at hx
        cases hx
        exact ups
theorem m_tellsNumber (hX : MX sh R) (h : isOut I t) (ht : t.length < 900000) (hv : -99 ≤ v ∧ v ≤ 99) : ∃ I', cl (d + 2) 174 [.inr (.inl 392), .inl v] (sh, I, R) = some (none, (sh, I', R)) ∧ isOut I' (t ++ dgs v) ∧ FrU I I' := by
  obtain ⟨t9, r9, tg_, lg⟩ := hX.1
  have hab : (if 0 ≤ v then v else wr (0 - v)) = ((v.natAbs : Nat) : Int) := by
    split
    · omega
    · rw [wrI (by omega) (by omega)]; omega
  obtain ⟨dv1, dv2⟩ := dv10 v.natAbs (by omega)
  have e1 : wr (48 + ((v.natAbs / 10 : Nat) : Int)) = 48 + ((v.natAbs / 10 : Nat) : Int) := wrI (by omega) (by omega)
  have e2 : wr (48 + ((v.natAbs % 10 : Nat) : Int)) = 48 + ((v.natAbs % 10 : Nat) : Int) := wrI (by omega) (by omega)
  rw [c_174]
  have rest : ∀ (I1 : IM) (t1 : List Int), isOut I1 t1 → t1.length < 950000 → ∃ I', ev S0 (d + 1) 174 10 [.inr (.inl 392), .inl v, .inr (.inr 1)] [] (sh, I1, R) = some (none, (sh, I', R)) ∧ isOut I' (t1 ++ (if 10 ≤ v.natAbs then [48 + ((v.natAbs / 10 : Nat) : Int)] else []) ++ [48 + ((v.natAbs % 10 : Nat) : Int)]) ∧ FrU I1 I' := by
    intro I1 t1 q1 q2
    by_cases h10 : 10 ≤ v.natAbs
    · rw [if_pos h10]
      have hlt : ¬ ((v.natAbs : Nat) : Int) ≤ 9 := by clear dv1 dv2 e1 e2 hab; omega
      obtain ⟨I2, g1, g2, g3⟩ := m_tells (d := d) (c := 48 + ((v.natAbs / 10 : Nat) : Int)) hX q1 (by omega)
      obtain ⟨I3, f1, f2, f3⟩ := m_tells (d := d) (c := 48 + ((v.natAbs % 10 : Nat) : Int)) hX g2 (by rw [List.length_append]; simp only [List.length_cons, List.length_nil]; omega)
      refine ⟨I3, ?_, f2, g3.tr f3⟩
      simp (disch := first | assumption | omega | exact Nat.le_of_ble_eq_true rfl | decide) only [u_174_10, u_174_11, u_174_14, u_174_15, u_174_16, u_174_18, u_174_21, u_174_22, u_174_24, u_174_25, u_174_27, u_174_28, u_174_29, u_174_32, u_174_33, u_174_35, u_174_36, u_174_38, u_174_39, u_174_40, u_174_43, hab, hlt, if_false, dv1, dv2, e1, e2, g1, f1, bnd_some, psh_none]
    · rw [if_neg h10, List.append_nil]
      have hlt : ((v.natAbs : Nat) : Int) ≤ 9 := by clear dv1 dv2 e1 e2 hab; omega
      obtain ⟨I3, f1, f2, f3⟩ := m_tells (d := d) (c := 48 + ((v.natAbs % 10 : Nat) : Int)) hX q1 (by omega)
      refine ⟨I3, ?_, f2, f3⟩
      simp (disch := first | assumption | omega | exact Nat.le_of_ble_eq_true rfl | decide) only [u_174_10, u_174_11, u_174_14, u_174_15, u_174_16, u_174_18, u_174_21, u_174_22, u_174_24, u_174_25, u_174_27, u_174_28, u_174_29, u_174_32, u_174_33, u_174_35, u_174_36, u_174_38, u_174_39, u_174_40, u_174_43, hab, hlt, if_true, dv1, dv2, e1, e2, f1, bnd_some, psh_none]
  unfold dgs
  by_cases hv0 : v < 0
  · rw [if_pos hv0]
    have hge : ¬ 0 ≤ v := by omega
    obtain ⟨I2, g1, g2, g3⟩ := m_tells (d := d) (c := 45) hX h (by omega)
    obtain ⟨I3, f1, f2, f3⟩ := rest I2 _ g2 (by rw [List.length_append]; simp only [List.length_cons, List.length_nil]; omega)
    refine ⟨I3, ?_, ?_, g3.tr f3⟩
    · simp (disch := first | assumption | omega | exact Nat.le_of_ble_eq_true rfl | decide) only [u_174_0, u_174_1, u_174_4, u_174_5, u_174_7, hge, if_false, g1, f1, bnd_some, psh_none]
    · rw [← List.append_assoc, ← List.append_assoc]; exact f2
  · rw [if_neg hv0, List.nil_append, ← List.append_assoc]
    have hge : 0 ≤ v := by omega
    obtain ⟨I3, f1, f2, f3⟩ := rest I t h (by omega)
    refine ⟨I3, ?_, f2, f3⟩
    simp (disch := first | assumption | omega | exact Nat.le_of_ble_eq_true rfl | decide) only [u_174_0, u_174_1, u_174_4, u_174_5, u_174_7, hge, if_true, f1]
theorem mhead_loop (hX : MX sh R) (hw : okW w) {i : Nat} (hi : i < 30) (hk : (w.1 i).1 ≠ 0) (t : List Int) (ht : t.length < 800000) {a2 : AV} : ∀ (k j : Nat) (I : IM), j + k = (w.1 i).2.2.2.length → isM I 393 w → isOut I (t ++ fsg ((w.1 i).2.2.2.take j)) → ∃ I', ev S0 (d + 2) 175 147 [.inr (.inl 392), .inl (i : Int), a2, .inl (j : Int)] [] (sh, I, R) = ev S0 (d + 2) 175 211 [.inr (.inl 392), .inl (i : Int), a2, .inl 0] [] (sh, I', R) ∧ isOut I' (t ++ fsg (w.1 i).2.2.2 ++ [46]) ∧ FrU I I' := by
  obtain ⟨t9, r9, tg_, lg⟩ := hX.1
  have hok := hw.1 i hi
  have h6 := hok.2.2.2.2.2.2.2.2.1
  have hrg := hok.2.2.2.2.2.2.2.2.2.2.2.2
  intro k
  induction k with
  | zero =>
    intro j I hj hW h
    obtain ⟨y1, y2, y3⟩ := (hW.1 i hi).2 hk
    have y30 := y3.1
    have hc : ((w.1 i).2.2.2.length : Int) ≤ (j : Int) := by omega
    rw [List.take_of_length_le (by omega)] at h
    have hfl := fsg_len (w.1 i).2.2.2
    obtain ⟨I2, g1, g2, g3⟩ := m_tells (d := d + 1) (c := 46) hX h (by rw [List.length_append]; omega)
    refine ⟨I2, ?_, g2, g3⟩
    simp (disch := first | assumption | omega | exact Nat.le_of_ble_eq_true rfl | decide) only [u_175_147, u_175_148, u_175_149, u_175_152, u_175_154, u_175_155, u_175_156, u_175_157, u_175_203, u_175_204, u_175_206, u_175_209, u_175_210, r9, rv_some, wrI, y30, hc, if_true, g1, bnd_some, psh_none]
  | succ k ih =>
    intro j I hj hW h
    have hjl : j < (w.1 i).2.2.2.length := by omega
    obtain ⟨y1, y2, y3⟩ := (hW.1 i hi).2 hk
    have y30 := y3.1
    have hc : ¬ ((w.1 i).2.2.2.length : Int) ≤ (j : Int) := by omega
    have hfl := fsg_len ((w.1 i).2.2.2.take j)
    rw [List.length_take] at hfl
    obtain ⟨v1, v2⟩ := y3.at hjl
    have hvr := hrg _ (List.getElem_mem hjl)
    obtain ⟨I2, g1, g2, g3⟩ := m_tells (d := d + 1) (c := ((w.1 i).2.2.2[j]).1) hX h (by rw [List.length_append]; omega)
    obtain ⟨I3, f1, f2, f3⟩ := m_tellsNumber (d := d) (v := ((w.1 i).2.2.2[j]).2) hX g2 (by rw [List.length_append, List.length_append]; simp only [List.length_cons, List.length_nil]; omega) ⟨hvr.2.2.1, hvr.2.2.2⟩
    have hW2 : isM I2 393 w := hW.cong (g3.1 _ (by decide) (by decide))
    have hW3 : isM I3 393 w := hW2.cong (f3.1 _ (by decide) (by decide))
    have v2' : I2 393 (300 + 6 * (i : Int) + (j : Int)) = ((w.1 i).2.2.2[j]).2 := by rw [g3.1 _ (by decide) (by decide)]; exact v2
    obtain ⟨I4, e1, e2, e3⟩ := ih (j + 1) I3 (by omega) hW3 (by rw [fsg_take hjl, ← List.append_assoc, ← List.append_assoc]; exact f2)
    refine ⟨I4, ?_, e2, (g3.tr f3).tr e3⟩
    rw [u_175_147]
    simp (disch := first | assumption | omega | exact Nat.le_of_ble_eq_true rfl | decide) only [u_175_148, u_175_149, u_175_152, u_175_154, u_175_155, u_175_156, u_175_157, u_175_160, u_175_161, u_175_162, u_175_165, u_175_167, u_175_169, u_175_170, u_175_171, u_175_172, u_175_173, u_175_174, u_175_175, u_175_178, u_175_179, u_175_180, u_175_183, u_175_186, u_175_188, u_175_189, u_175_190, u_175_191, u_175_192, u_175_193, u_175_194, u_175_197, u_175_200, r9, rv_some, wrI, y30, hc, if_false, v1, v2', g1, f1, bnd_some, psh_none, n1, e1]
theorem m_head (hX : MX sh R) (hw : okW w) (hW : isM I 393 w) {i : Nat} (hi : i < 30) (hk : (w.1 i).1 ≠ 0) (h : isOut I t) (ht : t.length < 700000) {a2 a3 : AV} : ∃ I', ev S0 (d + 2) 175 45 [.inr (.inl 392), .inl (i : Int), a2, a3] [] (sh, I, R) = ev S0 (d + 2) 175 211 [.inr (.inl 392), .inl (i : Int), .inl (w.1 i).1, .inl 0] [] (sh, I', R) ∧ isOut I' (t ++ hdN w (w.1 i)) ∧ FrU I I' := by
  obtain ⟨t9, r9, tg_, lg⟩ := hX.1
  have hok := hw.1 i hi
  have hk0 := (hW.1 i hi).1
  obtain ⟨y1, y2, y3⟩ := (hW.1 i hi).2 hk
  have y20 := y2.1
  have o1 := hok.1
  have o2 := hok.2.1
  have o3 := hok.2.2.2.2.2.2.2.1
  have o4 := hok.2.2.2.2.2.2.2.2.2.1
  have o5 := hok.2.2.2.2.2.2.2.2.2.2.1
  unfold hdN
  by_cases h4 : (w.1 i).1 = 4
  · rw [if_pos h4]
    obtain ⟨I2, g1, g2, g3⟩ := m_tells (d := d + 1) (c := 82) hX h (by omega)
    obtain ⟨I3, f1, f2, f3⟩ := m_tells (d := d + 1) (c := 48 + (w.1 i).2.1) hX g2 (by rw [List.length_append]; simp only [List.length_cons, List.length_nil]; omega)
    obtain ⟨I4, e1, e2, e3⟩ := m_tells (d := d + 1) (c := 48 + ((w.1 i).2.2.1.length : Int)) hX f2 (by rw [List.length_append, List.length_append]; simp only [List.length_cons, List.length_nil]; omega)
    refine ⟨I4, ?_, ?_, (g3.tr f3).tr e3⟩
    · have z2 : I2 393 (30 + (i : Int)) = (w.1 i).2.1 := by rw [g3.1 _ (by decide) (by decide)]; exact y1
      have z3 : I3 393 (60 + (i : Int)) = ((w.1 i).2.2.1.length : Int) := by rw [f3.1 _ (by decide) (by decide), g3.1 _ (by decide) (by decide)]; exact y20
      simp (disch := first | assumption | omega | exact Nat.le_of_ble_eq_true rfl | decide) only [u_175_45, u_175_46, u_175_49, u_175_50, u_175_51, u_175_52, u_175_53, u_175_54, u_175_55, u_175_56, u_175_59, u_175_60, u_175_62, u_175_65, u_175_66, u_175_68, u_175_69, u_175_72, u_175_74, u_175_75, u_175_76, u_175_77, u_175_78, u_175_81, u_175_82, u_175_84, u_175_85, u_175_88, u_175_90, u_175_91, u_175_92, u_175_93, u_175_94, u_175_97, u_175_209, u_175_210, r9, rv_some, wrI, Int.zero_add, hk0, h4, not_true, if_false, g1, bnd_some, psh_none, z2, z3, f1, e1]
    · rw [app3, app3] at e2; exact e2
  · rw [if_neg h4]
    have hk1 : 1 ≤ (w.1 i).1 ∧ (w.1 i).1 ≤ 3 := by omega
    obtain ⟨k, hkn⟩ : ∃ k : Nat, (w.1 i).1 = (k : Int) := ⟨(w.1 i).1.toNat, by omega⟩
    have hcv := hw.2.2 k (by omega) (by omega)
    rw [hkn, Int.toNat_natCast]
    rw [hkn] at hk0 h4 hk1
    obtain ⟨I2, g1, g2, g3⟩ := m_tells (d := d + 1) (c := ltr (k : Int)) hX h (by omega)
    obtain ⟨I3, f1, f2, f3⟩ := m_tells (d := d + 1) (c := 48 + w.2.2 k) hX g2 (by rw [List.length_append]; simp only [List.length_cons, List.length_nil]; omega)
    have hW3 : isM I3 393 w := hW.cong ((f3.1 _ (by decide) (by decide)).trans (g3.1 _ (by decide) (by decide)))
    obtain ⟨I4, e1, e2, e3⟩ := mhead_loop (d := d) (a2 := .inl (k : Int)) hX hw hi hk (t ++ [ltr (k : Int)] ++ [48 + w.2.2 k]) (by rw [List.length_append, List.length_append]; simp only [List.length_cons, List.length_nil]; omega) (w.1 i).2.2.2.length 0 I3 (by omega) hW3 (by rw [List.take_zero]; show isOut I3 (t ++ [ltr (k : Int)] ++ [48 + w.2.2 k] ++ []); rw [List.append_nil]; exact f2)
    have e1 : ev S0 (d + 2) 175 147 [.inr (.inl 392), .inl (i : Int), .inl (k : Int), .inl 0] [] (sh, I3, R) = ev S0 (d + 2) 175 211 [.inr (.inl 392), .inl (i : Int), .inl (k : Int), .inl 0] [] (sh, I4, R) := e1
    have z2 : I2 393 (741 + (k : Int) - 1) = w.2.2 k := by
      rw [g3.1 _ (by decide) (by decide), show 741 + (k : Int) - 1 = 740 + (k : Int) by omega]; exact hW.2.2 k (by omega) (by omega)
    refine ⟨I4, ?_, ?_, (g3.tr f3).tr e3⟩
    · unfold ltr at g1
      by_cases k1 : (k : Int) = 1
      · rw [if_pos k1] at g1
        rw [k1] at hk0 h4 z2 e1 ⊢
        simp (disch := first | assumption | omega | exact Nat.le_of_ble_eq_true rfl | decide) only [u_175_45, u_175_46, u_175_49, u_175_50, u_175_51, u_175_52, u_175_53, u_175_54, u_175_55, u_175_56, u_175_59, u_175_60, u_175_62, u_175_65, u_175_66, u_175_68, u_175_69, u_175_72, u_175_74, u_175_75, u_175_76, u_175_77, u_175_78, u_175_81, u_175_82, u_175_84, u_175_85, u_175_88, u_175_90, u_175_91, u_175_92, u_175_93, u_175_94, u_175_97, u_175_100, u_175_101, u_175_102, u_175_103, u_175_106, u_175_108, u_175_111, u_175_112, u_175_113, u_175_116, u_175_118, u_175_121, u_175_123, u_175_126, u_175_127, u_175_129, u_175_130, u_175_133, u_175_136, u_175_137, u_175_138, u_175_139, u_175_140, u_175_141, u_175_142, u_175_145, u_175_146, r9, rv_some, wrI, Int.zero_add, hk0, h4, not_true, not_false_eq_true, if_false, if_true, g1, bnd_some, psh_none, Int.reduceEq, z2, f1, e1]
      · by_cases k2 : (k : Int) = 2
        · rw [if_neg k1, if_pos k2] at g1
          rw [k2] at hk0 h4 z2 e1 ⊢
          simp (disch := first | assumption | omega | exact Nat.le_of_ble_eq_true rfl | decide) only [u_175_45, u_175_46, u_175_49, u_175_50, u_175_51, u_175_52, u_175_53, u_175_54, u_175_55, u_175_56, u_175_59, u_175_60, u_175_62, u_175_65, u_175_66, u_175_68, u_175_69, u_175_72, u_175_74, u_175_75, u_175_76, u_175_77, u_175_78, u_175_81, u_175_82, u_175_84, u_175_85, u_175_88, u_175_90, u_175_91, u_175_92, u_175_93, u_175_94, u_175_97, u_175_100, u_175_101, u_175_102, u_175_103, u_175_106, u_175_108, u_175_111, u_175_112, u_175_113, u_175_116, u_175_118, u_175_121, u_175_123, u_175_126, u_175_127, u_175_129, u_175_130, u_175_133, u_175_136, u_175_137, u_175_138, u_175_139, u_175_140, u_175_141, u_175_142, u_175_145, u_175_146, r9, rv_some, wrI, Int.zero_add, hk0, h4, not_true, not_false_eq_true, if_false, if_true, g1, bnd_some, psh_none, Int.reduceEq, z2, f1, e1]
        · rw [if_neg k1, if_neg k2] at g1
          simp (disch := first | assumption | omega | exact Nat.le_of_ble_eq_true rfl | decide) only [u_175_45, u_175_46, u_175_49, u_175_50, u_175_51, u_175_52, u_175_53, u_175_54, u_175_55, u_175_56, u_175_59, u_175_60, u_175_62, u_175_65, u_175_66, u_175_68, u_175_69, u_175_72, u_175_74, u_175_75, u_175_76, u_175_77, u_175_78, u_175_81, u_175_82, u_175_84, u_175_85, u_175_88, u_175_90, u_175_91, u_175_92, u_175_93, u_175_94, u_175_97, u_175_100, u_175_101, u_175_102, u_175_103, u_175_106, u_175_108, u_175_111, u_175_112, u_175_113, u_175_116, u_175_118, u_175_121, u_175_123, u_175_126, u_175_127, u_175_129, u_175_130, u_175_133, u_175_136, u_175_137, u_175_138, u_175_139, u_175_140, u_175_141, u_175_142, u_175_145, u_175_146, r9, rv_some, wrI, Int.zero_add, hk0, h4, k1, k2, not_true, not_false_eq_true, if_false, if_true, g1, bnd_some, psh_none, Int.reduceEq, z2, f1, e1]
    · rw [app3, app3, app3] at e2
      rw [app3]
      exact e2
theorem isMm_new (h : isMm I m) {i : Nat} (hi : i < 30) (hn : (i : Int) ∉ m) (hl : m.length < 30) : isMm (up (up (up I 400 (i : Int) (m.length : Int)) 399 (m.length : Int) (i : Int)) 392 10 ((m.length + 1 : Nat) : Int)) (m ++ [(i : Int)]) := by
  refine ⟨?_, fun j hj => ?_, fun j x hx => ?_⟩
  · rw [ups, List.length_append]; rfl
  · rw [upk (by decide), upk (by decide), idm_app]
    by_cases hji : j = i
    · subst hji
      rw [ups, if_neg hn, if_pos rfl]
    · rw [upj (by omega), h.2.1 j hj]
      by_cases hm : (j : Int) ∈ m
      · rw [if_pos hm]
      · rw [if_neg hm, if_neg (by omega), idm_not.mpr hm]
  · rw [upk (by decide)]
    have := lenOf hx
    rw [List.length_append] at this
    simp only [List.length_cons, List.length_nil] at this
    by_cases hjl : j < m.length
    · rw [List.getElem?_append_left hjl] at hx
      rw [upj (by omega), upk (by decide)]
      exact h.2.2 j x hx
    · obtain rfl : j = m.length := by omega
      rw [List.getElem?_append_right (Nat.le_refl _), Nat.sub_self] at hx
      cases hx
      exact ups
theorem m_meets (hX : MX sh R) (h : isMm I m) {i : Nat} (hi : i < 30) (hn : (i : Int) ∉ m) (hl : m.length < 30) : ∃ I', cl (d + 1) 165 [.inr (.inl 392), .inl (i : Int)] (sh, I, R) = some (none, (sh, I', R)) ∧ isMm I' (m ++ [(i : Int)]) ∧ (∀ k, k ≠ 392 → k ≠ 399 → k ≠ 400 → I' k = I k) ∧ ∀ z, z ≠ 10 → I' 392 z = I 392 z := by
  obtain ⟨t9, r9, tg_, lg⟩ := hX.1
  obtain ⟨r7, t7, l7⟩ := hX.g 7 399 30 (by decide)
  obtain ⟨r8, t8, l8⟩ := hX.g 8 400 30 (by decide)
  refine ⟨_, ?_, isMm_new h hi hn hl, fun k a b c => by rw [upf a, upf b, upf c], fun z hz => by rw [upj hz, upk (by decide), upk (by decide)]⟩
  have h0 := h.1
  rw [c_165]
  simp (disch := first | assumption | omega | exact Nat.le_of_ble_eq_true rfl | decide) only [u_165_0, u_165_1, u_165_4, u_165_5, u_165_6, u_165_9, u_165_10, u_165_11, u_165_14, u_165_15, u_165_18, u_165_19, u_165_20, u_165_21, u_165_22, u_165_25, u_165_26, u_165_27, u_165_30, r7, r8, rv_some, h0, upk, wrN]
theorem tobj_loop (hX : MX sh R) (hw : okW w) {F : List Int × List Int → Int → List Int × List Int} {n i : Nat} (hi : i < 30) (hk : (w.1 i).1 ≠ 0) {a2 : AV}
    (hF : ∀ s r, okm w s.1 → n < s.1.length → (r = -1 ∨ liv w r) → grow w 1 (fun x => r ≠ -1 ∧ Rch w r x) s (F s r) ∧ (r = -1 ∨ r ∈ (F s r).1))
    (hM : ∀ (I : IM) (s : List Int × List Int) (r : Int), isM I 393 w → isMm I s.1 → isOut I s.2 → okm w s.1 → n < s.1.length → s.2.length < 500000 + 40 * s.1.length → (r = -1 ∨ liv w r) → ∃ I', cl (d + 1) 175 [.inr (.inl 392), .inl r] (sh, I, R) = some (none, (sh, I', R)) ∧ isMm I' (F s r).1 ∧ isOut I' (F s r).2 ∧ FrT I I')
    {s0 : List Int × List Int} (hs0 : s0.2.length + 12 < 500000 + 40 * s0.1.length) (hm0 : okm w s0.1) (hn0 : n < s0.1.length) :
    ∀ (k j : Nat) (I : IM), j + k = (w.1 i).2.2.1.length → isM I 393 w → isMm I (((w.1 i).2.2.1.take j).foldl F s0).1 → isOut I (((w.1 i).2.2.1.take j).foldl F s0).2 → ∃ I', ev S0 (d + 1) 175 211 [.inr (.inl 392), .inl (i : Int), a2, .inl (j : Int)] [] (sh, I, R) = some (none, (sh, I', R)) ∧ isMm I' ((w.1 i).2.2.1.foldl F s0).1 ∧ isOut I' ((w.1 i).2.2.1.foldl F s0).2 ∧ FrT I I' := by
  obtain ⟨t9, r9, tg_, lg⟩ := hX.1
  have hok := hw.1 i hi
  have h6 := hok.2.2.2.2.2.2.2.1
  have hrs : ∀ r ∈ (w.1 i).2.2.1, r = -1 ∨ liv w r := fun r hr => by
    rcases hok.2.2.2.2.2.2.2.2.2.2.2.1 r hr with q | ⟨b, rfl, hb, hbk⟩
    · exact Or.inl q
    · exact Or.inr (liv_of hb hbk)
  intro k
  induction k with
  | zero =>
    intro j I hj hW h1 h2
    have y20 := ((hW.1 i hi).2 hk).2.1.1
    have hc : ((w.1 i).2.2.1.length : Int) ≤ (j : Int) := by omega
    rw [List.take_of_length_le (by omega)] at h1 h2
    refine ⟨I, ?_, h1, h2, FrT.rf⟩
    simp (disch := first | assumption | omega | exact Nat.le_of_ble_eq_true rfl | decide) only [u_175_211, u_175_212, u_175_213, u_175_216, u_175_218, u_175_219, u_175_220, u_175_221, u_175_240, r9, rv_some, wrI, y20, hc, if_true]
  | succ k ih =>
    intro j I hj hW h1 h2
    have y2 := ((hW.1 i hi).2 hk).2.1
    have y20 := y2.1
    have hjl : j < (w.1 i).2.2.1.length := by omega
    have hc : ¬ ((w.1 i).2.2.1.length : Int) ≤ (j : Int) := by omega
    obtain ⟨g, -⟩ := foldl_grow hF ((w.1 i).2.2.1.take j) s0 (fun r hr => hrs r (List.mem_of_mem_take hr)) hm0 hn0
    have hgl := g.2.1.length_le
    have hg3 := g.2.2.1
    rw [List.length_take] at hg3
    obtain ⟨I2, e1, e2, e3, e4⟩ := hM I _ ((w.1 i).2.2.1[j]) hW h1 h2 g.1 (by omega) (by omega) (hrs _ (List.getElem_mem hjl))
    have hst : ∀ s, ((w.1 i).2.2.1.take (j + 1)).foldl F s = F (((w.1 i).2.2.1.take j).foldl F s) ((w.1 i).2.2.1[j]) := fun s => by
      rw [List.take_succ_eq_append_getElem hjl, List.foldl_append]; rfl
    obtain ⟨I3, f1, f2, f3, f4⟩ := ih (j + 1) I2 (by omega) (hW.cong (e4.1 _ (by decide) (by decide) (by decide) (by decide))) (by rw [hst]; exact e2) (by rw [hst]; exact e3)
    refine ⟨I3, ?_, f2, f3, e4.tr f4⟩
    have hro := m_refOf (I := I) (d := d) (i := j) hX.1 hi (by omega)
    rw [y2.at hjl] at hro
    rw [u_175_211]
    simp (disch := first | assumption | omega | exact Nat.le_of_ble_eq_true rfl | decide) only [u_175_212, u_175_213, u_175_216, u_175_218, u_175_219, u_175_220, u_175_221, u_175_224, u_175_225, u_175_226, u_175_227, u_175_228, u_175_231, u_175_234, u_175_237, r9, rv_some, wrI, y20, hc, if_false, hro, e1, bnd_some, psh_some, psh_none, n1, f1]
theorem m_tobj (hX : MX sh R) (hw : okW w) : ∀ (f : Nat) (I : IM) (s : List Int × List Int) (o : Int), isM I 393 w → isMm I s.1 → isOut I s.2 → okm w s.1 → 30 < s.1.length + f → s.2.length < 500000 + 40 * s.1.length → (o = -1 ∨ liv w o) → ∃ I', cl (d + f + 3) 175 [.inr (.inl 392), .inl o] (sh, I, R) = some (none, (sh, I', R)) ∧ isMm I' (walk w f o s).1 ∧ isOut I' (walk w f o s).2 ∧ FrT I I' := by
  obtain ⟨t9, r9, tg_, lg⟩ := hX.1
  obtain ⟨r8, t8, l8⟩ := hX.g 8 400 30 (by decide)
  intro f
  induction f with
  | zero => intro I s o _ _ _ h hn; have := okm_len h; omega
  | succ f ih =>
    intro I s o hW h1 h2 h hn hl ho
    have h30 := okm_len h
    rw [show d + (f + 1) + 3 = d + f + 3 + 1 by omega, c_175]
    unfold walk
    by_cases hm1 : o = -1
    · rw [if_pos hm1]
      have hlt : ¬ 0 ≤ o := by omega
      obtain ⟨I2, g1, g2, g3⟩ := m_tells (d := d + f + 2) (c := 45) hX h2 (by omega)
      refine ⟨I2, ?_, h1.cong (g3.2 _ (by decide)) (g3.1 _ (by decide) (by decide)) (g3.1 _ (by decide) (by decide)), g2, g3.T⟩
      simp (disch := first | assumption | omega | exact Nat.le_of_ble_eq_true rfl | decide) only [u_175_0, u_175_1, u_175_4, u_175_5, u_175_7, u_175_10, hlt, if_false, bnd_some, psh_none, g1]
    · rw [if_neg hm1]
      have ho := ho.resolve_left hm1
      obtain ⟨i, rfl, hi, hk⟩ := liv_nat ho
      rw [Int.toNat_natCast]
      have hge : (0 : Int) ≤ (i : Int) := by omega
      have hid := h1.2.1 i hi
      rcases idm_spec s.1 (i : Int) with ⟨q1, q2⟩ | ⟨j, q1, q2, q3, q4⟩
      · rw [if_neg (fun q => q q1)]
        rw [q1] at hid
        have hlt : (-1 : Int) < 0 := by decide
        have hnew := okm_new h ho q2
        obtain ⟨I1, b1, b2, b3, b4⟩ := m_meets (d := d + f + 2) hX h1 hi q2 hnew
        have W1 : isM I1 393 w := hW.cong (b3 _ (by decide) (by decide) (by decide))
        have O1 : isOut I1 s.2 := h2.cong (b4 _ (by decide)) (b3 _ (by decide) (by decide) (by decide))
        obtain ⟨I2, f1, f2, f3⟩ := m_head (d := d + f + 1) (a2 := .inr (.inr 1)) (a3 := .inr (.inr 1)) hX hw W1 hi hk O1 (by omega)
        have hhl := hdN_len (hw.1 i hi)
        obtain ⟨I3, e1, e2, e3, e4⟩ := tobj_loop (d := d + f + 2) (a2 := .inl (w.1 i).1) (F := fun s r => walk w f r s) (n := 30 - f) (i := i) hX hw hi hk (fun s r q1 q2 q3 => walk_grow hw f r s q1 (by omega) q3) (fun I s r p1 p2 p3 p4 p5 p6 p7 => ih I s r p1 p2 p3 p4 (by omega) p6 p7) (s0 := (s.1 ++ [(i : Int)], s.2 ++ hdN w (w.1 i))) (by dsimp only; rw [List.length_append, List.length_append]; simp only [List.length_cons, List.length_nil]; omega) (okm_app h ho q2) (by dsimp only; rw [List.length_append]; simp only [List.length_cons, List.length_nil]; omega) (w.1 i).2.2.1.length 0 I2 (by omega) (W1.cong (f3.1 _ (by decide) (by decide))) (b2.cong (f3.2 _ (by decide)) (f3.1 _ (by decide) (by decide)) (f3.1 _ (by decide) (by decide))) f2
        have e1 : ev S0 (d + f + 3) 175 211 [.inr (.inl 392), .inl (i : Int), .inl (w.1 i).1, .inl 0] [] (sh, I2, R) = some (none, (sh, I3, R)) := e1
        have hb : FrT I I1 := ⟨fun k a b c _ => b3 k a b c, fun z a _ => b4 z a⟩
        refine ⟨I3, ?_, e2, e3, (hb.tr f3.T).tr e4⟩
        simp (disch := first | assumption | omega | exact Nat.le_of_ble_eq_true rfl | decide) only [u_175_0, u_175_1, u_175_4, u_175_5, u_175_7, u_175_10, u_175_11, u_175_12, u_175_15, u_175_16, u_175_17, u_175_20, u_175_21, u_175_23, u_175_26, u_175_27, u_175_29, u_175_30, u_175_33, u_175_34, u_175_35, u_175_36, u_175_39, u_175_40, u_175_41, u_175_42, hge, if_true, r8, rv_some, hid, hlt, b1, bnd_some, psh_none]
        rw [f1, e1]
      · rw [if_pos (by omega)]
        have hlt : ¬ idm s.1 (i : Int) < 0 := by omega
        obtain ⟨I2, g1, g2, g3⟩ := m_tells (d := d + f + 2) (c := 35) hX h2 (by omega)
        obtain ⟨I3, f1, f2, f3⟩ := m_tells (d := d + f + 2) (c := 65 + idm s.1 (i : Int)) hX g2 (by rw [List.length_append]; simp only [List.length_cons, List.length_nil]; omega)
        have g4 := g3.tr f3
        refine ⟨I3, ?_, h1.cong (g4.2 _ (by decide)) (g4.1 _ (by decide) (by decide)) (g4.1 _ (by decide) (by decide)), by rw [app3] at f2; exact f2, g4.T⟩
        have hid2 : I2 400 (i : Int) = idm s.1 (i : Int) := by rw [g3.1 _ (by decide) (by decide)]; exact hid
        simp (disch := first | assumption | omega | exact Nat.le_of_ble_eq_true rfl | decide) only [u_175_0, u_175_1, u_175_4, u_175_5, u_175_7, u_175_10, u_175_11, u_175_12, u_175_15, u_175_16, u_175_17, u_175_20, u_175_21, u_175_23, u_175_26, u_175_27, u_175_29, u_175_30, u_175_33, u_175_34, u_175_35, u_175_36, u_175_39, hge, if_true, r8, rv_some, hid, hlt, if_false, bnd_some, psh_none, g1, hid2, wrI, f1]
end MW
