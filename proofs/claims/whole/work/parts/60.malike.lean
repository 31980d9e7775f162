/-! THE MODEL: alike -/
section MALK
variable {sh : Shp} {R : RM} {I : IM} {d : Nat} {s : ST} {w : WD} {L : PL} {a b o p : Int}
def mP (I : IM) (L : PL) : Prop := I 392 26 = (L.length : Int) ∧ isPr I 408 409 410 L
def FrA (I I' : IM) : Prop := (∀ k, k ≠ 392 → k < 408 ∨ 410 < k → I' k = I k) ∧ ∀ z, z ≠ 26 → I' 392 z = I 392 z
theorem FrA.rf {I : IM} : FrA I I := ⟨fun _ _ _ => rfl, fun _ _ => rfl⟩
theorem FrA.tr {I I1 I2 : IM} (h1 : FrA I I1) (h2 : FrA I1 I2) : FrA I I2 := ⟨fun k a b => (h2.1 k a b).trans (h1.1 k a b), fun z a => (h2.2 z a).trans (h1.2 z a)⟩
theorem m_pairs (hX : MX sh R) (hL : okL w L) (h : mP I L) (ha : livN w a) (hb : livN w b) : ∃ I', cl (d + 1) 196 [.inr (.inl 392), .inl a, .inl b] (sh, I, R) = some (some (.inl (bI (bdp false w L a b).1)), (sh, I', R)) ∧ mP I' (bdp false w L a b).2 ∧ FrA I I' := by
  have t9 := hX.1.1
  obtain ⟨r1, t1, l1⟩ := hX.g 23 408 30 (by decide)
  obtain ⟨r2, t2, l2⟩ := hX.g 24 409 30 (by decide)
  obtain ⟨r3, t3, l3⟩ := hX.g 25 410 30 (by decide)
  rw [c_196]
  unfold bdp
  by_cases h1 : a = -1 ∨ b = -1
  · rw [if_pos h1]
    refine ⟨I, ?_, h, FrA.rf⟩
    by_cases ha1 : a = -1
    · have hna : a < 0 := by omega
      have hna' : ¬ 0 ≤ a := by omega
      by_cases hb1 : b = -1
      · have hnb' : ¬ 0 ≤ b := by omega
        rw [show decide (a = -1 ∧ b = -1) = true from decide_eq_true ⟨ha1, hb1⟩]
        simp (disch := first | assumption | omega | exact Nat.le_of_ble_eq_true rfl | decide) only [u_196_0, u_196_1, u_196_4, u_196_5, u_196_8, u_196_9, u_196_12, u_196_13, u_196_16, u_196_17, u_196_20, u_196_21, hna, hna', hnb', if_true, if_false]
        rfl
      · have hnb' : 0 ≤ b := (hb.resolve_left hb1).1
        rw [show decide (a = -1 ∧ b = -1) = false from decide_eq_false (fun q => hb1 q.2)]
        simp (disch := first | assumption | omega | exact Nat.le_of_ble_eq_true rfl | decide) only [u_196_0, u_196_1, u_196_4, u_196_5, u_196_8, u_196_9, u_196_12, u_196_13, u_196_16, u_196_17, u_196_20, u_196_21, if_pos hna, if_neg hna', if_pos hnb']
        rfl
    · have hb1 := h1.resolve_left ha1
      have hna : ¬ a < 0 := by have := (ha.resolve_left ha1).1; omega
      have hna' : 0 ≤ a := by omega
      have hnb' : ¬ 0 ≤ b := by omega
      rw [show decide (a = -1 ∧ b = -1) = false from decide_eq_false (fun q => ha1 q.1)]
      simp (disch := first | assumption | omega | exact Nat.le_of_ble_eq_true rfl | decide) only [u_196_0, u_196_1, u_196_4, u_196_5, u_196_8, u_196_9, u_196_12, u_196_13, u_196_16, u_196_17, u_196_20, u_196_21, if_neg hna, if_pos hna', if_neg hnb']
      rfl
  · rw [if_neg h1]
    rw [not_or] at h1
    have hla := ha.resolve_left h1.1
    have hlb := hb.resolve_left h1.2
    obtain ⟨i, rfl, hi, hi0⟩ := liv_nat hla
    obtain ⟨j, rfl, hj, hj0⟩ := liv_nat hlb
    have v1 := h.2.1 i hi
    have v2 := h.2.2.1 j hj
    have hcnt := h.1
    have na : ¬ (i : Int) < 0 := by omega
    have nb : (0 : Int) ≤ (j : Int) := by omega
    by_cases h2 : sfL L (i : Int) = -1 ∧ sbL L (j : Int) = -1
    · rw [if_pos h2, if_neg (show ¬ (false && !lkB w (i : Int) (j : Int)) = true by simp)]
      obtain ⟨hok', hlt⟩ := hL.app hla hlb h2.1 h2.2
      rw [h2.1] at v1
      rw [h2.2] at v2
      have hm1 : ¬ (0 : Int) ≤ -1 := by decide
      have ca : (up (up (up I 408 (i : Int) (j : Int)) 409 (j : Int) (i : Int)) 410 (L.length : Int) (i : Int)) 408 (i : Int) = (j : Int) := by rw [upk (by decide), upk (by decide), ups]
      have cb : (up (up (up I 408 (i : Int) (j : Int)) 409 (j : Int) (i : Int)) 410 (L.length : Int) (i : Int)) 409 (j : Int) = (i : Int) := by rw [upk (by decide), ups]
      refine ⟨up (up (up (up I 408 (i : Int) (j : Int)) 409 (j : Int) (i : Int)) 410 (L.length : Int) (i : Int)) 392 26 ((L.length + 1 : Nat) : Int), ?_, ⟨?_, (isPr_app h.2 hL (by decide) (by decide) (by decide) h2.1 h2.2).cong (upf (by decide)) (upf (by decide)) (upf (by decide))⟩, fun k a b => by rw [upf (by omega), upf (by omega), upf (by omega), upf (by omega)], fun z hz => by rw [upj hz, upk (by decide), upk (by decide), upk (by decide)]⟩
      · simp (disch := first | assumption | omega | exact Nat.le_of_ble_eq_true rfl | decide) only [u_196_0, u_196_1, u_196_4, u_196_5, u_196_8, u_196_9, u_196_12, u_196_13, u_196_16, u_196_17, u_196_20, u_196_21, u_196_22, u_196_23, u_196_26, u_196_27, u_196_28, u_196_31, u_196_32, u_196_35, u_196_36, u_196_37, u_196_40, u_196_41, u_196_44, u_196_45, u_196_46, u_196_47, u_196_48, u_196_51, u_196_52, u_196_53, u_196_54, u_196_55, u_196_58, u_196_59, u_196_62, u_196_63, u_196_64, u_196_65, u_196_66, u_196_69, u_196_70, u_196_71, u_196_74, u_196_75, u_196_78, u_196_79, u_196_80, u_196_81, u_196_84, u_196_85, u_196_88, u_196_89, u_196_90, u_196_91, u_196_94, u_196_95, u_196_98, u_196_99, if_neg na, if_pos nb, r1, r2, r3, rv_some, v1, v2, if_neg hm1, hcnt, upk, wrI, n1, ups, not_true, if_false]
        rfl
      · rw [ups, List.length_append]; rfl
    · rw [if_neg h2]
      refine ⟨I, ?_, h, FrA.rf⟩
      have hge1 : ∀ z : Int, sfL L (i : Int) = z → z = -1 ∨ 0 ≤ z := fun z hz => by
        by_cases q : z = -1
        · exact Or.inl q
        · exact Or.inr (hL.2.2 _ (sfL_get hz q)).2.1
      have hge2 : ∀ z : Int, sbL L (j : Int) = z → z = -1 ∨ 0 ≤ z := fun z hz => by
        by_cases q : z = -1
        · exact Or.inl q
        · unfold sbL at hz
          obtain ⟨r, hr, e⟩ := List.mem_map.mp (sfL_get hz q)
          have := (hL.2.2 r hr).1.1
          have e2 : r.1 = z := congrArg Prod.snd e
          exact Or.inr (by omega)
      have hcase : ∀ r : Option Res, ev S0 d 196 74 [.inr (.inl 392), .inl (i : Int), .inl (j : Int)] [] (sh, I, R) = r → ev S0 d 196 0 [.inr (.inl 392), .inl (i : Int), .inl (j : Int)] [] (sh, I, R) = r := by
        intro r hr
        by_cases hf : sfL L (i : Int) = -1
        · have hg : ¬ sbL L (j : Int) = -1 := fun q => h2 ⟨hf, q⟩
          have hg2 := (hge2 _ rfl).resolve_left hg
          rw [hf] at v1
          have hm1 : ¬ (0 : Int) ≤ -1 := by decide
          simp (disch := first | assumption | omega | exact Nat.le_of_ble_eq_true rfl | decide) only [u_196_0, u_196_1, u_196_4, u_196_5, u_196_8, u_196_9, u_196_12, u_196_13, u_196_16, u_196_17, u_196_20, u_196_21, u_196_22, u_196_23, u_196_26, u_196_27, u_196_28, u_196_31, u_196_32, u_196_35, u_196_36, u_196_37, if_neg na, if_pos nb, r1, r2, rv_some, v1, v2, if_neg hm1, if_pos hg2]
          exact hr
        · have hg2 := (hge1 _ rfl).resolve_left hf
          simp (disch := first | assumption | omega | exact Nat.le_of_ble_eq_true rfl | decide) only [u_196_0, u_196_1, u_196_4, u_196_5, u_196_8, u_196_9, u_196_12, u_196_13, u_196_16, u_196_17, u_196_20, u_196_21, u_196_22, u_196_23, u_196_26, u_196_27, u_196_28, u_196_31, u_196_32, u_196_35, u_196_36, u_196_37, if_neg na, if_pos nb, r1, r2, rv_some, v1, if_pos hg2]
          exact hr
      refine hcase _ ?_
      by_cases he : sfL L (i : Int) = (j : Int)
      · rw [decide_eq_true he]
        have hb2 := hL.fb (by omega) he
        rw [he] at v1
        rw [hb2] at v2
        simp (disch := first | assumption | omega | exact Nat.le_of_ble_eq_true rfl | decide) only [u_196_74, u_196_75, u_196_78, u_196_79, u_196_80, u_196_81, u_196_84, u_196_85, u_196_88, u_196_89, u_196_90, u_196_91, u_196_94, u_196_95, u_196_98, u_196_99, r1, r2, rv_some, v1, v2, not_true, if_false]
        rfl
      · rw [decide_eq_false he]
        simp (disch := first | assumption | omega | exact Nat.le_of_ble_eq_true rfl | decide) only [u_196_74, u_196_75, u_196_78, u_196_79, u_196_80, u_196_81, u_196_84, u_196_85, u_196_88, u_196_89, u_196_90, u_196_91, u_196_94, u_196_95, u_196_98, u_196_99, r1, rv_some, v1, he, not_false_eq_true, if_true]
        rfl
theorem lf_loop (hX : MX sh R) {i j : Nat} (hi : i < 30) (hj : j < 30) {L1 L2 : FL} (h1 : mFl I 393 i L1) (h2 : mFl I 393 j L2) (hlen : L1.length = L2.length) (h6 : L1.length ≤ 6) : ∀ (k q : Nat), q + k = L1.length → ev S0 d 197 86 [.inr (.inl 392), .inl (i : Int), .inl (j : Int), .inl (q : Int)] [] (sh, I, R) = if L1.drop q = L2.drop q then ev S0 d 197 171 [.inr (.inl 392), .inl (i : Int), .inl (j : Int), .inl (L1.length : Int)] [] (sh, I, R) else some (some (.inl 0), (sh, I, R)) := by
  obtain ⟨t9, r9, tg_, lg⟩ := hX.1
  have h10 := h1.1
  intro k
  induction k with
  | zero =>
    intro q hq
    obtain rfl : q = L1.length := by omega
    have hc : (L1.length : Int) ≤ (L1.length : Int) := by omega
    rw [List.drop_length, hlen, List.drop_length, if_pos rfl, ← hlen]
    simp (disch := first | assumption | omega | exact Nat.le_of_ble_eq_true rfl | decide) only [u_197_86, u_197_87, u_197_88, u_197_91, u_197_93, u_197_94, u_197_95, u_197_96, r9, rv_some, wrI, h10, if_pos hc]
  | succ k ih =>
    intro q hq
    have hql : q < L1.length := by omega
    have hql' : q < L2.length := by omega
    have hc : ¬ (L1.length : Int) ≤ (q : Int) := by omega
    obtain ⟨v1, v2⟩ := h1.at hql
    obtain ⟨v3, v4⟩ := h2.at hql'
    have ih' := ih (q + 1) (by omega)
    rw [List.drop_eq_getElem_cons hql, List.drop_eq_getElem_cons hql', u_197_86]
    by_cases e1 : L1[q].1 = L2[q].1
    · by_cases e2 : L1[q].2 = L2[q].2
      · have e : L1[q] = L2[q] := Prod.ext e1 e2
        have hif : (L1[q] :: L1.drop (q + 1) = L2[q] :: L2.drop (q + 1)) ↔ L1.drop (q + 1) = L2.drop (q + 1) := by
          rw [e]
          exact ⟨fun z => (List.cons.inj z).2, fun z => by rw [z]⟩
        have hite : (if L1[q] :: L1.drop (q + 1) = L2[q] :: L2.drop (q + 1) then ev S0 d 197 171 [.inr (.inl 392), .inl (i : Int), .inl (j : Int), .inl (L1.length : Int)] [] (sh, I, R) else some (some (.inl 0), (sh, I, R))) = if L1.drop (q + 1) = L2.drop (q + 1) then ev S0 d 197 171 [.inr (.inl 392), .inl (i : Int), .inl (j : Int), .inl (L1.length : Int)] [] (sh, I, R) else some (some (.inl 0), (sh, I, R)) := by
          by_cases hd : L1.drop (q + 1) = L2.drop (q + 1)
          · rw [if_pos hd, if_pos (hif.mpr hd)]
          · rw [if_neg hd, if_neg (fun z => hd (hif.mp z))]
        rw [hite, ← ih']
        rw [e1] at v1
        rw [e2] at v2
        clear ih' ih hite hif
        simp (disch := first | assumption | omega | exact Nat.le_of_ble_eq_true rfl | decide) only [u_197_87, u_197_88, u_197_91, u_197_93, u_197_94, u_197_95, u_197_96, u_197_99, u_197_100, u_197_103, u_197_105, u_197_107, u_197_108, u_197_109, u_197_110, u_197_111, u_197_112, u_197_113, u_197_114, u_197_117, u_197_119, u_197_121, u_197_122, u_197_123, u_197_124, u_197_125, u_197_126, u_197_127, u_197_130, u_197_131, u_197_134, u_197_137, u_197_139, u_197_140, u_197_141, u_197_142, u_197_143, u_197_144, u_197_145, u_197_146, u_197_149, u_197_152, u_197_154, u_197_155, u_197_156, u_197_157, u_197_158, u_197_159, u_197_160, u_197_163, u_197_164, u_197_165, u_197_168, r9, rv_some, wrI, h10, hc, if_false, v1, v2, v3, v4, not_true, if_true, n1]
      · rw [if_neg (fun z => e2 (by rw [(List.cons.inj z).1]))]
        clear ih' ih
        rw [e1] at v1
        simp (disch := first | assumption | omega | exact Nat.le_of_ble_eq_true rfl | decide) only [u_197_87, u_197_88, u_197_91, u_197_93, u_197_94, u_197_95, u_197_96, u_197_99, u_197_100, u_197_103, u_197_105, u_197_107, u_197_108, u_197_109, u_197_110, u_197_111, u_197_112, u_197_113, u_197_114, u_197_117, u_197_119, u_197_121, u_197_122, u_197_123, u_197_124, u_197_125, u_197_126, u_197_127, u_197_130, u_197_131, u_197_134, u_197_137, u_197_139, u_197_140, u_197_141, u_197_142, u_197_143, u_197_144, u_197_145, u_197_146, u_197_149, u_197_152, u_197_154, u_197_155, u_197_156, u_197_157, u_197_158, u_197_159, u_197_160, u_197_163, u_197_164, u_197_165, u_197_168, r9, rv_some, wrI, h10, hc, if_false, v1, v2, v3, v4, not_true, e2]
    · rw [if_neg (fun z => e1 (by rw [(List.cons.inj z).1]))]
      clear ih' ih
      simp (disch := first | assumption | omega | exact Nat.le_of_ble_eq_true rfl | decide) only [u_197_87, u_197_88, u_197_91, u_197_93, u_197_94, u_197_95, u_197_96, u_197_99, u_197_100, u_197_103, u_197_105, u_197_107, u_197_108, u_197_109, u_197_110, u_197_111, u_197_112, u_197_113, u_197_114, u_197_117, u_197_119, u_197_121, u_197_122, u_197_123, u_197_124, u_197_125, u_197_126, u_197_127, u_197_130, u_197_131, u_197_134, u_197_137, u_197_139, u_197_140, u_197_141, u_197_142, u_197_143, u_197_144, u_197_145, u_197_146, u_197_149, u_197_152, u_197_154, u_197_155, u_197_156, u_197_157, u_197_158, u_197_159, u_197_160, u_197_163, u_197_164, u_197_165, u_197_168, r9, rv_some, wrI, h10, hc, if_false, v1, v3, e1, not_false_eq_true, if_true]
theorem lr_loop (hX : MX sh R) (hw : okW w) {i j : Nat} (hi : i < 30) (hj : j < 30) (hki : (w.1 i).1 ≠ 0) (hkj : (w.1 j).1 ≠ 0) (hlen : (w.1 i).2.2.1.length = (w.1 j).2.2.1.length) : ∀ (k q : Nat) (I : IM) (L : PL), q + k = (w.1 i).2.2.1.length → isM I 393 w → okL w L → mP I L → ∃ I', ev S0 (d + 1) 197 173 [.inr (.inl 392), .inl (i : Int), .inl (j : Int), .inl (q : Int)] [] (sh, I, R) = some (some (.inl (bI (prs false w ((w.1 i).2.2.1.drop q) ((w.1 j).2.2.1.drop q) L).1)), (sh, I', R)) ∧ mP I' (prs false w ((w.1 i).2.2.1.drop q) ((w.1 j).2.2.1.drop q) L).2 ∧ FrA I I' := by
  obtain ⟨t9, r9, tg_, lg⟩ := hX.1
  have h6 := (hw.1 i hi).2.2.2.2.2.2.2.1
  have hrs : ∀ (o : Nat) (ho : o < 30), ∀ r ∈ (w.1 o).2.2.1, livN w r := fun o ho r hr => by
    rcases (hw.1 o ho).2.2.2.2.2.2.2.2.2.2.2.1 r hr with q | ⟨b, rfl, hb, hbk⟩
    · exact Or.inl q
    · exact Or.inr (liv_of hb hbk)
  intro k
  induction k with
  | zero =>
    intro q I L hq hW hL h
    obtain rfl : q = (w.1 i).2.2.1.length := by omega
    have n20 := ((hW.1 i hi).2 hki).2.1.1
    have hc : ((w.1 i).2.2.1.length : Int) ≤ ((w.1 i).2.2.1.length : Int) := by omega
    rw [List.drop_length]
    refine ⟨I, ?_, h, FrA.rf⟩
    simp (disch := first | assumption | omega | exact Nat.le_of_ble_eq_true rfl | decide) only [u_197_173, u_197_174, u_197_175, u_197_178, u_197_180, u_197_181, u_197_182, u_197_183, u_197_213, u_197_214, r9, rv_some, wrI, n20, if_pos hc]
    rfl
  | succ k ih =>
    intro q I L hq hW hL h
    have hql : q < (w.1 i).2.2.1.length := by omega
    have hql' : q < (w.1 j).2.2.1.length := by omega
    have n2 := ((hW.1 i hi).2 hki).2.1
    have n2' := ((hW.1 j hj).2 hkj).2.1
    have n20 := n2.1
    have hro := m_refOf (I := I) (d := d) (i := q) hX.1 hi (by omega)
    rw [n2.at hql] at hro
    have hro' := m_refOf (I := I) (d := d) (i := q) hX.1 hj (by omega)
    rw [n2'.at hql'] at hro'
    have hc : ¬ ((w.1 i).2.2.1.length : Int) ≤ (q : Int) := by omega
    obtain ⟨I1, e1, e2, e3⟩ := m_pairs (d := d) hX hL h (hrs i hi _ (List.getElem_mem hql)) (hrs j hj _ (List.getElem_mem hql'))
    rw [List.drop_eq_getElem_cons hql, List.drop_eq_getElem_cons hql']
    have hpr : prs false w ((w.1 i).2.2.1[q] :: (w.1 i).2.2.1.drop (q + 1)) ((w.1 j).2.2.1[q] :: (w.1 j).2.2.1.drop (q + 1)) L = if (bdp false w L (w.1 i).2.2.1[q] (w.1 j).2.2.1[q]).1 = true then prs false w ((w.1 i).2.2.1.drop (q + 1)) ((w.1 j).2.2.1.drop (q + 1)) (bdp false w L (w.1 i).2.2.1[q] (w.1 j).2.2.1[q]).2 else (false, (bdp false w L (w.1 i).2.2.1[q] (w.1 j).2.2.1[q]).2) := rfl
    rw [hpr]
    have hok1 := bdp_ok (c := false) hL (hrs i hi _ (List.getElem_mem hql)) (hrs j hj _ (List.getElem_mem hql'))
    clear hpr
    generalize bdp false w L (w.1 i).2.2.1[q] (w.1 j).2.2.1[q] = bb at e1 e2 hok1 ⊢
    rw [u_197_173]
    cases hb : bb.1 with
    | true =>
      rw [if_pos rfl]
      rw [hb] at e1
      have e1 : cl (d + 1) 196 [.inr (.inl 392), .inl (w.1 i).2.2.1[q], .inl (w.1 j).2.2.1[q]] (sh, I, R) = some (some (.inl 1), (sh, I1, R)) := e1
      obtain ⟨I', f1, f2, f3⟩ := ih (q + 1) I1 bb.2 (by omega) (hW.cong (e3.1 _ (by decide) (by decide))) hok1 e2
      refine ⟨I', ?_, f2, e3.tr f3⟩
      simp (disch := first | assumption | omega | exact Nat.le_of_ble_eq_true rfl | decide) only [u_197_174, u_197_175, u_197_178, u_197_180, u_197_181, u_197_182, u_197_183, u_197_186, u_197_187, u_197_188, u_197_189, u_197_190, u_197_193, u_197_194, u_197_195, u_197_196, u_197_199, u_197_202, u_197_205, u_197_206, u_197_207, u_197_210, r9, rv_some, wrI, n20, hc, if_false, hro, hro', e1, bnd_some, psh_some, Int.reduceEq, not_false_eq_true, if_true, n1, f1]
    | false =>
      rw [if_neg (by decide)]
      rw [hb] at e1
      have e1 : cl (d + 1) 196 [.inr (.inl 392), .inl (w.1 i).2.2.1[q], .inl (w.1 j).2.2.1[q]] (sh, I, R) = some (some (.inl 0), (sh, I1, R)) := e1
      refine ⟨I1, ?_, e2, e3⟩
      simp (disch := first | assumption | omega | exact Nat.le_of_ble_eq_true rfl | decide) only [u_197_174, u_197_175, u_197_178, u_197_180, u_197_181, u_197_182, u_197_183, u_197_186, u_197_187, u_197_188, u_197_189, u_197_190, u_197_193, u_197_194, u_197_195, u_197_196, u_197_199, u_197_202, u_197_205, u_197_206, u_197_207, u_197_210, r9, rv_some, wrI, n20, hc, if_false, hro, hro', e1, bnd_some, psh_some, not_true]
      rfl
theorem m_isLike (hX : MX sh R) (hw : okW w) {i j : Nat} (hi : i < 30) (hj : j < 30) (hki : (w.1 i).1 ≠ 0) (hkj : (w.1 j).1 ≠ 0) (hW : isM I 393 w) (hL : okL w L) (h : mP I L) : ∃ I', cl (d + 2) 197 [.inr (.inl 392), .inl (i : Int), .inl (j : Int)] (sh, I, R) = some (some (.inl (if lkB w (i : Int) (j : Int) = true then bI (prs false w (w.1 i).2.2.1 (w.1 j).2.2.1 L).1 else 0)), (sh, I', R)) ∧ (lkB w (i : Int) (j : Int) = true → mP I' (prs false w (w.1 i).2.2.1 (w.1 j).2.2.1 L).2) ∧ FrA I I' := by
  obtain ⟨t9, r9, tg_, lg⟩ := hX.1
  have k1 := (hW.1 i hi).1
  have k2 := (hW.1 j hj).1
  obtain ⟨x1, x2, x3⟩ := (hW.1 i hi).2 hki
  obtain ⟨y1, y2, y3⟩ := (hW.1 j hj).2 hkj
  have x20 := x2.1
  have y20 := y2.1
  have x30 := x3.1
  have y30 := y3.1
  have h6 := (hw.1 i hi).2.2.2.2.2.2.2.2.1
  rw [c_197]
  by_cases hk : lkB w (i : Int) (j : Int) = true
  · have hh := of_decide_eq_true hk
    rw [Int.toNat_natCast, Int.toNat_natCast] at hh
    obtain ⟨c1, c2, c3, c4⟩ := hh
    rw [if_pos hk]
    have hf := lf_loop (d := d + 1) (R := R) (sh := sh) hX hi hj x3 y3 (by rw [c4]) h6 (w.1 i).2.2.2.length 0 (by omega)
    rw [c4, if_pos rfl] at hf
    have hf : ev S0 (d + 1) 197 86 [.inr (.inl 392), .inl (i : Int), .inl (j : Int), .inl 0] [] (sh, I, R) = _ := hf
    obtain ⟨I', e1, e2, e3⟩ := lr_loop (d := d) hX hw hi hj hki hkj c3 (w.1 i).2.2.1.length 0 I L (by omega) hW hL h
    rw [List.drop_zero, List.drop_zero] at e1 e2
    have e1 : ev S0 (d + 1) 197 173 [.inr (.inl 392), .inl (i : Int), .inl (j : Int), .inl 0] [] (sh, I, R) = _ := e1
    refine ⟨I', ?_, fun _ => e2, e3⟩
    rw [c1] at k1
    rw [c2] at x1
    rw [c3] at x20
    rw [c4] at x30
    simp (disch := first | assumption | omega | exact Nat.le_of_ble_eq_true rfl | decide) only [u_197_0, u_197_1, u_197_4, u_197_5, u_197_6, u_197_7, u_197_8, u_197_9, u_197_12, u_197_13, u_197_14, u_197_15, u_197_16, u_197_19, u_197_20, u_197_23, u_197_25, u_197_26, u_197_27, u_197_28, u_197_29, u_197_32, u_197_34, u_197_35, u_197_36, u_197_37, u_197_40, u_197_41, u_197_44, u_197_46, u_197_47, u_197_48, u_197_49, u_197_50, u_197_53, u_197_55, u_197_56, u_197_57, u_197_58, u_197_61, u_197_62, u_197_65, u_197_67, u_197_68, u_197_69, u_197_70, u_197_71, u_197_74, u_197_76, u_197_77, u_197_78, u_197_79, u_197_82, u_197_83, u_197_84, u_197_85, r9, rv_some, wrI, Int.zero_add, k1, k2, x1, y1, x20, y20, x30, y30, not_true, if_false, if_true]
    rw [hf]
    simp (disch := first | assumption | omega | exact Nat.le_of_ble_eq_true rfl | decide) only [u_197_171, u_197_172, e1]
  · rw [if_neg hk]
    refine ⟨I, ?_, fun q => absurd q hk, FrA.rf⟩
    have hnk : ¬ ((w.1 i).1 = (w.1 j).1 ∧ (w.1 i).2.1 = (w.1 j).2.1 ∧ (w.1 i).2.2.1.length = (w.1 j).2.2.1.length ∧ (w.1 i).2.2.2 = (w.1 j).2.2.2) := fun q => hk (by unfold lkB; rw [Int.toNat_natCast, Int.toNat_natCast]; exact decide_eq_true q)
    by_cases c1 : (w.1 i).1 = (w.1 j).1
    · rw [c1] at k1
      by_cases c2 : (w.1 i).2.1 = (w.1 j).2.1
      · rw [c2] at x1
        by_cases c3 : (w.1 i).2.2.1.length = (w.1 j).2.2.1.length
        · rw [c3] at x20
          by_cases c4 : (w.1 i).2.2.2.length = (w.1 j).2.2.2.length
          · have hf := lf_loop (d := d + 1) (R := R) (sh := sh) hX hi hj x3 y3 c4 h6 (w.1 i).2.2.2.length 0 (by omega)
            rw [List.drop_zero, List.drop_zero, if_neg (fun q => hnk ⟨c1, c2, c3, q⟩)] at hf
            have hf : ev S0 (d + 1) 197 86 [.inr (.inl 392), .inl (i : Int), .inl (j : Int), .inl 0] [] (sh, I, R) = _ := hf
            rw [c4] at x30
            simp (disch := first | assumption | omega | exact Nat.le_of_ble_eq_true rfl | decide) only [u_197_0, u_197_1, u_197_4, u_197_5, u_197_6, u_197_7, u_197_8, u_197_9, u_197_12, u_197_13, u_197_14, u_197_15, u_197_16, u_197_19, u_197_20, u_197_23, u_197_25, u_197_26, u_197_27, u_197_28, u_197_29, u_197_32, u_197_34, u_197_35, u_197_36, u_197_37, u_197_40, u_197_41, u_197_44, u_197_46, u_197_47, u_197_48, u_197_49, u_197_50, u_197_53, u_197_55, u_197_56, u_197_57, u_197_58, u_197_61, u_197_62, u_197_65, u_197_67, u_197_68, u_197_69, u_197_70, u_197_71, u_197_74, u_197_76, u_197_77, u_197_78, u_197_79, u_197_82, u_197_83, u_197_84, u_197_85, r9, rv_some, wrI, Int.zero_add, k1, k2, x1, y1, x20, y20, x30, y30, not_true, if_false, if_true]
            rw [hf]
          · have c4' : ¬ ((w.1 i).2.2.2.length : Int) = ((w.1 j).2.2.2.length : Int) := by omega
            simp (disch := first | assumption | omega | exact Nat.le_of_ble_eq_true rfl | decide) only [u_197_0, u_197_1, u_197_4, u_197_5, u_197_6, u_197_7, u_197_8, u_197_9, u_197_12, u_197_13, u_197_14, u_197_15, u_197_16, u_197_19, u_197_20, u_197_23, u_197_25, u_197_26, u_197_27, u_197_28, u_197_29, u_197_32, u_197_34, u_197_35, u_197_36, u_197_37, u_197_40, u_197_41, u_197_44, u_197_46, u_197_47, u_197_48, u_197_49, u_197_50, u_197_53, u_197_55, u_197_56, u_197_57, u_197_58, u_197_61, u_197_62, u_197_65, u_197_67, u_197_68, u_197_69, u_197_70, u_197_71, u_197_74, u_197_76, u_197_77, u_197_78, u_197_79, u_197_82, u_197_83, u_197_84, u_197_85, r9, rv_some, wrI, Int.zero_add, k1, k2, x1, y1, x20, y20, x30, y30, not_true, if_false, c4']
        · have c3' : ¬ ((w.1 i).2.2.1.length : Int) = ((w.1 j).2.2.1.length : Int) := by omega
          simp (disch := first | assumption | omega | exact Nat.le_of_ble_eq_true rfl | decide) only [u_197_0, u_197_1, u_197_4, u_197_5, u_197_6, u_197_7, u_197_8, u_197_9, u_197_12, u_197_13, u_197_14, u_197_15, u_197_16, u_197_19, u_197_20, u_197_23, u_197_25, u_197_26, u_197_27, u_197_28, u_197_29, u_197_32, u_197_34, u_197_35, u_197_36, u_197_37, u_197_40, u_197_41, u_197_44, u_197_46, u_197_47, u_197_48, u_197_49, u_197_50, u_197_53, u_197_55, u_197_56, u_197_57, u_197_58, u_197_61, u_197_62, u_197_65, u_197_67, u_197_68, u_197_69, u_197_70, u_197_71, u_197_74, u_197_76, u_197_77, u_197_78, u_197_79, u_197_82, u_197_83, u_197_84, u_197_85, r9, rv_some, wrI, Int.zero_add, k1, k2, x1, y1, x20, y20, not_true, if_false, c3', not_false_eq_true, if_true]
      · simp (disch := first | assumption | omega | exact Nat.le_of_ble_eq_true rfl | decide) only [u_197_0, u_197_1, u_197_4, u_197_5, u_197_6, u_197_7, u_197_8, u_197_9, u_197_12, u_197_13, u_197_14, u_197_15, u_197_16, u_197_19, u_197_20, u_197_23, u_197_25, u_197_26, u_197_27, u_197_28, u_197_29, u_197_32, u_197_34, u_197_35, u_197_36, u_197_37, u_197_40, u_197_41, u_197_44, u_197_46, u_197_47, u_197_48, u_197_49, u_197_50, u_197_53, u_197_55, u_197_56, u_197_57, u_197_58, u_197_61, u_197_62, u_197_65, u_197_67, u_197_68, u_197_69, u_197_70, u_197_71, u_197_74, u_197_76, u_197_77, u_197_78, u_197_79, u_197_82, u_197_83, u_197_84, u_197_85, r9, rv_some, wrI, Int.zero_add, k1, k2, x1, y1, not_true, if_false, c2, not_false_eq_true, if_true]
    · simp (disch := first | assumption | omega | exact Nat.le_of_ble_eq_true rfl | decide) only [u_197_0, u_197_1, u_197_4, u_197_5, u_197_6, u_197_7, u_197_8, u_197_9, u_197_12, u_197_13, u_197_14, u_197_15, u_197_16, u_197_19, u_197_20, u_197_23, u_197_25, u_197_26, u_197_27, u_197_28, u_197_29, u_197_32, u_197_34, u_197_35, u_197_36, u_197_37, u_197_40, u_197_41, u_197_44, u_197_46, u_197_47, u_197_48, u_197_49, u_197_50, u_197_53, u_197_55, u_197_56, u_197_57, u_197_58, u_197_61, u_197_62, u_197_65, u_197_67, u_197_68, u_197_69, u_197_70, u_197_71, u_197_74, u_197_76, u_197_77, u_197_78, u_197_79, u_197_82, u_197_83, u_197_84, u_197_85, r9, rv_some, wrI, Int.zero_add, k1, k2, c1, not_false_eq_true, if_true]
theorem mal_loop (hX : MX sh R) (hw : okW w) {a1 a2 : AV} : ∀ (f k : Nat) (I : IM) (L : PL), k + f = 31 → k ≤ L.length → isM I 393 w → okL w L → mP I L → ∃ I', ev S0 (d + 2) 198 61 [.inr (.inl 392), a1, a2, .inl 1, .inl (k : Int)] [] (sh, I, R) = some (some (.inl (bI (alG false w f L k))), (sh, I', R)) ∧ FrA I I' := by
  have t9 := hX.1.1
  obtain ⟨r1, t1, l1⟩ := hX.g 23 408 30 (by decide)
  obtain ⟨r3, t3, l3⟩ := hX.g 25 410 30 (by decide)
  intro f
  induction f with
  | zero =>
    intro k I L hk hkl hW hL h
    have := hL.len
    omega
  | succ f ih =>
    intro k I L hk hkl hW hL h
    have h30 := hL.len
    have hcnt := h.1
    by_cases hkL : k < L.length
    · have hc : ¬ (L.length : Int) ≤ (k : Int) := by omega
      have hgt : L[k]? = some L[k] := List.getElem?_eq_getElem hkL
      have hbd := h.2.2.2 k _ hgt
      have hpl := hL.2.2 _ (List.getElem_mem hkL)
      have hsf : sfL L L[k].1 = L[k].2 := sfL_mem hL.1 (List.getElem_mem hkL)
      obtain ⟨i, ei, hi, hi0⟩ := liv_nat hpl.1
      obtain ⟨j, ej, hj, hj0⟩ := liv_nat hpl.2
      have v1 := h.2.1 i hi
      rw [ei] at hbd
      rw [ei, ej] at hsf
      rw [hsf] at v1
      obtain ⟨I1, e1, e2, e3⟩ := m_isLike (d := d) hX hw hi hj hi0 hj0 hW hL h
      have hal : alG false w (f + 1) L k = if lkB w (i : Int) (j : Int) = true then (if (prs false w (w.1 i).2.2.1 (w.1 j).2.2.1 L).1 = true then alG false w f (prs false w (w.1 i).2.2.1 (w.1 j).2.2.1 L).2 (k + 1) else false) else false := by
        show (match L[k]? with
          | none => true
          | some p => if (!false && !lkB w p.1 p.2) = true then false else if (prs false w (w.1 p.1.toNat).2.2.1 (w.1 p.2.toNat).2.2.1 L).1 = true then alG false w f (prs false w (w.1 p.1.toNat).2.2.1 (w.1 p.2.toNat).2.2.1 L).2 (k + 1) else false) = _
        rw [hgt]
        dsimp only
        rw [ei, ej, Int.toNat_natCast, Int.toNat_natCast]
        cases hk : lkB w (i : Int) (j : Int) with
        | true => rw [if_neg (by decide), if_pos rfl]
        | false => rw [if_pos (by decide), if_neg (by decide)]
      rw [hal]
      have hrs : ∀ (o : Nat) (ho : o < 30), ∀ r ∈ (w.1 o).2.2.1, livN w r := fun o ho r hr => by
        rcases (hw.1 o ho).2.2.2.2.2.2.2.2.2.2.2.1 r hr with q | ⟨b, rfl, hb, hbk⟩
        · exact Or.inl q
        · exact Or.inr (liv_of hb hbk)
      have hok1 := prs_ok (c := false) (w.1 i).2.2.1 (w.1 j).2.2.1 L hL (hrs i hi) (hrs j hj)
      have hpre := (prs_pre false w (w.1 i).2.2.1 (w.1 j).2.2.1 L).length_le
      clear hal
      have hfalse : cl (d + 2) 197 [.inr (.inl 392), .inl (i : Int), .inl (j : Int)] (sh, I, R) = some (some (.inl 0), (sh, I1, R)) → ∃ I', ev S0 (d + 2) 198 61 [.inr (.inl 392), a1, a2, .inl 1, .inl (k : Int)] [] (sh, I, R) = some (some (.inl (bI false)), (sh, I', R)) ∧ FrA I I' := by
        intro e1
        refine ⟨I1, ?_, e3⟩
        rw [u_198_61]
        simp (disch := first | assumption | omega | exact Nat.le_of_ble_eq_true rfl | decide) only [u_198_62, u_198_65, u_198_67, u_198_68, u_198_71, u_198_74, u_198_75, u_198_76, u_198_79, u_198_81, u_198_82, u_198_83, u_198_86, u_198_87, u_198_90, u_198_92, u_198_93, u_198_94, u_198_97, u_198_98, u_198_101, Int.reduceEq, if_false, hcnt, hc, r1, r3, rv_some, hbd, v1, e1, bnd_some, psh_some, wrI, n1]
        simp (disch := first | assumption | omega | exact Nat.le_of_ble_eq_true rfl | decide) only [u_198_61, u_198_62, u_198_104, u_198_105, u_198_108, u_198_109, u_198_112, u_198_113, if_true]
        rfl
      cases hk : lkB w (i : Int) (j : Int) with
      | false =>
        rw [hk, if_neg (by decide)] at e1
        rw [if_neg (by decide)]
        exact hfalse e1
      | true =>
        rw [hk, if_pos rfl] at e1
        rw [if_pos rfl]
        have e2 := e2 hk
        cases hb : (prs false w (w.1 i).2.2.1 (w.1 j).2.2.1 L).1 with
        | false =>
          rw [hb] at e1
          rw [if_neg (by decide)]
          exact hfalse e1
        | true =>
          rw [hb] at e1
          rw [if_pos rfl]
          have e1 : cl (d + 2) 197 [.inr (.inl 392), .inl (i : Int), .inl (j : Int)] (sh, I, R) = some (some (.inl 1), (sh, I1, R)) := e1
          obtain ⟨I', f1, f2⟩ := ih (k + 1) I1 _ (by omega) (by omega) (hW.cong (e3.1 _ (by decide) (by decide))) hok1 e2
          refine ⟨I', ?_, e3.tr f2⟩
          clear hfalse
          rw [u_198_61]
          simp (disch := first | assumption | omega | exact Nat.le_of_ble_eq_true rfl | decide) only [u_198_62, u_198_65, u_198_67, u_198_68, u_198_71, u_198_74, u_198_75, u_198_76, u_198_79, u_198_81, u_198_82, u_198_83, u_198_86, u_198_87, u_198_90, u_198_92, u_198_93, u_198_94, u_198_97, u_198_98, u_198_101, Int.reduceEq, if_false, hcnt, hc, r1, r3, rv_some, hbd, v1, e1, bnd_some, psh_some, wrI, n1, f1]
    · have hc : (L.length : Int) ≤ (k : Int) := by omega
      have hal : alG false w (f + 1) L k = true := by
        show (match L[k]? with
          | none => true
          | some p => if (!false && !lkB w p.1 p.2) = true then false else if (prs false w (w.1 p.1.toNat).2.2.1 (w.1 p.2.toNat).2.2.1 L).1 = true then alG false w f (prs false w (w.1 p.1.toNat).2.2.1 (w.1 p.2.toNat).2.2.1 L).2 (k + 1) else false) = _
        rw [List.getElem?_eq_none (by omega)]
      rw [hal]
      refine ⟨I, ?_, FrA.rf⟩
      simp (disch := first | assumption | omega | exact Nat.le_of_ble_eq_true rfl | decide) only [u_198_61, u_198_62, u_198_65, u_198_67, u_198_68, u_198_71, u_198_104, u_198_105, u_198_108, u_198_109, u_198_112, u_198_113, Int.reduceEq, if_false, hcnt, if_pos hc]
      rfl
theorem mcl_loop (hX : MX sh R) {a1 a2 a4 : AV} : ∀ (k j : Nat) (I : IM), j + k = 30 → (∀ i : Nat, i < j → I 408 (i : Int) = -1 ∧ I 409 (i : Int) = -1) → ∃ I', ev S0 d 198 20 [.inr (.inl 392), a1, a2, .inl (j : Int), a4] [] (sh, I, R) = ev S0 d 198 46 [.inr (.inl 392), a1, a2, .inl 30, a4] [] (sh, I', R) ∧ (∀ i : Nat, i < 30 → I' 408 (i : Int) = -1 ∧ I' 409 (i : Int) = -1) ∧ ∀ k, k ≠ 408 → k ≠ 409 → I' k = I k := by
  have t9 := hX.1.1
  obtain ⟨r1, t1, l1⟩ := hX.g 23 408 30 (by decide)
  obtain ⟨r2, t2, l2⟩ := hX.g 24 409 30 (by decide)
  intro k
  induction k with
  | zero =>
    intro j I hj h
    obtain rfl : j = 30 := by omega
    have hc : (30 : Int) ≤ 30 := by omega
    refine ⟨I, ?_, h, fun _ _ _ => rfl⟩
    simp (disch := first | assumption | omega | exact Nat.le_of_ble_eq_true rfl | decide) only [u_198_20, u_198_21, u_198_23, Int.cast_ofNat_Int, if_pos hc]
  | succ k ih =>
    intro j I hj h
    have hc : ¬ (30 : Int) ≤ (j : Int) := by omega
    obtain ⟨I', e1, e2, e3⟩ := ih (j + 1) (up (up I 408 (j : Int) (-1)) 409 (j : Int) (-1)) (by omega) (fun i hi => by
      by_cases hij : i = j
      · subst hij
        exact ⟨by rw [upk (by decide)]; exact ups, ups⟩
      · rw [upk (by decide), upj (by omega), upj (by omega), upk (by decide)]; exact h i (by omega))
    refine ⟨I', ?_, e2, fun k a b => by rw [e3 k a b, upf b, upf a]⟩
    rw [u_198_20]
    simp (disch := first | assumption | omega | exact Nat.le_of_ble_eq_true rfl | decide) only [u_198_21, u_198_23, u_198_26, u_198_27, u_198_30, u_198_31, u_198_32, u_198_33, u_198_34, u_198_37, u_198_38, u_198_39, u_198_40, u_198_43, hc, if_false, r1, r2, rv_some, wrI, n1, e1]
theorem MM_alike (hX : MX sh R) (hm : mR I s) (hs : okS s) : ME sh R I (d + 3) 198 [.inl o, .inl p] (b_alike s o p, s) := by
  have t9 := hX.1.1
  unfold b_alike
  by_cases hl : liv s.1 o
  · rw [if_neg (Classical.not_not.mpr hl)]
    have ho1 := fun dd => m_isObject (d := dd) (x := o) hX.1 hm.1
    simp only [if_pos hl] at ho1
    by_cases hp : liv s.1 p
    · rw [if_neg (Classical.not_not.mpr hp)]
      have ho2 := fun dd => m_isObject (d := dd) (x := p) hX.1 hm.1
      simp only [if_pos hp] at ho2
      obtain ⟨I1, e1, e2, e3⟩ := mcl_loop (d := d + 2) (a1 := .inl o) (a2 := .inl p) (a4 := .inr (.inr 1)) hX 30 0 I (by omega) (fun i hi => by omega)
      have hf1 : FrA I (up I1 392 26 0) := ⟨fun k a b => by rw [upf a, e3 k (by omega) (by omega)], fun z hz => by rw [upj hz, e3 _ (by decide) (by decide)]⟩
      have hmP : mP (up I1 392 26 0) [] := ⟨by rw [ups]; rfl, fun i hi => by rw [upk (by decide)]; exact (e2 i hi).1, fun i hi => by rw [upk (by decide)]; exact (e2 i hi).2, fun j p hp => by cases hp⟩
      have hokn : okL s.1 [] := ⟨List.nodup_nil, List.nodup_nil, fun p hp => by cases hp⟩
      obtain ⟨I2, f1, f2, f3⟩ := m_pairs (w := s.1) (d := d + 1) hX hokn hmP (Or.inr hl) (Or.inr hp)
      have ho1' : ¬ o = -1 := by have := hl.1; omega
      have hp1' : ¬ p = -1 := by have := hp.1; omega
      have hbd : bdp false s.1 [] o p = (true, [(o, p)]) := by
        unfold bdp
        rw [if_neg (by rw [not_or]; exact ⟨ho1', hp1'⟩), if_pos ⟨rfl, rfl⟩, if_neg (show ¬ (false && !lkB s.1 o p) = true by simp)]
        rfl
      rw [hbd] at f1 f2
      have f1 : cl (d + 2) 196 [.inr (.inl 392), .inl o, .inl p] (sh, up I1 392 26 0, R) = some (some (.inl 1), (sh, I2, R)) := f1
      have hok1 : okL s.1 [(o, p)] := ⟨by simp, by simp, fun q hq => by
        rw [List.mem_singleton] at hq
        rw [hq]; exact ⟨hl, hp⟩⟩
      have hf2 := hf1.tr f3
      obtain ⟨I3, g1, g2⟩ := mal_loop (d := d) (a1 := .inl o) (a2 := .inl p) hX hs.1 31 0 I2 [(o, p)] (by omega) (Nat.zero_le _) (hm.1.cong (hf2.1 _ (by decide) (by decide))) hok1 f2
      have hf3 := hf2.tr g2
      have e1 : ev S0 (d + 2) 198 20 [.inr (.inl 392), .inl o, .inl p, .inl 0, .inr (.inr 1)] [] (sh, I, R) = _ := e1
      have g1 : ev S0 (d + 2) 198 61 [.inr (.inl 392), .inl o, .inl p, .inl 1, .inl 0] [] (sh, I2, R) = _ := g1
      refine ⟨I3, ?_, hm.cong (fun k a b => hf3.1 k a (by unfold mscr at b; omega)) (hf3.2 _ (by decide)) (hf3.2 _ (by decide)), fun k hk => hf3.1 k (by omega) (by omega)⟩
      rw [c_198]
      simp (disch := first | assumption | omega | exact Nat.le_of_ble_eq_true rfl | decide) only [u_198_0, u_198_1, u_198_2, u_198_5, u_198_8, u_198_9, u_198_10, u_198_13, u_198_16, u_198_17, u_198_18, u_198_19, ho1, ho2, bnd_some, psh_some, Int.reduceEq, not_false_eq_true, if_true, if_false]
      rw [e1]
      simp (disch := first | assumption | omega | exact Nat.le_of_ble_eq_true rfl | decide) only [u_198_46, u_198_47, u_198_48, u_198_51, u_198_52, u_198_53, u_198_54, u_198_57, u_198_58, u_198_59, f1, bnd_some, psh_some]
      rw [g1]
    · rw [if_pos hp]
      refine ME.same hm ?_
      rw [c_198]
      simp (disch := first | assumption | omega | exact Nat.le_of_ble_eq_true rfl | decide) only [u_198_0, u_198_1, u_198_2, u_198_5, u_198_8, u_198_9, u_198_10, u_198_13, u_198_16, u_198_17, ho1, m_isObject hX.1 hm.1, if_neg hp, bnd_some, psh_some, Int.reduceEq, not_true, if_false]
  · rw [if_pos hl]
    refine ME.same hm ?_
    rw [c_198]
    simp (disch := first | assumption | omega | exact Nat.le_of_ble_eq_true rfl | decide) only [u_198_0, u_198_1, u_198_2, u_198_5, u_198_8, u_198_9, u_198_10, u_198_13, u_198_16, u_198_17, m_isObject hX.1 hm.1, if_neg hl, bnd_some, psh_some, if_true]
end MALK
