/-! THE MODEL: write, read, forget, graft, ref, of, name, copy -/
theorem nT2_eq {x : Int} (h : x = -1 ∨ 0 ≤ x) : nT2 x = nT x := by
  unfold nT2 nT
  rcases h with rfl | h
  · rfl
  · rw [if_neg (by omega), if_neg (by omega)]
theorem okN_ref {w : WD} {x : ND} (h : okN w x) {r : Int} (hr : r ∈ x.2.2.1) : r = -1 ∨ 0 ≤ r := by
  rcases h.2.2.2.2.2.2.2.2.2.2.2.1 r hr with q | ⟨i, q, -⟩
  · exact Or.inl q
  · exact Or.inr (by omega)
theorem holds_may {h k : Int} (hh : 0 ≤ h ∧ h ≤ 3) : holdsM h k = mayH 4 h k := by
  unfold holdsM mayH
  rw [if_neg (fun q : ¬ (4 : Int) = 4 => q rfl)]
  by_cases h0 : h = 0
  · rw [if_pos h0, if_pos h0]
  · rw [if_neg h0, if_neg h0]
    by_cases h1 : h = 1
    · rw [if_pos h1, h1]
      by_cases hk : k = 1
      · rw [if_pos hk, if_pos hk]
      · rw [if_neg hk, if_neg hk, if_pos (by decide)]
    · rw [if_neg h1]
      by_cases h2 : h = 2
      · rw [if_pos h2, h2]
        by_cases hk : k = 2
        · rw [if_pos (Or.inl hk), if_pos hk]
        · rw [if_neg hk, if_neg (fun q : ¬ (2 : Int) = 2 => q rfl)]
          by_cases hk3 : k = 3
          · rw [if_pos (Or.inr hk3), if_neg (fun q => q hk3)]
          · rw [if_neg (by omega), if_pos hk3]
      · rw [if_neg h2]
        obtain rfl : h = 3 := by omega
        by_cases hk3 : k = 3
        · rw [if_pos hk3, if_pos hk3]
        · rw [if_neg hk3, if_neg hk3, if_pos (by decide)]
theorem mFl_upd {I : IM} {o i : Nat} {L : FL} {n v : Int} {p : Int × Int} (h : mFl I 393 o L) (hL : L.length ≤ 6) (ho : o < 30) (hi : fidx L n = (i : Int)) (hp : L[i]? = some p) (hn : p.1 = n) : mFl (up I 393 (300 + 6 * (o : Int) + (i : Int)) v) 393 o (fupd L n v) := by
  refine ⟨?_, fun x q hq => ?_⟩
  · have := lenOf hp
    rw [upj (by omega), fupd_len]; exact h.1
  · have hlx := lenOf hq
    have hli := lenOf hp
    rw [fupd_len] at hlx
    rw [fupd_get L n v 0 i (by rw [Nat.zero_add]; exact hi)] at hq
    by_cases hx : x = i
    · subst hx
      rw [if_pos rfl, hp] at hq
      cases hq
      rw [upj (by omega), ups, (h.2 x p hp).1, hn]
      exact ⟨rfl, rfl⟩
    · rw [if_neg hx] at hq
      rw [upj (by omega), upj (by omega)]
      exact h.2 x q hq
section MODEL
variable {sh : Shp} {R : RM} {I : IM} {d : Nat} {w : WD} {k v n x y z o i to q : Int}
theorem M_write (hM : MS sh R) (h : isM I 393 w) (hw : okW w) : ∃ I', cl (d + 4) 155 [.inr (.inl 392), .inl o, .inl n, .inl v] (sh, I, R) = some (some (.inl (a_write w o n v).1), (sh, I', R)) ∧ isM I' 393 (a_write w o n v).2 ∧ Fr3 I I' := by
  obtain ⟨t, r, tg_, lg⟩ := id hM
  rw [c_155]
  unfold a_write
  by_cases hh : hasFl w o
  · rw [if_neg (Classical.not_not.mpr hh.1), if_neg hh.2]
    by_cases hnm : isNm n
    · rw [if_neg (Classical.not_not.mpr hnm)]
      by_cases hnu : isNu v
      · rw [if_neg (Classical.not_not.mpr hnu)]
        obtain ⟨hl, h4⟩ := id hh
        obtain ⟨o, rfl, ho, hk⟩ := liv_nat hl
        rw [Int.toNat_natCast] at h4 ⊢
        have hok := hw.1 o ho
        have h6 := hok.2.2.2.2.2.2.2.2.1
        have f1 := ((h.1 o ho).2 hk).2.2
        have hfo := m_fieldOf (d := d + 2) (n := n) hM ho f1 h6
        have f0 := f1.1
        rcases fidx_spec (w.1 o).2.2.2 n with ⟨q, q2, -⟩ | ⟨i, p, q, q2, q3, q4, q5⟩
        · rw [if_pos q, if_pos q]
          rw [q] at hfo
          have hlt : (-1 : Int) < 0 := by decide
          by_cases hl6 : (w.1 o).2.2.2.length < 6
          · rw [if_pos hl6, if_pos hl6]
            obtain ⟨I', g1, g2, g3⟩ := m_adds (d := d + 2) (n := n) (v := v) hM ho f1 hl6
            have hne : ¬ ((w.1 o).2.2.2.length : Int) = 6 := by omega
            refine ⟨I', ?_, isM_setF h hw ho hk g2 g3, g3.1⟩
            simp (disch := first | assumption | omega | exact Nat.le_of_ble_eq_true rfl | decide) only [u_155_0, u_155_1, u_155_2, u_155_5, u_155_8, u_155_9, u_155_12, u_155_15, u_155_16, u_155_19, u_155_22, u_155_24, u_155_25, u_155_26, u_155_27, u_155_28, u_155_31, u_155_33, u_155_35, u_155_38, u_155_39, u_155_42, u_155_45, u_155_47, u_155_48, u_155_49, u_155_50, u_155_52, u_155_53, u_155_54, u_155_56, u_155_57, u_155_60, u_155_63, u_155_65, u_155_66, u_155_67, u_155_68, u_155_70, u_155_71, u_155_72, u_155_73, u_155_75, u_155_76, u_155_77, u_155_80, u_155_82, u_155_83, u_155_84, u_155_85, u_155_87, u_155_90, u_155_92, u_155_93, u_155_94, u_155_95, u_155_96, u_155_97, u_155_100, u_155_101, m_hasF hM h, if_pos hh, m_isName, m_isNumber, if_pos hnm, if_pos hnu, bnd_some, psh_some, psh_none, Int.reduceEq, not_false_eq_true, if_false, if_true, hfo, hlt, r, rv_some, wrI, f0, hne, g1]
          · rw [if_neg hl6, if_neg hl6]
            have he : ((w.1 o).2.2.2.length : Int) = 6 := by omega
            refine ⟨I, ?_, isM_setF h hw ho hk f1 FrL.rf, fun _ _ => rfl⟩
            simp (disch := first | assumption | omega | exact Nat.le_of_ble_eq_true rfl | decide) only [u_155_0, u_155_1, u_155_2, u_155_5, u_155_8, u_155_9, u_155_12, u_155_15, u_155_16, u_155_19, u_155_22, u_155_24, u_155_25, u_155_26, u_155_27, u_155_28, u_155_31, u_155_33, u_155_35, u_155_38, u_155_39, u_155_42, u_155_45, u_155_47, u_155_48, u_155_49, u_155_50, u_155_52, u_155_53, u_155_54, u_155_56, u_155_57, u_155_60, u_155_63, u_155_65, u_155_66, u_155_67, u_155_68, u_155_70, u_155_71, u_155_72, u_155_73, u_155_75, u_155_76, u_155_77, u_155_80, u_155_82, u_155_83, u_155_84, u_155_85, u_155_87, u_155_90, u_155_92, u_155_93, u_155_94, u_155_95, u_155_96, u_155_97, u_155_100, u_155_101, m_hasF hM h, if_pos hh, m_isName, m_isNumber, if_pos hnm, if_pos hnu, bnd_some, psh_some, psh_none, Int.reduceEq, not_false_eq_true, not_true, if_false, if_true, hfo, hlt, r, rv_some, wrI, f0, he]
        · rw [if_neg (by omega), if_neg (by omega)]
          rw [q] at hfo
          have hlt : ¬ (i : Int) < 0 := by omega
          have fv := (f1.2 i p q3).2
          refine ⟨_, ?_, isM_setF h hw ho hk (mFl_upd (v := v) f1 h6 ho q q3 q4) ⟨fun k hk => upf hk, fun z hz => ?_⟩, fun k hk => upf hk⟩
          · simp (disch := first | assumption | omega | exact Nat.le_of_ble_eq_true rfl | decide) only [u_155_0, u_155_1, u_155_2, u_155_5, u_155_8, u_155_9, u_155_12, u_155_15, u_155_16, u_155_19, u_155_22, u_155_24, u_155_25, u_155_26, u_155_27, u_155_28, u_155_31, u_155_33, u_155_35, u_155_38, u_155_39, u_155_42, u_155_45, u_155_47, u_155_48, u_155_49, u_155_50, u_155_52, u_155_53, u_155_54, u_155_56, u_155_57, u_155_60, u_155_63, u_155_65, u_155_66, u_155_67, u_155_68, u_155_70, u_155_71, u_155_72, u_155_73, u_155_75, u_155_76, u_155_77, u_155_80, u_155_82, u_155_83, u_155_84, u_155_85, u_155_87, u_155_90, u_155_92, u_155_93, u_155_94, u_155_95, u_155_96, u_155_97, u_155_100, u_155_101, m_hasF hM h, if_pos hh, m_isName, m_isNumber, if_pos hnm, if_pos hnu, bnd_some, psh_some, psh_none, Int.reduceEq, not_false_eq_true, not_true, if_false, if_true, hfo, hlt, r, rv_some, wrI, fv, q5]
          · unfold fSlot at hz
            rw [upj (by omega)]
      · rw [if_pos hnu]
        refine ⟨I, ?_, h, fun _ _ => rfl⟩
        simp (disch := first | assumption | omega | exact Nat.le_of_ble_eq_true rfl | decide) only [u_155_0, u_155_1, u_155_2, u_155_5, u_155_8, u_155_9, u_155_12, u_155_15, u_155_16, u_155_19, u_155_22, u_155_24, u_155_25, u_155_26, u_155_27, u_155_28, u_155_31, u_155_33, u_155_35, u_155_38, u_155_39, u_155_42, u_155_45, u_155_47, u_155_48, u_155_49, u_155_50, u_155_52, u_155_53, u_155_54, u_155_56, u_155_57, u_155_60, u_155_63, u_155_65, u_155_66, u_155_67, u_155_68, u_155_70, u_155_71, u_155_72, u_155_73, u_155_75, u_155_76, u_155_77, u_155_80, u_155_82, u_155_83, u_155_84, u_155_85, u_155_87, u_155_90, u_155_92, u_155_93, u_155_94, u_155_95, u_155_96, u_155_97, u_155_100, u_155_101, m_hasF hM h, if_pos hh, m_isName, m_isNumber, if_pos hnm, if_neg hnu, bnd_some, psh_some, Int.reduceEq, not_true, if_false, if_true]
    · rw [if_pos hnm]
      refine ⟨I, ?_, h, fun _ _ => rfl⟩
      simp (disch := first | assumption | omega | exact Nat.le_of_ble_eq_true rfl | decide) only [u_155_0, u_155_1, u_155_2, u_155_5, u_155_8, u_155_9, u_155_12, u_155_15, u_155_16, u_155_19, u_155_22, u_155_24, u_155_25, u_155_26, u_155_27, u_155_28, u_155_31, u_155_33, u_155_35, u_155_38, u_155_39, u_155_42, u_155_45, u_155_47, u_155_48, u_155_49, u_155_50, u_155_52, u_155_53, u_155_54, u_155_56, u_155_57, u_155_60, u_155_63, u_155_65, u_155_66, u_155_67, u_155_68, u_155_70, u_155_71, u_155_72, u_155_73, u_155_75, u_155_76, u_155_77, u_155_80, u_155_82, u_155_83, u_155_84, u_155_85, u_155_87, u_155_90, u_155_92, u_155_93, u_155_94, u_155_95, u_155_96, u_155_97, u_155_100, u_155_101, m_hasF hM h, if_pos hh, m_isName, m_isNumber, if_neg hnm, bnd_some, psh_some, Int.reduceEq, not_true, if_false, if_true]
  · have e : (if ¬ liv w o then ((-2000000000 : Int), w) else if (w.1 o.toNat).1 = 4 then (-2000000000, w) else if ¬ isNm n then (-2000000000, w) else if ¬ isNu v then (-2000000000, w) else (if fidx (w.1 o.toNat).2.2.2 n = -1 then (if (w.1 o.toNat).2.2.2.length < 6 then 0 else -2000000000) else fnum (w.1 o.toNat).2.2.2 n, setN w o.toNat (setF (w.1 o.toNat) (if fidx (w.1 o.toNat).2.2.2 n = -1 then (if (w.1 o.toNat).2.2.2.length < 6 then (w.1 o.toNat).2.2.2 ++ [(n, v)] else (w.1 o.toNat).2.2.2) else fupd (w.1 o.toNat).2.2.2 n v)))) = (-2000000000, w) := by
      by_cases hl : liv w o
      · rw [if_neg (Classical.not_not.mpr hl), if_pos (Classical.byContradiction (fun q => hh ⟨hl, q⟩))]
      · rw [if_pos hl]
    rw [e]
    refine ⟨I, ?_, h, fun _ _ => rfl⟩
    simp (disch := first | assumption | omega | exact Nat.le_of_ble_eq_true rfl | decide) only [u_155_0, u_155_1, u_155_2, u_155_5, u_155_8, u_155_9, u_155_12, u_155_15, u_155_16, u_155_19, u_155_22, u_155_24, u_155_25, u_155_26, u_155_27, u_155_28, u_155_31, u_155_33, u_155_35, u_155_38, u_155_39, u_155_42, u_155_45, u_155_47, u_155_48, u_155_49, u_155_50, u_155_52, u_155_53, u_155_54, u_155_56, u_155_57, u_155_60, u_155_63, u_155_65, u_155_66, u_155_67, u_155_68, u_155_70, u_155_71, u_155_72, u_155_73, u_155_75, u_155_76, u_155_77, u_155_80, u_155_82, u_155_83, u_155_84, u_155_85, u_155_87, u_155_90, u_155_92, u_155_93, u_155_94, u_155_95, u_155_96, u_155_97, u_155_100, u_155_101, m_hasF hM h, if_neg hh, bnd_some, psh_some, if_true]
theorem M_read (hM : MS sh R) (h : isM I 393 w) (hw : okW w) : cl (d + 4) 156 [.inr (.inl 392), .inl o, .inl n] (sh, I, R) = some (some (.inl (a_read w o n)), (sh, I, R)) := by
  obtain ⟨t, r, tg_, lg⟩ := id hM
  rw [c_156]
  unfold a_read
  by_cases hl : liv w o
  · rw [if_neg (Classical.not_not.mpr hl)]
    obtain ⟨o, rfl, ho, hk⟩ := liv_nat hl
    rw [Int.toNat_natCast]
    have hok := hw.1 o ho
    by_cases h4 : (w.1 o).1 = 4
    · have hh : ¬ hasFl w (o : Int) := fun q => q.2 (by rw [Int.toNat_natCast]; exact h4)
      rw [hok.2.2.2.2.2.2.1 h4]
      simp (disch := first | assumption | omega | exact Nat.le_of_ble_eq_true rfl | decide) only [u_156_0, u_156_1, u_156_2, u_156_5, u_156_8, u_156_10, u_156_11, u_156_12, u_156_13, u_156_14, u_156_17, u_156_18, u_156_19, u_156_22, u_156_24, u_156_27, u_156_28, u_156_31, u_156_34, u_156_36, u_156_37, u_156_38, u_156_39, u_156_40, u_156_41, u_156_42, m_hasF hM h, if_neg hh, bnd_some, psh_some, not_true, if_false, fnum]
    · have hh : hasFl w (o : Int) := ⟨hl, by rw [Int.toNat_natCast]; exact h4⟩
      have h6 := hok.2.2.2.2.2.2.2.2.1
      have f1 := ((h.1 o ho).2 hk).2.2
      have hfo := m_fieldOf (d := d + 2) (n := n) hM ho f1 h6
      rcases fidx_spec (w.1 o).2.2.2 n with ⟨q, q2, -⟩ | ⟨i, p, q, q2, q3, q4, q5⟩
      · rw [q] at hfo
        have hlt : ¬ (0 : Int) ≤ -1 := by decide
        simp (disch := first | assumption | omega | exact Nat.le_of_ble_eq_true rfl | decide) only [u_156_0, u_156_1, u_156_2, u_156_5, u_156_8, u_156_10, u_156_11, u_156_12, u_156_13, u_156_14, u_156_17, u_156_18, u_156_19, u_156_22, u_156_24, u_156_27, u_156_28, u_156_31, u_156_34, u_156_36, u_156_37, u_156_38, u_156_39, u_156_40, u_156_41, u_156_42, m_hasF hM h, if_pos hh, bnd_some, psh_some, Int.reduceEq, not_false_eq_true, if_true, if_false, hfo, hlt, q2]
      · rw [q] at hfo
        have hlt : (0 : Int) ≤ (i : Int) := by omega
        have fv := (f1.2 i p q3).2
        simp (disch := first | assumption | omega | exact Nat.le_of_ble_eq_true rfl | decide) only [u_156_0, u_156_1, u_156_2, u_156_5, u_156_8, u_156_10, u_156_11, u_156_12, u_156_13, u_156_14, u_156_17, u_156_18, u_156_19, u_156_22, u_156_24, u_156_27, u_156_28, u_156_31, u_156_34, u_156_36, u_156_37, u_156_38, u_156_39, u_156_40, u_156_41, u_156_42, m_hasF hM h, if_pos hh, bnd_some, psh_some, Int.reduceEq, not_false_eq_true, if_true, if_false, hfo, hlt, r, rv_some, wrI, fv, q5]
  · rw [if_pos hl]
    have hh : ¬ hasFl w o := fun q => hl q.1
    simp (disch := first | assumption | omega | exact Nat.le_of_ble_eq_true rfl | decide) only [u_156_0, u_156_1, u_156_2, u_156_5, u_156_8, u_156_10, u_156_11, u_156_12, u_156_13, u_156_14, u_156_17, u_156_18, u_156_19, u_156_22, u_156_24, u_156_27, u_156_28, u_156_31, u_156_34, u_156_36, u_156_37, u_156_38, u_156_39, u_156_40, u_156_41, u_156_42, m_hasF hM h, if_neg hh, bnd_some, psh_some, not_true, if_false]
theorem forget_loop (hM : MS sh R) {o : Nat} (ho : o < 30) {L : FL} (hL : L.length ≤ 6) {s i0 : Nat} (hs : s + 1 = L.length) (hi0 : i0 ≤ s) {a2 a3 : AV} : ∀ (k j : Nat) (I : IM), j + k = s → i0 ≤ j → I 393 (90 + (o : Int)) = (s : Int) → (∀ (x : Nat) p, x < i0 ∨ j ≤ x → L[x]? = some p → I 393 (120 + 6 * (o : Int) + (x : Int)) = p.1 ∧ I 393 (300 + 6 * (o : Int) + (x : Int)) = p.2) → (∀ (x : Nat) p, i0 ≤ x → x < j → L[x + 1]? = some p → I 393 (120 + 6 * (o : Int) + (x : Int)) = p.1 ∧ I 393 (300 + 6 * (o : Int) + (x : Int)) = p.2) → ∃ I', ev S0 d 157 62 [.inr (.inl 392), .inl (o : Int), a2, a3, .inl (j : Int)] [] (sh, I, R) = some (some (.inl (s : Int)), (sh, I', R)) ∧ mFl I' 393 o (L.eraseIdx i0) ∧ FrL o I I' := by
  obtain ⟨t, r, tg_, lg⟩ := id hM
  intro k
  induction k with
  | zero =>
    intro j I hj hij h3 hA hB
    refine ⟨I, ?_, ⟨?_, fun x p hp => ?_⟩, FrL.rf⟩
    · have hc : (s : Int) ≤ (j : Int) := by omega
      simp (disch := first | assumption | omega | exact Nat.le_of_ble_eq_true rfl | decide) only [u_157_62, u_157_64, u_157_65, u_157_68, u_157_70, u_157_71, u_157_72, u_157_73, u_157_148, u_157_149, u_157_152, u_157_154, u_157_155, u_157_156, u_157_157, r, rv_some, wrI, h3, hc, if_true]
    · rw [h3, List.length_eraseIdx, if_pos (by omega)]
      omega
    · rw [List.getElem?_eraseIdx] at hp
      split at hp
      next hx => exact hA x p (Or.inl hx) hp
      next hx =>
        have := (List.getElem?_eq_some_iff.mp hp).1
        exact hB x p (by omega) (by omega) hp
  | succ k ih =>
    intro j I hj hij h3 hA hB
    have hc : ¬ (s : Int) ≤ (j : Int) := by omega
    have hj1 : j + 1 < L.length := by omega
    have hv := hA (j + 1) L[j + 1] (Or.inr (by omega)) (List.getElem?_eq_getElem hj1)
    have hv1 : I 393 (120 + 6 * (o : Int) + (j : Int) + 1) = (L[j + 1]).1 := by rw [← hv.1]; congr 1
    have hv2 : I 393 (300 + 6 * (o : Int) + (j : Int) + 1) = (L[j + 1]).2 := by rw [← hv.2]; congr 1
    obtain ⟨I', h4, h5, h7⟩ := ih (j + 1) (up (up I 393 (120 + 6 * (o : Int) + (j : Int)) (L[j + 1]).1) 393 (300 + 6 * (o : Int) + (j : Int)) (L[j + 1]).2) (by omega) (by omega) (by rw [upj (by omega), upj (by omega)]; exact h3) (fun x p hx hp => by
      have := lenOf hp
      rw [upj (by omega), upj (by omega), upj (by omega), upj (by omega)]
      exact hA x p (by omega) hp) (fun x p hx1 hx2 hp => by
      have := lenOf hp
      by_cases hxj : x = j
      · subst hxj
        rw [List.getElem?_eq_getElem hj1] at hp
        cases hp
        rw [upj (by omega), ups, ups]
        exact ⟨rfl, rfl⟩
      · rw [upj (by omega), upj (by omega), upj (by omega), upj (by omega)]
        exact hB x p hx1 (by omega) hp)
    refine ⟨I', ?_, h5, FrL.tr ⟨fun k a => by rw [upf a, upf a], fun z hz => by unfold fSlot at hz; rw [upj (by omega), upj (by omega)]⟩ h7⟩
    rw [u_157_62]
    simp (disch := first | assumption | omega | exact Nat.le_of_ble_eq_true rfl | decide) only [u_157_64, u_157_65, u_157_68, u_157_70, u_157_71, u_157_72, u_157_73, u_157_76, u_157_77, u_157_80, u_157_82, u_157_84, u_157_85, u_157_86, u_157_87, u_157_89, u_157_90, u_157_91, u_157_94, u_157_96, u_157_98, u_157_99, u_157_100, u_157_101, u_157_103, u_157_104, u_157_105, u_157_106, u_157_107, u_157_108, u_157_109, u_157_112, u_157_115, u_157_117, u_157_118, u_157_119, u_157_120, u_157_122, u_157_123, u_157_124, u_157_127, u_157_130, u_157_132, u_157_133, u_157_134, u_157_135, u_157_137, u_157_138, u_157_139, u_157_140, u_157_141, u_157_142, u_157_145, r, rv_some, wrI, h3, hc, if_false, hv1, upj, hv2, n1, h4]
theorem M_forget (hM : MS sh R) (h : isM I 393 w) (hw : okW w) : ∃ I', cl (d + 4) 157 [.inr (.inl 392), .inl o, .inl n] (sh, I, R) = some (some (.inl (a_forget w o n).1), (sh, I', R)) ∧ isM I' 393 (a_forget w o n).2 ∧ Fr3 I I' := by
  obtain ⟨t, r, tg_, lg⟩ := id hM
  rw [c_157]
  unfold a_forget
  by_cases hl : liv w o
  · rw [if_neg (Classical.not_not.mpr hl)]
    by_cases hnm : isNm n
    · rw [if_neg (Classical.not_not.mpr hnm)]
      obtain ⟨o, rfl, ho, hk⟩ := liv_nat hl
      rw [Int.toNat_natCast]
      have hok := hw.1 o ho
      have hk1 := (h.1 o ho).1
      by_cases h4 : (w.1 o).1 = 4
      · rw [if_pos h4]
        refine ⟨I, ?_, h, fun _ _ => rfl⟩
        simp (disch := first | assumption | omega | exact Nat.le_of_ble_eq_true rfl | decide) only [u_157_0, u_157_1, u_157_2, u_157_5, u_157_8, u_157_9, u_157_12, u_157_15, u_157_16, u_157_17, u_157_18, u_157_21, u_157_22, u_157_23, u_157_24, u_157_25, u_157_26, u_157_29, u_157_31, u_157_32, u_157_33, u_157_34, u_157_35, u_157_38, u_157_39, u_157_40, u_157_43, u_157_45, u_157_46, u_157_47, u_157_50, u_157_52, u_157_53, u_157_54, u_157_55, u_157_56, u_157_57, u_157_58, u_157_59, u_157_60, m_isObject hM h, if_pos hl, m_isName, if_pos hnm, bnd_some, psh_some, Int.reduceEq, not_false_eq_true, not_true, if_true, if_false, r, rv_some, wrI, Int.zero_add, hk1, h4]
      · rw [if_neg h4]
        have h6 := hok.2.2.2.2.2.2.2.2.1
        have f1 := ((h.1 o ho).2 hk).2.2
        have hfo := m_fieldOf (d := d + 2) (n := n) hM ho f1 h6
        rcases fidx_spec (w.1 o).2.2.2 n with ⟨q, q2, -⟩ | ⟨i, p, q, q2, q3, q4, q5⟩
        · rw [if_pos q]
          rw [q] at hfo
          have hlt : ¬ (0 : Int) ≤ -1 := by decide
          refine ⟨I, ?_, h, fun _ _ => rfl⟩
          simp (disch := first | assumption | omega | exact Nat.le_of_ble_eq_true rfl | decide) only [u_157_0, u_157_1, u_157_2, u_157_5, u_157_8, u_157_9, u_157_12, u_157_15, u_157_16, u_157_17, u_157_18, u_157_21, u_157_22, u_157_23, u_157_24, u_157_25, u_157_26, u_157_29, u_157_31, u_157_32, u_157_33, u_157_34, u_157_35, u_157_38, u_157_39, u_157_40, u_157_43, u_157_45, u_157_46, u_157_47, u_157_50, u_157_52, u_157_53, u_157_54, u_157_55, u_157_56, u_157_57, u_157_58, u_157_59, u_157_60, m_isObject hM h, if_pos hl, m_isName, if_pos hnm, bnd_some, psh_some, Int.reduceEq, not_false_eq_true, not_true, if_true, if_false, r, rv_some, wrI, Int.zero_add, hk1, h4, hfo, hlt]
        · rw [if_neg (by omega)]
          rw [q] at hfo
          have hlt : (0 : Int) ≤ (i : Int) := by omega
          have f0 := f1.1
          have hw1 : ((w.1 o).2.2.2.length : Int) - 1 = (((w.1 o).2.2.2.length - 1 : Nat) : Int) := by omega
          obtain ⟨I', g1, g2, g3⟩ := forget_loop (d := d + 3) (a2 := .inl n) (a3 := .inl (i : Int)) hM ho h6 (s := (w.1 o).2.2.2.length - 1) (i0 := i) (by omega) (by omega) ((w.1 o).2.2.2.length - 1 - i) i (up I 393 (90 + (o : Int)) (((w.1 o).2.2.2.length - 1 : Nat) : Int)) (by omega) (by omega) ups (fun x q _ hq => by
            have := lenOf hq
            rw [upj (by omega), upj (by omega)]
            exact f1.2 x q hq) (fun x q hx1 hx2 _ => by omega)
          rw [← frem_eq (w.1 o).2.2.2 n 0 i (by rw [Nat.zero_add]; exact q)] at g2
          have g3' := FrL.tr (⟨fun k a => upf a, fun z hz => by unfold fSlot at hz; rw [upj (by omega)]⟩ : FrL o I (up I 393 (90 + (o : Int)) (((w.1 o).2.2.2.length - 1 : Nat) : Int))) g3
          refine ⟨I', ?_, isM_setF h hw ho hk g2 g3', g3'.1⟩
          simp (disch := first | assumption | omega | exact Nat.le_of_ble_eq_true rfl | decide) only [u_157_0, u_157_1, u_157_2, u_157_5, u_157_8, u_157_9, u_157_12, u_157_15, u_157_16, u_157_17, u_157_18, u_157_21, u_157_22, u_157_23, u_157_24, u_157_25, u_157_26, u_157_29, u_157_31, u_157_32, u_157_33, u_157_34, u_157_35, u_157_38, u_157_39, u_157_40, u_157_43, u_157_45, u_157_46, u_157_47, u_157_50, u_157_52, u_157_53, u_157_54, u_157_55, u_157_56, u_157_57, u_157_58, u_157_59, u_157_60, m_isObject hM h, if_pos hl, m_isName, if_pos hnm, bnd_some, psh_some, Int.reduceEq, not_false_eq_true, not_true, if_true, if_false, r, rv_some, wrI, Int.zero_add, hk1, h4, hfo, hlt, f0, hw1, g1]
    · rw [if_pos hnm]
      refine ⟨I, ?_, h, fun _ _ => rfl⟩
      simp (disch := first | assumption | omega | exact Nat.le_of_ble_eq_true rfl | decide) only [u_157_0, u_157_1, u_157_2, u_157_5, u_157_8, u_157_9, u_157_12, u_157_15, u_157_16, u_157_17, u_157_18, u_157_21, u_157_22, u_157_23, u_157_24, u_157_25, u_157_26, u_157_29, u_157_31, u_157_32, u_157_33, u_157_34, u_157_35, u_157_38, u_157_39, u_157_40, u_157_43, u_157_45, u_157_46, u_157_47, u_157_50, u_157_52, u_157_53, u_157_54, u_157_55, u_157_56, u_157_57, u_157_58, u_157_59, u_157_60, m_isObject hM h, if_pos hl, m_isName, if_neg hnm, bnd_some, psh_some, Int.reduceEq, not_true, if_true, if_false]
  · rw [if_pos hl]
    refine ⟨I, ?_, h, fun _ _ => rfl⟩
    simp (disch := first | assumption | omega | exact Nat.le_of_ble_eq_true rfl | decide) only [u_157_0, u_157_1, u_157_2, u_157_5, u_157_8, u_157_9, u_157_12, u_157_15, u_157_16, u_157_17, u_157_18, u_157_21, u_157_22, u_157_23, u_157_24, u_157_25, u_157_26, u_157_29, u_157_31, u_157_32, u_157_33, u_157_34, u_157_35, u_157_38, u_157_39, u_157_40, u_157_43, u_157_45, u_157_46, u_157_47, u_157_50, u_157_52, u_157_53, u_157_54, u_157_55, u_157_56, u_157_57, u_157_58, u_157_59, u_157_60, m_isObject hM h, if_neg hl, bnd_some, psh_some, if_true]
theorem mRf_set {I : IM} {o j : Nat} {rs : List Int} {r : Int} (h : mRf I 393 o rs) (h6 : rs.length ≤ 6) (ho : o < 30) (hj : j < rs.length) : mRf (up I 393 (480 + 6 * (o : Int) + (j : Int)) r) 393 o (rs.set j r) := by
  refine ⟨?_, fun x q hq => ?_⟩
  · rw [upj (by omega), List.length_set]; exact h.1
  · rw [List.getElem?_set] at hq
    by_cases hx : j = x
    · subst hx
      rw [if_pos rfl, if_pos hj] at hq
      cases hq
      exact ups
    · rw [if_neg hx] at hq
      rw [upj (by omega)]
      exact h.2 x q hq
theorem isM_setR {I : IM} {o j : Nat} {w : WD} {r : Int} (h : isM I 393 w) (hw : okW w) (ho : o < 30) (hk : (w.1 o).1 ≠ 0) (hj : j < (w.1 o).2.2.1.length) : isM (up I 393 (480 + 6 * (o : Int) + (j : Int)) r) 393 (setN w o (setR (w.1 o) ((w.1 o).2.2.1.set j r))) := by
  have hn := h.1 o ho
  have hok := hw.1 o ho
  have h6 := hok.2.2.2.2.2.2.2.1
  have h6' := hok.2.2.2.2.2.2.2.2.1
  obtain ⟨n1, n2, n3⟩ := hn.2 hk
  refine isM_setN h hw ho ⟨?_, fun _ => ⟨?_, mRf_set n2 h6 ho hj, ⟨?_, fun j q hq => ?_⟩⟩⟩ (fun z hz => ?_)
  · rw [upj (by omega)]; exact hn.1
  · rw [upj (by omega)]; exact n1
  · rw [upj (by omega)]; exact n3.1
  · have := lenOf hq
    have : j < (w.1 o).2.2.2.length := this
    rw [upj (by omega), upj (by omega)]; exact n3.2 j q hq
  · unfold nSlot at hz
    rw [upj (by omega)]
theorem M_graft (hM : MS sh R) (h : isM I 393 w) (hw : okW w) : ∃ I', cl (d + 4) 158 [.inr (.inl 392), .inl o, .inl i, .inl to] (sh, I, R) = some (some (.inl (a_graft w o i to).1), (sh, I', R)) ∧ isM I' 393 (a_graft w o i to).2 ∧ Fr3 I I' := by
  obtain ⟨t, r, tg_, lg⟩ := id hM
  rw [c_158]
  unfold a_graft
  by_cases hl : liv w o
  · rw [if_neg (Classical.not_not.mpr hl)]
    by_cases hto : livN w to
    · rw [if_neg (Classical.not_not.mpr hto)]
      obtain ⟨o, rfl, ho, hk⟩ := liv_nat hl
      rw [Int.toNat_natCast]
      have hok := hw.1 o ho
      have hk1 := (h.1 o ho).1
      obtain ⟨n1_, n2, n3⟩ := (h.1 o ho).2 hk
      have n20 := n2.1
      have h6 := hok.2.2.2.2.2.2.2.1
      by_cases hi : 0 ≤ i ∧ i < ((w.1 o).2.2.1.length : Int)
      · rw [if_neg (Classical.not_not.mpr hi)]
        have hi2 : 0 ≤ i ∧ i ≤ ((w.1 o).2.2.1.length : Int) - 1 := by omega
        obtain ⟨i, rfl⟩ : ∃ i' : Nat, i = (i' : Int) := ⟨i.toNat, by omega⟩
        have hil : i < (w.1 o).2.2.1.length := by omega
        rw [Int.toNat_natCast, getD_at hil]
        have hrv := n2.at hil
        have hnt := nT2_eq (okN_ref hok (List.getElem_mem hil))
        have hro := m_refOf (I := I) (d := d + 2) (i := i) hM ho (by omega)
        rw [hrv] at hro
        have fin : isM (up I 393 (480 + 6 * (o : Int) + (i : Int)) to) 393 (setN w o (setR (w.1 o) ((w.1 o).2.2.1.set i to))) := isM_setR h hw ho hk hil
        by_cases ht : to = -1
        · rw [if_neg (fun q => q.1 ht)]
          have hlt : to < 0 := by omega
          refine ⟨_, ?_, fin, fun k hk => upf hk⟩
          simp (disch := first | assumption | omega | exact Nat.le_of_ble_eq_true rfl | decide) only [u_158_0, u_158_1, u_158_2, u_158_5, u_158_8, u_158_9, u_158_10, u_158_13, u_158_16, u_158_17, u_158_18, u_158_19, u_158_20, u_158_21, u_158_24, u_158_26, u_158_27, u_158_28, u_158_29, u_158_30, u_158_31, u_158_34, u_158_37, u_158_39, u_158_40, u_158_41, u_158_44, u_158_45, u_158_48, u_158_49, u_158_50, u_158_51, u_158_52, u_158_53, u_158_56, u_158_57, u_158_58, u_158_59, u_158_62, u_158_65, u_158_67, u_158_68, u_158_69, u_158_70, u_158_71, u_158_74, u_158_76, u_158_77, u_158_80, u_158_83, u_158_85, u_158_86, u_158_87, u_158_88, u_158_89, u_158_90, u_158_91, u_158_92, u_158_94, u_158_97, m_isObject hM h, if_pos hl, m_oon hM h, if_pos hto, bnd_some, psh_some, Int.reduceEq, not_false_eq_true, not_true, if_true, if_false, r, rv_some, wrI, n20, m_in, if_pos hi2, hlt, hro, m_told, hnt]
        · have htl : liv w to := hto.resolve_left ht
          obtain ⟨b, rfl, hb, hbk⟩ := liv_nat htl
          have hb1 := (h.1 b hb).1
          rw [Int.toNat_natCast]
          have hlt : ¬ (b : Int) < 0 := by omega
          by_cases h4 : (w.1 o).1 = 4
          · have hho := m_holds (I := I) (d := d + 2) hM ho hb
            rw [n1_, hb1, holds_may ⟨hok.2.2.2.2.2.2.2.2.2.1, hok.2.2.2.2.2.2.2.2.2.2.1⟩, ← h4] at hho
            rcases mayH_01 (w.1 o).1 (w.1 o).2.1 (w.1 b).1 with hm | hm
            · rw [if_pos ⟨ht, hm⟩]
              rw [hm] at hho
              refine ⟨I, ?_, h, fun _ _ => rfl⟩
              simp (disch := first | assumption | omega | exact Nat.le_of_ble_eq_true rfl | decide) only [u_158_0, u_158_1, u_158_2, u_158_5, u_158_8, u_158_9, u_158_10, u_158_13, u_158_16, u_158_17, u_158_18, u_158_19, u_158_20, u_158_21, u_158_24, u_158_26, u_158_27, u_158_28, u_158_29, u_158_30, u_158_31, u_158_34, u_158_37, u_158_39, u_158_40, u_158_41, u_158_44, u_158_45, u_158_48, u_158_49, u_158_50, u_158_51, u_158_52, u_158_53, u_158_56, u_158_57, u_158_58, u_158_59, u_158_62, u_158_65, u_158_67, u_158_68, u_158_69, u_158_70, u_158_71, u_158_74, u_158_76, u_158_77, u_158_80, u_158_83, u_158_85, u_158_86, u_158_87, u_158_88, u_158_89, u_158_90, u_158_91, u_158_92, u_158_94, u_158_97, m_isObject hM h, if_pos hl, m_oon hM h, if_pos hto, bnd_some, psh_some, Int.reduceEq, not_false_eq_true, not_true, if_true, if_false, r, rv_some, wrI, Int.zero_add, n20, m_in, if_pos hi2, hlt, hk1, h4, hho]
            · rw [if_neg (fun q => by rw [hm] at q; exact absurd q.2 (by decide))]
              rw [hm] at hho
              refine ⟨_, ?_, fin, fun k hk => upf hk⟩
              simp (disch := first | assumption | omega | exact Nat.le_of_ble_eq_true rfl | decide) only [u_158_0, u_158_1, u_158_2, u_158_5, u_158_8, u_158_9, u_158_10, u_158_13, u_158_16, u_158_17, u_158_18, u_158_19, u_158_20, u_158_21, u_158_24, u_158_26, u_158_27, u_158_28, u_158_29, u_158_30, u_158_31, u_158_34, u_158_37, u_158_39, u_158_40, u_158_41, u_158_44, u_158_45, u_158_48, u_158_49, u_158_50, u_158_51, u_158_52, u_158_53, u_158_56, u_158_57, u_158_58, u_158_59, u_158_62, u_158_65, u_158_67, u_158_68, u_158_69, u_158_70, u_158_71, u_158_74, u_158_76, u_158_77, u_158_80, u_158_83, u_158_85, u_158_86, u_158_87, u_158_88, u_158_89, u_158_90, u_158_91, u_158_92, u_158_94, u_158_97, m_isObject hM h, if_pos hl, m_oon hM h, if_pos hto, bnd_some, psh_some, Int.reduceEq, not_false_eq_true, not_true, if_true, if_false, r, rv_some, wrI, Int.zero_add, n20, m_in, if_pos hi2, hlt, hk1, h4, hho, hro, m_told, hnt]
          · rw [if_neg (fun q => by unfold mayH at q; rw [if_pos h4] at q; exact absurd q.2 (by decide))]
            refine ⟨_, ?_, fin, fun k hk => upf hk⟩
            simp (disch := first | assumption | omega | exact Nat.le_of_ble_eq_true rfl | decide) only [u_158_0, u_158_1, u_158_2, u_158_5, u_158_8, u_158_9, u_158_10, u_158_13, u_158_16, u_158_17, u_158_18, u_158_19, u_158_20, u_158_21, u_158_24, u_158_26, u_158_27, u_158_28, u_158_29, u_158_30, u_158_31, u_158_34, u_158_37, u_158_39, u_158_40, u_158_41, u_158_44, u_158_45, u_158_48, u_158_49, u_158_50, u_158_51, u_158_52, u_158_53, u_158_56, u_158_57, u_158_58, u_158_59, u_158_62, u_158_65, u_158_67, u_158_68, u_158_69, u_158_70, u_158_71, u_158_74, u_158_76, u_158_77, u_158_80, u_158_83, u_158_85, u_158_86, u_158_87, u_158_88, u_158_89, u_158_90, u_158_91, u_158_92, u_158_94, u_158_97, m_isObject hM h, if_pos hl, m_oon hM h, if_pos hto, bnd_some, psh_some, Int.reduceEq, not_false_eq_true, not_true, if_true, if_false, r, rv_some, wrI, Int.zero_add, n20, m_in, if_pos hi2, hlt, hk1, h4, hro, m_told, hnt]
      · rw [if_pos hi]
        have hi2 : ¬ (0 ≤ i ∧ i ≤ ((w.1 o).2.2.1.length : Int) - 1) := by omega
        refine ⟨I, ?_, h, fun _ _ => rfl⟩
        simp (disch := first | assumption | omega | exact Nat.le_of_ble_eq_true rfl | decide) only [u_158_0, u_158_1, u_158_2, u_158_5, u_158_8, u_158_9, u_158_10, u_158_13, u_158_16, u_158_17, u_158_18, u_158_19, u_158_20, u_158_21, u_158_24, u_158_26, u_158_27, u_158_28, u_158_29, u_158_30, u_158_31, u_158_34, u_158_37, u_158_39, u_158_40, u_158_41, u_158_44, u_158_45, u_158_48, u_158_49, u_158_50, u_158_51, u_158_52, u_158_53, u_158_56, u_158_57, u_158_58, u_158_59, u_158_62, u_158_65, u_158_67, u_158_68, u_158_69, u_158_70, u_158_71, u_158_74, u_158_76, u_158_77, u_158_80, u_158_83, u_158_85, u_158_86, u_158_87, u_158_88, u_158_89, u_158_90, u_158_91, u_158_92, u_158_94, u_158_97, m_isObject hM h, if_pos hl, m_oon hM h, if_pos hto, bnd_some, psh_some, Int.reduceEq, not_false_eq_true, not_true, if_true, if_false, r, rv_some, wrI, n20, m_in, if_neg hi2]
    · rw [if_pos hto]
      refine ⟨I, ?_, h, fun _ _ => rfl⟩
      simp (disch := first | assumption | omega | exact Nat.le_of_ble_eq_true rfl | decide) only [u_158_0, u_158_1, u_158_2, u_158_5, u_158_8, u_158_9, u_158_10, u_158_13, u_158_16, u_158_17, u_158_18, u_158_19, u_158_20, u_158_21, u_158_24, u_158_26, u_158_27, u_158_28, u_158_29, u_158_30, u_158_31, u_158_34, u_158_37, u_158_39, u_158_40, u_158_41, u_158_44, u_158_45, u_158_48, u_158_49, u_158_50, u_158_51, u_158_52, u_158_53, u_158_56, u_158_57, u_158_58, u_158_59, u_158_62, u_158_65, u_158_67, u_158_68, u_158_69, u_158_70, u_158_71, u_158_74, u_158_76, u_158_77, u_158_80, u_158_83, u_158_85, u_158_86, u_158_87, u_158_88, u_158_89, u_158_90, u_158_91, u_158_92, u_158_94, u_158_97, m_isObject hM h, if_pos hl, m_oon hM h, if_neg hto, bnd_some, psh_some, Int.reduceEq, not_true, if_true, if_false]
  · rw [if_pos hl]
    refine ⟨I, ?_, h, fun _ _ => rfl⟩
    simp (disch := first | assumption | omega | exact Nat.le_of_ble_eq_true rfl | decide) only [u_158_0, u_158_1, u_158_2, u_158_5, u_158_8, u_158_9, u_158_10, u_158_13, u_158_16, u_158_17, u_158_18, u_158_19, u_158_20, u_158_21, u_158_24, u_158_26, u_158_27, u_158_28, u_158_29, u_158_30, u_158_31, u_158_34, u_158_37, u_158_39, u_158_40, u_158_41, u_158_44, u_158_45, u_158_48, u_158_49, u_158_50, u_158_51, u_158_52, u_158_53, u_158_56, u_158_57, u_158_58, u_158_59, u_158_62, u_158_65, u_158_67, u_158_68, u_158_69, u_158_70, u_158_71, u_158_74, u_158_76, u_158_77, u_158_80, u_158_83, u_158_85, u_158_86, u_158_87, u_158_88, u_158_89, u_158_90, u_158_91, u_158_92, u_158_94, u_158_97, m_isObject hM h, if_neg hl, bnd_some, psh_some, if_true]
theorem M_ref (hM : MS sh R) (h : isM I 393 w) (hw : okW w) : cl (d + 4) 159 [.inr (.inl 392), .inl o, .inl i] (sh, I, R) = some (some (.inl (a_ref w o i)), (sh, I, R)) := by
  obtain ⟨t, r, tg_, lg⟩ := id hM
  rw [c_159]
  unfold a_ref
  by_cases hl : liv w o
  · rw [if_neg (Classical.not_not.mpr hl)]
    obtain ⟨o, rfl, ho, hk⟩ := liv_nat hl
    rw [Int.toNat_natCast]
    have hok := hw.1 o ho
    obtain ⟨n1_, n2, n3⟩ := (h.1 o ho).2 hk
    have n20 := n2.1
    have h6 := hok.2.2.2.2.2.2.2.1
    by_cases hi : 0 ≤ i ∧ i < ((w.1 o).2.2.1.length : Int)
    · rw [if_neg (Classical.not_not.mpr hi)]
      have hi2 : 0 ≤ i ∧ i ≤ ((w.1 o).2.2.1.length : Int) - 1 := by omega
      obtain ⟨i, rfl⟩ : ∃ i' : Nat, i = (i' : Int) := ⟨i.toNat, by omega⟩
      have hil : i < (w.1 o).2.2.1.length := by omega
      rw [Int.toNat_natCast, getD_at hil]
      have hrv := n2.at hil
      have hnt := nT2_eq (okN_ref hok (List.getElem_mem hil))
      have hro := m_refOf (I := I) (d := d + 2) (i := i) hM ho (by omega)
      rw [hrv] at hro
      simp (disch := first | assumption | omega | exact Nat.le_of_ble_eq_true rfl | decide) only [u_159_0, u_159_1, u_159_2, u_159_5, u_159_8, u_159_9, u_159_10, u_159_11, u_159_12, u_159_13, u_159_16, u_159_18, u_159_19, u_159_20, u_159_21, u_159_22, u_159_23, u_159_26, u_159_29, u_159_30, u_159_31, u_159_32, u_159_35, u_159_38, u_159_41, u_159_43, m_isObject hM h, if_pos hl, bnd_some, psh_some, Int.reduceEq, not_false_eq_true, not_true, if_true, if_false, r, rv_some, wrI, n20, m_in, if_pos hi2, hro, m_told, hnt]
    · rw [if_pos hi]
      have hi2 : ¬ (0 ≤ i ∧ i ≤ ((w.1 o).2.2.1.length : Int) - 1) := by omega
      simp (disch := first | assumption | omega | exact Nat.le_of_ble_eq_true rfl | decide) only [u_159_0, u_159_1, u_159_2, u_159_5, u_159_8, u_159_9, u_159_10, u_159_11, u_159_12, u_159_13, u_159_16, u_159_18, u_159_19, u_159_20, u_159_21, u_159_22, u_159_23, u_159_26, u_159_29, u_159_30, u_159_31, u_159_32, u_159_35, u_159_38, u_159_41, u_159_43, m_isObject hM h, if_pos hl, bnd_some, psh_some, Int.reduceEq, not_false_eq_true, not_true, if_true, if_false, r, rv_some, wrI, n20, m_in, if_neg hi2]
  · rw [if_pos hl]
    simp (disch := first | assumption | omega | exact Nat.le_of_ble_eq_true rfl | decide) only [u_159_0, u_159_1, u_159_2, u_159_5, u_159_8, u_159_9, u_159_10, u_159_11, u_159_12, u_159_13, u_159_16, u_159_18, u_159_19, u_159_20, u_159_21, u_159_22, u_159_23, u_159_26, u_159_29, u_159_30, u_159_31, u_159_32, u_159_35, u_159_38, u_159_41, u_159_43, m_isObject hM h, if_neg hl, bnd_some, psh_some, not_true, if_false]
theorem M_name (hM : MS sh R) (h : isM I 393 w) (hw : okW w) : cl (d + 4) 162 [.inr (.inl 392), .inl o, .inl i] (sh, I, R) = some (some (.inl (a_name w o i)), (sh, I, R)) := by
  obtain ⟨t, r, tg_, lg⟩ := id hM
  rw [c_162]
  unfold a_name
  by_cases hl : liv w o
  · rw [if_neg (Classical.not_not.mpr hl)]
    by_cases hi0 : i < 0
    · rw [if_pos hi0]
      have hi0' : ¬ 0 ≤ i := by omega
      simp (disch := first | assumption | omega | exact Nat.le_of_ble_eq_true rfl | decide) only [u_162_0, u_162_1, u_162_2, u_162_5, u_162_8, u_162_9, u_162_12, u_162_13, u_162_14, u_162_15, u_162_18, u_162_19, u_162_20, u_162_21, u_162_22, u_162_23, u_162_26, u_162_28, u_162_29, u_162_30, u_162_31, u_162_34, u_162_36, u_162_37, u_162_38, u_162_39, u_162_42, u_162_43, u_162_46, u_162_48, u_162_50, u_162_51, u_162_52, u_162_53, u_162_54, u_162_55, u_162_56, u_162_59, u_162_61, m_isObject hM h, if_pos hl, bnd_some, psh_some, Int.reduceEq, if_true, if_false, hi0']
    · rw [if_neg hi0]
      have hi0' : 0 ≤ i := by omega
      obtain ⟨o, rfl, ho, hk⟩ := liv_nat hl
      rw [Int.toNat_natCast]
      have hok := hw.1 o ho
      have hk1 := (h.1 o ho).1
      obtain ⟨n1_, n2, n3⟩ := (h.1 o ho).2 hk
      have n30 := n3.1
      have h6 := hok.2.2.2.2.2.2.2.2.1
      by_cases h4 : (w.1 o).1 = 4
      · rw [if_pos h4]
        simp (disch := first | assumption | omega | exact Nat.le_of_ble_eq_true rfl | decide) only [u_162_0, u_162_1, u_162_2, u_162_5, u_162_8, u_162_9, u_162_12, u_162_13, u_162_14, u_162_15, u_162_18, u_162_19, u_162_20, u_162_21, u_162_22, u_162_23, u_162_26, u_162_28, u_162_29, u_162_30, u_162_31, u_162_34, u_162_36, u_162_37, u_162_38, u_162_39, u_162_42, u_162_43, u_162_46, u_162_48, u_162_50, u_162_51, u_162_52, u_162_53, u_162_54, u_162_55, u_162_56, u_162_59, u_162_61, m_isObject hM h, if_pos hl, bnd_some, psh_some, Int.reduceEq, if_true, if_false, hi0', r, rv_some, wrI, Int.zero_add, hk1, h4, not_true]
      · rw [if_neg h4]
        by_cases hi : i < ((w.1 o).2.2.2.length : Int)
        · rw [if_pos hi]
          obtain ⟨i, rfl⟩ : ∃ i' : Nat, i = (i' : Int) := ⟨i.toNat, by omega⟩
          have hil : i < (w.1 o).2.2.2.length := by omega
          rw [Int.toNat_natCast, getD_at hil]
          have hv := (n3.at hil).1
          have hge : ¬ ((w.1 o).2.2.2.length : Int) ≤ (i : Int) := by omega
          simp (disch := first | assumption | omega | exact Nat.le_of_ble_eq_true rfl | decide) only [u_162_0, u_162_1, u_162_2, u_162_5, u_162_8, u_162_9, u_162_12, u_162_13, u_162_14, u_162_15, u_162_18, u_162_19, u_162_20, u_162_21, u_162_22, u_162_23, u_162_26, u_162_28, u_162_29, u_162_30, u_162_31, u_162_34, u_162_36, u_162_37, u_162_38, u_162_39, u_162_42, u_162_43, u_162_46, u_162_48, u_162_50, u_162_51, u_162_52, u_162_53, u_162_54, u_162_55, u_162_56, u_162_59, u_162_61, m_isObject hM h, if_pos hl, bnd_some, psh_some, Int.reduceEq, if_true, if_false, hi0', r, rv_some, wrI, Int.zero_add, hk1, h4, not_false_eq_true, n30, hge, hv]
        · rw [if_neg hi]
          have hge : ((w.1 o).2.2.2.length : Int) ≤ i := by omega
          simp (disch := first | assumption | omega | exact Nat.le_of_ble_eq_true rfl | decide) only [u_162_0, u_162_1, u_162_2, u_162_5, u_162_8, u_162_9, u_162_12, u_162_13, u_162_14, u_162_15, u_162_18, u_162_19, u_162_20, u_162_21, u_162_22, u_162_23, u_162_26, u_162_28, u_162_29, u_162_30, u_162_31, u_162_34, u_162_36, u_162_37, u_162_38, u_162_39, u_162_42, u_162_43, u_162_46, u_162_48, u_162_50, u_162_51, u_162_52, u_162_53, u_162_54, u_162_55, u_162_56, u_162_59, u_162_61, m_isObject hM h, if_pos hl, bnd_some, psh_some, Int.reduceEq, if_true, if_false, hi0', r, rv_some, wrI, Int.zero_add, hk1, h4, not_false_eq_true, n30, hge]
  · rw [if_pos hl]
    simp (disch := first | assumption | omega | exact Nat.le_of_ble_eq_true rfl | decide) only [u_162_0, u_162_1, u_162_2, u_162_5, u_162_8, u_162_9, u_162_12, u_162_13, u_162_14, u_162_15, u_162_18, u_162_19, u_162_20, u_162_21, u_162_22, u_162_23, u_162_26, u_162_28, u_162_29, u_162_30, u_162_31, u_162_34, u_162_36, u_162_37, u_162_38, u_162_39, u_162_42, u_162_43, u_162_46, u_162_48, u_162_50, u_162_51, u_162_52, u_162_53, u_162_54, u_162_55, u_162_56, u_162_59, u_162_61, m_isObject hM h, if_neg hl, bnd_some, psh_some, if_true]
theorem unk_loop (hM : MS sh R) (h : isM I 393 w) (hw : okW w) {o k : Nat} (ho : o < 30) (hk : (w.1 o).1 = (k : Int)) (hk1 : 1 ≤ k) (hk3 : k ≤ 3) : ∀ (kk j : Nat), j + kk = (w.1 o).2.2.2.length → ev S0 (d + 2) 160 4 [.inr (.inl 392), .inl (o : Int), .inl ((fbes ((w.1 o).2.2.2.take j) (w.2.1 (curS w k)) : Nat) : Int), .inl (j : Int)] [] (sh, I, R) = some (some (.inl ((fbes (w.1 o).2.2.2 (w.2.1 (curS w k)) : Nat) : Int)), (sh, I, R)) := by
  obtain ⟨t, r, tg_, lg⟩ := id hM
  obtain ⟨c1, c2⟩ := m_currentOf (d := d) hM h hw hk1 hk3
  have hok := hw.1 o ho
  have hk0 := (h.1 o ho).1
  rw [hk] at hk0
  obtain ⟨n1_, n2, n3⟩ := (h.1 o ho).2 (by omega)
  have n30 := n3.1
  have h6 := hok.2.2.2.2.2.2.2.2.1
  have hs4 := (hw.2.1 _ c2).1
  have hsc := h.2.1 _ c2
  generalize (w.1 o).2.2.2 = L at n3 n30 h6 ⊢
  intro kk
  induction kk with
  | zero =>
    intro j hj
    have hc : (L.length : Int) ≤ (j : Int) := by omega
    rw [List.take_of_length_le (by omega)]
    simp (disch := first | assumption | omega | exact Nat.le_of_ble_eq_true rfl | decide) only [u_160_4, u_160_5, u_160_6, u_160_9, u_160_11, u_160_12, u_160_13, u_160_14, u_160_64, u_160_65, r, rv_some, wrI, n30, hc, if_true]
  | succ kk ih =>
    intro j hj
    have hjl : j < L.length := by omega
    have hc : ¬ (L.length : Int) ≤ (j : Int) := by omega
    have hv := (n3.at hjl).1
    have hle : fbes (L.take j) (w.2.1 (curS w k)) ≤ 6 := by
      unfold fbes
      refine Nat.le_trans (List.length_filter_le _ _) ?_
      rw [List.length_take]; omega
    have hs : fbes (L.take (j + 1)) (w.2.1 (curS w k)) = fbes (L.take j) (w.2.1 (curS w k)) + (if fidx (w.2.1 (curS w k)) (L[j]).1 = -1 then 1 else 0) := by
      unfold fbes
      rw [List.take_succ_eq_append_getElem hjl, List.filter_append, List.length_append]
      congr 1
      by_cases hx : fidx (w.2.1 (curS w k)) (L[j]).1 = -1
      · simp [hx]
      · simp [hx]
    have ih := ih (j + 1) (by omega)
    have hkn := m_knownIn (d := d + 1) (n := (L[j]).1) hM c2 hsc hs4
    rw [u_160_4]
    rcases fidx_spec (w.2.1 (curS w k)) (L[j]).1 with ⟨hx, -⟩ | ⟨i, p, hx, -⟩
    · rw [if_pos hx] at hs
      rw [hs] at ih
      rw [hx] at hkn
      have hlt : ¬ (0 : Int) ≤ -1 := by decide
      simp (disch := first | assumption | omega | exact Nat.le_of_ble_eq_true rfl | decide) only [u_160_5, u_160_6, u_160_9, u_160_11, u_160_12, u_160_13, u_160_14, u_160_17, u_160_18, u_160_19, u_160_20, u_160_21, u_160_24, u_160_25, u_160_26, u_160_27, u_160_28, u_160_31, u_160_32, u_160_35, u_160_37, u_160_39, u_160_40, u_160_41, u_160_42, u_160_43, u_160_44, u_160_45, u_160_48, u_160_51, u_160_52, u_160_55, u_160_56, u_160_57, u_160_58, u_160_61, r, rv_some, wrI, Int.zero_add, n30, hc, if_false, if_true, hv, hk0, c1, hkn, hlt, bnd_some, psh_some, n1, ih]
    · rw [if_neg (by omega)] at hs
      have hs : fbes (L.take (j + 1)) (w.2.1 (curS w k)) = fbes (L.take j) (w.2.1 (curS w k)) := hs
      rw [hs] at ih
      rw [hx] at hkn
      have hlt : (0 : Int) ≤ (i : Int) := by omega
      simp (disch := first | assumption | omega | exact Nat.le_of_ble_eq_true rfl | decide) only [u_160_5, u_160_6, u_160_9, u_160_11, u_160_12, u_160_13, u_160_14, u_160_17, u_160_18, u_160_19, u_160_20, u_160_21, u_160_24, u_160_25, u_160_26, u_160_27, u_160_28, u_160_31, u_160_32, u_160_35, u_160_37, u_160_39, u_160_40, u_160_41, u_160_42, u_160_43, u_160_44, u_160_45, u_160_48, u_160_51, u_160_52, u_160_55, u_160_56, u_160_57, u_160_58, u_160_61, r, rv_some, wrI, Int.zero_add, Int.add_zero, n30, hc, if_false, if_true, hv, hk0, c1, hkn, hlt, bnd_some, psh_some, n1, ih]
theorem m_unknown (hM : MS sh R) (h : isM I 393 w) (hw : okW w) {o : Nat} (ho : o < 30) (hk0 : (w.1 o).1 ≠ 0) : cl (d + 3) 160 [.inr (.inl 392), .inl (o : Int)] (sh, I, R) = some (some (.inl (if (w.1 o).1 = 4 then 0 else ((fbes (w.1 o).2.2.2 (w.2.1 (curS w (w.1 o).1.toNat)) : Nat) : Int))), (sh, I, R)) := by
  have hok := hw.1 o ho
  by_cases h4 : (w.1 o).1 = 4
  · rw [if_pos h4]
    obtain ⟨t, r, tg_, lg⟩ := id hM
    obtain ⟨n1_, n2, n3⟩ := (h.1 o ho).2 hk0
    have n30 := n3.1
    rw [hok.2.2.2.2.2.2.1 h4] at n30
    have n30 : I 393 (90 + (o : Int)) = 0 := n30
    have hc : (0 : Int) ≤ 0 := by decide
    rw [c_160]
    simp (disch := first | assumption | omega | exact Nat.le_of_ble_eq_true rfl | decide) only [u_160_0, u_160_1, u_160_2, u_160_3, u_160_4, u_160_5, u_160_6, u_160_9, u_160_11, u_160_12, u_160_13, u_160_14, u_160_64, u_160_65, r, rv_some, wrI, n30, hc, if_true]
  · rw [if_neg h4]
    have h0 := hok.1
    have h1 := hok.2.1
    have hk : (w.1 o).1 = (((w.1 o).1.toNat : Nat) : Int) := by omega
    rw [c_160, u_160_0, u_160_1, u_160_2, u_160_3]
    exact unk_loop (d := d) hM h hw ho hk (by omega) (by omega) (w.1 o).2.2.2.length 0 (by omega)
theorem M_of (hM : MS sh R) (h : isM I 393 w) (hw : okW w) : cl (d + 4) 161 [.inr (.inl 392), .inl o, .inl q] (sh, I, R) = some (some (.inl (a_of w o q)), (sh, I, R)) := by
  obtain ⟨t, r, tg_, lg⟩ := id hM
  rw [c_161]
  unfold a_of
  by_cases hl : liv w o
  · rw [if_neg (Classical.not_not.mpr hl)]
    obtain ⟨o, rfl, ho, hk⟩ := liv_nat hl
    rw [Int.toNat_natCast]
    have hk1 := (h.1 o ho).1
    obtain ⟨n1_, n2, n3⟩ := (h.1 o ho).2 hk
    have n20 := n2.1
    have n30 := n3.1
    by_cases q0 : q = 0
    · simp (disch := first | assumption | omega | exact Nat.le_of_ble_eq_true rfl | decide) only [u_161_0, u_161_1, u_161_2, u_161_5, u_161_8, u_161_9, u_161_10, u_161_11, u_161_44, u_161_45, u_161_48, u_161_49, u_161_50, u_161_51, u_161_52, u_161_53, u_161_54, u_161_57, u_161_59, u_161_60, u_161_61, u_161_62, u_161_63, u_161_64, u_161_67, u_161_69, u_161_70, u_161_71, u_161_72, u_161_73, u_161_74, u_161_75, u_161_78, u_161_79, u_161_80, u_161_83, u_161_84, u_161_85, u_161_86, u_161_87, u_161_88, u_161_91, u_161_92, u_161_95, u_161_97, u_161_98, u_161_99, u_161_100, u_161_103, u_161_105, u_161_106, u_161_107, m_isObject hM h, if_pos hl, bnd_some, psh_some, Int.reduceEq, not_false_eq_true, ev_sw, ev_sw0, q0, if_true, if_false, Int.natCast_zero, Int.cast_ofNat_Int, r, rv_some, wrI, Int.zero_add, hk1]
    · by_cases q1 : q = 1
      · simp (disch := first | assumption | omega | exact Nat.le_of_ble_eq_true rfl | decide) only [u_161_0, u_161_1, u_161_2, u_161_5, u_161_8, u_161_9, u_161_10, u_161_11, u_161_44, u_161_45, u_161_48, u_161_49, u_161_50, u_161_51, u_161_52, u_161_53, u_161_54, u_161_57, u_161_59, u_161_60, u_161_61, u_161_62, u_161_63, u_161_64, u_161_67, u_161_69, u_161_70, u_161_71, u_161_72, u_161_73, u_161_74, u_161_75, u_161_78, u_161_79, u_161_80, u_161_83, u_161_84, u_161_85, u_161_86, u_161_87, u_161_88, u_161_91, u_161_92, u_161_95, u_161_97, u_161_98, u_161_99, u_161_100, u_161_103, u_161_105, u_161_106, u_161_107, m_isObject hM h, if_pos hl, bnd_some, psh_some, Int.reduceEq, not_false_eq_true, ev_sw, ev_sw0, q1, if_true, if_false, Int.natCast_zero, Int.cast_ofNat_Int, r, rv_some, wrI, n30]
      · by_cases q2 : q = 2
        · simp (disch := first | assumption | omega | exact Nat.le_of_ble_eq_true rfl | decide) only [u_161_0, u_161_1, u_161_2, u_161_5, u_161_8, u_161_9, u_161_10, u_161_11, u_161_44, u_161_45, u_161_48, u_161_49, u_161_50, u_161_51, u_161_52, u_161_53, u_161_54, u_161_57, u_161_59, u_161_60, u_161_61, u_161_62, u_161_63, u_161_64, u_161_67, u_161_69, u_161_70, u_161_71, u_161_72, u_161_73, u_161_74, u_161_75, u_161_78, u_161_79, u_161_80, u_161_83, u_161_84, u_161_85, u_161_86, u_161_87, u_161_88, u_161_91, u_161_92, u_161_95, u_161_97, u_161_98, u_161_99, u_161_100, u_161_103, u_161_105, u_161_106, u_161_107, m_isObject hM h, if_pos hl, bnd_some, psh_some, Int.reduceEq, not_false_eq_true, ev_sw, ev_sw0, q2, if_true, if_false, Int.natCast_zero, Int.cast_ofNat_Int, r, rv_some, wrI, n20]
        · by_cases q3 : q = 3
          · simp (disch := first | assumption | omega | exact Nat.le_of_ble_eq_true rfl | decide) only [u_161_0, u_161_1, u_161_2, u_161_5, u_161_8, u_161_9, u_161_10, u_161_11, u_161_44, u_161_45, u_161_48, u_161_49, u_161_50, u_161_51, u_161_52, u_161_53, u_161_54, u_161_57, u_161_59, u_161_60, u_161_61, u_161_62, u_161_63, u_161_64, u_161_67, u_161_69, u_161_70, u_161_71, u_161_72, u_161_73, u_161_74, u_161_75, u_161_78, u_161_79, u_161_80, u_161_83, u_161_84, u_161_85, u_161_86, u_161_87, u_161_88, u_161_91, u_161_92, u_161_95, u_161_97, u_161_98, u_161_99, u_161_100, u_161_103, u_161_105, u_161_106, u_161_107, m_isObject hM h, if_pos hl, bnd_some, psh_some, Int.reduceEq, not_false_eq_true, ev_sw, ev_sw0, q3, if_true, if_false, Int.natCast_zero, Int.cast_ofNat_Int, m_unknown hM h hw ho hk]
          · by_cases q4 : q = 4
            · by_cases h4 : (w.1 o).1 = 4
              · simp (disch := first | assumption | omega | exact Nat.le_of_ble_eq_true rfl | decide) only [u_161_0, u_161_1, u_161_2, u_161_5, u_161_8, u_161_9, u_161_10, u_161_11, u_161_44, u_161_45, u_161_48, u_161_49, u_161_50, u_161_51, u_161_52, u_161_53, u_161_54, u_161_57, u_161_59, u_161_60, u_161_61, u_161_62, u_161_63, u_161_64, u_161_67, u_161_69, u_161_70, u_161_71, u_161_72, u_161_73, u_161_74, u_161_75, u_161_78, u_161_79, u_161_80, u_161_83, u_161_84, u_161_85, u_161_86, u_161_87, u_161_88, u_161_91, u_161_92, u_161_95, u_161_97, u_161_98, u_161_99, u_161_100, u_161_103, u_161_105, u_161_106, u_161_107, m_isObject hM h, if_pos hl, bnd_some, psh_some, Int.reduceEq, not_false_eq_true, not_true, ev_sw, ev_sw0, q4, if_true, if_false, Int.natCast_zero, Int.cast_ofNat_Int, r, rv_some, wrI, Int.zero_add, hk1, h4, n1_]
              · simp (disch := first | assumption | omega | exact Nat.le_of_ble_eq_true rfl | decide) only [u_161_0, u_161_1, u_161_2, u_161_5, u_161_8, u_161_9, u_161_10, u_161_11, u_161_44, u_161_45, u_161_48, u_161_49, u_161_50, u_161_51, u_161_52, u_161_53, u_161_54, u_161_57, u_161_59, u_161_60, u_161_61, u_161_62, u_161_63, u_161_64, u_161_67, u_161_69, u_161_70, u_161_71, u_161_72, u_161_73, u_161_74, u_161_75, u_161_78, u_161_79, u_161_80, u_161_83, u_161_84, u_161_85, u_161_86, u_161_87, u_161_88, u_161_91, u_161_92, u_161_95, u_161_97, u_161_98, u_161_99, u_161_100, u_161_103, u_161_105, u_161_106, u_161_107, m_isObject hM h, if_pos hl, bnd_some, psh_some, Int.reduceEq, not_false_eq_true, not_true, ev_sw, ev_sw0, q4, if_true, if_false, Int.natCast_zero, Int.cast_ofNat_Int, r, rv_some, wrI, Int.zero_add, hk1, h4, n1_]
            · simp (disch := first | assumption | omega | exact Nat.le_of_ble_eq_true rfl | decide) only [u_161_0, u_161_1, u_161_2, u_161_5, u_161_8, u_161_9, u_161_10, u_161_11, u_161_44, u_161_45, u_161_48, u_161_49, u_161_50, u_161_51, u_161_52, u_161_53, u_161_54, u_161_57, u_161_59, u_161_60, u_161_61, u_161_62, u_161_63, u_161_64, u_161_67, u_161_69, u_161_70, u_161_71, u_161_72, u_161_73, u_161_74, u_161_75, u_161_78, u_161_79, u_161_80, u_161_83, u_161_84, u_161_85, u_161_86, u_161_87, u_161_88, u_161_91, u_161_92, u_161_95, u_161_97, u_161_98, u_161_99, u_161_100, u_161_103, u_161_105, u_161_106, u_161_107, m_isObject hM h, if_pos hl, bnd_some, psh_some, Int.reduceEq, not_false_eq_true, ev_sw, ev_sw0, q0, q1, q2, q3, q4, if_true, if_false, Int.natCast_zero, Int.cast_ofNat_Int]
  · rw [if_pos hl]
    simp (disch := first | assumption | omega | exact Nat.le_of_ble_eq_true rfl | decide) only [u_161_0, u_161_1, u_161_2, u_161_5, u_161_8, u_161_9, u_161_10, u_161_11, u_161_44, u_161_45, u_161_48, u_161_49, u_161_50, u_161_51, u_161_52, u_161_53, u_161_54, u_161_57, u_161_59, u_161_60, u_161_61, u_161_62, u_161_63, u_161_64, u_161_67, u_161_69, u_161_70, u_161_71, u_161_72, u_161_73, u_161_74, u_161_75, u_161_78, u_161_79, u_161_80, u_161_83, u_161_84, u_161_85, u_161_86, u_161_87, u_161_88, u_161_91, u_161_92, u_161_95, u_161_97, u_161_98, u_161_99, u_161_100, u_161_103, u_161_105, u_161_106, u_161_107, m_isObject hM h, if_neg hl, bnd_some, psh_some, not_true, if_false]
theorem copy_loop (hM : MS sh R) {o i : Nat} (ho : o < 30) (hi : i < 30) (hoi : o ≠ i) {rs : List Int} (h6 : rs.length ≤ 6) : ∀ (k j : Nat) (I : IM), j + k = rs.length → mRf I 393 o rs → I 393 (60 + (i : Int)) = (rs.length : Int) → (∀ (x : Nat) (y : Int), x < j → rs[x]? = some y → I 393 (480 + 6 * (i : Int) + (x : Int)) = y) → ∃ I', ev S0 (d + 1) 163 63 [.inr (.inl 392), .inl (o : Int), .inl (i : Int), .inl (j : Int)] [] (sh, I, R) = some (some (.inl (i : Int)), (sh, I', R)) ∧ mRf I' 393 i rs ∧ (∀ k, k ≠ 393 → I' k = I k) ∧ ∀ z, ¬ (480 + 6 * (i : Int) ≤ z ∧ z < 486 + 6 * (i : Int)) → I' 393 z = I 393 z := by
  obtain ⟨t, r, tg_, lg⟩ := id hM
  intro k
  induction k with
  | zero =>
    intro j I hj ha hb hc
    have hge : (rs.length : Int) ≤ (j : Int) := by omega
    refine ⟨I, ?_, ⟨hb, fun x y hy => hc x y (by have := lenOf hy; omega) hy⟩, fun _ _ => rfl, fun _ _ => rfl⟩
    simp (disch := first | assumption | omega | exact Nat.le_of_ble_eq_true rfl | decide) only [u_163_63, u_163_64, u_163_65, u_163_68, u_163_70, u_163_71, u_163_72, u_163_73, u_163_103, u_163_104, r, rv_some, wrI, hb, hge, if_true]
  | succ k ih =>
    intro j I hj ha hb hc
    have hjl : j < rs.length := by omega
    have hge : ¬ (rs.length : Int) ≤ (j : Int) := by omega
    have hv := ha.at hjl
    have hro := m_refOf (I := I) (d := d) (i := j) hM ho (by omega)
    rw [hv] at hro
    obtain ⟨I', g1, g2, g3, g4⟩ := ih (j + 1) (up I 393 (480 + 6 * (i : Int) + (j : Int)) rs[j]) (by omega) ⟨by rw [upj (by omega)]; exact ha.1, fun x y hy => by have := lenOf hy; rw [upj (by omega)]; exact ha.2 x y hy⟩ (by rw [upj (by omega)]; exact hb) (fun x y hx hy => by
      by_cases hxj : x = j
      · subst hxj
        rw [List.getElem?_eq_getElem hjl] at hy
        cases hy
        exact ups
      · rw [upj (by omega)]; exact hc x y (by omega) hy)
    refine ⟨I', ?_, g2, fun k hk => by rw [g3 k hk, upf hk], fun z hz => by rw [g4 z hz, upj (by omega)]⟩
    rw [u_163_63]
    simp (disch := first | assumption | omega | exact Nat.le_of_ble_eq_true rfl | decide) only [u_163_64, u_163_65, u_163_68, u_163_70, u_163_71, u_163_72, u_163_73, u_163_76, u_163_77, u_163_80, u_163_83, u_163_85, u_163_86, u_163_87, u_163_88, u_163_89, u_163_90, u_163_91, u_163_92, u_163_93, u_163_96, u_163_97, u_163_100, r, rv_some, wrI, hb, hge, if_false, hro, bnd_some, psh_some, n1, g1]
theorem M_copy (hM : MS sh R) (h : isM I 393 w) (hw : okW w) : ∃ I', cl (d + 4) 163 [.inr (.inl 392), .inl o] (sh, I, R) = some (some (.inl (a_copy w o).1), (sh, I', R)) ∧ isM I' 393 (a_copy w o).2 ∧ Fr3 I I' := by
  obtain ⟨t, r, tg_, lg⟩ := id hM
  rw [c_163]
  unfold a_copy
  by_cases hl : liv w o
  · rw [if_neg (Classical.not_not.mpr hl)]
    obtain ⟨o, rfl, ho, hk⟩ := liv_nat hl
    rw [Int.toNat_natCast]
    have hok := hw.1 o ho
    have hk1 := (h.1 o ho).1
    obtain ⟨n1_, n2, n3⟩ := (h.1 o ho).2 hk
    have n20 := n2.1
    have h6 := hok.2.2.2.2.2.2.2.1
    by_cases h4 : (w.1 o).1 = 4
    · rw [if_neg (Classical.not_not.mpr h4)]
      by_cases hf : freeW w = -1
      · rw [if_pos hf]
        refine ⟨I, ?_, h, fun _ _ => rfl⟩
        simp (disch := first | assumption | omega | exact Nat.le_of_ble_eq_true rfl | decide) only [u_163_0, u_163_1, u_163_2, u_163_5, u_163_8, u_163_9, u_163_10, u_163_11, u_163_14, u_163_15, u_163_16, u_163_17, u_163_18, u_163_19, u_163_22, u_163_24, u_163_25, u_163_26, u_163_29, u_163_31, u_163_34, u_163_36, u_163_37, u_163_38, u_163_39, u_163_40, u_163_43, u_163_45, u_163_46, u_163_47, u_163_48, u_163_49, u_163_52, u_163_54, u_163_55, u_163_56, u_163_57, u_163_60, u_163_61, u_163_62, m_isObject hM h, if_pos hl, bnd_some, psh_some, Int.reduceEq, not_false_eq_true, not_true, if_true, if_false, r, rv_some, wrI, Int.zero_add, hk1, h4, m_many hM h, (manyI w).mpr hf]
      · rw [if_neg hf]
        obtain ⟨i, hi1, hi, hi0⟩ := free_nat hf
        have hm : ¬ ((manyW w : Nat) : Int) = 30 := fun q => hf ((manyI w).mp q)
        have hoi : o ≠ i := fun q => by subst q; exact hk hi0
        obtain ⟨I1, g1, g2, g3⟩ := m_makes (d := d + 1) (kd := 4) (hd := (w.1 o).2.1) (len := (w.1 o).2.2.1.length) hM h hw h6 hi1
        have hni := g2.1 i hi
        rw [setN_at] at hni
        obtain ⟨e1, e2, e3⟩ := hni.2 (by dsimp only; decide)
        have e20 := e2.1
        rw [List.length_replicate] at e20
        have ha : mRf I1 393 o (w.1 o).2.2.1 := ⟨by rw [g3.2 _ (by unfold nSlot; omega)]; exact n2.1, fun x y hy => by have := lenOf hy; rw [g3.2 _ (by unfold nSlot; omega)]; exact n2.2 x y hy⟩
        obtain ⟨I2, f1, f2, f3, f4⟩ := copy_loop (d := d + 2) hM ho hi hoi h6 (w.1 o).2.2.1.length 0 I1 (by omega) ha e20 (fun x y hx => by omega)
        rw [hi1, Int.toNat_natCast]
        have hok4 : (w.1 o) = (4, (w.1 o).2.1, (w.1 o).2.2.1, []) := by
          rw [← h4, ← hok.2.2.2.2.2.2.1 h4]
        refine ⟨I2, ?_, ?_, fun k hk => (f3 k hk).trans (g3.1 k hk)⟩
        · have f1 : ev S0 (d + 3) 163 63 [.inr (.inl 392), .inl (o : Int), .inl (i : Int), .inl 0] [] (sh, I1, R) = some (some (.inl (i : Int)), (sh, I2, R)) := f1
          simp (disch := first | assumption | omega | exact Nat.le_of_ble_eq_true rfl | decide) only [u_163_0, u_163_1, u_163_2, u_163_5, u_163_8, u_163_9, u_163_10, u_163_11, u_163_14, u_163_15, u_163_16, u_163_17, u_163_18, u_163_19, u_163_22, u_163_24, u_163_25, u_163_26, u_163_29, u_163_31, u_163_34, u_163_36, u_163_37, u_163_38, u_163_39, u_163_40, u_163_43, u_163_45, u_163_46, u_163_47, u_163_48, u_163_49, u_163_52, u_163_54, u_163_55, u_163_56, u_163_57, u_163_60, u_163_61, u_163_62, m_isObject hM h, if_pos hl, bnd_some, psh_some, Int.reduceEq, not_false_eq_true, not_true, if_true, if_false, r, rv_some, wrI, Int.zero_add, hk1, h4, m_many hM h, hm, n1_, n20, g1, f1]
        · refine isM_setN h hw hi ?_ (fun z hz => ?_)
          · rw [hok4]
            refine ⟨?_, fun _ => ⟨?_, f2, ⟨?_, fun j p hp => by cases hp⟩⟩⟩
            · rw [f4 _ (by omega)]; exact hni.1
            · rw [f4 _ (by omega)]; exact e1
            · rw [f4 _ (by omega)]; exact e3.1
          · rw [f4 z (by unfold nSlot at hz; omega)]; exact g3.2 z hz
    · rw [if_pos h4]
      refine ⟨I, ?_, h, fun _ _ => rfl⟩
      simp (disch := first | assumption | omega | exact Nat.le_of_ble_eq_true rfl | decide) only [u_163_0, u_163_1, u_163_2, u_163_5, u_163_8, u_163_9, u_163_10, u_163_11, u_163_14, u_163_15, u_163_16, u_163_17, u_163_18, u_163_19, u_163_22, u_163_24, u_163_25, u_163_26, u_163_29, u_163_31, u_163_34, u_163_36, u_163_37, u_163_38, u_163_39, u_163_40, u_163_43, u_163_45, u_163_46, u_163_47, u_163_48, u_163_49, u_163_52, u_163_54, u_163_55, u_163_56, u_163_57, u_163_60, u_163_61, u_163_62, m_isObject hM h, if_pos hl, bnd_some, psh_some, Int.reduceEq, not_false_eq_true, if_true, if_false, r, rv_some, wrI, Int.zero_add, hk1, h4]
  · rw [if_pos hl]
    refine ⟨I, ?_, h, fun _ _ => rfl⟩
    simp (disch := first | assumption | omega | exact Nat.le_of_ble_eq_true rfl | decide) only [u_163_0, u_163_1, u_163_2, u_163_5, u_163_8, u_163_9, u_163_10, u_163_11, u_163_14, u_163_15, u_163_16, u_163_17, u_163_18, u_163_19, u_163_22, u_163_24, u_163_25, u_163_26, u_163_29, u_163_31, u_163_34, u_163_36, u_163_37, u_163_38, u_163_39, u_163_40, u_163_43, u_163_45, u_163_46, u_163_47, u_163_48, u_163_49, u_163_52, u_163_54, u_163_55, u_163_56, u_163_57, u_163_60, u_163_61, u_163_62, m_isObject hM h, if_neg hl, bnd_some, psh_some, not_true, if_false]
end MODEL
