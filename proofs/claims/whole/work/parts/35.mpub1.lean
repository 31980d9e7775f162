/-! THE MODEL: schema, version, byDefault, object, row, write, read, forget -/
def sSlot (s : Nat) (z : Int) : Prop := z = 660 + (s : Int) ∨ (669 + 4 * (s : Int) ≤ z ∧ z < 673 + 4 * (s : Int)) ∨ (705 + 4 * (s : Int) ≤ z ∧ z < 709 + 4 * (s : Int))
theorem isM_setS {I I' : IM} {s : Nat} {w : WD} {L : FL} (h : isM I 393 w) (hw : okW w) (hs : s < 9) (hx : mSc I' 393 s L) (hf : ∀ z, ¬ sSlot s z → I' 393 z = I 393 z) : isM I' 393 (setS w s L) := by
  refine ⟨fun i hi => ?_, fun j hj => ?_, fun k a b => ?_⟩
  · have hok := hw.1 i hi
    exact (h.1 i hi).cong hok.2.2.2.2.2.2.2.1 hok.2.2.2.2.2.2.2.2.1 (fun z hz => hf z (fun q => by have := nSlot_lt hi hz; unfold sSlot at q; omega))
  · by_cases hjs : j = s
    · subst hjs
      simp only [setS, if_true]
      exact hx
    · simp only [setS, if_neg hjs]
      have h4 := (hw.2.1 j hj).1
      refine ⟨?_, fun i p hp => ?_⟩
      · rw [hf _ (by unfold sSlot; omega)]; exact (h.2.1 j hj).1
      · have := lenOf hp
        rw [hf _ (by unfold sSlot; omega), hf _ (by unfold sSlot; omega)]; exact (h.2.1 j hj).2 i p hp
  · rw [hf _ (by unfold sSlot; omega)]; exact h.2.2 k a b
theorem isM_setC {I I' : IM} {k : Nat} {w : WD} {v : Int} (h : isM I 393 w) (hw : okW w) (hk : 1 ≤ k ∧ k ≤ 3) (hx : I' 393 (740 + (k : Int)) = v) (hf : ∀ z, z ≠ 740 + (k : Int) → I' 393 z = I 393 z) : isM I' 393 (setC w k v) := by
  refine ⟨fun i hi => ?_, fun j hj => ?_, fun q a b => ?_⟩
  · have hok := hw.1 i hi
    exact (h.1 i hi).cong hok.2.2.2.2.2.2.2.1 hok.2.2.2.2.2.2.2.2.1 (fun z hz => hf z (by have := nSlot_lt hi hz; omega))
  · have h4 := (hw.2.1 j hj).1
    refine ⟨?_, fun i p hp => ?_⟩
    · rw [hf _ (by omega)]; exact (h.2.1 j hj).1
    · have := lenOf hp
      have : i < (w.2.1 j).length := this
      rw [hf _ (by omega), hf _ (by omega)]; exact (h.2.1 j hj).2 i p hp
  · by_cases hq : q = k
    · subst hq
      simp only [setC, if_true]
      exact hx
    · simp only [setC, if_neg hq]
      rw [hf _ (by omega)]; exact h.2.2 q a b
theorem mSc_app {I : IM} {s : Nat} {L : FL} {n v : Int} (h : mSc I 393 s L) (hs : s < 9) (hL : L.length < 4) : mSc (up (up (up I 393 (669 + 4 * (s : Int) + (L.length : Int)) n) 393 (705 + 4 * (s : Int) + (L.length : Int)) v) 393 (660 + (s : Int)) ((L.length + 1 : Nat) : Int)) 393 s (L ++ [(n, v)]) := by
  refine ⟨?_, fun j p hp => ?_⟩
  · rw [ups, List.length_append]; rfl
  · have hj := lenOf hp
    rw [List.length_append] at hj
    simp only [List.length_cons, List.length_nil] at hj
    by_cases hjl : j < L.length
    · rw [List.getElem?_append_left hjl] at hp
      rw [upj (by omega), upj (by omega), upj (by omega), upj (by omega), upj (by omega), upj (by omega)]
      exact h.2 j p hp
    · obtain rfl : j = L.length := by omega
      rw [List.getElem?_append_right (Nat.le_refl _), Nat.sub_self] at hp
      cases hp
      constructor
      · rw [upj (by omega), upj (by omega), ups]
      · rw [upj (by omega), ups]
theorem isM_setF {I I' : IM} {o : Nat} {w : WD} {L : FL} (h : isM I 393 w) (hw : okW w) (ho : o < 30) (hk : (w.1 o).1 ≠ 0) (hx : mFl I' 393 o L) (hf : FrL o I I') : isM I' 393 (setN w o (setF (w.1 o) L)) := by
  have hn := h.1 o ho
  have hok := hw.1 o ho
  obtain ⟨n1, n2, n3⟩ := hn.2 hk
  refine isM_setN h hw ho ⟨?_, fun _ => ⟨?_, ⟨?_, fun j q hq => ?_⟩, hx⟩⟩ hf.O.2
  · rw [hf.2 _ (by unfold fSlot; omega)]; exact hn.1
  · rw [hf.2 _ (by unfold fSlot; omega)]; exact n1
  · rw [hf.2 _ (by unfold fSlot; omega)]; exact n2.1
  · have := lenOf hq
    have h6 := hok.2.2.2.2.2.2.2.1
    have : j < (w.1 o).2.2.1.length := this
    rw [hf.2 _ (by unfold fSlot; omega)]; exact n2.2 j q hq
section MODEL
variable {sh : Shp} {R : RM} {I : IM} {d : Nat} {w : WD} {k v n x y z : Int}
theorem M_schema (hM : MS sh R) (h : isM I 393 w) (hw : okW w) : ∃ I', cl (d + 4) 148 [.inr (.inl 392), .inl k, .inl v, .inl n, .inl x] (sh, I, R) = some (some (.inl (a_schema w k v n x).1), (sh, I', R)) ∧ isM I' 393 (a_schema w k v n x).2 ∧ Fr3 I I' := by
  obtain ⟨t, r, tg_, lg⟩ := id hM
  rw [c_148]
  unfold a_schema
  by_cases hin : inS k v
  · rw [if_neg (Classical.not_not.mpr hin)]
    by_cases hnm : isNm n
    · rw [if_neg (Classical.not_not.mpr hnm)]
      by_cases hnu : isNu x
      · rw [if_neg (Classical.not_not.mpr hnu)]
        obtain ⟨k, rfl⟩ : ∃ k' : Nat, k = (k' : Int) := ⟨k.toNat, by have := hin.1; omega⟩
        obtain ⟨v, rfl⟩ : ∃ v' : Nat, v = (v' : Int) := ⟨v.toNat, by have := hin.2; omega⟩
        have hk : 1 ≤ k ∧ k ≤ 3 := by have := hin.1; omega
        have hv : 1 ≤ v ∧ v ≤ 3 := by have := hin.2; omega
        have hix : sIx (k : Int) (v : Int) = 3 * (k - 1) + v - 1 := by unfold sIx; omega
        rw [hix]
        have h9 : 3 * (k - 1) + v - 1 < 9 := by omega
        have hso := m_schemaOf (sh := sh) (I := I) (R := R) (d := d + 2) hk hv
        generalize 3 * (k - 1) + v - 1 = s at h9 hso ⊢
        have f1 := h.2.1 _ h9
        have hl4 := (hw.2.1 _ h9).1
        have hkn := m_knownIn (d := d + 2) (n := n) hM h9 f1 hl4
        have f0 := f1.1
        by_cases hf : fidx (w.2.1 s) n = -1
        · rw [if_neg (Classical.not_not.mpr hf)]
          rw [hf] at hkn
          have hlt : (-1 : Int) < 0 := by decide
          by_cases hl : (w.2.1 s).length < 4
          · rw [if_pos hl]
            have h4 : ¬ ((w.2.1 s).length : Int) = 4 := by omega
            refine ⟨_, ?_, isM_setS h hw h9 (mSc_app (n := n) (v := x) f1 h9 hl) (fun z hz => ?_), fun q hq => ?_⟩
            · simp (disch := first | assumption | omega | exact Nat.le_of_ble_eq_true rfl | decide) only [u_148_0, u_148_1, u_148_2, u_148_5, u_148_8, u_148_9, u_148_12, u_148_15, u_148_17, u_148_20, u_148_23, u_148_24, u_148_25, u_148_26, u_148_27, u_148_30, u_148_32, u_148_33, u_148_35, u_148_36, u_148_39, u_148_42, u_148_44, u_148_45, u_148_46, u_148_49, u_148_52, u_148_54, u_148_55, u_148_56, u_148_57, u_148_60, u_148_62, u_148_63, u_148_64, u_148_67, u_148_70, u_148_71, u_148_73, u_148_74, u_148_75, u_148_76, u_148_79, u_148_82, u_148_84, u_148_85, u_148_86, u_148_87, u_148_88, u_148_89, u_148_90, u_148_93, u_148_96, u_148_97, u_148_99, u_148_100, u_148_101, u_148_102, u_148_105, u_148_108, u_148_110, u_148_111, u_148_112, u_148_113, u_148_115, u_148_116, u_148_117, u_148_120, u_148_123, u_148_125, u_148_126, u_148_127, u_148_128, u_148_129, u_148_130, u_148_131, u_148_132, u_148_135, u_148_138, u_148_140, u_148_141, u_148_142, m_isSchema, m_isName, m_isNumber, if_pos hin, if_pos hnm, if_pos hnu, bnd_some, psh_some, Int.reduceEq, not_false_eq_true, if_false, if_true, hso, hkn, hlt, r, rv_some, wrI, f0, h4, upj, n1, ups]
            · unfold sSlot at hz
              rw [upj (by omega), upj (by omega), upj (by omega)]
            · rw [upf hq, upf hq, upf hq]
          · rw [if_neg hl]
            have h4 : ((w.2.1 s).length : Int) = 4 := by omega
            refine ⟨I, ?_, h, fun _ _ => rfl⟩
            simp (disch := first | assumption | omega | exact Nat.le_of_ble_eq_true rfl | decide) only [u_148_0, u_148_1, u_148_2, u_148_5, u_148_8, u_148_9, u_148_12, u_148_15, u_148_17, u_148_20, u_148_23, u_148_24, u_148_25, u_148_26, u_148_27, u_148_30, u_148_32, u_148_33, u_148_35, u_148_36, u_148_39, u_148_42, u_148_44, u_148_45, u_148_46, u_148_49, u_148_52, u_148_54, u_148_55, u_148_56, u_148_57, u_148_60, u_148_62, u_148_63, u_148_64, u_148_67, u_148_70, u_148_71, u_148_73, u_148_74, u_148_75, u_148_76, u_148_79, u_148_82, u_148_84, u_148_85, u_148_86, u_148_87, u_148_88, u_148_89, u_148_90, u_148_93, u_148_96, u_148_97, u_148_99, u_148_100, u_148_101, u_148_102, u_148_105, u_148_108, u_148_110, u_148_111, u_148_112, u_148_113, u_148_115, u_148_116, u_148_117, u_148_120, u_148_123, u_148_125, u_148_126, u_148_127, u_148_128, u_148_129, u_148_130, u_148_131, u_148_132, u_148_135, u_148_138, u_148_140, u_148_141, u_148_142, m_isSchema, m_isName, m_isNumber, if_pos hin, if_pos hnm, if_pos hnu, bnd_some, psh_some, Int.reduceEq, not_false_eq_true, not_true, if_false, if_true, hso, hkn, hlt, r, rv_some, wrI, f0, h4]
        · rw [if_pos hf]
          have hge : ¬ fidx (w.2.1 s) n < 0 := by
            rcases fidx_spec (w.2.1 s) n with ⟨q, -⟩ | ⟨i, p, q, -⟩
            · exact absurd q hf
            · omega
          refine ⟨I, ?_, h, fun _ _ => rfl⟩
          simp (disch := first | assumption | omega | exact Nat.le_of_ble_eq_true rfl | decide) only [u_148_0, u_148_1, u_148_2, u_148_5, u_148_8, u_148_9, u_148_12, u_148_15, u_148_17, u_148_20, u_148_23, u_148_24, u_148_25, u_148_26, u_148_27, u_148_30, u_148_32, u_148_33, u_148_35, u_148_36, u_148_39, u_148_42, u_148_44, u_148_45, u_148_46, u_148_49, u_148_52, u_148_54, u_148_55, u_148_56, u_148_57, u_148_60, u_148_62, u_148_63, u_148_64, u_148_67, u_148_70, u_148_71, u_148_73, u_148_74, u_148_75, u_148_76, u_148_79, u_148_82, u_148_84, u_148_85, u_148_86, u_148_87, u_148_88, u_148_89, u_148_90, u_148_93, u_148_96, u_148_97, u_148_99, u_148_100, u_148_101, u_148_102, u_148_105, u_148_108, u_148_110, u_148_111, u_148_112, u_148_113, u_148_115, u_148_116, u_148_117, u_148_120, u_148_123, u_148_125, u_148_126, u_148_127, u_148_128, u_148_129, u_148_130, u_148_131, u_148_132, u_148_135, u_148_138, u_148_140, u_148_141, u_148_142, m_isSchema, m_isName, m_isNumber, if_pos hin, if_pos hnm, if_pos hnu, bnd_some, psh_some, Int.reduceEq, not_false_eq_true, if_false, if_true, hso, hkn, hge]
      · rw [if_pos hnu]
        refine ⟨I, ?_, h, fun _ _ => rfl⟩
        simp (disch := first | assumption | omega | exact Nat.le_of_ble_eq_true rfl | decide) only [u_148_0, u_148_1, u_148_2, u_148_5, u_148_8, u_148_9, u_148_12, u_148_15, u_148_17, u_148_20, u_148_23, u_148_24, u_148_25, u_148_26, u_148_27, u_148_30, u_148_32, u_148_33, u_148_35, u_148_36, u_148_39, u_148_42, u_148_44, u_148_45, u_148_46, u_148_49, u_148_52, u_148_54, u_148_55, u_148_56, u_148_57, u_148_60, u_148_62, u_148_63, u_148_64, u_148_67, u_148_70, u_148_71, u_148_73, u_148_74, u_148_75, u_148_76, u_148_79, u_148_82, u_148_84, u_148_85, u_148_86, u_148_87, u_148_88, u_148_89, u_148_90, u_148_93, u_148_96, u_148_97, u_148_99, u_148_100, u_148_101, u_148_102, u_148_105, u_148_108, u_148_110, u_148_111, u_148_112, u_148_113, u_148_115, u_148_116, u_148_117, u_148_120, u_148_123, u_148_125, u_148_126, u_148_127, u_148_128, u_148_129, u_148_130, u_148_131, u_148_132, u_148_135, u_148_138, u_148_140, u_148_141, u_148_142, m_isSchema, m_isName, m_isNumber, if_pos hin, if_pos hnm, if_neg hnu, bnd_some, psh_some, Int.reduceEq, not_true, if_false, if_true]
    · rw [if_pos hnm]
      refine ⟨I, ?_, h, fun _ _ => rfl⟩
      simp (disch := first | assumption | omega | exact Nat.le_of_ble_eq_true rfl | decide) only [u_148_0, u_148_1, u_148_2, u_148_5, u_148_8, u_148_9, u_148_12, u_148_15, u_148_17, u_148_20, u_148_23, u_148_24, u_148_25, u_148_26, u_148_27, u_148_30, u_148_32, u_148_33, u_148_35, u_148_36, u_148_39, u_148_42, u_148_44, u_148_45, u_148_46, u_148_49, u_148_52, u_148_54, u_148_55, u_148_56, u_148_57, u_148_60, u_148_62, u_148_63, u_148_64, u_148_67, u_148_70, u_148_71, u_148_73, u_148_74, u_148_75, u_148_76, u_148_79, u_148_82, u_148_84, u_148_85, u_148_86, u_148_87, u_148_88, u_148_89, u_148_90, u_148_93, u_148_96, u_148_97, u_148_99, u_148_100, u_148_101, u_148_102, u_148_105, u_148_108, u_148_110, u_148_111, u_148_112, u_148_113, u_148_115, u_148_116, u_148_117, u_148_120, u_148_123, u_148_125, u_148_126, u_148_127, u_148_128, u_148_129, u_148_130, u_148_131, u_148_132, u_148_135, u_148_138, u_148_140, u_148_141, u_148_142, m_isSchema, m_isName, m_isNumber, if_pos hin, if_neg hnm, bnd_some, psh_some, Int.reduceEq, if_false, if_true]
  · rw [if_pos hin]
    refine ⟨I, ?_, h, fun _ _ => rfl⟩
    simp (disch := first | assumption | omega | exact Nat.le_of_ble_eq_true rfl | decide) only [u_148_0, u_148_1, u_148_2, u_148_5, u_148_8, u_148_9, u_148_12, u_148_15, u_148_17, u_148_20, u_148_23, u_148_24, u_148_25, u_148_26, u_148_27, u_148_30, u_148_32, u_148_33, u_148_35, u_148_36, u_148_39, u_148_42, u_148_44, u_148_45, u_148_46, u_148_49, u_148_52, u_148_54, u_148_55, u_148_56, u_148_57, u_148_60, u_148_62, u_148_63, u_148_64, u_148_67, u_148_70, u_148_71, u_148_73, u_148_74, u_148_75, u_148_76, u_148_79, u_148_82, u_148_84, u_148_85, u_148_86, u_148_87, u_148_88, u_148_89, u_148_90, u_148_93, u_148_96, u_148_97, u_148_99, u_148_100, u_148_101, u_148_102, u_148_105, u_148_108, u_148_110, u_148_111, u_148_112, u_148_113, u_148_115, u_148_116, u_148_117, u_148_120, u_148_123, u_148_125, u_148_126, u_148_127, u_148_128, u_148_129, u_148_130, u_148_131, u_148_132, u_148_135, u_148_138, u_148_140, u_148_141, u_148_142, m_isSchema, if_neg hin, bnd_some, psh_some, if_true]
theorem M_version (hM : MS sh R) (h : isM I 393 w) (hw : okW w) : ∃ I', cl (d + 3) 149 [.inr (.inl 392), .inl k, .inl v] (sh, I, R) = some (some (.inl (a_version w k v).1), (sh, I', R)) ∧ isM I' 393 (a_version w k v).2 ∧ Fr3 I I' := by
  obtain ⟨t, r, tg_, lg⟩ := id hM
  rw [c_149]
  unfold a_version
  by_cases hin : inS k v
  · rw [if_neg (Classical.not_not.mpr hin)]
    obtain ⟨k, rfl⟩ : ∃ k' : Nat, k = (k' : Int) := ⟨k.toNat, by have := hin.1; omega⟩
    have hk : 1 ≤ k ∧ k ≤ 3 := by have := hin.1; omega
    rw [Int.toNat_natCast]
    have hr : I 393 (741 + (k : Int) - 1) = w.2.2 k := by
      rw [show 741 + (k : Int) - 1 = 740 + (k : Int) by omega]
      exact h.2.2 k hk.1 hk.2
    refine ⟨up I 393 (741 + (k : Int) - 1) v, ?_, isM_setC h hw hk ?_ (fun z hz => upj (by omega)), fun q hq => upf hq⟩
    · simp (disch := first | assumption | omega | exact Nat.le_of_ble_eq_true rfl | decide) only [u_149_0, u_149_1, u_149_2, u_149_5, u_149_8, u_149_9, u_149_10, u_149_11, u_149_14, u_149_17, u_149_18, u_149_19, u_149_20, u_149_21, u_149_22, u_149_23, u_149_24, u_149_27, u_149_30, u_149_31, u_149_32, u_149_33, u_149_34, u_149_35, u_149_36, u_149_37, m_isSchema, if_pos hin, bnd_some, psh_some, Int.reduceEq, not_false_eq_true, if_true, r, rv_some, wrI, hr]
    · rw [show 740 + (k : Int) = 741 + (k : Int) - 1 by omega, ups]
  · rw [if_pos hin]
    refine ⟨I, ?_, h, fun _ _ => rfl⟩
    simp (disch := first | assumption | omega | exact Nat.le_of_ble_eq_true rfl | decide) only [u_149_0, u_149_1, u_149_2, u_149_5, u_149_8, u_149_9, u_149_10, u_149_11, u_149_14, u_149_17, u_149_18, u_149_19, u_149_20, u_149_21, u_149_22, u_149_23, u_149_24, u_149_27, u_149_30, u_149_31, u_149_32, u_149_33, u_149_34, u_149_35, u_149_36, u_149_37, m_isSchema, if_neg hin, bnd_some, psh_some, not_true, if_false]
theorem M_byDef (hM : MS sh R) (h : isM I 393 w) (hw : okW w) : cl (d + 3) 150 [.inr (.inl 392), .inl k, .inl v, .inl n] (sh, I, R) = some (some (.inl (a_byDef w k v n)), (sh, I, R)) := by
  obtain ⟨t, r, tg_, lg⟩ := id hM
  rw [c_150]
  unfold a_byDef
  by_cases hin : inS k v
  · rw [if_neg (Classical.not_not.mpr hin)]
    obtain ⟨k, rfl⟩ : ∃ k' : Nat, k = (k' : Int) := ⟨k.toNat, by have := hin.1; omega⟩
    obtain ⟨v, rfl⟩ : ∃ v' : Nat, v = (v' : Int) := ⟨v.toNat, by have := hin.2; omega⟩
    have hk : 1 ≤ k ∧ k ≤ 3 := by have := hin.1; omega
    have hv : 1 ≤ v ∧ v ≤ 3 := by have := hin.2; omega
    have hix : sIx (k : Int) (v : Int) = 3 * (k - 1) + v - 1 := by unfold sIx; omega
    rw [hix]
    have h9 : 3 * (k - 1) + v - 1 < 9 := by omega
    have hso := m_schemaOf (sh := sh) (I := I) (R := R) (d := d + 1) hk hv
    generalize 3 * (k - 1) + v - 1 = s at h9 hso ⊢
    have f1 := h.2.1 _ h9
    have hl4 := (hw.2.1 _ h9).1
    have hkn := m_knownIn (d := d + 1) (n := n) hM h9 f1 hl4
    rcases fidx_spec (w.2.1 s) n with ⟨q, q2, -⟩ | ⟨i, p, q, q2, q3, q4, q5⟩
    · rw [q] at hkn
      have hlt : ¬ (0 : Int) ≤ -1 := by decide
      simp (disch := first | assumption | omega | exact Nat.le_of_ble_eq_true rfl | decide) only [u_150_0, u_150_1, u_150_2, u_150_5, u_150_8, u_150_10, u_150_11, u_150_12, u_150_13, u_150_16, u_150_18, u_150_19, u_150_21, u_150_22, u_150_25, u_150_27, u_150_29, u_150_32, u_150_34, u_150_37, u_150_38, u_150_41, u_150_44, u_150_45, u_150_47, u_150_48, u_150_49, u_150_51, u_150_52, u_150_53, m_isSchema, if_pos hin, bnd_some, psh_some, Int.reduceEq, not_false_eq_true, if_false, if_true, hso, hkn, hlt, q2]
    · rw [q] at hkn
      have hlt : (0 : Int) ≤ (i : Int) := by omega
      have f0 := (f1.2 i p q3).2
      simp (disch := first | assumption | omega | exact Nat.le_of_ble_eq_true rfl | decide) only [u_150_0, u_150_1, u_150_2, u_150_5, u_150_8, u_150_10, u_150_11, u_150_12, u_150_13, u_150_16, u_150_18, u_150_19, u_150_21, u_150_22, u_150_25, u_150_27, u_150_29, u_150_32, u_150_34, u_150_37, u_150_38, u_150_41, u_150_44, u_150_45, u_150_47, u_150_48, u_150_49, u_150_51, u_150_52, u_150_53, m_isSchema, if_pos hin, bnd_some, psh_some, Int.reduceEq, not_false_eq_true, if_false, if_true, hso, hkn, hlt, r, rv_some, wrI, f0, q5]
  · rw [if_pos hin]
    simp (disch := first | assumption | omega | exact Nat.le_of_ble_eq_true rfl | decide) only [u_150_0, u_150_1, u_150_2, u_150_5, u_150_8, u_150_10, u_150_11, u_150_12, u_150_13, u_150_16, u_150_18, u_150_19, u_150_21, u_150_22, u_150_25, u_150_27, u_150_29, u_150_32, u_150_34, u_150_37, u_150_38, u_150_41, u_150_44, u_150_45, u_150_47, u_150_48, u_150_49, u_150_51, u_150_52, u_150_53, m_isSchema, if_neg hin, bnd_some, psh_some, not_true, if_false]
theorem m_refsOf (hk : 1 ≤ k ∧ k ≤ 3) : cl (d + 1) 151 [.inl k] (sh, I, R) = some (some (.inl ((rOf k : Nat) : Int)), (sh, I, R)) := by
  rw [c_151]
  unfold rOf
  by_cases h1 : k = 1
  · simp (disch := first | assumption | omega | exact Nat.le_of_ble_eq_true rfl | decide) only [u_151_0, u_151_1, u_151_2, u_151_5, u_151_6, u_151_9, u_151_10, u_151_11, u_151_14, u_151_15, u_151_18, u_151_19, h1, if_true, not_true, if_false]
    rfl
  · by_cases h2 : k = 2
    · simp (disch := first | assumption | omega | exact Nat.le_of_ble_eq_true rfl | decide) only [u_151_0, u_151_1, u_151_2, u_151_5, u_151_6, u_151_9, u_151_10, u_151_11, u_151_14, u_151_15, u_151_18, u_151_19, h2, not_true, not_false_eq_true, if_true, if_false, Int.reduceEq]
      rfl
    · obtain rfl : k = 3 := by omega
      simp (disch := first | assumption | omega | exact Nat.le_of_ble_eq_true rfl | decide) only [u_151_0, u_151_1, u_151_2, u_151_5, u_151_6, u_151_9, u_151_10, u_151_11, u_151_14, u_151_15, u_151_18, u_151_19, not_false_eq_true, if_true, if_false, Int.reduceEq]
      rfl
theorem rOf_le (hk : 1 ≤ k ∧ k ≤ 3) : rOf k ≤ 6 := by unfold rOf; split <;> omega
theorem manyI (w : WD) : ((manyW w : Nat) : Int) = 30 ↔ freeW w = -1 := by rw [← manyW_full]; omega
theorem free_nat {w : WD} (h : ¬ freeW w = -1) : ∃ i : Nat, freeW w = (i : Int) ∧ i < 30 ∧ (w.1 i).1 = 0 := by
  rcases freeW_spec w with ⟨q, -⟩ | ⟨i, q1, q2, q3, -⟩
  · exact absurd q h
  · exact ⟨i, q1, q2, q3⟩
theorem M_object (hM : MS sh R) (h : isM I 393 w) (hw : okW w) : ∃ I', cl (d + 4) 152 [.inr (.inl 392), .inl k] (sh, I, R) = some (some (.inl (a_object w k).1), (sh, I', R)) ∧ isM I' 393 (a_object w k).2 ∧ Fr3 I I' := by
  obtain ⟨t, r, tg_, lg⟩ := id hM
  rw [c_152]
  unfold a_object
  by_cases hk : 1 ≤ k ∧ k ≤ 3
  · rw [if_neg (Classical.not_not.mpr hk)]
    by_cases hf : freeW w = -1
    · rw [if_pos hf]
      refine ⟨I, ?_, h, fun _ _ => rfl⟩
      simp (disch := first | assumption | omega | exact Nat.le_of_ble_eq_true rfl | decide) only [u_152_0, u_152_1, u_152_2, u_152_3, u_152_6, u_152_9, u_152_10, u_152_11, u_152_12, u_152_15, u_152_17, u_152_20, u_152_22, u_152_23, u_152_24, u_152_25, u_152_26, u_152_27, u_152_30, u_152_33, u_152_34, u_152_35, u_152_36, u_152_39, u_152_40, m_in, if_pos hk, bnd_some, psh_some, Int.reduceEq, not_false_eq_true, not_true, if_false, if_true, m_many hM h, (manyI w).mpr hf]
    · rw [if_neg hf]
      obtain ⟨i, hi1, hi, hi0⟩ := free_nat hf
      have hm : ¬ ((manyW w : Nat) : Int) = 30 := fun q => hf ((manyI w).mp q)
      obtain ⟨I1, g1, g2, g3⟩ := m_makes (d := d + 1) (kd := k) (hd := 0) hM h hw (rOf_le hk) hi1
      have hok : okW (setN w i (k, 0, List.replicate (rOf k) (-1), [])) := okW_setN hw (okN_new _ hk) (by dsimp only; omega)
      have hk0 : (((setN w i (k, 0, List.replicate (rOf k) (-1), [])).1 i).1) = ((k.toNat : Nat) : Int) := by rw [setN_at]; dsimp only; omega
      obtain ⟨I2, e1, e2, e3⟩ := m_gives (d := d) (o := i) hM g2 hok hi hk0 (by omega) (by omega)
      rw [setN_at, setN_setN, defs_setN] at e2
      rw [hi1, Int.toNat_natCast]
      refine ⟨I2, ?_, e2, fun q hq => (e3.1 q hq).trans (g3.1 q hq)⟩
      simp (disch := first | assumption | omega | exact Nat.le_of_ble_eq_true rfl | decide) only [u_152_0, u_152_1, u_152_2, u_152_3, u_152_6, u_152_9, u_152_10, u_152_11, u_152_12, u_152_15, u_152_17, u_152_20, u_152_22, u_152_23, u_152_24, u_152_25, u_152_26, u_152_27, u_152_30, u_152_33, u_152_34, u_152_35, u_152_36, u_152_39, u_152_40, m_in, if_pos hk, bnd_some, psh_some, psh_none, Int.reduceEq, not_false_eq_true, if_false, if_true, m_many hM h, hm, m_refsOf hk, g1, e1]
  · rw [if_pos hk]
    refine ⟨I, ?_, h, fun _ _ => rfl⟩
    simp (disch := first | assumption | omega | exact Nat.le_of_ble_eq_true rfl | decide) only [u_152_0, u_152_1, u_152_2, u_152_3, u_152_6, u_152_9, u_152_10, u_152_11, u_152_12, u_152_15, u_152_17, u_152_20, u_152_22, u_152_23, u_152_24, u_152_25, u_152_26, u_152_27, u_152_30, u_152_33, u_152_34, u_152_35, u_152_36, u_152_39, u_152_40, m_in, if_neg hk, bnd_some, psh_some, not_true, if_false]
theorem M_row (hM : MS sh R) (h : isM I 393 w) (hw : okW w) : ∃ I', cl (d + 3) 153 [.inr (.inl 392), .inl k, .inl n] (sh, I, R) = some (some (.inl (a_row w k n).1), (sh, I', R)) ∧ isM I' 393 (a_row w k n).2 ∧ Fr3 I I' := by
  obtain ⟨t, r, tg_, lg⟩ := id hM
  rw [c_153]
  unfold a_row
  by_cases hk : 0 ≤ k ∧ k ≤ 3
  · by_cases hn6 : n ≤ 6
    · rw [if_neg (by omega)]
      by_cases hn0 : n < 0
      · rw [if_pos hn0]
        have hn0' : ¬ (0 : Int) ≤ n := by omega
        refine ⟨I, ?_, h, fun _ _ => rfl⟩
        simp (disch := first | assumption | omega | exact Nat.le_of_ble_eq_true rfl | decide) only [u_153_0, u_153_1, u_153_2, u_153_3, u_153_6, u_153_9, u_153_10, u_153_12, u_153_15, u_153_16, u_153_17, u_153_18, u_153_21, u_153_23, u_153_24, u_153_25, u_153_28, u_153_30, u_153_33, u_153_35, u_153_38, u_153_39, u_153_40, u_153_41, u_153_42, u_153_45, m_in, if_pos hk, bnd_some, psh_some, Int.reduceEq, if_false, if_true, hn6, hn0']
      · rw [if_neg hn0]
        obtain ⟨n, rfl⟩ : ∃ n' : Nat, n = (n' : Int) := ⟨n.toNat, by omega⟩
        have hn0' : (0 : Int) ≤ (n : Int) := by omega
        by_cases hf : freeW w = -1
        · rw [if_pos hf]
          refine ⟨I, ?_, h, fun _ _ => rfl⟩
          simp (disch := first | assumption | omega | exact Nat.le_of_ble_eq_true rfl | decide) only [u_153_0, u_153_1, u_153_2, u_153_3, u_153_6, u_153_9, u_153_10, u_153_12, u_153_15, u_153_16, u_153_17, u_153_18, u_153_21, u_153_23, u_153_24, u_153_25, u_153_28, u_153_30, u_153_33, u_153_35, u_153_38, u_153_39, u_153_40, u_153_41, u_153_42, u_153_45, m_in, if_pos hk, bnd_some, psh_some, Int.reduceEq, not_true, if_false, if_true, hn6, hn0', m_many hM h, (manyI w).mpr hf]
        · rw [if_neg hf]
          obtain ⟨i, hi1, hi, hi0⟩ := free_nat hf
          have hm : ¬ ((manyW w : Nat) : Int) = 30 := fun q => hf ((manyI w).mp q)
          obtain ⟨I1, g1, g2, g3⟩ := m_makes (d := d) (kd := 4) (hd := k) (len := n) hM h hw (by omega) hi1
          rw [hi1, Int.toNat_natCast, Int.toNat_natCast]
          refine ⟨I1, ?_, g2, g3.1⟩
          simp (disch := first | assumption | omega | exact Nat.le_of_ble_eq_true rfl | decide) only [u_153_0, u_153_1, u_153_2, u_153_3, u_153_6, u_153_9, u_153_10, u_153_12, u_153_15, u_153_16, u_153_17, u_153_18, u_153_21, u_153_23, u_153_24, u_153_25, u_153_28, u_153_30, u_153_33, u_153_35, u_153_38, u_153_39, u_153_40, u_153_41, u_153_42, u_153_45, m_in, if_pos hk, bnd_some, psh_some, Int.reduceEq, not_false_eq_true, if_false, if_true, hn6, hn0', m_many hM h, hm, g1]
    · rw [if_pos (by omega)]
      refine ⟨I, ?_, h, fun _ _ => rfl⟩
      simp (disch := first | assumption | omega | exact Nat.le_of_ble_eq_true rfl | decide) only [u_153_0, u_153_1, u_153_2, u_153_3, u_153_6, u_153_9, u_153_10, u_153_12, u_153_15, u_153_16, u_153_17, u_153_18, u_153_21, u_153_23, u_153_24, u_153_25, u_153_28, u_153_30, u_153_33, u_153_35, u_153_38, u_153_39, u_153_40, u_153_41, u_153_42, u_153_45, m_in, if_pos hk, bnd_some, psh_some, Int.reduceEq, if_false, if_true, hn6]
  · rw [if_pos (Or.inl hk)]
    refine ⟨I, ?_, h, fun _ _ => rfl⟩
    simp (disch := first | assumption | omega | exact Nat.le_of_ble_eq_true rfl | decide) only [u_153_0, u_153_1, u_153_2, u_153_3, u_153_6, u_153_9, u_153_10, u_153_12, u_153_15, u_153_16, u_153_17, u_153_18, u_153_21, u_153_23, u_153_24, u_153_25, u_153_28, u_153_30, u_153_33, u_153_35, u_153_38, u_153_39, u_153_40, u_153_41, u_153_42, u_153_45, m_in, if_neg hk, bnd_some, psh_some, if_true]
abbrev hasFl (w : WD) (o : Int) : Prop := liv w o ∧ ¬ (w.1 o.toNat).1 = 4
theorem m_hasF (hM : MS sh R) (h : isM I 393 w) {o : Int} : cl (d + 3) 154 [.inr (.inl 392), .inl o] (sh, I, R) = some (some (.inl (if hasFl w o then 1 else 0)), (sh, I, R)) := by
  obtain ⟨t, r, tg_, lg⟩ := id hM
  rw [c_154]
  by_cases hl : liv w o
  · obtain ⟨i, rfl, hi, hk⟩ := liv_nat hl
    have hk1 := (h.1 i hi).1
    by_cases h4 : (w.1 i).1 = 4
    · rw [if_neg (fun q => q.2 (by rw [Int.toNat_natCast]; exact h4))]
      simp (disch := first | assumption | omega | exact Nat.le_of_ble_eq_true rfl | decide) only [u_154_0, u_154_1, u_154_2, u_154_5, u_154_8, u_154_9, u_154_12, u_154_13, u_154_14, u_154_15, u_154_16, u_154_17, u_154_20, u_154_21, u_154_24, u_154_25, m_isObject hM h, if_pos hl, bnd_some, psh_some, Int.reduceEq, if_false, r, rv_some, wrI, Int.zero_add, hk1, h4, if_true]
    · rw [if_pos ⟨hl, by rw [Int.toNat_natCast]; exact h4⟩]
      simp (disch := first | assumption | omega | exact Nat.le_of_ble_eq_true rfl | decide) only [u_154_0, u_154_1, u_154_2, u_154_5, u_154_8, u_154_9, u_154_12, u_154_13, u_154_14, u_154_15, u_154_16, u_154_17, u_154_20, u_154_21, u_154_24, u_154_25, m_isObject hM h, if_pos hl, bnd_some, psh_some, Int.reduceEq, if_false, r, rv_some, wrI, Int.zero_add, hk1, h4]
  · rw [if_neg (fun q => hl q.1)]
    simp (disch := first | assumption | omega | exact Nat.le_of_ble_eq_true rfl | decide) only [u_154_0, u_154_1, u_154_2, u_154_5, u_154_8, u_154_9, u_154_12, u_154_13, u_154_14, u_154_15, u_154_16, u_154_17, u_154_20, u_154_21, u_154_24, u_154_25, m_isObject hM h, if_neg hl, bnd_some, psh_some, if_true]
end MODEL
