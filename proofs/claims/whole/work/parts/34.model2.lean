/-! THE MODEL: fields, schemas, making -/
def fSlot (o : Nat) (z : Int) : Prop := z = 90 + (o : Int) ∨ (120 + 6 * (o : Int) ≤ z ∧ z < 126 + 6 * (o : Int)) ∨ (300 + 6 * (o : Int) ≤ z ∧ z < 306 + 6 * (o : Int))
/-- only the fields of one object have changed -/
def FrL (o : Nat) (I I' : IM) : Prop := (∀ k, k ≠ 393 → I' k = I k) ∧ ∀ z, ¬ fSlot o z → I' 393 z = I 393 z
def FrO (o : Nat) (I I' : IM) : Prop := (∀ k, k ≠ 393 → I' k = I k) ∧ ∀ z, ¬ nSlot o z → I' 393 z = I 393 z
def Fr3 (I I' : IM) : Prop := ∀ k, k ≠ 393 → I' k = I k
theorem fSlot.n {o : Nat} {z : Int} (h : fSlot o z) : nSlot o z := by unfold fSlot at h; unfold nSlot; omega
theorem FrL.O {o : Nat} {I I' : IM} (h : FrL o I I') : FrO o I I' := ⟨h.1, fun z hz => h.2 z (fun q => hz q.n)⟩
theorem FrL.rf {o : Nat} {I : IM} : FrL o I I := ⟨fun _ _ => rfl, fun _ _ => rfl⟩
theorem FrL.tr {o : Nat} {I I1 I2 : IM} (h1 : FrL o I I1) (h2 : FrL o I1 I2) : FrL o I I2 := ⟨fun k h => (h2.1 k h).trans (h1.1 k h), fun z h => (h2.2 z h).trans (h1.2 z h)⟩
theorem FrO.rf {o : Nat} {I : IM} : FrO o I I := ⟨fun _ _ => rfl, fun _ _ => rfl⟩
theorem FrO.tr {o : Nat} {I I1 I2 : IM} (h1 : FrO o I I1) (h2 : FrO o I1 I2) : FrO o I I2 := ⟨fun k h => (h2.1 k h).trans (h1.1 k h), fun z h => (h2.2 z h).trans (h1.2 z h)⟩
theorem mFl_app {I : IM} {o : Nat} {L : FL} {n v : Int} (h : mFl I 393 o L) (ho : o < 30) (hL : L.length < 6) : mFl (up (up (up I 393 (120 + (6 * (o : Int) + (L.length : Int))) n) 393 (300 + (6 * (o : Int) + (L.length : Int))) v) 393 (90 + (o : Int)) ((L.length + 1 : Nat) : Int)) 393 o (L ++ [(n, v)]) := by
  refine ⟨?_, fun j p hp => ?_⟩
  · rw [ups, List.length_append]; rfl
  · have hj := lenOf hp
    rw [List.length_append] at hj
    simp only [List.length_cons, List.length_nil] at hj
    by_cases hjl : j < L.length
    · rw [List.getElem?_append_left hjl] at hp
      rw [upj (by omega), upj (by omega), upj (by omega), upj (by omega), upj (by omega), upj (by omega)]
      exact h.2 j p hp
    · obtain rfl : j = L.length := by omega
      rw [List.getElem?_append_right (Nat.le_refl _), Nat.sub_self] at hp
      cases hp
      constructor
      · rw [upj (by omega), upj (by omega), show 120 + 6 * (o : Int) + (L.length : Int) = 120 + (6 * (o : Int) + (L.length : Int)) by omega, ups]
      · rw [upj (by omega), show 300 + 6 * (o : Int) + (L.length : Int) = 300 + (6 * (o : Int) + (L.length : Int)) by omega, ups]
theorem n1 {j : Nat} : (j : Int) + 1 = ((j + 1 : Nat) : Int) := rfl
section MODEL
variable {sh : Shp} {R : RM} {I : IM} {d o s : Nat} {w : WD} {L M : FL} {k x y z v n : Int}
theorem fieldOf_loop (hM : MS sh R) (ho : o < 30) (h : mFl I 393 o L) (hL : L.length ≤ 6) : ∀ (k j : Nat), j + k = L.length → ev S0 d 140 2 [.inr (.inl 392), .inl (o : Int), .inl n, .inl (j : Int)] [] (sh, I, R) = some (some (.inl (fix (L.drop j) n j)), (sh, I, R)) := by
  obtain ⟨t, r, tg_, lg⟩ := hM
  intro k
  induction k with
  | zero =>
    intro j hj
    have hc : (L.length : Int) ≤ (j : Int) := by omega
    rw [List.drop_eq_nil_of_le (by omega)]
    simp (disch := first | assumption | omega | exact Nat.le_of_ble_eq_true rfl | decide) only [u_140_2, u_140_3, u_140_4, u_140_7, u_140_9, u_140_10, u_140_11, u_140_12, u_140_41, u_140_42, r, rv_some, wrI, h.1, hc, if_true, fix]
  | succ k ih =>
    intro j hj
    have hjl : j < L.length := by omega
    have hc : ¬ (L.length : Int) ≤ (j : Int) := by omega
    have ha := (h.at hjl).1
    rw [u_140_2, List.drop_eq_getElem_cons hjl]
    by_cases hn : (L[j]).1 = n
    · simp (disch := first | assumption | omega | exact Nat.le_of_ble_eq_true rfl | decide) only [u_140_0, u_140_1, u_140_3, u_140_4, u_140_7, u_140_9, u_140_10, u_140_11, u_140_12, u_140_15, u_140_16, u_140_19, u_140_21, u_140_23, u_140_24, u_140_25, u_140_26, u_140_27, u_140_28, u_140_29, u_140_30, u_140_33, u_140_34, u_140_35, u_140_38, u_140_41, u_140_42, r, rv_some, wrI, h.1, hc, if_false, ha, hn, not_true, fix, if_true]
    · simp (disch := first | assumption | omega | exact Nat.le_of_ble_eq_true rfl | decide) only [u_140_0, u_140_1, u_140_3, u_140_4, u_140_7, u_140_9, u_140_10, u_140_11, u_140_12, u_140_15, u_140_16, u_140_19, u_140_21, u_140_23, u_140_24, u_140_25, u_140_26, u_140_27, u_140_28, u_140_29, u_140_30, u_140_33, u_140_34, u_140_35, u_140_38, u_140_41, u_140_42, r, rv_some, wrI, h.1, hc, if_false, ha, hn, not_false_eq_true, fix, if_true, n1, ih (j + 1) (by omega)]
theorem m_fieldOf (hM : MS sh R) (ho : o < 30) (h : mFl I 393 o L) (hL : L.length ≤ 6) : cl (d + 1) 140 [.inr (.inl 392), .inl (o : Int), .inl n] (sh, I, R) = some (some (.inl (fidx L n)), (sh, I, R)) := by
  rw [c_140, u_140_0, u_140_1]
  exact fieldOf_loop (d := d) hM ho h hL L.length 0 (by omega)
theorem knownIn_loop (hM : MS sh R) (hs : s < 9) (h : mSc I 393 s L) (hL : L.length ≤ 4) : ∀ (k j : Nat), j + k = L.length → ev S0 d 144 2 [.inr (.inl 392), .inl (s : Int), .inl n, .inl (j : Int)] [] (sh, I, R) = some (some (.inl (fix (L.drop j) n j)), (sh, I, R)) := by
  obtain ⟨t, r, tg_, lg⟩ := hM
  intro k
  induction k with
  | zero =>
    intro j hj
    have hc : (L.length : Int) ≤ (j : Int) := by omega
    rw [List.drop_eq_nil_of_le (by omega)]
    simp (disch := first | assumption | omega | exact Nat.le_of_ble_eq_true rfl | decide) only [u_144_2, u_144_3, u_144_4, u_144_7, u_144_10, u_144_11, u_144_12, u_144_13, u_144_42, u_144_43, r, rv_some, wrI, h.1, hc, if_true, fix]
  | succ k ih =>
    intro j hj
    have hjl : j < L.length := by omega
    have hc : ¬ (L.length : Int) ≤ (j : Int) := by omega
    have ha := (h.at hjl).1
    rw [u_144_2, List.drop_eq_getElem_cons hjl]
    by_cases hn : (L[j]).1 = n
    · simp (disch := first | assumption | omega | exact Nat.le_of_ble_eq_true rfl | decide) only [u_144_0, u_144_1, u_144_3, u_144_4, u_144_7, u_144_10, u_144_11, u_144_12, u_144_13, u_144_16, u_144_17, u_144_20, u_144_23, u_144_24, u_144_25, u_144_26, u_144_27, u_144_28, u_144_29, u_144_30, u_144_31, u_144_34, u_144_35, u_144_36, u_144_39, u_144_42, u_144_43, r, rv_some, wrI, h.1, hc, if_false, ha, hn, not_true, fix, if_true]
    · simp (disch := first | assumption | omega | exact Nat.le_of_ble_eq_true rfl | decide) only [u_144_0, u_144_1, u_144_3, u_144_4, u_144_7, u_144_10, u_144_11, u_144_12, u_144_13, u_144_16, u_144_17, u_144_20, u_144_23, u_144_24, u_144_25, u_144_26, u_144_27, u_144_28, u_144_29, u_144_30, u_144_31, u_144_34, u_144_35, u_144_36, u_144_39, u_144_42, u_144_43, r, rv_some, wrI, h.1, hc, if_false, ha, hn, not_false_eq_true, fix, if_true, n1, ih (j + 1) (by omega)]
theorem m_knownIn (hM : MS sh R) (hs : s < 9) (h : mSc I 393 s L) (hL : L.length ≤ 4) : cl (d + 1) 144 [.inr (.inl 392), .inl (s : Int), .inl n] (sh, I, R) = some (some (.inl (fidx L n)), (sh, I, R)) := by
  rw [c_144, u_144_0, u_144_1]
  exact knownIn_loop (d := d) hM hs h hL L.length 0 (by omega)
theorem m_adds (hM : MS sh R) (ho : o < 30) (h : mFl I 393 o L) (hL : L.length < 6) : ∃ I', cl (d + 1) 141 [.inr (.inl 392), .inl (o : Int), .inl n, .inl v] (sh, I, R) = some (none, (sh, I', R)) ∧ mFl I' 393 o (L ++ [(n, v)]) ∧ FrL o I I' := by
  obtain ⟨t, r, tg_, lg⟩ := hM
  refine ⟨_, ?_, mFl_app h ho hL, ⟨fun k hk => by rw [upf hk, upf hk, upf hk], fun z hz => ?_⟩⟩
  · rw [c_141]
    simp (disch := first | assumption | omega | exact Nat.le_of_ble_eq_true rfl | decide) only [u_141_0, u_141_2, u_141_3, u_141_4, u_141_5, u_141_8, u_141_10, u_141_11, u_141_12, u_141_13, u_141_14, u_141_16, u_141_17, u_141_20, u_141_22, u_141_24, u_141_25, u_141_26, u_141_27, u_141_28, u_141_31, u_141_34, u_141_36, u_141_37, u_141_38, u_141_39, u_141_40, u_141_43, u_141_45, u_141_46, u_141_47, u_141_48, u_141_49, u_141_50, u_141_51, u_141_52, r, rv_some, wrI, h.1, upj, n1]
  · unfold fSlot at hz
    rw [upj (by omega), upj (by omega), upj (by omega)]
theorem m_schemaOf {k v : Nat} (hk : 1 ≤ k ∧ k ≤ 3) (hv : 1 ≤ v ∧ v ≤ 3) : cl (d + 1) 142 [.inl (k : Int), .inl (v : Int)] (sh, I, R) = some (some (.inl ((3 * (k - 1) + v - 1 : Nat) : Int)), (sh, I, R)) := by
  have e : 3 * ((k : Int) - 1) + (v : Int) - 1 = ((3 * (k - 1) + v - 1 : Nat) : Int) := by omega
  rw [c_142]
  simp (disch := first | assumption | omega | exact Nat.le_of_ble_eq_true rfl | decide) only [u_142_0, u_142_1, u_142_2, u_142_3, u_142_4, u_142_5, u_142_6, u_142_7, u_142_8, u_142_9, wrI, e]
theorem m_currentOf (hM : MS sh R) (h : isM I 393 w) (hw : okW w) {k : Nat} (hk1 : 1 ≤ k) (hk2 : k ≤ 3) : cl (d + 2) 143 [.inr (.inl 392), .inl (k : Int)] (sh, I, R) = some (some (.inl ((curS w k : Nat) : Int)), (sh, I, R)) ∧ curS w k < 9 := by
  obtain ⟨t, r, tg_, lg⟩ := hM
  have hv := hw.2.2 k hk1 hk2
  obtain ⟨v, hve⟩ : ∃ v : Nat, w.2.2 k = (v : Int) := ⟨(w.2.2 k).toNat, by omega⟩
  have hr : I 393 (741 + (k : Int) - 1) = (v : Int) := by
    rw [show 741 + (k : Int) - 1 = 740 + (k : Int) by omega]
    exact (h.2.2 k hk1 hk2).trans hve
  have hcs : curS w k = 3 * (k - 1) + v - 1 := by unfold curS; rw [hve]; simp
  refine ⟨?_, by rw [hcs]; omega⟩
  rw [c_143, hcs]
  simp (disch := first | assumption | omega | exact Nat.le_of_ble_eq_true rfl | decide) only [u_143_0, u_143_1, u_143_2, u_143_5, u_143_8, u_143_9, u_143_10, u_143_11, u_143_12, u_143_13, u_143_16, r, rv_some, wrI, hr, m_schemaOf (k := k) (v := v) ⟨hk1, hk2⟩ (by omega), bnd_some, psh_some]
theorem gives_loop (hM : MS sh R) (ho : o < 30) (hs : s < 9) (hL : L.length ≤ 6) (hM4 : M.length ≤ 4) : ∀ (k j : Nat) (I : IM) (a4 : AV), j + k = M.length → mFl I 393 o (fmiss 6 L (M.take j)) → mSc I 393 s M → ∃ I', ev S0 (d + 1) 145 15 [.inr (.inl 392), .inl (o : Int), .inl (s : Int), .inl (j : Int), a4] [] (sh, I, R) = some (none, (sh, I', R)) ∧ mFl I' 393 o (fmiss 6 L M) ∧ FrL o I I' := by
  obtain ⟨t, r, tg_, lg⟩ := id hM
  intro k
  induction k with
  | zero =>
    intro j I a4 hj hf hg
    refine ⟨I, ?_, ?_, FrL.rf⟩
    · have hc : (M.length : Int) ≤ (j : Int) := by omega
      simp (disch := first | assumption | omega | exact Nat.le_of_ble_eq_true rfl | decide) only [u_145_15, u_145_16, u_145_17, u_145_20, u_145_23, u_145_24, u_145_25, u_145_26, u_145_96, r, rv_some, wrI, hg.1, hc, if_true]
    · rw [List.take_of_length_le (by omega)] at hf
      exact hf
  | succ k ih =>
    intro j I a4 hj hf hg
    have hjl : j < M.length := by omega
    have hc : ¬ (M.length : Int) ≤ (j : Int) := by omega
    have hlen := fmiss_len 6 (M.take j) L hL
    have hstep : fmiss 6 L (M.take (j + 1)) = if fidx (fmiss 6 L (M.take j)) (M[j]).1 = -1 ∧ (fmiss 6 L (M.take j)).length < 6 then fmiss 6 L (M.take j) ++ [M[j]] else fmiss 6 L (M.take j) := by
      unfold fmiss
      rw [List.take_succ_eq_append_getElem hjl, List.foldl_append]
      rfl
    have ha := (hg.at hjl).1
    have hb := (hg.at hjl).2
    by_cases hx : fidx (fmiss 6 L (M.take j)) (M[j]).1 = -1
    · have hx0 : ¬ (0 : Int) ≤ -1 := by decide
      by_cases hy : (fmiss 6 L (M.take j)).length < 6
      · obtain ⟨I1, h1, h2, h3⟩ := m_adds (d := d) (n := (M[j]).1) (v := (M[j]).2) hM ho hf hy
        have hg1 : mSc I1 393 s M := ⟨by rw [h3.2 _ (by unfold fSlot; omega)]; exact hg.1, fun i p hp => by
          have := lenOf hp
          rw [h3.2 _ (by unfold fSlot; omega), h3.2 _ (by unfold fSlot; omega)]; exact hg.2 i p hp⟩
        obtain ⟨I', h4, h5, h7⟩ := ih (j + 1) I1 (.inl (M[j]).1) (by omega) (by rw [hstep, if_pos ⟨hx, hy⟩]; exact h2) hg1
        refine ⟨I', ?_, h5, h3.tr h7⟩
        have hy2 : ¬ (6 : Int) ≤ ((fmiss 6 L (M.take j)).length : Int) := by omega
        have hf1 := hf.1
        rw [u_145_15]
        simp (disch := first | assumption | omega | exact Nat.le_of_ble_eq_true rfl | decide) only [u_145_0, u_145_1, u_145_2, u_145_5, u_145_6, u_145_7, u_145_8, u_145_9, u_145_12, u_145_13, u_145_14, u_145_16, u_145_17, u_145_20, u_145_23, u_145_24, u_145_25, u_145_26, u_145_29, u_145_30, u_145_33, u_145_36, u_145_37, u_145_38, u_145_39, u_145_40, u_145_41, u_145_42, u_145_43, u_145_45, u_145_46, u_145_47, u_145_49, u_145_52, u_145_55, u_145_56, u_145_59, u_145_61, u_145_62, u_145_63, u_145_64, u_145_66, u_145_69, u_145_70, u_145_71, u_145_73, u_145_74, u_145_77, u_145_80, u_145_81, u_145_82, u_145_83, u_145_84, u_145_85, u_145_86, u_145_87, u_145_90, u_145_93, u_145_96, r, rv_some, wrI, hg.1, hc, if_false, ha, hb, m_fieldOf hM ho hf hlen, hx, hx0, hf1, hy2, h1, bnd_some, psh_some, psh_none, n1, h4]
      · obtain ⟨I', h4, h5, h7⟩ := ih (j + 1) I (.inl (M[j]).1) (by omega) (by rw [hstep, if_neg (fun q => hy q.2)]; exact hf) hg
        refine ⟨I', ?_, h5, h7⟩
        have hy2 : (6 : Int) ≤ ((fmiss 6 L (M.take j)).length : Int) := by omega
        have hf1 := hf.1
        rw [u_145_15]
        simp (disch := first | assumption | omega | exact Nat.le_of_ble_eq_true rfl | decide) only [u_145_0, u_145_1, u_145_2, u_145_5, u_145_6, u_145_7, u_145_8, u_145_9, u_145_12, u_145_13, u_145_14, u_145_16, u_145_17, u_145_20, u_145_23, u_145_24, u_145_25, u_145_26, u_145_29, u_145_30, u_145_33, u_145_36, u_145_37, u_145_38, u_145_39, u_145_40, u_145_41, u_145_42, u_145_43, u_145_45, u_145_46, u_145_47, u_145_49, u_145_52, u_145_55, u_145_56, u_145_59, u_145_61, u_145_62, u_145_63, u_145_64, u_145_66, u_145_69, u_145_70, u_145_71, u_145_73, u_145_74, u_145_77, u_145_80, u_145_81, u_145_82, u_145_83, u_145_84, u_145_85, u_145_86, u_145_87, u_145_90, u_145_93, u_145_96, r, rv_some, wrI, hg.1, hc, if_false, if_true, ha, hb, m_fieldOf hM ho hf hlen, hx, hx0, hf1, hy2, bnd_some, psh_some, psh_none, n1, h4]
    · obtain ⟨I', h4, h5, h7⟩ := ih (j + 1) I (.inl (M[j]).1) (by omega) (by rw [hstep, if_neg (fun q => hx q.1)]; exact hf) hg
      refine ⟨I', ?_, h5, h7⟩
      have hx0 : (0 : Int) ≤ fidx (fmiss 6 L (M.take j)) (M[j]).1 := by
        rcases fidx_spec (fmiss 6 L (M.take j)) (M[j]).1 with ⟨q, -⟩ | ⟨i, p, q, -⟩
        · exact absurd q hx
        · omega
      rw [u_145_15]
      simp (disch := first | assumption | omega | exact Nat.le_of_ble_eq_true rfl | decide) only [u_145_0, u_145_1, u_145_2, u_145_5, u_145_6, u_145_7, u_145_8, u_145_9, u_145_12, u_145_13, u_145_14, u_145_16, u_145_17, u_145_20, u_145_23, u_145_24, u_145_25, u_145_26, u_145_29, u_145_30, u_145_33, u_145_36, u_145_37, u_145_38, u_145_39, u_145_40, u_145_41, u_145_42, u_145_43, u_145_45, u_145_46, u_145_47, u_145_49, u_145_52, u_145_55, u_145_56, u_145_59, u_145_61, u_145_62, u_145_63, u_145_64, u_145_66, u_145_69, u_145_70, u_145_71, u_145_73, u_145_74, u_145_77, u_145_80, u_145_81, u_145_82, u_145_83, u_145_84, u_145_85, u_145_86, u_145_87, u_145_90, u_145_93, u_145_96, r, rv_some, wrI, hg.1, hc, if_false, if_true, ha, m_fieldOf hM ho hf hlen, hx0, bnd_some, psh_some, psh_none, n1, h4]
theorem m_gives (hM : MS sh R) (h : isM I 393 w) (hw : okW w) (ho : o < 30) {k : Nat} (hk : (w.1 o).1 = (k : Int)) (hk1 : 1 ≤ k) (hk3 : k ≤ 3) : ∃ I', cl (d + 3) 145 [.inr (.inl 392), .inl (o : Int)] (sh, I, R) = some (none, (sh, I', R)) ∧ isM I' 393 (setN w o (defs w (w.1 o))) ∧ FrL o I I' := by
  obtain ⟨t, r, tg_, lg⟩ := id hM
  obtain ⟨c1, c2⟩ := m_currentOf (d := d) hM h hw hk1 hk3
  have hok := hw.1 o ho
  have hn := h.1 o ho
  obtain ⟨n1, n2, n3⟩ := hn.2 (by rw [hk]; omega)
  have hs4 := (hw.2.1 _ c2).1
  obtain ⟨I', h4, h5, h7⟩ := gives_loop (d := d + 1) (L := (w.1 o).2.2.2) (M := w.2.1 (curS w k)) hM ho c2 hok.2.2.2.2.2.2.2.2.1 hs4 (w.2.1 (curS w k)).length 0 I (.inr (.inr 1)) (by omega) (by rw [List.take_zero]; exact n3) (h.2.1 _ c2)
  have hd : defs w (w.1 o) = ((w.1 o).1, (w.1 o).2.1, (w.1 o).2.2.1, fmiss 6 (w.1 o).2.2.2 (w.2.1 (curS w k))) := by
    unfold defs
    rw [hk, Int.toNat_natCast]
  refine ⟨I', ?_, ?_, h7⟩
  · have hk2 := hn.1
    rw [hk] at hk2
    rw [c_145]
    simp (disch := first | assumption | omega | exact Nat.le_of_ble_eq_true rfl | decide) only [u_145_0, u_145_1, u_145_2, u_145_5, u_145_6, u_145_7, u_145_8, u_145_9, u_145_12, u_145_13, u_145_14, r, rv_some, wrI, Int.zero_add, hk2, c1, bnd_some, psh_some]
    exact h4
  · refine isM_setN h hw ho ?_ h7.O.2
    rw [hd]
    refine ⟨?_, fun _ => ⟨?_, ⟨?_, fun j q hq => ?_⟩, h5⟩⟩
    · rw [h7.2 _ (by unfold fSlot; omega)]; exact hn.1
    · rw [h7.2 _ (by unfold fSlot; omega)]; exact n1
    · rw [h7.2 _ (by unfold fSlot; omega)]; exact n2.1
    · have := lenOf hq
      have h6 := hok.2.2.2.2.2.2.2.1
      have : j < (w.1 o).2.2.1.length := this
      rw [h7.2 _ (by unfold fSlot; omega)]; exact n2.2 j q hq
theorem makes_loop (hM : MS sh R) (ho : o < 30) {a1 a2 a3 : AV} : ∀ (k j : Nat) (I : IM), j + k = 6 → (∀ i : Nat, i < j → I 393 (480 + 6 * (o : Int) + (i : Int)) = -1) → ∃ I', ev S0 d 139 52 [.inr (.inl 392), a1, a2, a3, .inl (o : Int), .inl (j : Int)] [] (sh, I, R) = some (some (.inl (o : Int)), (sh, I', R)) ∧ (∀ i : Nat, i < 6 → I' 393 (480 + 6 * (o : Int) + (i : Int)) = -1) ∧ (∀ k, k ≠ 393 → I' k = I k) ∧ ∀ z, ¬ (480 + 6 * (o : Int) ≤ z ∧ z < 486 + 6 * (o : Int)) → I' 393 z = I 393 z := by
  obtain ⟨t, r, tg_, lg⟩ := hM
  intro k
  induction k with
  | zero =>
    intro j I hj h
    have hc : (6 : Int) ≤ (j : Int) := by omega
    refine ⟨I, ?_, fun i hi => h i (by omega), fun _ _ => rfl, fun _ _ => rfl⟩
    simp (disch := first | assumption | omega | exact Nat.le_of_ble_eq_true rfl | decide) only [u_139_52, u_139_54, u_139_56, u_139_59, u_139_60, u_139_63, u_139_66, u_139_68, u_139_70, u_139_71, u_139_72, u_139_74, u_139_75, u_139_76, u_139_77, u_139_80, u_139_83, u_139_85, hc, if_true]
  | succ k ih =>
    intro j I hj h
    have hc : ¬ (6 : Int) ≤ (j : Int) := by omega
    obtain ⟨I', h1, h2, h3, h4⟩ := ih (j + 1) (up I 393 (480 + 6 * (o : Int) + (j : Int)) (-1)) (by omega) (fun i hi => by
      by_cases hij : i = j
      · subst hij; exact ups
      · rw [upj (by omega)]; exact h i (by omega))
    refine ⟨I', ?_, h2, fun k hk => by rw [h3 k hk, upf hk], fun z hz => by rw [h4 z hz, upj (by omega)]⟩
    rw [u_139_52]
    simp (disch := first | assumption | omega | exact Nat.le_of_ble_eq_true rfl | decide) only [u_139_54, u_139_56, u_139_59, u_139_60, u_139_63, u_139_66, u_139_68, u_139_70, u_139_71, u_139_72, u_139_74, u_139_75, u_139_76, u_139_77, u_139_80, hc, if_false, r, rv_some, wrI, n1, h1]
theorem m_makes (hM : MS sh R) (h : isM I 393 w) (hw : okW w) {kd hd : Int} {len i : Nat} (hl : len ≤ 6) (hf : freeW w = (i : Int)) : ∃ I', cl (d + 2) 139 [.inr (.inl 392), .inl kd, .inl hd, .inl (len : Int)] (sh, I, R) = some (some (.inl (i : Int)), (sh, I', R)) ∧ isM I' 393 (setN w i (kd, hd, List.replicate len (-1), [])) ∧ FrO i I I' := by
  obtain ⟨t, r, tg_, lg⟩ := id hM
  obtain ⟨hi, c1⟩ := m_free (d := d) hM h hf
  obtain ⟨I', h1, h2, h3, h4⟩ := makes_loop (d := d + 1) (a1 := .inl kd) (a2 := .inl hd) (a3 := .inl (len : Int)) hM hi 6 0 (up (up (up (up I 393 (i : Int) kd) 393 (30 + (i : Int)) hd) 393 (60 + (i : Int)) (len : Int)) 393 (90 + (i : Int)) 0) (by omega) (fun i' hi' => by omega)
  have hfr : FrO i I I' := ⟨fun k hk => by rw [h3 k hk, upf hk, upf hk, upf hk, upf hk], fun z hz => by
    unfold nSlot at hz
    rw [h4 z (by omega), upj (by omega), upj (by omega), upj (by omega), upj (by omega)]⟩
  refine ⟨I', ?_, isM_setN h hw hi ⟨?_, fun _ => ⟨?_, ⟨?_, fun j q hq => ?_⟩, ⟨?_, fun j q hq => by cases hq⟩⟩⟩ hfr.2, hfr⟩
  · rw [c_139]
    simp (disch := first | assumption | omega | exact Nat.le_of_ble_eq_true rfl | decide) only [u_139_0, u_139_1, u_139_4, u_139_6, u_139_7, u_139_10, u_139_11, u_139_13, u_139_14, u_139_15, u_139_16, u_139_17, u_139_20, u_139_22, u_139_24, u_139_25, u_139_26, u_139_27, u_139_28, u_139_31, u_139_33, u_139_35, u_139_36, u_139_37, u_139_38, u_139_39, u_139_42, u_139_44, u_139_46, u_139_47, u_139_48, u_139_49, u_139_50, r, rv_some, wrI, Int.zero_add, c1, bnd_some, psh_some]
    exact h1
  · rw [h4 _ (by omega), upj (by omega), upj (by omega), upj (by omega), ups]
  · rw [h4 _ (by omega), upj (by omega), upj (by omega), ups]
  · rw [h4 _ (by omega), upj (by omega), ups, List.length_replicate]
  · have hj := lenOf hq
    rw [List.length_replicate] at hj
    rw [List.getElem?_replicate, if_pos hj] at hq
    cases hq
    exact h2 j (by omega)
  · rw [h4 _ (by omega), ups]; rfl
def holdsM (f k : Int) : Int := if f = 0 then 1 else if f = 1 then (if k = 1 then 1 else 0) else if f = 2 then (if k = 2 ∨ k = 3 then 1 else 0) else if k = 3 then 1 else 0
theorem m_holds (hM : MS sh R) {a b : Nat} (ha : a < 30) (hb : b < 30) : cl (d + 1) 146 [.inr (.inl 392), .inl (a : Int), .inl (b : Int)] (sh, I, R) = some (some (.inl (holdsM (I 393 (30 + (a : Int))) (I 393 (b : Int)))), (sh, I, R)) := by
  obtain ⟨t, r, tg_, lg⟩ := hM
  rw [c_146]
  unfold holdsM
  generalize hF : I 393 (30 + (a : Int)) = F
  generalize hK : I 393 (b : Int) = K
  by_cases h0 : F = 0
  · simp (disch := first | assumption | omega | exact Nat.le_of_ble_eq_true rfl | decide) only [u_146_0, u_146_1, u_146_4, u_146_5, u_146_6, u_146_7, u_146_8, u_146_9, u_146_10, u_146_13, u_146_15, u_146_16, u_146_17, u_146_18, u_146_44, u_146_45, u_146_46, u_146_47, u_146_48, u_146_51, u_146_52, u_146_55, u_146_56, u_146_57, u_146_58, u_146_59, u_146_62, u_146_63, u_146_64, u_146_67, u_146_68, u_146_71, u_146_72, u_146_73, u_146_74, u_146_75, u_146_78, u_146_79, u_146_82, u_146_83, r, rv_some, wrI, Int.zero_add, hF, hK, ev_sw, ev_sw0, h0, if_true, if_false, Int.reduceEq, Int.natCast_zero, Int.cast_ofNat_Int]
  · by_cases h1 : F = 1
    · by_cases hk : K = 1
      · simp (disch := first | assumption | omega | exact Nat.le_of_ble_eq_true rfl | decide) only [u_146_0, u_146_1, u_146_4, u_146_5, u_146_6, u_146_7, u_146_8, u_146_9, u_146_10, u_146_13, u_146_15, u_146_16, u_146_17, u_146_18, u_146_44, u_146_45, u_146_46, u_146_47, u_146_48, u_146_51, u_146_52, u_146_55, u_146_56, u_146_57, u_146_58, u_146_59, u_146_62, u_146_63, u_146_64, u_146_67, u_146_68, u_146_71, u_146_72, u_146_73, u_146_74, u_146_75, u_146_78, u_146_79, u_146_82, u_146_83, r, rv_some, wrI, Int.zero_add, hF, hK, ev_sw, ev_sw0, h1, hk, if_true, if_false, not_true, Int.reduceEq, Int.natCast_zero, Int.cast_ofNat_Int]
      · simp (disch := first | assumption | omega | exact Nat.le_of_ble_eq_true rfl | decide) only [u_146_0, u_146_1, u_146_4, u_146_5, u_146_6, u_146_7, u_146_8, u_146_9, u_146_10, u_146_13, u_146_15, u_146_16, u_146_17, u_146_18, u_146_44, u_146_45, u_146_46, u_146_47, u_146_48, u_146_51, u_146_52, u_146_55, u_146_56, u_146_57, u_146_58, u_146_59, u_146_62, u_146_63, u_146_64, u_146_67, u_146_68, u_146_71, u_146_72, u_146_73, u_146_74, u_146_75, u_146_78, u_146_79, u_146_82, u_146_83, r, rv_some, wrI, Int.zero_add, hF, hK, ev_sw, ev_sw0, h1, hk, if_true, if_false, not_false_eq_true, Int.reduceEq, Int.natCast_zero, Int.cast_ofNat_Int]
    · by_cases h2 : F = 2
      · by_cases hk : K = 2
        · simp (disch := first | assumption | omega | exact Nat.le_of_ble_eq_true rfl | decide) only [u_146_0, u_146_1, u_146_4, u_146_5, u_146_6, u_146_7, u_146_8, u_146_9, u_146_10, u_146_13, u_146_15, u_146_16, u_146_17, u_146_18, u_146_44, u_146_45, u_146_46, u_146_47, u_146_48, u_146_51, u_146_52, u_146_55, u_146_56, u_146_57, u_146_58, u_146_59, u_146_62, u_146_63, u_146_64, u_146_67, u_146_68, u_146_71, u_146_72, u_146_73, u_146_74, u_146_75, u_146_78, u_146_79, u_146_82, u_146_83, r, rv_some, wrI, Int.zero_add, hF, hK, ev_sw, ev_sw0, h2, hk, if_true, if_false, true_or, not_true, Int.reduceEq, Int.natCast_zero, Int.cast_ofNat_Int]
        · by_cases hk3 : K = 3
          · simp (disch := first | assumption | omega | exact Nat.le_of_ble_eq_true rfl | decide) only [u_146_0, u_146_1, u_146_4, u_146_5, u_146_6, u_146_7, u_146_8, u_146_9, u_146_10, u_146_13, u_146_15, u_146_16, u_146_17, u_146_18, u_146_44, u_146_45, u_146_46, u_146_47, u_146_48, u_146_51, u_146_52, u_146_55, u_146_56, u_146_57, u_146_58, u_146_59, u_146_62, u_146_63, u_146_64, u_146_67, u_146_68, u_146_71, u_146_72, u_146_73, u_146_74, u_146_75, u_146_78, u_146_79, u_146_82, u_146_83, r, rv_some, wrI, Int.zero_add, hF, hK, ev_sw, ev_sw0, h2, hk3, if_true, if_false, or_true, not_true, Int.reduceEq, Int.natCast_zero, Int.cast_ofNat_Int]
          · simp (disch := first | assumption | omega | exact Nat.le_of_ble_eq_true rfl | decide) only [u_146_0, u_146_1, u_146_4, u_146_5, u_146_6, u_146_7, u_146_8, u_146_9, u_146_10, u_146_13, u_146_15, u_146_16, u_146_17, u_146_18, u_146_44, u_146_45, u_146_46, u_146_47, u_146_48, u_146_51, u_146_52, u_146_55, u_146_56, u_146_57, u_146_58, u_146_59, u_146_62, u_146_63, u_146_64, u_146_67, u_146_68, u_146_71, u_146_72, u_146_73, u_146_74, u_146_75, u_146_78, u_146_79, u_146_82, u_146_83, r, rv_some, wrI, Int.zero_add, hF, hK, ev_sw, ev_sw0, h2, hk, hk3, if_true, if_false, or_self, not_false_eq_true, Int.reduceEq, Int.natCast_zero, Int.cast_ofNat_Int]
      · by_cases hk3 : K = 3
        · simp (disch := first | assumption | omega | exact Nat.le_of_ble_eq_true rfl | decide) only [u_146_0, u_146_1, u_146_4, u_146_5, u_146_6, u_146_7, u_146_8, u_146_9, u_146_10, u_146_13, u_146_15, u_146_16, u_146_17, u_146_18, u_146_44, u_146_45, u_146_46, u_146_47, u_146_48, u_146_51, u_146_52, u_146_55, u_146_56, u_146_57, u_146_58, u_146_59, u_146_62, u_146_63, u_146_64, u_146_67, u_146_68, u_146_71, u_146_72, u_146_73, u_146_74, u_146_75, u_146_78, u_146_79, u_146_82, u_146_83, r, rv_some, wrI, Int.zero_add, hF, hK, ev_sw, ev_sw0, h0, h1, h2, hk3, if_true, if_false, not_true, Int.reduceEq, Int.natCast_zero, Int.cast_ofNat_Int]
        · simp (disch := first | assumption | omega | exact Nat.le_of_ble_eq_true rfl | decide) only [u_146_0, u_146_1, u_146_4, u_146_5, u_146_6, u_146_7, u_146_8, u_146_9, u_146_10, u_146_13, u_146_15, u_146_16, u_146_17, u_146_18, u_146_44, u_146_45, u_146_46, u_146_47, u_146_48, u_146_51, u_146_52, u_146_55, u_146_56, u_146_57, u_146_58, u_146_59, u_146_62, u_146_63, u_146_64, u_146_67, u_146_68, u_146_71, u_146_72, u_146_73, u_146_74, u_146_75, u_146_78, u_146_79, u_146_82, u_146_83, r, rv_some, wrI, Int.zero_add, hF, hK, ev_sw, ev_sw0, h0, h1, h2, hk3, if_true, if_false, not_false_eq_true, Int.reduceEq, Int.natCast_zero, Int.cast_ofNat_Int]
end MODEL
