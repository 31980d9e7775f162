/-! FIELDS: what changes them -/
theorem upk {α : Type} {g : Nat → Int → α} {k k' : Nat} {j j' : Int} {v : α} (h : k' ≠ k) : up g k j v k' j' = g k' j' := by
  simp [up, h]
theorem upj {α : Type} {g : Nat → Int → α} {k : Nat} {j j' : Int} {v : α} (h : j' ≠ j) : up g k j v k j' = g k j' := by
  simp [up, h]
theorem ups {α : Type} {g : Nat → Int → α} {k : Nat} {j : Int} {v : α} : up g k j v k j = v := by
  simp [up]
theorem upf {α : Type} {g : Nat → Int → α} {k k' : Nat} {j : Int} {v : α} (h : k' ≠ k) : up g k j v k' = g k' := up_ne h
theorem FrF.rf {f : Nat} {I : IM} : FrF f I I := ⟨fun _ _ _ _ => rfl, rfl⟩
theorem FrF.tr {f : Nat} {I I1 I2 : IM} (h1 : FrF f I I1) (h2 : FrF f I1 I2) : FrF f I I2 := ⟨fun k a b c => (h2.1 k a b c).trans (h1.1 k a b c), h2.2.trans h1.2⟩
theorem isF.fr {f g : Nat} {I I1 : IM} {L : FL} (h : isF I g L) (h1 : FrF f I I1) (hd : f + 2 < g ∨ g + 2 < f) : isF I1 g L := by
  unfold isF
  rw [h1.1 g (by omega) (by omega) (by omega), h1.1 (g + 1) (by omega) (by omega) (by omega), h1.1 (g + 2) (by omega) (by omega) (by omega)]
  exact h
theorem isF_app {I : IM} {f : Nat} {L : FL} {n v : Int} (h : isF I f L) : isF (up (up (up I (f + 1) (L.length : Int) n) (f + 2) (L.length : Int) v) f 3 ((L.length + 1 : Nat) : Int)) f (L ++ [(n, v)]) := by
  refine ⟨?_, fun j p hp => ?_⟩
  · rw [ups, List.length_append]; rfl
  · by_cases hj : j < L.length
    · rw [List.getElem?_append_left hj] at hp
      have := h.2 j p hp
      rw [upk (by omega), upk (by omega), upj (by omega), upk (by omega), upj (by omega), upk (by omega)]
      exact this
    · rw [List.getElem?_append_right (by omega)] at hp
      have hz : j - L.length < 1 := (List.getElem?_eq_some_iff.mp hp).1
      obtain rfl : j = L.length := by omega
      rw [Nat.sub_self] at hp
      cases hp
      rw [upk (by omega), upk (by omega), ups, upk (by omega), ups]
      exact ⟨rfl, rfl⟩
def fmiss (m : Nat) (L M : FL) : FL := M.foldl (fun L p => if fidx L p.1 = -1 ∧ L.length < m then L ++ [p] else L) L
def fbes (L M : FL) : Nat := (L.filter (fun p => decide (fidx M p.1 = -1))).length
theorem fmiss_len (m : Nat) : ∀ (M L : FL), L.length ≤ m → (fmiss m L M).length ≤ m
  | [], L, h => h
  | p :: M, L, h => by
    show (fmiss m (if _ then _ else _) M).length ≤ m
    apply fmiss_len m M
    split
    · rw [List.length_append]; simp; omega
    · exact h
section FIELDS
variable {sh : Shp} {R : RM} {I : IM} {f g d m : Nat} {L M : FL} {n v : Int}
theorem s_append (hF : FS sh R f) (h : isF I f L) (hm : I f 0 = m) (hl : L.length < m) (h6 : m ≤ 6) : ∃ I', cl (d + 2) 9 [.inr (.inl f), .inl n, .inl v] (sh, I, R) = some (some (.inl 1), (sh, I', R)) ∧ isF I' f (L ++ [(n, v)]) ∧ FrF f I I' := by
  obtain ⟨t0, t1, l1, t2, l2, r1, r2⟩ := id hF
  refine ⟨_, ?_, isF_app h, ?_⟩
  · rw [c_9]
    have hx : ¬ m ≤ L.length := by omega
    simp (disch := first | assumption | omega | decide) only [u_9_0, u_9_1, u_9_4, u_9_7, u_9_8, u_9_9, u_9_10, u_9_13, u_9_14, u_9_17, u_9_18, u_9_19, u_9_20, u_9_23, u_9_24, u_9_27, u_9_28, u_9_29, u_9_30, u_9_31, u_9_34, u_9_35, u_9_36, u_9_39, u_9_40, s_isFull hF h hm, bnd_some, psh_some, hx, if_true, if_false, List.length_nil, r1, r2, rv_some, l1, l2, h.1, upk, wrN]
  · refine ⟨fun k a b c => ?_, ?_⟩
    · rw [upf a, upf c, upf b]
    · rw [upj (by decide), upk (by omega), upk (by omega)]
theorem s_appendF (hF : FS sh R f) (h : isF I f L) (hm : I f 0 = m) (hl : m ≤ L.length) : cl (d + 2) 9 [.inr (.inl f), .inl n, .inl v] (sh, I, R) = some (some (.inl 0), (sh, I, R)) := by
  have t0 := hF.1
  rw [c_9]
  simp (disch := first | assumption | omega | decide) only [u_9_0, u_9_1, u_9_4, u_9_7, u_9_8, u_9_9, u_9_10, u_9_13, u_9_14, u_9_17, u_9_18, u_9_19, u_9_20, u_9_23, u_9_24, u_9_27, u_9_28, u_9_29, u_9_30, u_9_31, u_9_34, u_9_35, u_9_36, u_9_39, u_9_40, s_isFull hF h hm, bnd_some, psh_some, hl, if_true, if_false, List.length_nil, Int.reduceEq]
theorem s_clear (hF : FS sh R f) : cl (d + 1) 12 [.inr (.inl f)] (sh, I, R) = some (none, (sh, up I f 3 0, R)) := by
  have t0 := hF.1
  rw [c_12]
  simp (disch := first | assumption | omega | decide) only [u_12_0, u_12_1, u_12_2, u_12_5]
theorem clear_isF : isF (up I f 3 0) f [] := ⟨ups, fun j p hp => by cases hp⟩
theorem clear_fr : FrF f I (up I f 3 0) := ⟨fun k a _ _ => upf a, upj (by decide)⟩
theorem takeF_loop (hF : FS sh R f) (hG : FS sh R g) (hd : f + 2 < g ∨ g + 2 < f) (hM : M.length ≤ m) (h6 : m ≤ 6) : ∀ (k j : Nat) (I : IM), j + k = M.length → isF I f (M.take j) → isF I g M → I f 0 = m → ∃ I', ev S0 (d + 2) 13 6 [.inr (.inl f), .inr (.inl g), .inl (j : Int)] [] (sh, I, R) = some (none, (sh, I', R)) ∧ isF I' f M ∧ FrF f I I' := by
  obtain ⟨t0, t1, l1, t2, l2, r1, r2⟩ := id hF
  obtain ⟨s0, s1, m1, s2, m2, q1, q2⟩ := id hG
  intro k
  induction k with
  | zero =>
    intro j I hj hf hg hm
    refine ⟨I, ?_, ?_, FrF.rf⟩
    · have hc : (M.length : Int) ≤ (j : Int) := by omega
      simp (disch := first | assumption | omega | decide) only [u_13_0, u_13_1, u_13_4, u_13_5, u_13_6, u_13_7, u_13_7n, u_13_8, u_13_11, u_13_14, u_13_15, u_13_15n, u_13_16, u_13_19, u_13_20, u_13_21, u_13_21n, u_13_22, u_13_25, u_13_26, u_13_27, u_13_30, u_13_31, u_13_34, u_13_37, hg.1, hc, if_true]
    · rw [List.take_of_length_le (by omega)] at hf
      exact hf
  | succ k ih =>
    intro j I hj hf hg hm
    have hjl : j < M.length := by omega
    have hc : ¬ (M.length : Int) ≤ (j : Int) := by omega
    have hlt : (M.take j).length = j := by rw [List.length_take]; omega
    obtain ⟨I1, h1, h2, h3⟩ := s_append (d := d) (n := (M[j]).1) (v := (M[j]).2) hF hf hm (by omega) h6
    obtain ⟨I', h4, h5, h7⟩ := ih (j + 1) I1 (by omega) (by rw [List.take_succ_eq_append_getElem hjl]; exact h2) (hg.fr h3 hd) (h3.2.trans hm)
    refine ⟨I', ?_, h5, h3.tr h7⟩
    rw [u_13_6]
    simp (disch := first | assumption | omega | decide) only [u_13_0, u_13_1, u_13_4, u_13_5, u_13_7, u_13_7n, u_13_8, u_13_11, u_13_14, u_13_15, u_13_15n, u_13_16, u_13_19, u_13_20, u_13_21, u_13_21n, u_13_22, u_13_25, u_13_26, u_13_27, u_13_30, u_13_31, u_13_34, u_13_37, hg.1, hc, if_false, q1, q2, rv_some, m1, m2, (hg.at hjl).1, (hg.at hjl).2, h1, bnd_some, psh_some, wrN, h4, List.length_nil]
theorem s_takeF (hF : FS sh R f) (hG : FS sh R g) (hd : f + 2 < g ∨ g + 2 < f) (hg : isF I g M) (hm : I f 0 = m) (hM : M.length ≤ m) (h6 : m ≤ 6) : ∃ I', cl (d + 3) 13 [.inr (.inl f), .inr (.inl g)] (sh, I, R) = some (none, (sh, I', R)) ∧ isF I' f M ∧ FrF f I I' := by
  have t0 := hF.1
  have hfr : FrF f I (up I f 3 0) := clear_fr
  obtain ⟨I', h1, h2, h3⟩ := takeF_loop (d := d) hF hG hd hM h6 M.length 0 (up I f 3 0) (by omega) (by rw [List.take_zero]; exact clear_isF) (hg.fr hfr hd) (hfr.2.trans hm)
  refine ⟨I', ?_, h2, hfr.tr h3⟩
  rw [c_13]
  simp (disch := first | assumption | omega | decide) only [u_13_0, u_13_1, u_13_4, u_13_5, s_clear hF, bnd_some, psh_none, List.length_nil]
  exact h1
theorem addM_loop (hF : FS sh R f) (hG : FS sh R g) (hd : f + 2 < g ∨ g + 2 < f) (hL : L.length ≤ m) (hM : M.length ≤ 6) (h6 : m ≤ 6) : ∀ (k j : Nat) (I : IM), j + k = M.length → isF I f (fmiss m L (M.take j)) → isF I g M → I f 0 = m → ∃ I', ev S0 (d + 2) 14 2 [.inr (.inl f), .inr (.inl g), .inl (j : Int)] [] (sh, I, R) = some (none, (sh, I', R)) ∧ isF I' f (fmiss m L M) ∧ FrF f I I' := by
  obtain ⟨t0, t1, l1, t2, l2, r1, r2⟩ := id hF
  obtain ⟨s0, s1, m1, s2, m2, q1, q2⟩ := id hG
  intro k
  induction k with
  | zero =>
    intro j I hj hf hg hm
    refine ⟨I, ?_, ?_, FrF.rf⟩
    · have hc : (M.length : Int) ≤ (j : Int) := by omega
      simp (disch := first | assumption | omega | decide) only [u_14_0, u_14_1, u_14_2, u_14_3, u_14_3n, u_14_4, u_14_7, u_14_10, u_14_11, u_14_11n, u_14_12, u_14_15, u_14_16, u_14_17, u_14_20, u_14_23, u_14_24, u_14_24n, u_14_25, u_14_28, u_14_29, u_14_30, u_14_30n, u_14_31, u_14_34, u_14_35, u_14_36, u_14_39, u_14_40, u_14_43, u_14_46, hg.1, hc, if_true]
    · rw [List.take_of_length_le (by omega)] at hf
      exact hf
  | succ k ih =>
    intro j I hj hf hg hm
    have hjl : j < M.length := by omega
    have hc : ¬ (M.length : Int) ≤ (j : Int) := by omega
    have hlen := fmiss_len m (M.take j) L hL
    have hstep : fmiss m L (M.take (j + 1)) = if fidx (fmiss m L (M.take j)) (M[j]).1 = -1 ∧ (fmiss m L (M.take j)).length < m then fmiss m L (M.take j) ++ [M[j]] else fmiss m L (M.take j) := by
      unfold fmiss
      rw [List.take_succ_eq_append_getElem hjl, List.foldl_append]
      rfl
    by_cases hx : fidx (fmiss m L (M.take j)) (M[j]).1 = -1
    · by_cases hy : (fmiss m L (M.take j)).length < m
      · obtain ⟨I1, h1, h2, h3⟩ := s_append (d := d) (n := (M[j]).1) (v := (M[j]).2) hF hf hm hy h6
        obtain ⟨I', h4, h5, h7⟩ := ih (j + 1) I1 (by omega) (by rw [hstep, if_pos ⟨hx, hy⟩]; exact h2) (hg.fr h3 hd) (h3.2.trans hm)
        refine ⟨I', ?_, h5, h3.tr h7⟩
        rw [u_14_2]
        simp (disch := first | assumption | omega | decide) only [u_14_0, u_14_1, u_14_3, u_14_3n, u_14_4, u_14_7, u_14_10, u_14_11, u_14_11n, u_14_12, u_14_15, u_14_16, u_14_17, u_14_20, u_14_23, u_14_24, u_14_24n, u_14_25, u_14_28, u_14_29, u_14_30, u_14_30n, u_14_31, u_14_34, u_14_35, u_14_36, u_14_39, u_14_40, u_14_43, u_14_46, hg.1, hc, if_false, if_true, q1, q2, rv_some, m1, m2, (hg.at hjl).1, (hg.at hjl).2, s_has hF hf (by omega), hx, not_true, h1, bnd_some, psh_some, wrN, h4, List.length_nil]
      · obtain ⟨I', h4, h5, h7⟩ := ih (j + 1) I (by omega) (by rw [hstep, if_neg (fun q => hy q.2)]; exact hf) hg hm
        refine ⟨I', ?_, h5, h7⟩
        rw [u_14_2]
        simp (disch := first | assumption | omega | decide) only [u_14_0, u_14_1, u_14_3, u_14_3n, u_14_4, u_14_7, u_14_10, u_14_11, u_14_11n, u_14_12, u_14_15, u_14_16, u_14_17, u_14_20, u_14_23, u_14_24, u_14_24n, u_14_25, u_14_28, u_14_29, u_14_30, u_14_30n, u_14_31, u_14_34, u_14_35, u_14_36, u_14_39, u_14_40, u_14_43, u_14_46, hg.1, hc, if_false, if_true, q1, q2, rv_some, m1, m2, (hg.at hjl).1, (hg.at hjl).2, s_has hF hf (by omega), hx, not_true, s_appendF hF hf hm (by omega), bnd_some, psh_some, wrN, h4, List.length_nil]
    · obtain ⟨I', h4, h5, h7⟩ := ih (j + 1) I (by omega) (by rw [hstep, if_neg (fun q => hx q.1)]; exact hf) hg hm
      refine ⟨I', ?_, h5, h7⟩
      rw [u_14_2]
      simp (disch := first | assumption | omega | decide) only [u_14_0, u_14_1, u_14_3, u_14_3n, u_14_4, u_14_7, u_14_10, u_14_11, u_14_11n, u_14_12, u_14_15, u_14_16, u_14_17, u_14_20, u_14_23, u_14_24, u_14_24n, u_14_25, u_14_28, u_14_29, u_14_30, u_14_30n, u_14_31, u_14_34, u_14_35, u_14_36, u_14_39, u_14_40, u_14_43, u_14_46, hg.1, hc, if_false, if_true, q1, q2, rv_some, m1, m2, (hg.at hjl).1, (hg.at hjl).2, s_has hF hf (by omega), hx, Int.reduceEq, not_false_eq_true, bnd_some, psh_some, wrN, h4, List.length_nil]
theorem s_addM (hF : FS sh R f) (hG : FS sh R g) (hd : f + 2 < g ∨ g + 2 < f) (hf : isF I f L) (hg : isF I g M) (hm : I f 0 = m) (hL : L.length ≤ m) (hM : M.length ≤ 6) (h6 : m ≤ 6) : ∃ I', cl (d + 3) 14 [.inr (.inl f), .inr (.inl g)] (sh, I, R) = some (none, (sh, I', R)) ∧ isF I' f (fmiss m L M) ∧ FrF f I I' := by
  obtain ⟨I', h1, h2, h3⟩ := addM_loop (d := d) hF hG hd hL hM h6 M.length 0 I (by omega) (by rw [List.take_zero]; exact hf) hg hm
  refine ⟨I', ?_, h2, h3⟩
  rw [c_14, u_14_0, u_14_1]
  exact h1
end FIELDS
