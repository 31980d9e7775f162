/-! FIELDS: change, remove, howManyBeside, isSameAs -/
/-- a number in the list becomes v -/
def fupd : FL → Int → Int → FL
  | [], _, _ => []
  | p :: L, n, v => if p.1 = n then (n, v) :: L else p :: fupd L n v
def frem : FL → Int → FL
  | [], _ => []
  | p :: L, n => if p.1 = n then L else p :: frem L n
theorem fupd_len : ∀ (L : FL) (n v : Int), (fupd L n v).length = L.length
  | [], _, _ => rfl
  | p :: L, n, v => by
    unfold fupd
    split
    · rfl
    · simp [fupd_len L n v]
theorem fupd_get : ∀ (L : FL) (n v : Int) (j i : Nat), fix L n j = ((j + i : Nat) : Int) → ∀ x : Nat, (fupd L n v)[x]? = if x = i then (L[x]?).map (fun _ => (n, v)) else L[x]?
  | [], n, v, j, i, h, x => by simp only [fix] at h; omega
  | p :: L, n, v, j, i, h, x => by
    unfold fix at h
    unfold fupd
    by_cases hp : p.1 = n
    · rw [if_pos hp] at h ⊢
      obtain rfl : i = 0 := by omega
      cases x with
      | zero => simp
      | succ x => simp
    · rw [if_neg hp] at h ⊢
      cases i with
      | zero =>
        rcases fix_spec L n (j + 1) with ⟨h1, -⟩ | ⟨i, q, h1, -⟩
        · omega
        · omega
      | succ i =>
        have ih := fupd_get L n v (j + 1) i (by rw [h]; omega)
        cases x with
        | zero => simp
        | succ x =>
          simp only [List.getElem?_cons_succ, ih x, Nat.succ.injEq, Nat.add_right_cancel_iff]
theorem frem_eq : ∀ (L : FL) (n : Int) (j i : Nat), fix L n j = ((j + i : Nat) : Int) → frem L n = L.eraseIdx i
  | [], n, j, i, h => by simp only [fix] at h; omega
  | p :: L, n, j, i, h => by
    unfold fix at h
    unfold frem
    by_cases hp : p.1 = n
    · rw [if_pos hp] at h ⊢
      obtain rfl : i = 0 := by omega
      rfl
    · rw [if_neg hp] at h ⊢
      cases i with
      | zero =>
        rcases fix_spec L n (j + 1) with ⟨h1, -⟩ | ⟨i, q, h1, -⟩
        · omega
        · omega
      | succ i =>
        rw [frem_eq L n (j + 1) i (by rw [h]; omega)]
        rfl
section FIELDS
variable {sh : Shp} {R : RM} {I : IM} {f g d m : Nat} {L M : FL} {n v : Int}
theorem isF_upd {i : Nat} {p : Int × Int} (h : isF I f L) (hi : fidx L n = (i : Int)) (hp : L[i]? = some p) (hn : p.1 = n) : isF (up I (f + 2) (i : Int) v) f (fupd L n v) := by
  refine ⟨?_, fun x q hq => ?_⟩
  · rw [upk (by omega), fupd_len]; exact h.1
  · rw [fupd_get L n v 0 i (by rw [Nat.zero_add]; exact hi)] at hq
    by_cases hx : x = i
    · subst hx
      rw [if_pos rfl, hp] at hq
      cases hq
      rw [upk (by omega), ups, (h.2 x p hp).1, hn]
      exact ⟨rfl, rfl⟩
    · rw [if_neg hx] at hq
      rw [upk (by omega), upj (by omega)]
      exact h.2 x q hq
theorem s_change (hF : FS sh R f) (h : isF I f L) (hm : I f 0 = m) (hL : L.length ≤ m) (h6 : m ≤ 6) : ∃ I', cl (d + 3) 10 [.inr (.inl f), .inl n, .inl v] (sh, I, R) = some (some (.inl (if fidx L n = -1 then (if L.length < m then 0 else -2000000000) else fnum L n)), (sh, I', R)) ∧ isF I' f (if fidx L n = -1 then (if L.length < m then L ++ [(n, v)] else L) else fupd L n v) ∧ FrF f I I' := by
  obtain ⟨t0, t1, l1, t2, l2, r1, r2⟩ := id hF
  rcases fidx_spec L n with ⟨h1, h2, -⟩ | ⟨i, p, h1, hi, h2, h3, h4⟩
  · rw [if_pos h1, if_pos h1]
    by_cases hl : L.length < m
    · obtain ⟨I', g1, g2, g3⟩ := s_append (d := d) (n := n) (v := v) hF h hm hl h6
      rw [if_pos hl, if_pos hl]
      refine ⟨I', ?_, g2, g3⟩
      rw [c_10]
      simp (disch := first | assumption | omega | exact Nat.le_of_ble_eq_true rfl | decide) only [u_10_0, u_10_1, u_10_2, u_10_5, u_10_6, u_10_7, u_10_8, u_10_11, u_10_12, u_10_13, u_10_14, u_10_17, u_10_20, u_10_21, u_10_24, u_10_26, u_10_27, u_10_28, u_10_31, u_10_32, u_10_33, u_10_35, u_10_36, u_10_39, u_10_40, u_10_41, u_10_42, u_10_44, s_placeOf hF h (by omega : L.length ≤ 6), bnd_some, psh_some, h1, not_true, if_false, List.length_nil, g1, Int.reduceEq]
    · rw [if_neg hl, if_neg hl]
      refine ⟨I, ?_, h, FrF.rf⟩
      rw [c_10]
      simp (disch := first | assumption | omega | exact Nat.le_of_ble_eq_true rfl | decide) only [u_10_0, u_10_1, u_10_2, u_10_5, u_10_6, u_10_7, u_10_8, u_10_11, u_10_12, u_10_13, u_10_14, u_10_17, u_10_20, u_10_21, u_10_24, u_10_26, u_10_27, u_10_28, u_10_31, u_10_32, u_10_33, u_10_35, u_10_36, u_10_39, u_10_40, u_10_41, u_10_42, u_10_44, s_placeOf hF h (by omega : L.length ≤ 6), bnd_some, psh_some, h1, not_true, if_false, if_true, List.length_nil, s_appendF hF h hm (by omega : m ≤ L.length), Int.reduceEq]
  · have hne : ¬ fidx L n = -1 := by omega
    have hne2 : ¬ ((i : Int) = -1) := by omega
    rw [if_neg hne, if_neg hne]
    refine ⟨up I (f + 2) (i : Int) v, ?_, isF_upd h h1 h2 h3, ⟨fun k a b c => upf c, upk (by omega)⟩⟩
    rw [c_10]
    simp (disch := first | assumption | omega | exact Nat.le_of_ble_eq_true rfl | decide) only [u_10_0, u_10_1, u_10_2, u_10_5, u_10_6, u_10_7, u_10_8, u_10_11, u_10_12, u_10_13, u_10_14, u_10_17, u_10_20, u_10_21, u_10_24, u_10_26, u_10_27, u_10_28, u_10_31, u_10_32, u_10_33, u_10_35, u_10_36, u_10_39, u_10_40, u_10_41, u_10_42, u_10_44, s_placeOf hF h (by omega : L.length ≤ 6), bnd_some, psh_some, h1, hne2, not_false_eq_true, if_true, List.length_nil, r2, rv_some, l2, (h.2 i p h2).2, h4]
theorem rem_loop (hF : FS sh R f) (hL : L.length ≤ 6) {s i0 : Nat} (hs : s + 1 = L.length) (hi0 : i0 ≤ s) {a1 a2 : AV} : ∀ (k j : Nat) (I : IM), j + k = s → i0 ≤ j → I f 3 = (s : Int) → (∀ (x : Nat) p, x < i0 ∨ j ≤ x → L[x]? = some p → I (f + 1) x = p.1 ∧ I (f + 2) x = p.2) → (∀ (x : Nat) p, i0 ≤ x → x < j → L[x + 1]? = some p → I (f + 1) x = p.1 ∧ I (f + 2) x = p.2) → ∃ I', ev S0 d 11 25 [.inr (.inl f), a1, a2, .inl (j : Int)] [] (sh, I, R) = some (some (.inl 1), (sh, I', R)) ∧ isF I' f (L.eraseIdx i0) ∧ FrF f I I' := by
  obtain ⟨t0, t1, l1, t2, l2, r1, r2⟩ := id hF
  intro k
  induction k with
  | zero =>
    intro j I hj hij h3 hA hB
    refine ⟨I, ?_, ⟨?_, fun x p hp => ?_⟩, FrF.rf⟩
    · have hc : (s : Int) ≤ (j : Int) := by omega
      simp (disch := first | assumption | omega | exact Nat.le_of_ble_eq_true rfl | decide) only [u_11_0, u_11_1, u_11_2, u_11_5, u_11_6, u_11_7, u_11_8, u_11_11, u_11_12, u_11_13, u_11_14, u_11_15, u_11_18, u_11_19, u_11_20, u_11_23, u_11_24, u_11_25, u_11_26, u_11_27, u_11_30, u_11_33, u_11_34, u_11_37, u_11_38, u_11_39, u_11_42, u_11_43, u_11_44, u_11_45, u_11_46, u_11_47, u_11_48, u_11_51, u_11_52, u_11_53, u_11_56, u_11_57, u_11_58, u_11_59, u_11_60, u_11_61, u_11_64, u_11_67, u_11_68, h3, hc, if_true]
    · rw [h3, List.length_eraseIdx, if_pos (by omega)]
      omega
    · rw [List.getElem?_eraseIdx] at hp
      split at hp
      next hx => exact hA x p (Or.inl hx) hp
      next hx =>
        have := (List.getElem?_eq_some_iff.mp hp).1
        exact hB x p (by omega) (by omega) hp
  | succ k ih =>
    intro j I hj hij h3 hA hB
    have hc : ¬ (s : Int) ≤ (j : Int) := by omega
    have hj1 : j + 1 < L.length := by omega
    have hv := hA (j + 1) L[j + 1] (Or.inr (by omega)) (List.getElem?_eq_getElem hj1)
    obtain ⟨I', h4, h5, h7⟩ := ih (j + 1) (up (up I (f + 1) (j : Int) (L[j + 1]).1) (f + 2) (j : Int) (L[j + 1]).2) (by omega) (by omega) (by rw [upk (by omega), upk (by omega)]; exact h3) (fun x p hx hp => by
      rw [upk (by omega), upj (by omega), upj (by omega), upk (by omega)]
      exact hA x p (by omega) hp) (fun x p hx1 hx2 hp => by
      by_cases hxj : x = j
      · subst hxj
        rw [List.getElem?_eq_getElem hj1] at hp
        cases hp
        rw [upk (by omega), ups, ups]
        exact ⟨rfl, rfl⟩
      · rw [upk (by omega), upj (by omega), upj (by omega), upk (by omega)]
        exact hB x p hx1 (by omega) hp)
    refine ⟨I', ?_, h5, FrF.tr ⟨fun k a b c => by rw [upf c, upf b], by rw [upk (by omega), upk (by omega)]⟩ h7⟩
    rw [u_11_25]
    simp (disch := first | assumption | omega | exact Nat.le_of_ble_eq_true rfl | decide) only [u_11_0, u_11_1, u_11_2, u_11_5, u_11_6, u_11_7, u_11_8, u_11_11, u_11_12, u_11_13, u_11_14, u_11_15, u_11_18, u_11_19, u_11_20, u_11_23, u_11_24, u_11_26, u_11_27, u_11_30, u_11_33, u_11_34, u_11_37, u_11_38, u_11_39, u_11_42, u_11_43, u_11_44, u_11_45, u_11_46, u_11_47, u_11_48, u_11_51, u_11_52, u_11_53, u_11_56, u_11_57, u_11_58, u_11_59, u_11_60, u_11_61, u_11_64, u_11_67, u_11_68, h3, hc, if_false, r1, r2, rv_some, l1, l2, wrN, hv.1, hv.2, upk, h4]
theorem s_remove (hF : FS sh R f) (h : isF I f L) (hL : L.length ≤ 6) : ∃ I', cl (d + 2) 11 [.inr (.inl f), .inl n] (sh, I, R) = some (some (.inl (if fidx L n = -1 then 0 else 1)), (sh, I', R)) ∧ isF I' f (if fidx L n = -1 then L else frem L n) ∧ FrF f I I' := by
  obtain ⟨t0, t1, l1, t2, l2, r1, r2⟩ := id hF
  rcases fidx_spec L n with ⟨h1, h2, -⟩ | ⟨i, p, h1, hi, h2, h3, h4⟩
  · rw [if_pos h1, if_pos h1]
    refine ⟨I, ?_, h, FrF.rf⟩
    rw [c_11]
    simp (disch := first | assumption | omega | exact Nat.le_of_ble_eq_true rfl | decide) only [u_11_0, u_11_1, u_11_2, u_11_5, u_11_6, u_11_7, u_11_8, u_11_11, u_11_12, u_11_13, u_11_14, u_11_15, u_11_18, u_11_19, u_11_20, u_11_23, u_11_24, u_11_25, u_11_26, u_11_27, u_11_30, u_11_33, u_11_34, u_11_37, u_11_38, u_11_39, u_11_42, u_11_43, u_11_44, u_11_45, u_11_46, u_11_47, u_11_48, u_11_51, u_11_52, u_11_53, u_11_56, u_11_57, u_11_58, u_11_59, u_11_60, u_11_61, u_11_64, u_11_67, u_11_68, s_placeOf hF h hL, bnd_some, psh_some, h1, not_true, if_false, List.length_nil]
  · have hne : ¬ fidx L n = -1 := by omega
    have hne2 : ¬ ((i : Int) = -1) := by omega
    have hw : wr ((L.length : Int) - 1) = ((L.length - 1 : Nat) : Int) := by rw [wr_id ⟨by omega, by omega⟩]; omega
    rw [if_neg hne, if_neg hne, frem_eq L n 0 i (by rw [Nat.zero_add]; exact h1)]
    obtain ⟨I', g1, g2, g3⟩ := rem_loop (d := d + 1) (a1 := .inl n) (a2 := .inl (i : Int)) hF hL (s := L.length - 1) (i0 := i) (by omega) (by omega) (L.length - 1 - i) i (up I f 3 ((L.length - 1 : Nat) : Int)) (by omega) (by omega) ups (fun x q _ hq => by
      rw [upk (by omega), upk (by omega)]
      exact h.2 x q hq) (fun x q hx1 hx2 _ => by omega)
    refine ⟨I', ?_, g2, FrF.tr ⟨fun k a b c => upf a, upj (by decide)⟩ g3⟩
    rw [c_11]
    simp (disch := first | assumption | omega | exact Nat.le_of_ble_eq_true rfl | decide) only [u_11_0, u_11_1, u_11_2, u_11_5, u_11_6, u_11_7, u_11_8, u_11_11, u_11_12, u_11_13, u_11_14, u_11_15, u_11_18, u_11_19, u_11_20, u_11_23, u_11_24, s_placeOf hF h hL, bnd_some, psh_some, h1, hne2, not_false_eq_true, if_true, List.length_nil, h.1, hw, g1]
theorem bes_loop (hF : FS sh R f) (hG : FS sh R g) (h : isF I f L) (hg : isF I g M) (hL : L.length ≤ 6) (hM : M.length ≤ 6) : ∀ (k j : Nat), j + k = L.length → ev S0 (d + 2) 15 4 [.inr (.inl f), .inr (.inl g), .inl ((fbes (L.take j) M : Nat) : Int), .inl (j : Int)] [] (sh, I, R) = some (some (.inl ((fbes L M : Nat) : Int)), (sh, I, R)) := by
  obtain ⟨t0, t1, l1, t2, l2, r1, r2⟩ := id hF
  obtain ⟨s0, s1, m1, s2, m2, q1, q2⟩ := id hG
  intro k
  induction k with
  | zero =>
    intro j hj
    have hc : (L.length : Int) ≤ (j : Int) := by omega
    rw [List.take_of_length_le (by omega)]
    simp (disch := first | assumption | omega | exact Nat.le_of_ble_eq_true rfl | decide) only [u_15_0, u_15_1, u_15_2, u_15_3, u_15_4, u_15_5, u_15_6, u_15_9, u_15_12, u_15_13, u_15_13n, u_15_14, u_15_15, u_15_18, u_15_19, u_15_20, u_15_23, u_15_26, u_15_27, u_15_30, u_15_31, u_15_32, u_15_33, u_15_36, u_15_39, u_15_40, h.1, hc, if_true]
  | succ k ih =>
    intro j hj
    have hjl : j < L.length := by omega
    have hc : ¬ (L.length : Int) ≤ (j : Int) := by omega
    have hle : fbes (L.take j) M ≤ 6 := by
      unfold fbes
      refine Nat.le_trans (List.length_filter_le _ _) ?_
      rw [List.length_take]; omega
    have hs : fbes (L.take (j + 1)) M = fbes (L.take j) M + (if fidx M (L[j]).1 = -1 then 1 else 0) := by
      unfold fbes
      rw [List.take_succ_eq_append_getElem hjl, List.filter_append, List.length_append]
      congr 1
      by_cases hx : fidx M (L[j]).1 = -1
      · simp [hx]
      · simp [hx]
    have ih := ih (j + 1) (by omega)
    rw [u_15_4]
    by_cases hx : fidx M (L[j]).1 = -1
    · rw [if_pos hx] at hs
      rw [hs] at ih
      simp (disch := first | assumption | omega | exact Nat.le_of_ble_eq_true rfl | decide) only [u_15_0, u_15_1, u_15_2, u_15_3, u_15_5, u_15_6, u_15_9, u_15_12, u_15_13, u_15_13n, u_15_14, u_15_15, u_15_18, u_15_19, u_15_20, u_15_23, u_15_26, u_15_27, u_15_30, u_15_31, u_15_32, u_15_33, u_15_36, u_15_39, u_15_40, h.1, hc, if_false, if_true, r1, rv_some, l1, (h.at hjl).1, s_has hG hg hM, hx, bnd_some, psh_some, wrN, List.length_cons, List.length_nil, Nat.reduceAdd, Nat.reduceLeDiff, ih]
    · rw [if_neg hx] at hs
      have hs : fbes (L.take (j + 1)) M = fbes (L.take j) M := hs
      rw [hs] at ih
      have hw : wr (((fbes (L.take j) M : Nat) : Int) + 0) = ((fbes (L.take j) M : Nat) : Int) := by rw [wr_id ⟨by omega, by omega⟩]; omega
      simp (disch := first | assumption | omega | exact Nat.le_of_ble_eq_true rfl | decide) only [u_15_0, u_15_1, u_15_2, u_15_3, u_15_5, u_15_6, u_15_9, u_15_12, u_15_13, u_15_13n, u_15_14, u_15_15, u_15_18, u_15_19, u_15_20, u_15_23, u_15_26, u_15_27, u_15_30, u_15_31, u_15_32, u_15_33, u_15_36, u_15_39, u_15_40, h.1, hc, if_false, if_true, r1, rv_some, l1, (h.at hjl).1, s_has hG hg hM, hx, Int.reduceEq, bnd_some, psh_some, hw, wrN, List.length_cons, List.length_nil, Nat.reduceAdd, Nat.reduceLeDiff, ih]
theorem s_bes (hF : FS sh R f) (hG : FS sh R g) (h : isF I f L) (hg : isF I g M) (hL : L.length ≤ 6) (hM : M.length ≤ 6) : cl (d + 3) 15 [.inr (.inl f), .inr (.inl g)] (sh, I, R) = some (some (.inl ((fbes L M : Nat) : Int)), (sh, I, R)) := by
  rw [c_15, u_15_0, u_15_1, u_15_2, u_15_3]
  exact bes_loop (d := d) hF hG h hg hL hM L.length 0 (by omega)
theorem same_loop (hF : FS sh R f) (hG : FS sh R g) (h : isF I f L) (hg : isF I g M) (hL : L.length ≤ 6) (hlen : M.length = L.length) : ∀ (k j : Nat), j + k = L.length → ev S0 d 16 15 [.inr (.inl f), .inr (.inl g), .inl (j : Int)] [] (sh, I, R) = some (some (.inl (if L.drop j = M.drop j then 1 else 0)), (sh, I, R)) := by
  obtain ⟨t0, t1, l1, t2, l2, r1, r2⟩ := id hF
  obtain ⟨s0, s1, m1, s2, m2, q1, q2⟩ := id hG
  intro k
  induction k with
  | zero =>
    intro j hj
    have hc : (L.length : Int) ≤ (j : Int) := by omega
    rw [List.drop_eq_nil_of_le (by omega), List.drop_eq_nil_of_le (by omega)]
    simp (disch := first | assumption | omega | exact Nat.le_of_ble_eq_true rfl | decide) only [u_16_0, u_16_1, u_16_4, u_16_4n, u_16_5, u_16_8, u_16_11, u_16_12, u_16_13, u_16_14, u_16_15, u_16_16, u_16_17, u_16_20, u_16_23, u_16_24, u_16_27, u_16_28, u_16_29, u_16_29n, u_16_30, u_16_33, u_16_34, u_16_35, u_16_38, u_16_39, u_16_42, u_16_43, u_16_44, u_16_44n, u_16_45, u_16_48, u_16_49, u_16_50, u_16_53, u_16_54, u_16_55, u_16_58, u_16_61, u_16_62, h.1, hc, if_true]
  | succ k ih =>
    intro j hj
    have hjl : j < L.length := by omega
    have hjm : j < M.length := by omega
    have hc : ¬ (L.length : Int) ≤ (j : Int) := by omega
    have ih := ih (j + 1) (by omega)
    rw [u_16_15, List.drop_eq_getElem_cons hjl, List.drop_eq_getElem_cons hjm]
    by_cases h1 : (L[j]).1 = (M[j]).1
    · by_cases h2 : (L[j]).2 = (M[j]).2
      · have he : L[j] = M[j] := Prod.ext h1 h2
        have hco : ((L[j] :: L.drop (j + 1)) = (M[j] :: M.drop (j + 1))) = (L.drop (j + 1) = M.drop (j + 1)) := by
          rw [List.cons.injEq]; simp [he]
        simp only [hco]
        simp (disch := first | assumption | omega | exact Nat.le_of_ble_eq_true rfl | decide) only [u_16_0, u_16_1, u_16_4, u_16_4n, u_16_5, u_16_8, u_16_11, u_16_12, u_16_13, u_16_14, u_16_16, u_16_17, u_16_20, u_16_23, u_16_24, u_16_27, u_16_28, u_16_29, u_16_29n, u_16_30, u_16_33, u_16_34, u_16_35, u_16_38, u_16_39, u_16_42, u_16_43, u_16_44, u_16_44n, u_16_45, u_16_48, u_16_49, u_16_50, u_16_53, u_16_54, u_16_55, u_16_58, u_16_61, u_16_62, h.1, hc, if_false, if_true, r1, r2, q1, q2, rv_some, l1, l2, m1, m2, (h.at hjl).1, (h.at hjl).2, (hg.at hjm).1, (hg.at hjm).2, h1, h2, not_true, wrN, ih]
      · have hne : ¬ ((L[j] :: L.drop (j + 1)) = (M[j] :: M.drop (j + 1))) := fun q => h2 (by rw [(List.cons.inj q).1])
        rw [if_neg hne]
        simp (disch := first | assumption | omega | exact Nat.le_of_ble_eq_true rfl | decide) only [u_16_0, u_16_1, u_16_4, u_16_4n, u_16_5, u_16_8, u_16_11, u_16_12, u_16_13, u_16_14, u_16_16, u_16_17, u_16_20, u_16_23, u_16_24, u_16_27, u_16_28, u_16_29, u_16_29n, u_16_30, u_16_33, u_16_34, u_16_35, u_16_38, u_16_39, u_16_42, u_16_43, u_16_44, u_16_44n, u_16_45, u_16_48, u_16_49, u_16_50, u_16_53, u_16_54, u_16_55, u_16_58, u_16_61, u_16_62, h.1, hc, if_false, if_true, r1, r2, q1, q2, rv_some, l1, l2, m1, m2, (h.at hjl).1, (h.at hjl).2, (hg.at hjm).1, (hg.at hjm).2, h1, h2, not_true, not_false_eq_true]
    · have hne : ¬ ((L[j] :: L.drop (j + 1)) = (M[j] :: M.drop (j + 1))) := fun q => h1 (by rw [(List.cons.inj q).1])
      rw [if_neg hne]
      simp (disch := first | assumption | omega | exact Nat.le_of_ble_eq_true rfl | decide) only [u_16_0, u_16_1, u_16_4, u_16_4n, u_16_5, u_16_8, u_16_11, u_16_12, u_16_13, u_16_14, u_16_16, u_16_17, u_16_20, u_16_23, u_16_24, u_16_27, u_16_28, u_16_29, u_16_29n, u_16_30, u_16_33, u_16_34, u_16_35, u_16_38, u_16_39, u_16_42, u_16_43, u_16_44, u_16_44n, u_16_45, u_16_48, u_16_49, u_16_50, u_16_53, u_16_54, u_16_55, u_16_58, u_16_61, u_16_62, h.1, hc, if_false, if_true, r1, r2, q1, q2, rv_some, l1, l2, m1, m2, (h.at hjl).1, (h.at hjl).2, (hg.at hjm).1, (hg.at hjm).2, h1, not_true, not_false_eq_true]
theorem s_same (hF : FS sh R f) (hG : FS sh R g) (h : isF I f L) (hg : isF I g M) (hL : L.length ≤ 6) : cl (d + 1) 16 [.inr (.inl f), .inr (.inl g)] (sh, I, R) = some (some (.inl (if L = M then 1 else 0)), (sh, I, R)) := by
  have t0 := hF.1
  have s0 := hG.1
  rw [c_16]
  by_cases hlen : M.length = L.length
  · have hc : (L.length : Int) = (M.length : Int) := by omega
    have hl := same_loop (d := d) hF hG h hg hL hlen L.length 0 (by omega)
    rw [List.drop_zero, List.drop_zero] at hl
    simp (disch := first | assumption | omega | exact Nat.le_of_ble_eq_true rfl | decide) only [u_16_0, u_16_1, u_16_4, u_16_4n, u_16_5, u_16_8, u_16_11, u_16_12, u_16_13, u_16_14, h.1, hg.1, hc, if_true]
    exact hl
  · have hc : ¬ (L.length : Int) = (M.length : Int) := by omega
    have hne : ¬ L = M := fun q => hlen (by rw [q])
    simp (disch := first | assumption | omega | exact Nat.le_of_ble_eq_true rfl | decide) only [u_16_0, u_16_1, u_16_4, u_16_4n, u_16_5, u_16_8, u_16_11, u_16_12, u_16_13, u_16_14, h.1, hg.1, hc, hne, if_false]
end FIELDS
