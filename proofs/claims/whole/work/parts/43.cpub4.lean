/-! THE CLASS: shelf, put, sign, hold, held, save, stream, cause, image -/
section C4
variable {sh : Shp} {R : RM} {I : IM} {d a : Nat} {s : ST} {q n i c h o k : Int} {t : List Int}
theorem s_isNothing (hS : tg sh a = 5) : cl (d + 1) 45 [.inr (.inl a)] (sh, I, R) = some (some (.inl (if I a 1 = -1 then 1 else 0)), (sh, I, R)) := by
  rw [c_45]
  by_cases h0 : I a 1 = -1
  · simp (disch := first | assumption | omega | exact Nat.le_of_ble_eq_true rfl | decide) only [u_45_0, u_45_1, u_45_4, u_45_5, u_45_8, u_45_9, u_45_12, u_45_13, h0, not_true, if_false, if_true]
  · simp (disch := first | assumption | omega | exact Nat.le_of_ble_eq_true rfl | decide) only [u_45_0, u_45_1, u_45_4, u_45_5, u_45_8, u_45_9, u_45_12, u_45_13, h0, not_false_eq_true, if_false, if_true]
theorem s_tooLong (hS : tg sh a = 5) : cl (d + 1) 46 [.inr (.inl a)] (sh, I, R) = some (some (.inl (if I a 1 ≤ 200 then 0 else 1)), (sh, I, R)) := by
  rw [c_46]
  by_cases h0 : I a 1 ≤ 200
  · simp (disch := first | assumption | omega | exact Nat.le_of_ble_eq_true rfl | decide) only [u_46_0, u_46_1, u_46_4, u_46_7, u_46_10, u_46_11, u_46_14, u_46_15, h0, if_true]
  · simp (disch := first | assumption | omega | exact Nat.le_of_ble_eq_true rfl | decide) only [u_46_0, u_46_1, u_46_4, u_46_7, u_46_10, u_46_11, u_46_14, u_46_15, h0, if_false]
theorem s_hasPlaceS (hS : tg sh a = 5) : cl (d + 1) 47 [.inr (.inl a), .inl i] (sh, I, R) = some (some (.inl (if 0 ≤ i ∧ i < I a 1 ∧ i < 200 then 1 else 0)), (sh, I, R)) := by
  rw [c_47]
  by_cases h0 : i < 0
  · rw [if_neg (by omega)]
    simp (disch := first | assumption | omega | exact Nat.le_of_ble_eq_true rfl | decide) only [u_47_0, u_47_1, u_47_4, u_47_5, u_47_6, u_47_9, u_47_12, u_47_13, u_47_16, u_47_19, u_47_20, u_47_23, u_47_24, h0, if_true]
  · by_cases h1 : I a 1 ≤ i
    · rw [if_neg (by omega)]
      simp (disch := first | assumption | omega | exact Nat.le_of_ble_eq_true rfl | decide) only [u_47_0, u_47_1, u_47_4, u_47_5, u_47_6, u_47_9, u_47_12, u_47_13, u_47_16, u_47_19, u_47_20, u_47_23, u_47_24, h0, h1, if_true, if_false]
    · by_cases h2 : 200 ≤ i
      · rw [if_neg (by omega)]
        simp (disch := first | assumption | omega | exact Nat.le_of_ble_eq_true rfl | decide) only [u_47_0, u_47_1, u_47_4, u_47_5, u_47_6, u_47_9, u_47_12, u_47_13, u_47_16, u_47_19, u_47_20, u_47_23, u_47_24, h0, h1, h2, if_true, if_false]
      · rw [if_pos (by omega)]
        simp (disch := first | assumption | omega | exact Nat.le_of_ble_eq_true rfl | decide) only [u_47_0, u_47_1, u_47_4, u_47_5, u_47_6, u_47_9, u_47_12, u_47_13, u_47_16, u_47_19, u_47_20, u_47_23, u_47_24, h0, h1, h2, if_false]
theorem zeros_loop (hS : SgS sh R a) {a1 : AV} : ∀ (k j : Nat) (I : IM), j + k = 200 → (∀ x : Nat, x < j → I (a + 1) (x : Int) = 0) → ∃ I', ev S0 d 49 7 [.inr (.inl a), a1, .inl (j : Int)] [] (sh, I, R) = some (none, (sh, I', R)) ∧ (∀ x : Nat, x < 200 → I' (a + 1) (x : Int) = 0) ∧ ∀ k, k ≠ a + 1 → I' k = I k := by
  obtain ⟨t0, r0, t1, l1⟩ := hS
  intro k
  induction k with
  | zero =>
    intro j I hj h
    have hc : (200 : Int) ≤ (j : Int) := by omega
    refine ⟨I, ?_, fun i hi => h i (by omega), fun _ _ => rfl⟩
    simp (disch := first | assumption | omega | exact Nat.le_of_ble_eq_true rfl | decide) only [u_49_7, u_49_8, u_49_11, u_49_27, hc, if_true]
  | succ k ih =>
    intro j I hj h
    have hc : ¬ (200 : Int) ≤ (j : Int) := by omega
    obtain ⟨I', h1, h2, h3⟩ := ih (j + 1) (up I (a + 1) (j : Int) 0) (by omega) (fun i hi => by
      by_cases hij : i = j
      · subst hij; exact ups
      · rw [upj (by omega)]; exact h i (by omega))
    refine ⟨I', ?_, h2, fun k hk => by rw [h3 k hk, upf hk]⟩
    rw [u_49_7]
    simp (disch := first | assumption | omega | exact Nat.le_of_ble_eq_true rfl | decide) only [u_49_8, u_49_11, u_49_14, u_49_15, u_49_18, u_49_19, u_49_20, u_49_21, u_49_24, hc, if_false, r0, rv_some, wrN, h1]
theorem s_zeros (hS : SgS sh R a) (hn : -1 ≤ n ∧ n ≤ 200) : ∃ I', cl (d + 1) 49 [.inr (.inl a), .inl n] (sh, I, R) = some (none, (sh, I', R)) ∧ I' a 1 = n ∧ (n ≠ -1 → isSg I' a (List.replicate n.toNat 0)) ∧ FrS a I I' := by
  obtain ⟨I', h1, h2, h3⟩ := zeros_loop (d := d) (a1 := .inl n) hS 200 0 (up I a 1 n) (by omega) (fun i hi => by omega)
  have t0 := hS.1
  have ha1 : I' a 1 = n := by rw [h3 a (by omega), ups]
  refine ⟨I', ?_, ha1, fun hn1 => ⟨?_, fun j x hj hx => ?_⟩, fun k x y => by rw [h3 k y, upf x]⟩
  · have h1 : ev S0 d 49 7 [.inr (.inl a), .inl n, .inl 0] [] (sh, up I a 1 n, R) = some (none, (sh, I', R)) := h1
    rw [c_49]
    simp (disch := first | assumption | omega | exact Nat.le_of_ble_eq_true rfl | decide) only [u_49_0, u_49_1, u_49_2, u_49_5, u_49_6, h1]
  · rw [ha1, List.length_replicate]; omega
  · have := lenOf hx
    rw [List.length_replicate] at this
    rw [List.getElem?_replicate, if_pos this] at hx
    cases hx
    exact h2 j hj
/-- one shelf has become another -/
theorem cR.shelf {I' : IM} {q : Nat} {v : Option (List Int)} (h : cR I s) (hq : q < 4) (hv : isSh I' q v) (hf : FrS (384 + 2 * q) I I') : cR I' (stS s q v) := by
  obtain ⟨a1, a2, a3, a4, a5, a6, a7⟩ := h
  refine ⟨a1.cong (fun k a b => hf k (by omega) (by omega)), a2.cong (fun k a b => hf k (by omega) (by omega)), by rw [hf _ (by omega) (by omega)]; exact a3, fun x hx => ?_, fun q hq => by rw [hf _ (by omega) (by omega)]; exact a5 q hq, a6.cong (hf _ (by omega) (by omega)) (hf _ (by omega) (by omega)) (hf _ (by omega) (by omega)), by rw [hf _ (by omega) (by omega)]; exact a7⟩
  by_cases hxq : x = q
  · subst hxq
    simp only [stS, if_true]
    exact hv
  · simp only [stS, if_neg hxq]
    exact (a4 x hx).cong (hf _ (by omega) (by omega)) (hf _ (by omega) (by omega))
theorem CC_shelf (hC : CS sh R) (hc : cR I s) : CE sh R I (d + 2) 100 [.inl q, .inl n] (b_shelf s q n) := by
  obtain ⟨⟨tc, -⟩, -, -, -, -, ⟨r5, t5, l5, hq5⟩, -⟩ := id hC
  have hT : 200 ≤ tg sh 381 ∧ tg sh 381 < 210 := by rw [t5]; decide
  unfold b_shelf
  by_cases hq : isq q
  · rw [if_neg (Classical.not_not.mpr hq)]
    by_cases hn : n ≤ 200
    · rw [if_neg (by omega)]
      by_cases hn1 : -1 ≤ n
      · rw [if_neg (by omega)]
        obtain ⟨q, rfl⟩ : ∃ q' : Nat, q = (q' : Int) := ⟨q.toNat, by have := hq.1; omega⟩
        have hq4 : q < 4 := by have := hq.2; omega
        rw [Int.toNat_natCast]
        obtain ⟨e1, e2⟩ := hq5 q hq4
        have te := e2.1
        obtain ⟨I', g1, g2, g3, g4⟩ := s_zeros (I := I) (d := d) e2 ⟨hn1, hn⟩
        refine ⟨I', ?_, hc.shelf hq4 ?_ g4, fun k hk => g4 k (by omega) (by omega)⟩
        · rw [c_100]
          simp (disch := first | assumption | omega | exact Nat.le_of_ble_eq_true rfl | decide) only [u_100_0, u_100_1, u_100_4, u_100_7, u_100_8, u_100_11, u_100_14, u_100_15, u_100_16, u_100_17, u_100_18, u_100_21, u_100_23, u_100_24, u_100_25, u_100_28, u_100_29, u_100_30, u_100_31, u_100_34, u_100_35, s_isShelf, if_pos hq, bnd_some, psh_some, psh_none, Int.reduceEq, if_false, if_true, hn, hn1, r5, rv_some, e1, g1]
        · by_cases hn0 : n = -1
          · rw [if_pos hn0]
            exact g2.trans hn0
          · rw [if_neg hn0]
            exact g3 hn0
      · rw [if_pos (by omega)]
        refine CE.same hc ?_
        rw [c_100]
        simp (disch := first | assumption | omega | exact Nat.le_of_ble_eq_true rfl | decide) only [u_100_0, u_100_1, u_100_4, u_100_7, u_100_8, u_100_11, u_100_14, u_100_15, u_100_16, u_100_17, u_100_18, u_100_21, u_100_23, u_100_24, u_100_25, u_100_28, u_100_29, u_100_30, u_100_31, u_100_34, u_100_35, s_isShelf, if_pos hq, bnd_some, psh_some, Int.reduceEq, if_false, if_true, hn, hn1]
    · rw [if_pos (by omega)]
      refine CE.same hc ?_
      rw [c_100]
      simp (disch := first | assumption | omega | exact Nat.le_of_ble_eq_true rfl | decide) only [u_100_0, u_100_1, u_100_4, u_100_7, u_100_8, u_100_11, u_100_14, u_100_15, u_100_16, u_100_17, u_100_18, u_100_21, u_100_23, u_100_24, u_100_25, u_100_28, u_100_29, u_100_30, u_100_31, u_100_34, u_100_35, s_isShelf, if_pos hq, bnd_some, psh_some, Int.reduceEq, if_false, if_true, hn]
  · rw [if_pos hq]
    refine CE.same hc ?_
    rw [c_100]
    simp (disch := first | assumption | omega | exact Nat.le_of_ble_eq_true rfl | decide) only [u_100_0, u_100_1, u_100_4, u_100_7, u_100_8, u_100_11, u_100_14, u_100_15, u_100_16, u_100_17, u_100_18, u_100_21, u_100_23, u_100_24, u_100_25, u_100_28, u_100_29, u_100_30, u_100_31, u_100_34, u_100_35, s_isShelf, if_neg hq, bnd_some, psh_some, if_true]
theorem sgAt (hs : isSg I a t) (ht : t.length ≤ 200) {j : Nat} (hj : j < t.length) : I (a + 1) (j : Int) = t[j] := hs.2 j t[j] (by omega) (List.getElem?_eq_getElem hj)
theorem CC_put (hC : CS sh R) (hc : cR I s) (hs : okS s) : CE sh R I (d + 2) 101 [.inl q, .inl i, .inl c] (b_put s q i c) := by
  obtain ⟨⟨tc, -⟩, -, -, -, -, ⟨r5, t5, l5, hq5⟩, -⟩ := id hC
  have hT : 200 ≤ tg sh 381 ∧ tg sh 381 < 210 := by rw [t5]; decide
  unfold b_put
  by_cases hq : isq q
  · rw [if_neg (Classical.not_not.mpr hq)]
    by_cases hcc : 0 ≤ c ∧ c ≤ 255
    · rw [if_neg (Classical.not_not.mpr hcc)]
      have c0 : ¬ c < 0 := by omega
      have c1 : c ≤ 255 := by omega
      obtain ⟨q, rfl⟩ : ∃ q' : Nat, q = (q' : Int) := ⟨q.toNat, by have := hq.1; omega⟩
      have hq4 : q < 4 := by have := hq.2; omega
      rw [Int.toNat_natCast]
      obtain ⟨e1, e2⟩ := hq5 q hq4
      obtain ⟨te, re, tr, lr⟩ := id e2
      have hsh := hc.2.2.2.1 q hq4
      have hot := hs.2.2.2.2.2.1 q hq4
      generalize hgv : s.2.2.2.1 q = sv at hsh hot ⊢
      cases sv with
      | none =>
        have hsh : I (384 + 2 * q) 1 = -1 := hsh
        refine CE.same hc ?_
        rw [c_101]
        simp (disch := first | assumption | omega | exact Nat.le_of_ble_eq_true rfl | decide) only [u_101_0, u_101_1, u_101_4, u_101_7, u_101_8, u_101_11, u_101_12, u_101_15, u_101_18, u_101_19, u_101_20, u_101_21, u_101_24, u_101_25, u_101_26, u_101_26n, u_101_28, u_101_28n, u_101_30, u_101_33, u_101_36, u_101_38, u_101_39, u_101_39n, u_101_41, u_101_42, u_101_45, u_101_48, u_101_50, u_101_51, u_101_51n, u_101_53, u_101_56, u_101_57, u_101_58, u_101_60, u_101_60n, u_101_62, u_101_65, u_101_66, u_101_67, u_101_68, u_101_70, s_isShelf, if_pos hq, bnd_some, psh_some, Int.reduceEq, if_false, if_true, c0, c1, r5, rv_some, e1, s_isNothing te, hsh]
      | some t =>
        have hsh : isSg I (384 + 2 * q) t := hsh
        obtain ⟨ht, -⟩ := hot t rfl
        have h0 := hsh.1
        have hn1 : ¬ ((t.length : Int) = -1) := by omega
        dsimp only
        by_cases hi : 0 ≤ i ∧ i < (t.length : Int)
        · rw [if_neg (Classical.not_not.mpr hi)]
          have hi2 : 0 ≤ i ∧ i < (t.length : Int) ∧ i < 200 := by omega
          obtain ⟨j, rfl⟩ : ∃ j : Nat, i = (j : Int) := ⟨i.toNat, by omega⟩
          have hjl : j < t.length := by omega
          rw [Int.toNat_natCast, getD_at hjl]
          have hv := sgAt hsh ht hjl
          refine ⟨up I (384 + 2 * q + 1) (j : Int) c, ?_, hc.shelf hq4 ?_ (fun k a b => upf b), fun k hk => upf (by omega)⟩
          · rw [c_101]
            simp (disch := first | assumption | omega | exact Nat.le_of_ble_eq_true rfl | decide) only [u_101_0, u_101_1, u_101_4, u_101_7, u_101_8, u_101_11, u_101_12, u_101_15, u_101_18, u_101_19, u_101_20, u_101_21, u_101_24, u_101_25, u_101_26, u_101_26n, u_101_28, u_101_28n, u_101_30, u_101_33, u_101_36, u_101_38, u_101_39, u_101_39n, u_101_41, u_101_42, u_101_45, u_101_48, u_101_50, u_101_51, u_101_51n, u_101_53, u_101_56, u_101_57, u_101_58, u_101_60, u_101_60n, u_101_62, u_101_65, u_101_66, u_101_67, u_101_68, u_101_70, s_isShelf, if_pos hq, bnd_some, psh_some, Int.reduceEq, not_false_eq_true, if_false, if_true, c0, c1, r5, rv_some, e1, s_isNothing te, h0, hn1, s_hasPlaceS te, if_pos hi2, re, hv]
          · refine ⟨by rw [upk (by omega), List.length_set]; exact h0, fun x y hx hy => ?_⟩
            rw [List.getElem?_set] at hy
            by_cases hjx : j = x
            · subst hjx
              rw [if_pos rfl, if_pos hjl] at hy
              cases hy
              exact ups
            · rw [if_neg hjx] at hy
              rw [upj (by omega)]
              exact hsh.2 x y hx hy
        · rw [if_pos hi]
          have hi2 : ¬ (0 ≤ i ∧ i < (t.length : Int) ∧ i < 200) := by omega
          refine CE.same hc ?_
          rw [c_101]
          simp (disch := first | assumption | omega | exact Nat.le_of_ble_eq_true rfl | decide) only [u_101_0, u_101_1, u_101_4, u_101_7, u_101_8, u_101_11, u_101_12, u_101_15, u_101_18, u_101_19, u_101_20, u_101_21, u_101_24, u_101_25, u_101_26, u_101_26n, u_101_28, u_101_28n, u_101_30, u_101_33, u_101_36, u_101_38, u_101_39, u_101_39n, u_101_41, u_101_42, u_101_45, u_101_48, u_101_50, u_101_51, u_101_51n, u_101_53, u_101_56, u_101_57, u_101_58, u_101_60, u_101_60n, u_101_62, u_101_65, u_101_66, u_101_67, u_101_68, u_101_70, s_isShelf, if_pos hq, bnd_some, psh_some, Int.reduceEq, not_true, if_false, if_true, c0, c1, r5, rv_some, e1, s_isNothing te, h0, hn1, s_hasPlaceS te, if_neg hi2]
    · rw [if_pos hcc]
      refine CE.same hc ?_
      rw [c_101]
      by_cases c0 : c < 0
      · simp (disch := first | assumption | omega | exact Nat.le_of_ble_eq_true rfl | decide) only [u_101_0, u_101_1, u_101_4, u_101_7, u_101_8, u_101_11, u_101_12, u_101_15, u_101_18, u_101_19, u_101_20, u_101_21, u_101_24, u_101_25, u_101_26, u_101_26n, u_101_28, u_101_28n, u_101_30, u_101_33, u_101_36, u_101_38, u_101_39, u_101_39n, u_101_41, u_101_42, u_101_45, u_101_48, u_101_50, u_101_51, u_101_51n, u_101_53, u_101_56, u_101_57, u_101_58, u_101_60, u_101_60n, u_101_62, u_101_65, u_101_66, u_101_67, u_101_68, u_101_70, s_isShelf, if_pos hq, bnd_some, psh_some, Int.reduceEq, if_false, if_true, c0]
      · have c1 : ¬ c ≤ 255 := by omega
        simp (disch := first | assumption | omega | exact Nat.le_of_ble_eq_true rfl | decide) only [u_101_0, u_101_1, u_101_4, u_101_7, u_101_8, u_101_11, u_101_12, u_101_15, u_101_18, u_101_19, u_101_20, u_101_21, u_101_24, u_101_25, u_101_26, u_101_26n, u_101_28, u_101_28n, u_101_30, u_101_33, u_101_36, u_101_38, u_101_39, u_101_39n, u_101_41, u_101_42, u_101_45, u_101_48, u_101_50, u_101_51, u_101_51n, u_101_53, u_101_56, u_101_57, u_101_58, u_101_60, u_101_60n, u_101_62, u_101_65, u_101_66, u_101_67, u_101_68, u_101_70, s_isShelf, if_pos hq, bnd_some, psh_some, Int.reduceEq, if_false, if_true, c0, c1]
  · rw [if_pos hq]
    refine CE.same hc ?_
    rw [c_101]
    simp (disch := first | assumption | omega | exact Nat.le_of_ble_eq_true rfl | decide) only [u_101_0, u_101_1, u_101_4, u_101_7, u_101_8, u_101_11, u_101_12, u_101_15, u_101_18, u_101_19, u_101_20, u_101_21, u_101_24, u_101_25, u_101_26, u_101_26n, u_101_28, u_101_28n, u_101_30, u_101_33, u_101_36, u_101_38, u_101_39, u_101_39n, u_101_41, u_101_42, u_101_45, u_101_48, u_101_50, u_101_51, u_101_51n, u_101_53, u_101_56, u_101_57, u_101_58, u_101_60, u_101_60n, u_101_62, u_101_65, u_101_66, u_101_67, u_101_68, u_101_70, s_isShelf, if_neg hq, bnd_some, psh_some, if_true]
theorem CC_sign (hC : CS sh R) (hc : cR I s) (hs : okS s) : CE sh R I (d + 2) 102 [.inl q, .inl i] (b_sign s q i, s) := by
  obtain ⟨⟨tc, -⟩, -, -, -, -, ⟨r5, t5, l5, hq5⟩, -⟩ := id hC
  have hT : 200 ≤ tg sh 381 ∧ tg sh 381 < 210 := by rw [t5]; decide
  unfold b_sign
  refine CE.same hc ?_
  rw [c_102]
  by_cases hq : isq q
  · rw [if_neg (Classical.not_not.mpr hq)]
    obtain ⟨q, rfl⟩ : ∃ q' : Nat, q = (q' : Int) := ⟨q.toNat, by have := hq.1; omega⟩
    have hq4 : q < 4 := by have := hq.2; omega
    rw [Int.toNat_natCast]
    obtain ⟨e1, e2⟩ := hq5 q hq4
    obtain ⟨te, re, tr, lr⟩ := id e2
    have hsh := hc.2.2.2.1 q hq4
    have hot := hs.2.2.2.2.2.1 q hq4
    generalize hgv : s.2.2.2.1 q = sv at hsh hot ⊢
    cases sv with
    | none =>
      have hsh : I (384 + 2 * q) 1 = -1 := hsh
      simp (disch := first | assumption | omega | exact Nat.le_of_ble_eq_true rfl | decide) only [u_102_0, u_102_1, u_102_4, u_102_7, u_102_8, u_102_9, u_102_10, u_102_13, u_102_14, u_102_15, u_102_15n, u_102_16, u_102_16n, u_102_17, u_102_20, u_102_23, u_102_25, u_102_26, u_102_27, u_102_28, u_102_31, u_102_31n, u_102_32, u_102_35, u_102_36, u_102_36n, u_102_37, u_102_38, u_102_41, u_102_44, u_102_44n, u_102_45, u_102_48, u_102_49, u_102_50, u_102_53, u_102_55, s_isShelf, if_pos hq, bnd_some, psh_some, Int.reduceEq, not_false_eq_true, if_false, if_true, r5, rv_some, e1, s_isNothing te, hsh]
    | some t =>
      have hsh : isSg I (384 + 2 * q) t := hsh
      obtain ⟨ht, -⟩ := hot t rfl
      have h0 := hsh.1
      have hn1 : ¬ ((t.length : Int) = -1) := by omega
      dsimp only
      by_cases hi1 : i = -1
      · rw [if_pos hi1]
        simp (disch := first | assumption | omega | exact Nat.le_of_ble_eq_true rfl | decide) only [u_102_0, u_102_1, u_102_4, u_102_7, u_102_8, u_102_9, u_102_10, u_102_13, u_102_14, u_102_15, u_102_15n, u_102_16, u_102_16n, u_102_17, u_102_20, u_102_23, u_102_25, u_102_26, u_102_27, u_102_28, u_102_31, u_102_31n, u_102_32, u_102_35, u_102_36, u_102_36n, u_102_37, u_102_38, u_102_41, u_102_44, u_102_44n, u_102_45, u_102_48, u_102_49, u_102_50, u_102_53, u_102_55, s_isShelf, if_pos hq, bnd_some, psh_some, Int.reduceEq, not_false_eq_true, not_true, if_false, if_true, r5, rv_some, e1, s_isNothing te, h0, hn1, hi1]
      · rw [if_neg hi1]
        by_cases hi : 0 ≤ i ∧ i < (t.length : Int)
        · rw [if_neg (Classical.not_not.mpr hi)]
          have hi2 : 0 ≤ i ∧ i < (t.length : Int) ∧ i < 200 := by omega
          obtain ⟨j, rfl⟩ : ∃ j : Nat, i = (j : Int) := ⟨i.toNat, by omega⟩
          have hjl : j < t.length := by omega
          rw [Int.toNat_natCast, getD_at hjl]
          have hv := sgAt hsh ht hjl
          simp (disch := first | assumption | omega | exact Nat.le_of_ble_eq_true rfl | decide) only [u_102_0, u_102_1, u_102_4, u_102_7, u_102_8, u_102_9, u_102_10, u_102_13, u_102_14, u_102_15, u_102_15n, u_102_16, u_102_16n, u_102_17, u_102_20, u_102_23, u_102_25, u_102_26, u_102_27, u_102_28, u_102_31, u_102_31n, u_102_32, u_102_35, u_102_36, u_102_36n, u_102_37, u_102_38, u_102_41, u_102_44, u_102_44n, u_102_45, u_102_48, u_102_49, u_102_50, u_102_53, u_102_55, s_isShelf, if_pos hq, bnd_some, psh_some, Int.reduceEq, not_false_eq_true, if_false, if_true, r5, rv_some, e1, s_isNothing te, h0, hn1, hi1, s_hasPlaceS te, if_pos hi2, re, hv]
        · rw [if_pos hi]
          have hi2 : ¬ (0 ≤ i ∧ i < (t.length : Int) ∧ i < 200) := by omega
          simp (disch := first | assumption | omega | exact Nat.le_of_ble_eq_true rfl | decide) only [u_102_0, u_102_1, u_102_4, u_102_7, u_102_8, u_102_9, u_102_10, u_102_13, u_102_14, u_102_15, u_102_15n, u_102_16, u_102_16n, u_102_17, u_102_20, u_102_23, u_102_25, u_102_26, u_102_27, u_102_28, u_102_31, u_102_31n, u_102_32, u_102_35, u_102_36, u_102_36n, u_102_37, u_102_38, u_102_41, u_102_44, u_102_44n, u_102_45, u_102_48, u_102_49, u_102_50, u_102_53, u_102_55, s_isShelf, if_pos hq, bnd_some, psh_some, Int.reduceEq, not_false_eq_true, if_false, if_true, r5, rv_some, e1, s_isNothing te, h0, hn1, hi1, s_hasPlaceS te, if_neg hi2]
  · rw [if_pos hq]
    simp (disch := first | assumption | omega | exact Nat.le_of_ble_eq_true rfl | decide) only [u_102_0, u_102_1, u_102_4, u_102_7, u_102_8, u_102_9, u_102_10, u_102_13, u_102_14, u_102_15, u_102_15n, u_102_16, u_102_16n, u_102_17, u_102_20, u_102_23, u_102_25, u_102_26, u_102_27, u_102_28, u_102_31, u_102_31n, u_102_32, u_102_35, u_102_36, u_102_36n, u_102_37, u_102_38, u_102_41, u_102_44, u_102_44n, u_102_45, u_102_48, u_102_49, u_102_50, u_102_53, u_102_55, s_isShelf, if_neg hq, bnd_some, psh_some, not_true, if_false]
theorem CC_hold (hC : CS sh R) (hc : cR I s) : CE sh R I (d + 3) 113 [.inl h, .inl o] (b_hold s h o) := by
  obtain ⟨hH, -, -, -, -, -, ⟨r6, t6, l6⟩, -⟩ := id hC
  have tc := hH.1
  unfold b_hold
  by_cases hh : ish h
  · rw [if_neg (Classical.not_not.mpr hh)]
    by_cases ho : livN s.1 o
    · rw [if_neg (Classical.not_not.mpr ho)]
      obtain ⟨h, rfl⟩ : ∃ q' : Nat, h = (q' : Int) := ⟨h.toNat, by have := hh.1; omega⟩
      have h8 : h < 8 := by have := hh.2; omega
      rw [Int.toNat_natCast]
      obtain ⟨a1, a2, a3, a4, a5, a6, a7⟩ := id hc
      refine ⟨up I 382 (h : Int) o, ?_, ⟨a1.cong (fun k a b => upf (by omega)), a2.cong (fun k a b => upf (by omega)), by rw [upf (by omega)]; exact a3, fun x hx => (a4 x hx).cong (upf (by omega)) (upf (by omega)), fun q hq => ?_, a6.cong (upf (by omega)) (upf (by omega)) (upf (by omega)), by rw [upf (by omega)]; exact a7⟩, fun k hk => upf (by omega)⟩
      · rw [c_113]
        simp (disch := first | assumption | omega | exact Nat.le_of_ble_eq_true rfl | decide) only [u_113_0, u_113_1, u_113_4, u_113_7, u_113_8, u_113_9, u_113_12, u_113_15, u_113_16, u_113_17, u_113_18, u_113_21, u_113_22, u_113_23, u_113_24, u_113_25, s_isHandle, if_pos hh, bnd_some, psh_some, Int.reduceEq, not_false_eq_true, if_false, if_true, s_oon hH a1, if_pos ho, r6, rv_some]
      · by_cases hqh : q = h
        · subst hqh
          simp only [stH, if_true]
          exact ups
        · simp only [stH, if_neg hqh]
          rw [upj (by omega)]
          exact a5 q hq
    · rw [if_pos ho]
      refine CE.same hc ?_
      rw [c_113]
      simp (disch := first | assumption | omega | exact Nat.le_of_ble_eq_true rfl | decide) only [u_113_0, u_113_1, u_113_4, u_113_7, u_113_8, u_113_9, u_113_12, u_113_15, u_113_16, u_113_17, u_113_18, u_113_21, u_113_22, u_113_23, u_113_24, u_113_25, s_isHandle, if_pos hh, bnd_some, psh_some, Int.reduceEq, not_true, if_false, if_true, s_oon hH hc.1, if_neg ho]
  · rw [if_pos hh]
    refine CE.same hc ?_
    rw [c_113]
    simp (disch := first | assumption | omega | exact Nat.le_of_ble_eq_true rfl | decide) only [u_113_0, u_113_1, u_113_4, u_113_7, u_113_8, u_113_9, u_113_12, u_113_15, u_113_16, u_113_17, u_113_18, u_113_21, u_113_22, u_113_23, u_113_24, u_113_25, s_isHandle, if_neg hh, bnd_some, psh_some, if_true]
theorem CC_held (hC : CS sh R) (hc : cR I s) : CE sh R I (d + 2) 114 [.inl h] (b_held s h, s) := by
  obtain ⟨hH, -, -, -, -, -, ⟨r6, t6, l6⟩, -⟩ := id hC
  have tc := hH.1
  unfold b_held
  refine CE.same hc ?_
  rw [c_114]
  by_cases hh : ish h
  · rw [if_neg (Classical.not_not.mpr hh)]
    obtain ⟨h, rfl⟩ : ∃ q' : Nat, h = (q' : Int) := ⟨h.toNat, by have := hh.1; omega⟩
    have h8 : h < 8 := by have := hh.2; omega
    rw [Int.toNat_natCast]
    have hv := hc.2.2.2.2.1 h h8
    unfold nT
    simp (disch := first | assumption | omega | exact Nat.le_of_ble_eq_true rfl | decide) only [u_114_0, u_114_1, u_114_4, u_114_7, u_114_8, u_114_11, u_114_12, u_114_13, u_114_16, u_114_19, u_114_20, s_isHandle, if_pos hh, bnd_some, psh_some, Int.reduceEq, if_false, r6, rv_some, hv, s_orNot]
  · rw [if_pos hh]
    simp (disch := first | assumption | omega | exact Nat.le_of_ble_eq_true rfl | decide) only [u_114_0, u_114_1, u_114_4, u_114_7, u_114_8, u_114_11, u_114_12, u_114_13, u_114_16, u_114_19, u_114_20, s_isHandle, if_neg hh, bnd_some, psh_some, if_true]
end C4
