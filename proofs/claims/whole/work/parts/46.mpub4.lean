/-! THE MODEL: shelf, put, sign, hold, held, save, judge, stream, cause, image, back -/
section M4
variable {sh : Shp} {R : RM} {I : IM} {d a b : Nat} {s : ST} {q n i c h o k : Int} {t u : List Int}
theorem m_isShelf : cl (d + 2) 169 [.inl q] (sh, I, R) = some (some (.inl (if isq q then 1 else 0)), (sh, I, R)) := by
  rw [c_169]
  by_cases hq : isq q
  · have h2 : 0 ≤ q ∧ q ≤ 3 := by have := hq.1; have := hq.2; omega
    rw [if_pos hq]
    simp (disch := first | assumption | omega | exact Nat.le_of_ble_eq_true rfl | decide) only [u_169_0, u_169_1, u_169_2, u_169_3, u_169_6, m_in, if_pos h2, bnd_some, psh_some]
  · have h2 : ¬ (0 ≤ q ∧ q ≤ 3) := fun p => hq ⟨p.1, by omega⟩
    rw [if_neg hq]
    simp (disch := first | assumption | omega | exact Nat.le_of_ble_eq_true rfl | decide) only [u_169_0, u_169_1, u_169_2, u_169_3, u_169_6, m_in, if_neg h2, bnd_some, psh_some]
theorem m_isHandle : cl (d + 2) 202 [.inl q] (sh, I, R) = some (some (.inl (if ish q then 1 else 0)), (sh, I, R)) := by
  rw [c_202]
  by_cases hq : ish q
  · have h2 : 0 ≤ q ∧ q ≤ 7 := by have := hq.1; have := hq.2; omega
    rw [if_pos hq]
    simp (disch := first | assumption | omega | exact Nat.le_of_ble_eq_true rfl | decide) only [u_202_0, u_202_1, u_202_2, u_202_4, u_202_7, m_in, if_pos h2, bnd_some, psh_some]
  · have h2 : ¬ (0 ≤ q ∧ q ≤ 7) := fun p => hq ⟨p.1, by omega⟩
    rw [if_neg hq]
    simp (disch := first | assumption | omega | exact Nat.le_of_ble_eq_true rfl | decide) only [u_202_0, u_202_1, u_202_2, u_202_4, u_202_7, m_in, if_neg h2, bnd_some, psh_some]
/-- one shelf has become another -/
def FrQ (q : Nat) (I I' : IM) : Prop := (∀ k, k ≠ 397 → k ≠ 398 → I' k = I k) ∧ (∀ z, z ≠ (q : Int) → I' 397 z = I 397 z) ∧ ∀ z, ¬ (200 * (q : Int) ≤ z ∧ z < 200 * (q : Int) + 200) → I' 398 z = I 398 z
theorem mR.shelf {I' : IM} {q : Nat} {v : Option (List Int)} (h : mR I s) (hs : okS s) (hq : q < 4) (hv : isShM I' q v) (hf : FrQ q I I') : mR I' (stS s q v) := by
  obtain ⟨a1, a2, a3, a4, a5, a6⟩ := h
  refine ⟨isMc.cong a1 (hf.1 _ (by decide) (by decide)), by rw [hf.1 _ (by decide) (by decide)]; exact a2, fun q => isMc.cong (a3 q) (hf.1 _ (by decide) (by decide)), fun x hx => ?_, fun q hq => by rw [hf.1 _ (by decide) (by decide)]; exact a5 q hq, a6.cong (by rw [hf.1 _ (by decide) (by decide)]) (hf.1 _ (by decide) (by decide)) (hf.1 _ (by decide) (by decide))⟩
  by_cases hxq : x = q
  · subst hxq
    simp only [stS, if_true]
    exact hv
  · simp only [stS, if_neg hxq]
    have hx4 := a4 x hx
    have hot := hs.2.2.2.2.2.1 x hx
    generalize s.2.2.2.1 x = sv at hx4 hot ⊢
    cases sv with
    | none => show I' 397 (x : Int) = -1; rw [hf.2.1 _ (by omega)]; exact hx4
    | some t =>
      obtain ⟨ht, -⟩ := hot t rfl
      refine ⟨by rw [hf.2.1 _ (by omega)]; exact hx4.1, fun j c hc => ?_⟩
      have := lenOf hc
      rw [hf.2.2 _ (by omega)]; exact hx4.2 j c hc
theorem mzeros_loop (hX : MX sh R) {q n : Nat} (hq : q < 4) (hn : n ≤ 200) : ∀ (k j : Nat) (I : IM), j + k = n → (∀ x : Nat, x < j → I 398 (200 * (q : Int) + (x : Int)) = 0) → ∃ I', ev S0 d 170 33 [.inr (.inl 392), .inl (q : Int), .inl (n : Int), .inl (j : Int)] [] (sh, I, R) = some (some (.inl 1), (sh, I', R)) ∧ (∀ x : Nat, x < n → I' 398 (200 * (q : Int) + (x : Int)) = 0) ∧ (∀ k, k ≠ 398 → I' k = I k) ∧ ∀ z, ¬ (200 * (q : Int) ≤ z ∧ z < 200 * (q : Int) + 200) → I' 398 z = I 398 z := by
  obtain ⟨t9, r9, tg_, lg⟩ := hX.1
  obtain ⟨r6, t6, l6⟩ := hX.g 6 398 800 (by decide)
  intro k
  induction k with
  | zero =>
    intro j I hj h
    have hc : (n : Int) ≤ (j : Int) := by omega
    refine ⟨I, ?_, fun i hi => h i (by omega), fun _ _ => rfl, fun _ _ => rfl⟩
    simp (disch := first | assumption | omega | exact Nat.le_of_ble_eq_true rfl | decide) only [u_170_33, u_170_34, u_170_35, u_170_57, u_170_58, hc, if_true]
  | succ k ih =>
    intro j I hj h
    have hc : ¬ (n : Int) ≤ (j : Int) := by omega
    obtain ⟨I', h1, h2, h3, h4⟩ := ih (j + 1) (up I 398 (200 * (q : Int) + (j : Int)) 0) (by omega) (fun i hi => by
      by_cases hij : i = j
      · subst hij; exact ups
      · rw [upj (by omega)]; exact h i (by omega))
    refine ⟨I', ?_, h2, fun k hk => by rw [h3 k hk, upf hk], fun z hz => by rw [h4 z hz, upj (by omega)]⟩
    rw [u_170_33]
    simp (disch := first | assumption | omega | exact Nat.le_of_ble_eq_true rfl | decide) only [u_170_34, u_170_35, u_170_38, u_170_39, u_170_42, u_170_45, u_170_46, u_170_47, u_170_48, u_170_49, u_170_50, u_170_51, u_170_54, hc, if_false, r6, rv_some, wrI, n1, h1]
theorem MM_shelf (hX : MX sh R) (hm : mR I s) (hs : okS s) : ME sh R I (d + 3) 170 [.inl q, .inl n] (b_shelf s q n) := by
  obtain ⟨t9, r9, tg_, lg⟩ := hX.1
  obtain ⟨r5, t5, l5⟩ := hX.g 5 397 4 (by decide)
  unfold b_shelf
  by_cases hq : isq q
  · rw [if_neg (Classical.not_not.mpr hq)]
    by_cases hn : n ≤ 200
    · rw [if_neg (by omega)]
      by_cases hn1 : -1 ≤ n
      · rw [if_neg (by omega)]
        obtain ⟨q, rfl⟩ : ∃ q' : Nat, q = (q' : Int) := ⟨q.toNat, by have := hq.1; omega⟩
        have hq4 : q < 4 := by have := hq.2; omega
        rw [Int.toNat_natCast]
        by_cases hn0 : n = -1
        · subst hn0
          rw [if_pos rfl]
          have hc : ¬ ((0 : Int) < -1) := by decide
          have hc2 : (-1 : Int) ≤ 0 := by decide
          have hc3 : (-1 : Int) ≤ 200 := by decide
          refine ⟨up I 397 (q : Int) (-1), ?_, hm.shelf hs hq4 ups ⟨fun k a b => upf a, fun z hz => upj hz, fun z hz => upk (by decide)⟩, fun k hk => upf (by omega)⟩
          rw [c_170]
          simp (disch := first | assumption | omega | exact Nat.le_of_ble_eq_true rfl | decide) only [u_170_0, u_170_1, u_170_4, u_170_7, u_170_8, u_170_11, u_170_14, u_170_15, u_170_16, u_170_17, u_170_18, u_170_21, u_170_23, u_170_24, u_170_25, u_170_28, u_170_29, u_170_30, u_170_31, u_170_32, u_170_33, u_170_34, u_170_35, u_170_38, u_170_39, u_170_42, u_170_45, u_170_46, u_170_47, u_170_48, u_170_49, u_170_50, u_170_51, u_170_54, u_170_57, u_170_58, m_isShelf, if_pos hq, bnd_some, psh_some, Int.reduceEq, if_false, if_true, hc2, hc3, Int.le_refl, r5, rv_some]
        · rw [if_neg hn0]
          obtain ⟨n, rfl⟩ : ∃ n' : Nat, n = (n' : Int) := ⟨n.toNat, by omega⟩
          rw [Int.toNat_natCast]
          obtain ⟨I', h1, h2, h3, h4⟩ := mzeros_loop (d := d + 2) (n := n) hX hq4 (by omega) n 0 (up I 397 (q : Int) (n : Int)) (by omega) (fun x hx => by omega)
          have h1 : ev S0 (d + 2) 170 33 [.inr (.inl 392), .inl (q : Int), .inl (n : Int), .inl 0] [] (sh, up I 397 (q : Int) (n : Int), R) = some (some (.inl 1), (sh, I', R)) := h1
          refine ⟨I', ?_, hm.shelf hs hq4 ⟨?_, fun j x hx => ?_⟩ ⟨fun k a b => by rw [h3 k b, upf a], fun z hz => by rw [h3 _ (by decide), upj hz], fun z hz => by rw [h4 z hz, upk (by decide)]⟩, fun k hk => by rw [h3 k (by omega), upf (by omega)]⟩
          · rw [c_170]
            simp (disch := first | assumption | omega | exact Nat.le_of_ble_eq_true rfl | decide) only [u_170_0, u_170_1, u_170_4, u_170_7, u_170_8, u_170_11, u_170_14, u_170_15, u_170_16, u_170_17, u_170_18, u_170_21, u_170_23, u_170_24, u_170_25, u_170_28, u_170_29, u_170_30, u_170_31, u_170_32, m_isShelf, if_pos hq, bnd_some, psh_some, Int.reduceEq, if_false, if_true, hn, hn1, r5, rv_some, h1]
          · rw [h3 _ (by decide), ups, List.length_replicate]
          · have := lenOf hx
            rw [List.length_replicate] at this
            rw [List.getElem?_replicate, if_pos this] at hx
            cases hx
            exact h2 j this
      · rw [if_pos (by omega)]
        refine ME.same hm ?_
        rw [c_170]
        simp (disch := first | assumption | omega | exact Nat.le_of_ble_eq_true rfl | decide) only [u_170_0, u_170_1, u_170_4, u_170_7, u_170_8, u_170_11, u_170_14, u_170_15, u_170_16, u_170_17, u_170_18, u_170_21, u_170_23, u_170_24, u_170_25, u_170_28, u_170_29, u_170_30, u_170_31, u_170_32, m_isShelf, if_pos hq, bnd_some, psh_some, Int.reduceEq, if_false, if_true, hn, hn1]
    · rw [if_pos (by omega)]
      refine ME.same hm ?_
      rw [c_170]
      simp (disch := first | assumption | omega | exact Nat.le_of_ble_eq_true rfl | decide) only [u_170_0, u_170_1, u_170_4, u_170_7, u_170_8, u_170_11, u_170_14, u_170_15, u_170_16, u_170_17, u_170_18, u_170_21, u_170_23, u_170_24, u_170_25, u_170_28, u_170_29, u_170_30, u_170_31, u_170_32, m_isShelf, if_pos hq, bnd_some, psh_some, Int.reduceEq, if_false, if_true, hn]
  · rw [if_pos hq]
    refine ME.same hm ?_
    rw [c_170]
    simp (disch := first | assumption | omega | exact Nat.le_of_ble_eq_true rfl | decide) only [u_170_0, u_170_1, u_170_4, u_170_7, u_170_8, u_170_11, u_170_14, u_170_15, u_170_16, u_170_17, u_170_18, u_170_21, u_170_23, u_170_24, u_170_25, u_170_28, u_170_29, u_170_30, u_170_31, u_170_32, m_isShelf, if_neg hq, bnd_some, psh_some, if_true]
theorem MM_put (hX : MX sh R) (hm : mR I s) (hs : okS s) : ME sh R I (d + 3) 171 [.inl q, .inl i, .inl c] (b_put s q i c) := by
  obtain ⟨t9, r9, tg_, lg⟩ := hX.1
  obtain ⟨r5, t5, l5⟩ := hX.g 5 397 4 (by decide)
  obtain ⟨r6, t6, l6⟩ := hX.g 6 398 800 (by decide)
  unfold b_put
  by_cases hq : isq q
  · rw [if_neg (Classical.not_not.mpr hq)]
    by_cases hcc : 0 ≤ c ∧ c ≤ 255
    · rw [if_neg (Classical.not_not.mpr hcc)]
      obtain ⟨q, rfl⟩ : ∃ q' : Nat, q = (q' : Int) := ⟨q.toNat, by have := hq.1; omega⟩
      have hq4 : q < 4 := by have := hq.2; omega
      rw [Int.toNat_natCast]
      have hsh := hm.2.2.2.1 q hq4
      have hot := hs.2.2.2.2.2.1 q hq4
      generalize hgv : s.2.2.2.1 q = sv at hsh hot ⊢
      cases sv with
      | none =>
        have hsh : I 397 (q : Int) = -1 := hsh
        have hlt : ¬ (0 : Int) ≤ -1 := by decide
        refine ME.same hm ?_
        rw [c_171]
        simp (disch := first | assumption | omega | exact Nat.le_of_ble_eq_true rfl | decide) only [u_171_0, u_171_1, u_171_4, u_171_7, u_171_8, u_171_9, u_171_12, u_171_15, u_171_18, u_171_19, u_171_20, u_171_21, u_171_24, u_171_25, u_171_26, u_171_29, u_171_31, u_171_32, u_171_33, u_171_34, u_171_35, u_171_38, u_171_39, u_171_40, u_171_41, u_171_42, u_171_45, u_171_48, u_171_50, u_171_51, u_171_52, u_171_55, u_171_58, u_171_59, u_171_60, u_171_61, u_171_62, u_171_63, u_171_65, u_171_66, u_171_69, u_171_72, u_171_73, u_171_74, u_171_75, u_171_76, u_171_77, u_171_78, u_171_80, m_isShelf, if_pos hq, m_in, if_pos hcc, bnd_some, psh_some, Int.reduceEq, not_false_eq_true, if_false, if_true, r5, rv_some, hsh, hlt]
      | some t =>
        obtain ⟨h0, h1⟩ : I 397 (q : Int) = (t.length : Int) ∧ ∀ (j : Nat) (c : Int), t[j]? = some c → I 398 (200 * (q : Int) + (j : Int)) = c := hsh
        obtain ⟨ht, -⟩ := hot t rfl
        have hge : (0 : Int) ≤ (t.length : Int) := by omega
        dsimp only
        by_cases hi : 0 ≤ i ∧ i < (t.length : Int)
        · rw [if_neg (Classical.not_not.mpr hi)]
          have hi2 : 0 ≤ i ∧ i ≤ (t.length : Int) - 1 := by omega
          obtain ⟨j, rfl⟩ : ∃ j : Nat, i = (j : Int) := ⟨i.toNat, by omega⟩
          have hjl : j < t.length := by omega
          rw [Int.toNat_natCast, getD_at hjl]
          have hv := h1 j t[j] (List.getElem?_eq_getElem hjl)
          refine ⟨up I 398 (200 * (q : Int) + (j : Int)) c, ?_, hm.shelf hs hq4 ⟨?_, fun x y hy => ?_⟩ ⟨fun k a b => upf b, fun z hz => upk (by decide), fun z hz => upj (by omega)⟩, fun k hk => upf (by omega)⟩
          · rw [c_171]
            simp (disch := first | assumption | omega | exact Nat.le_of_ble_eq_true rfl | decide) only [u_171_0, u_171_1, u_171_4, u_171_7, u_171_8, u_171_9, u_171_12, u_171_15, u_171_18, u_171_19, u_171_20, u_171_21, u_171_24, u_171_25, u_171_26, u_171_29, u_171_31, u_171_32, u_171_33, u_171_34, u_171_35, u_171_38, u_171_39, u_171_40, u_171_41, u_171_42, u_171_45, u_171_48, u_171_50, u_171_51, u_171_52, u_171_55, u_171_58, u_171_59, u_171_60, u_171_61, u_171_62, u_171_63, u_171_65, u_171_66, u_171_69, u_171_72, u_171_73, u_171_74, u_171_75, u_171_76, u_171_77, u_171_78, u_171_80, m_isShelf, if_pos hq, m_in, if_pos hcc, bnd_some, psh_some, Int.reduceEq, not_false_eq_true, if_false, if_true, r5, r6, rv_some, h0, if_pos hge, wrI, if_pos hi2, hv]
          · rw [upk (by decide), List.length_set]; exact h0
          · rw [List.getElem?_set] at hy
            by_cases hjx : j = x
            · subst hjx
              rw [if_pos rfl, if_pos hjl] at hy
              cases hy
              exact ups
            · rw [if_neg hjx] at hy
              rw [upj (by omega)]
              exact h1 x y hy
        · rw [if_pos hi]
          have hi2 : ¬ (0 ≤ i ∧ i ≤ (t.length : Int) - 1) := by omega
          refine ME.same hm ?_
          rw [c_171]
          simp (disch := first | assumption | omega | exact Nat.le_of_ble_eq_true rfl | decide) only [u_171_0, u_171_1, u_171_4, u_171_7, u_171_8, u_171_9, u_171_12, u_171_15, u_171_18, u_171_19, u_171_20, u_171_21, u_171_24, u_171_25, u_171_26, u_171_29, u_171_31, u_171_32, u_171_33, u_171_34, u_171_35, u_171_38, u_171_39, u_171_40, u_171_41, u_171_42, u_171_45, u_171_48, u_171_50, u_171_51, u_171_52, u_171_55, u_171_58, u_171_59, u_171_60, u_171_61, u_171_62, u_171_63, u_171_65, u_171_66, u_171_69, u_171_72, u_171_73, u_171_74, u_171_75, u_171_76, u_171_77, u_171_78, u_171_80, m_isShelf, if_pos hq, m_in, if_pos hcc, bnd_some, psh_some, Int.reduceEq, not_false_eq_true, not_true, if_false, if_true, r5, r6, rv_some, h0, if_pos hge, wrI, if_neg hi2]
    · rw [if_pos hcc]
      refine ME.same hm ?_
      rw [c_171]
      simp (disch := first | assumption | omega | exact Nat.le_of_ble_eq_true rfl | decide) only [u_171_0, u_171_1, u_171_4, u_171_7, u_171_8, u_171_9, u_171_12, u_171_15, u_171_18, u_171_19, u_171_20, u_171_21, u_171_24, u_171_25, u_171_26, u_171_29, u_171_31, u_171_32, u_171_33, u_171_34, u_171_35, u_171_38, u_171_39, u_171_40, u_171_41, u_171_42, u_171_45, u_171_48, u_171_50, u_171_51, u_171_52, u_171_55, u_171_58, u_171_59, u_171_60, u_171_61, u_171_62, u_171_63, u_171_65, u_171_66, u_171_69, u_171_72, u_171_73, u_171_74, u_171_75, u_171_76, u_171_77, u_171_78, u_171_80, m_isShelf, if_pos hq, m_in, if_neg hcc, bnd_some, psh_some, Int.reduceEq, not_true, if_false, if_true]
  · rw [if_pos hq]
    refine ME.same hm ?_
    rw [c_171]
    simp (disch := first | assumption | omega | exact Nat.le_of_ble_eq_true rfl | decide) only [u_171_0, u_171_1, u_171_4, u_171_7, u_171_8, u_171_9, u_171_12, u_171_15, u_171_18, u_171_19, u_171_20, u_171_21, u_171_24, u_171_25, u_171_26, u_171_29, u_171_31, u_171_32, u_171_33, u_171_34, u_171_35, u_171_38, u_171_39, u_171_40, u_171_41, u_171_42, u_171_45, u_171_48, u_171_50, u_171_51, u_171_52, u_171_55, u_171_58, u_171_59, u_171_60, u_171_61, u_171_62, u_171_63, u_171_65, u_171_66, u_171_69, u_171_72, u_171_73, u_171_74, u_171_75, u_171_76, u_171_77, u_171_78, u_171_80, m_isShelf, if_neg hq, bnd_some, psh_some, if_true]
theorem MM_sign (hX : MX sh R) (hm : mR I s) (hs : okS s) : ME sh R I (d + 3) 172 [.inl q, .inl i] (b_sign s q i, s) := by
  obtain ⟨t9, r9, tg_, lg⟩ := hX.1
  obtain ⟨r5, t5, l5⟩ := hX.g 5 397 4 (by decide)
  obtain ⟨r6, t6, l6⟩ := hX.g 6 398 800 (by decide)
  refine ME.same hm ?_
  unfold b_sign
  rw [c_172]
  by_cases hq : isq q
  · rw [if_neg (Classical.not_not.mpr hq)]
    obtain ⟨q, rfl⟩ : ∃ q' : Nat, q = (q' : Int) := ⟨q.toNat, by have := hq.1; omega⟩
    have hq4 : q < 4 := by have := hq.2; omega
    rw [Int.toNat_natCast]
    have hsh := hm.2.2.2.1 q hq4
    have hot := hs.2.2.2.2.2.1 q hq4
    generalize hgv : s.2.2.2.1 q = sv at hsh hot ⊢
    cases sv with
    | none =>
      have hsh : I 397 (q : Int) = -1 := hsh
      have hlt : ¬ (0 : Int) ≤ -1 := by decide
      simp (disch := first | assumption | omega | exact Nat.le_of_ble_eq_true rfl | decide) only [u_172_0, u_172_1, u_172_4, u_172_7, u_172_8, u_172_9, u_172_10, u_172_13, u_172_14, u_172_15, u_172_18, u_172_20, u_172_21, u_172_22, u_172_23, u_172_26, u_172_27, u_172_30, u_172_31, u_172_32, u_172_33, u_172_34, u_172_35, u_172_36, u_172_39, u_172_40, u_172_41, u_172_42, u_172_43, u_172_46, u_172_49, u_172_50, u_172_53, u_172_56, u_172_57, u_172_58, u_172_59, u_172_60, u_172_61, u_172_64, u_172_66, m_isShelf, if_pos hq, bnd_some, psh_some, Int.reduceEq, not_false_eq_true, if_false, if_true, r5, rv_some, hsh, hlt]
    | some t =>
      obtain ⟨h0, h1⟩ : I 397 (q : Int) = (t.length : Int) ∧ ∀ (j : Nat) (c : Int), t[j]? = some c → I 398 (200 * (q : Int) + (j : Int)) = c := hsh
      obtain ⟨ht, -⟩ := hot t rfl
      have hge : (0 : Int) ≤ (t.length : Int) := by omega
      dsimp only
      by_cases hi1 : i = -1
      · rw [if_pos hi1]
        simp (disch := first | assumption | omega | exact Nat.le_of_ble_eq_true rfl | decide) only [u_172_0, u_172_1, u_172_4, u_172_7, u_172_8, u_172_9, u_172_10, u_172_13, u_172_14, u_172_15, u_172_18, u_172_20, u_172_21, u_172_22, u_172_23, u_172_26, u_172_27, u_172_30, u_172_31, u_172_32, u_172_33, u_172_34, u_172_35, u_172_36, u_172_39, u_172_40, u_172_41, u_172_42, u_172_43, u_172_46, u_172_49, u_172_50, u_172_53, u_172_56, u_172_57, u_172_58, u_172_59, u_172_60, u_172_61, u_172_64, u_172_66, m_isShelf, if_pos hq, bnd_some, psh_some, Int.reduceEq, not_false_eq_true, not_true, if_false, if_true, r5, rv_some, h0, if_pos hge, hi1]
      · rw [if_neg hi1]
        by_cases hi : 0 ≤ i ∧ i < (t.length : Int)
        · rw [if_neg (Classical.not_not.mpr hi)]
          have hi2 : 0 ≤ i ∧ i ≤ (t.length : Int) - 1 := by omega
          obtain ⟨j, rfl⟩ : ∃ j : Nat, i = (j : Int) := ⟨i.toNat, by omega⟩
          have hjl : j < t.length := by omega
          rw [Int.toNat_natCast, getD_at hjl]
          have hv := h1 j t[j] (List.getElem?_eq_getElem hjl)
          simp (disch := first | assumption | omega | exact Nat.le_of_ble_eq_true rfl | decide) only [u_172_0, u_172_1, u_172_4, u_172_7, u_172_8, u_172_9, u_172_10, u_172_13, u_172_14, u_172_15, u_172_18, u_172_20, u_172_21, u_172_22, u_172_23, u_172_26, u_172_27, u_172_30, u_172_31, u_172_32, u_172_33, u_172_34, u_172_35, u_172_36, u_172_39, u_172_40, u_172_41, u_172_42, u_172_43, u_172_46, u_172_49, u_172_50, u_172_53, u_172_56, u_172_57, u_172_58, u_172_59, u_172_60, u_172_61, u_172_64, u_172_66, m_isShelf, if_pos hq, m_in, bnd_some, psh_some, Int.reduceEq, not_false_eq_true, if_false, if_true, r5, r6, rv_some, h0, if_pos hge, hi1, wrI, if_pos hi2, hv]
        · rw [if_pos hi]
          have hi2 : ¬ (0 ≤ i ∧ i ≤ (t.length : Int) - 1) := by omega
          simp (disch := first | assumption | omega | exact Nat.le_of_ble_eq_true rfl | decide) only [u_172_0, u_172_1, u_172_4, u_172_7, u_172_8, u_172_9, u_172_10, u_172_13, u_172_14, u_172_15, u_172_18, u_172_20, u_172_21, u_172_22, u_172_23, u_172_26, u_172_27, u_172_30, u_172_31, u_172_32, u_172_33, u_172_34, u_172_35, u_172_36, u_172_39, u_172_40, u_172_41, u_172_42, u_172_43, u_172_46, u_172_49, u_172_50, u_172_53, u_172_56, u_172_57, u_172_58, u_172_59, u_172_60, u_172_61, u_172_64, u_172_66, m_isShelf, if_pos hq, m_in, bnd_some, psh_some, Int.reduceEq, not_false_eq_true, if_false, if_true, r5, r6, rv_some, h0, if_pos hge, hi1, wrI, if_neg hi2]
  · rw [if_pos hq]
    simp (disch := first | assumption | omega | exact Nat.le_of_ble_eq_true rfl | decide) only [u_172_0, u_172_1, u_172_4, u_172_7, u_172_8, u_172_9, u_172_10, u_172_13, u_172_14, u_172_15, u_172_18, u_172_20, u_172_21, u_172_22, u_172_23, u_172_26, u_172_27, u_172_30, u_172_31, u_172_32, u_172_33, u_172_34, u_172_35, u_172_36, u_172_39, u_172_40, u_172_41, u_172_42, u_172_43, u_172_46, u_172_49, u_172_50, u_172_53, u_172_56, u_172_57, u_172_58, u_172_59, u_172_60, u_172_61, u_172_64, u_172_66, m_isShelf, if_neg hq, bnd_some, psh_some, not_true, if_false]
theorem MM_hold (hX : MX sh R) (hm : mR I s) : ME sh R I (d + 4) 203 [.inl h, .inl o] (b_hold s h o) := by
  obtain ⟨t9, r9, tg_, lg⟩ := hX.1
  obtain ⟨r4, t4, l4⟩ := hX.g 4 396 8 (by decide)
  unfold b_hold
  by_cases hh : ish h
  · rw [if_neg (Classical.not_not.mpr hh)]
    by_cases ho : livN s.1 o
    · rw [if_neg (Classical.not_not.mpr ho)]
      obtain ⟨h, rfl⟩ : ∃ q' : Nat, h = (q' : Int) := ⟨h.toNat, by have := hh.1; omega⟩
      have h8 : h < 8 := by have := hh.2; omega
      rw [Int.toNat_natCast]
      obtain ⟨a1, a2, a3, a4, a5, a6⟩ := id hm
      refine ⟨up I 396 (h : Int) o, ?_, ⟨isMc.cong a1 (upf (by decide)), by rw [upf (by decide)]; exact a2, fun q => isMc.cong (a3 q) (upf (by decide)), fun x hx => (a4 x hx).cong (upf (by decide)) (upf (by decide)), fun q hq => ?_, a6.cong (by rw [upf (by decide)]) (upf (by decide)) (upf (by decide))⟩, fun k hk => upf (by omega)⟩
      · rw [c_203]
        simp (disch := first | assumption | omega | exact Nat.le_of_ble_eq_true rfl | decide) only [u_203_0, u_203_1, u_203_4, u_203_7, u_203_8, u_203_9, u_203_12, u_203_15, u_203_16, u_203_17, u_203_18, u_203_21, u_203_22, u_203_23, u_203_24, u_203_25, m_isHandle, if_pos hh, bnd_some, psh_some, Int.reduceEq, not_false_eq_true, if_false, if_true, m_oon hX.1 a1, if_pos ho, r4, rv_some]
      · by_cases hqh : q = h
        · subst hqh
          simp only [stH, if_true]
          exact ups
        · simp only [stH, if_neg hqh]
          rw [upj (by omega)]
          exact a5 q hq
    · rw [if_pos ho]
      refine ME.same hm ?_
      rw [c_203]
      simp (disch := first | assumption | omega | exact Nat.le_of_ble_eq_true rfl | decide) only [u_203_0, u_203_1, u_203_4, u_203_7, u_203_8, u_203_9, u_203_12, u_203_15, u_203_16, u_203_17, u_203_18, u_203_21, u_203_22, u_203_23, u_203_24, u_203_25, m_isHandle, if_pos hh, bnd_some, psh_some, Int.reduceEq, not_true, if_false, if_true, m_oon hX.1 hm.1, if_neg ho]
  · rw [if_pos hh]
    refine ME.same hm ?_
    rw [c_203]
    simp (disch := first | assumption | omega | exact Nat.le_of_ble_eq_true rfl | decide) only [u_203_0, u_203_1, u_203_4, u_203_7, u_203_8, u_203_9, u_203_12, u_203_15, u_203_16, u_203_17, u_203_18, u_203_21, u_203_22, u_203_23, u_203_24, u_203_25, m_isHandle, if_neg hh, bnd_some, psh_some, if_true]
theorem livN_ge {w : WD} {z : Int} (h : livN w z) : z = -1 ∨ 0 ≤ z := h.imp id (fun q => q.1)
theorem MM_held (hX : MX sh R) (hm : mR I s) (hs : okS s) : ME sh R I (d + 3) 204 [.inl h] (b_held s h, s) := by
  obtain ⟨t9, r9, tg_, lg⟩ := hX.1
  obtain ⟨r4, t4, l4⟩ := hX.g 4 396 8 (by decide)
  refine ME.same hm ?_
  unfold b_held
  rw [c_204]
  by_cases hh : ish h
  · rw [if_neg (Classical.not_not.mpr hh)]
    obtain ⟨h, rfl⟩ : ∃ q' : Nat, h = (q' : Int) := ⟨h.toNat, by have := hh.1; omega⟩
    have h8 : h < 8 := by have := hh.2; omega
    rw [Int.toNat_natCast]
    have hv := hm.2.2.2.2.1 h h8
    have hnt := nT2_eq (livN_ge (hs.2.2.2.2.2.2.1 h h8))
    simp (disch := first | assumption | omega | exact Nat.le_of_ble_eq_true rfl | decide) only [u_204_0, u_204_1, u_204_4, u_204_7, u_204_8, u_204_11, u_204_12, u_204_13, u_204_16, u_204_19, u_204_20, m_isHandle, if_pos hh, bnd_some, psh_some, Int.reduceEq, if_false, r4, rv_some, hv, m_told, hnt]
  · rw [if_pos hh]
    simp (disch := first | assumption | omega | exact Nat.le_of_ble_eq_true rfl | decide) only [u_204_0, u_204_1, u_204_4, u_204_7, u_204_8, u_204_11, u_204_12, u_204_13, u_204_16, u_204_19, u_204_20, m_isHandle, if_neg hh, bnd_some, psh_some, if_true]
theorem save_loop (hX : MX sh R) {q : Nat} (hq : q < 4) (ht : t.length ≤ 200) {a2 : AV} : ∀ (k j : Nat) (I : IM), j + k = t.length → isOut I t → (∀ (x : Nat) (y : Int), x < j → t[x]? = some y → I 398 (200 * (q : Int) + (x : Int)) = y) → ∃ I', ev S0 d 177 40 [.inr (.inl 392), .inl (q : Int), a2, .inl (j : Int)] [] (sh, I, R) = some (some (.inl (t.length : Int)), (sh, I', R)) ∧ (∀ (x : Nat) (y : Int), t[x]? = some y → I' 398 (200 * (q : Int) + (x : Int)) = y) ∧ (∀ k, k ≠ 398 → I' k = I k) ∧ ∀ z, ¬ (200 * (q : Int) ≤ z ∧ z < 200 * (q : Int) + 200) → I' 398 z = I 398 z := by
  obtain ⟨t9, r9, tg_, lg⟩ := hX.1
  obtain ⟨r6, t6, l6⟩ := hX.g 6 398 800 (by decide)
  obtain ⟨r11, t11, l11⟩ := hX.g 11 402 200 (by decide)
  intro k
  induction k with
  | zero =>
    intro j I hj ho h
    have ho0 := ho.1
    have hc : (t.length : Int) ≤ (j : Int) := by omega
    refine ⟨I, ?_, fun x y hy => h x y (by have := lenOf hy; omega) hy, fun _ _ => rfl, fun _ _ => rfl⟩
    simp (disch := first | assumption | omega | exact Nat.le_of_ble_eq_true rfl | decide) only [u_177_40, u_177_41, u_177_42, u_177_45, u_177_72, u_177_73, u_177_76, ho0, hc, if_true]
  | succ k ih =>
    intro j I hj ho h
    have ho0 := ho.1
    have hjl : j < t.length := by omega
    have hc : ¬ (t.length : Int) ≤ (j : Int) := by omega
    have hv := ho.2 j t[j] (by omega) (List.getElem?_eq_getElem hjl)
    obtain ⟨I', h1, h2, h3, h4⟩ := ih (j + 1) (up I 398 (200 * (q : Int) + (j : Int)) t[j]) (by omega) (ho.cong (by rw [upf (by decide)]) (upf (by decide))) (fun x y hx hy => by
      by_cases hij : x = j
      · subst hij
        rw [List.getElem?_eq_getElem hjl] at hy
        cases hy
        exact ups
      · rw [upj (by omega)]; exact h x y (by omega) hy)
    refine ⟨I', ?_, h2, fun k hk => by rw [h3 k hk, upf hk], fun z hz => by rw [h4 z hz, upj (by omega)]⟩
    rw [u_177_40]
    simp (disch := first | assumption | omega | exact Nat.le_of_ble_eq_true rfl | decide) only [u_177_41, u_177_42, u_177_45, u_177_48, u_177_49, u_177_52, u_177_55, u_177_56, u_177_57, u_177_58, u_177_59, u_177_60, u_177_63, u_177_64, u_177_65, u_177_66, u_177_69, ho0, hc, if_false, r6, r11, rv_some, wrI, hv, n1, h1]
theorem MM_save (hX : MX sh R) (hm : mR I s) (hs : okS s) : ME sh R I (d + 41) 177 [.inl q, .inl o] (b_save s q o) := by
  obtain ⟨t9, r9, tg_, lg⟩ := hX.1
  obtain ⟨r5, t5, l5⟩ := hX.g 5 397 4 (by decide)
  unfold b_save
  by_cases hq : isq q
  · rw [if_neg (Classical.not_not.mpr hq)]
    by_cases ho : livN s.1 o
    · rw [if_neg (Classical.not_not.mpr ho)]
      obtain ⟨I1, g1, g2, g3⟩ := m_isSaved (d := d) hX hs.1 hm.1 ho
      by_cases hl : (thr s.1 o).2.length ≤ 200
      · rw [if_neg (Classical.not_not.mpr hl)]
        rw [if_pos hl] at g1
        obtain ⟨q, rfl⟩ : ∃ q' : Nat, q = (q' : Int) := ⟨q.toNat, by have := hq.1; omega⟩
        have hq4 : q < 4 := by have := hq.2; omega
        rw [Int.toNat_natCast]
        have g20 := g2.1
        obtain ⟨I2, h1, h2, h3, h4⟩ := save_loop (d := d + 40) (a2 := .inl o) hX hq4 hl (thr s.1 o).2.length 0 (up I1 397 (q : Int) ((thr s.1 o).2.length : Int)) (by omega) (g2.cong (by rw [upf (by decide)]) (upf (by decide))) (fun x y hx => by omega)
        have h1 : ev S0 (d + 40) 177 40 [.inr (.inl 392), .inl (q : Int), .inl o, .inl 0] [] (sh, up I1 397 (q : Int) ((thr s.1 o).2.length : Int), R) = some (some (.inl ((thr s.1 o).2.length : Int)), (sh, I2, R)) := h1
        refine ⟨I2, ?_, (hm.frT g3).shelf hs hq4 ⟨?_, h2⟩ ⟨fun k a b => by rw [h3 k b, upf a], fun z hz => by rw [h3 _ (by decide), upj hz], fun z hz => by rw [h4 z hz, upk (by decide)]⟩, fun k hk => by rw [h3 k (by omega), upf (by omega), g3.1 k (by omega) (by omega) (by omega) (by omega)]⟩
        · rw [c_177]
          simp (disch := first | assumption | omega | exact Nat.le_of_ble_eq_true rfl | decide) only [u_177_0, u_177_1, u_177_4, u_177_7, u_177_8, u_177_9, u_177_12, u_177_15, u_177_16, u_177_17, u_177_18, u_177_19, u_177_22, u_177_25, u_177_27, u_177_28, u_177_29, u_177_32, u_177_33, u_177_34, u_177_37, u_177_38, u_177_39, m_isShelf, if_pos hq, bnd_some, psh_some, Int.reduceEq, not_false_eq_true, if_false, if_true, m_oon hX.1 hm.1, if_pos ho, g1, r5, rv_some, g20, h1]
        · rw [h3 _ (by decide), ups]
      · rw [if_pos hl]
        rw [if_neg hl] at g1
        refine ⟨I1, ?_, hm.frT g3, fun k hk => g3.1 k (by omega) (by omega) (by omega) (by omega)⟩
        rw [c_177]
        simp (disch := first | assumption | omega | exact Nat.le_of_ble_eq_true rfl | decide) only [u_177_0, u_177_1, u_177_4, u_177_7, u_177_8, u_177_9, u_177_12, u_177_15, u_177_16, u_177_17, u_177_18, u_177_19, u_177_22, u_177_25, u_177_27, u_177_28, u_177_29, u_177_32, u_177_33, u_177_34, u_177_37, u_177_38, u_177_39, m_isShelf, if_pos hq, bnd_some, psh_some, Int.reduceEq, not_false_eq_true, not_true, if_false, if_true, m_oon hX.1 hm.1, if_pos ho, g1]
    · rw [if_pos ho]
      refine ME.same hm ?_
      rw [c_177]
      simp (disch := first | assumption | omega | exact Nat.le_of_ble_eq_true rfl | decide) only [u_177_0, u_177_1, u_177_4, u_177_7, u_177_8, u_177_9, u_177_12, u_177_15, u_177_16, u_177_17, u_177_18, u_177_19, u_177_22, u_177_25, u_177_27, u_177_28, u_177_29, u_177_32, u_177_33, u_177_34, u_177_37, u_177_38, u_177_39, m_isShelf, if_pos hq, bnd_some, psh_some, Int.reduceEq, not_true, if_false, if_true, m_oon hX.1 hm.1, if_neg ho]
  · rw [if_pos hq]
    refine ME.same hm ?_
    rw [c_177]
    simp (disch := first | assumption | omega | exact Nat.le_of_ble_eq_true rfl | decide) only [u_177_0, u_177_1, u_177_4, u_177_7, u_177_8, u_177_9, u_177_12, u_177_15, u_177_16, u_177_17, u_177_18, u_177_19, u_177_22, u_177_25, u_177_27, u_177_28, u_177_29, u_177_32, u_177_33, u_177_34, u_177_37, u_177_38, u_177_39, m_isShelf, if_neg hq, bnd_some, psh_some, if_true]
theorem judge_loop (hX : MX sh R) {q : Nat} (hq : q < 4) (ht : okT t) (hu : okT u) (ho : isOut I u) (h0 : I 397 (q : Int) = (t.length : Int)) (h1 : ∀ (j : Nat) (c : Int), t[j]? = some c → I 398 (200 * (q : Int) + (j : Int)) = c) {a2 : AV} : ∀ (k j : Nat), j + k = t.length → ev S0 d 189 42 [.inr (.inl 392), .inl (q : Int), a2, .inl (j : Int)] [] (sh, I, R) = some (some (.inl (fot (t.drop j) (u.drop j) j)), (sh, I, R)) := by
  obtain ⟨t9, r9, tg_, lg⟩ := hX.1
  obtain ⟨r5, t5, l5⟩ := hX.g 5 397 4 (by decide)
  obtain ⟨r6, t6, l6⟩ := hX.g 6 398 800 (by decide)
  obtain ⟨r11, t11, l11⟩ := hX.g 11 402 200 (by decide)
  have ho0 := ho.1
  have ht2 := ht.1
  have hu2 := hu.1
  intro k
  induction k with
  | zero =>
    intro j hj
    obtain rfl : j = t.length := by omega
    have hc : (t.length : Int) ≤ (t.length : Int) := by omega
    by_cases hu1 : t.length < u.length
    · have hc2 : ¬ (u.length : Int) ≤ (t.length : Int) := by omega
      rw [fot_end rfl hu1]
      simp (disch := first | assumption | omega | exact Nat.le_of_ble_eq_true rfl | decide) only [u_189_42, u_189_43, u_189_44, u_189_47, u_189_48, u_189_49, u_189_89, u_189_90, u_189_93, u_189_94, u_189_97, u_189_98, u_189_99, u_189_102, u_189_103, u_189_106, u_189_107, u_189_108, u_189_111, u_189_113, r5, rv_some, h0, ho0, if_pos hc, hc2, if_false]
    · have hc2 : (u.length : Int) ≤ (t.length : Int) := by omega
      rw [fot_same rfl (by omega)]
      simp (disch := first | assumption | omega | exact Nat.le_of_ble_eq_true rfl | decide) only [u_189_42, u_189_43, u_189_44, u_189_47, u_189_48, u_189_49, u_189_89, u_189_90, u_189_93, u_189_94, u_189_97, u_189_98, u_189_99, u_189_102, u_189_103, u_189_106, u_189_107, u_189_108, u_189_111, u_189_113, r5, rv_some, h0, ho0, if_pos hc, if_pos hc2]
  | succ k ih =>
    intro j hj
    have hc : ¬ (t.length : Int) ≤ (j : Int) := by omega
    have hjt : j < t.length := by omega
    have hv := h1 j t[j] (List.getElem?_eq_getElem hjt)
    rw [u_189_42]
    by_cases hju : j < u.length
    · have hc2 : ¬ (u.length : Int) ≤ (j : Int) := by omega
      have hv2 := ho.2 j u[j] (by omega) (List.getElem?_eq_getElem hju)
      rw [fot_cons_drop hjt hju]
      by_cases he : t[j] = u[j]
      · rw [if_pos he]
        simp (disch := first | assumption | omega | exact Nat.le_of_ble_eq_true rfl | decide) only [u_189_43, u_189_44, u_189_47, u_189_48, u_189_49, u_189_52, u_189_53, u_189_54, u_189_57, u_189_60, u_189_61, u_189_64, u_189_65, u_189_66, u_189_67, u_189_70, u_189_73, u_189_74, u_189_75, u_189_76, u_189_77, u_189_78, u_189_81, u_189_82, u_189_83, u_189_86, r5, r6, r11, rv_some, h0, ho0, if_neg hc, if_neg hc2, wrI, hv, hv2, he, if_true, n1, ih (j + 1) (by omega)]
      · rw [if_neg he]
        have he2 : ¬ u[j] = t[j] := fun q => he q.symm
        simp (disch := first | assumption | omega | exact Nat.le_of_ble_eq_true rfl | decide) only [u_189_43, u_189_44, u_189_47, u_189_48, u_189_49, u_189_52, u_189_53, u_189_54, u_189_57, u_189_60, u_189_61, u_189_64, u_189_65, u_189_66, u_189_67, u_189_70, u_189_73, u_189_74, u_189_75, u_189_76, u_189_77, u_189_78, u_189_81, u_189_82, u_189_83, u_189_86, r5, r6, r11, rv_some, h0, ho0, if_neg hc, if_neg hc2, wrI, hv, hv2, he2, if_false]
    · have hc2 : (u.length : Int) ≤ (j : Int) := by omega
      rw [fot_short hjt (by omega)]
      simp (disch := first | assumption | omega | exact Nat.le_of_ble_eq_true rfl | decide) only [u_189_43, u_189_44, u_189_47, u_189_48, u_189_49, u_189_52, u_189_53, u_189_54, u_189_57, u_189_60, u_189_61, u_189_64, u_189_65, u_189_66, u_189_67, u_189_70, u_189_73, u_189_74, u_189_75, u_189_76, u_189_77, u_189_78, u_189_81, u_189_82, u_189_83, u_189_86, r5, rv_some, h0, ho0, if_neg hc, if_pos hc2]
theorem MM_judge (hX : MX sh R) (hm : mR I s) (hs : okS s) : ME sh R I (d + 41) 189 [.inl q, .inl o] (b_judge s q o, s) := by
  obtain ⟨t9, r9, tg_, lg⟩ := hX.1
  obtain ⟨r5, t5, l5⟩ := hX.g 5 397 4 (by decide)
  unfold b_judge
  by_cases hq : isq q
  · rw [if_neg (Classical.not_not.mpr hq)]
    by_cases ho : livN s.1 o
    · rw [if_neg (Classical.not_not.mpr ho)]
      obtain ⟨q, rfl⟩ : ∃ q' : Nat, q = (q' : Int) := ⟨q.toNat, by have := hq.1; omega⟩
      have hq4 : q < 4 := by have := hq.2; omega
      rw [Int.toNat_natCast]
      have hsh := hm.2.2.2.1 q hq4
      have hot := hs.2.2.2.2.2.1 q hq4
      generalize hgv : s.2.2.2.1 q = sv at hsh hot ⊢
      cases sv with
      | none =>
        have hsh : I 397 (q : Int) = -1 := hsh
        have hlt : ¬ (0 : Int) ≤ -1 := by decide
        refine ME.same hm ?_
        rw [c_189]
        simp (disch := first | assumption | omega | exact Nat.le_of_ble_eq_true rfl | decide) only [u_189_0, u_189_1, u_189_4, u_189_7, u_189_8, u_189_9, u_189_12, u_189_15, u_189_16, u_189_17, u_189_18, u_189_21, u_189_22, u_189_23, u_189_26, u_189_28, u_189_29, u_189_30, u_189_31, u_189_34, u_189_37, u_189_39, u_189_40, u_189_41, m_isShelf, if_pos hq, bnd_some, psh_some, Int.reduceEq, not_false_eq_true, if_false, if_true, m_oon hX.1 hm.1, if_pos ho, r5, rv_some, hsh, hlt]
      | some t =>
        obtain ⟨h0, h1⟩ : I 397 (q : Int) = (t.length : Int) ∧ ∀ (j : Nat) (c : Int), t[j]? = some c → I 398 (200 * (q : Int) + (j : Int)) = c := hsh
        have ht := hot t rfl
        have hge : (0 : Int) ≤ (t.length : Int) := by omega
        dsimp only
        obtain ⟨I1, g1, g2, g3⟩ := m_isSaved (d := d) hX hs.1 hm.1 ho
        by_cases hl : (thr s.1 o).2.length ≤ 200
        · rw [if_neg (Classical.not_not.mpr hl)]
          rw [if_pos hl] at g1
          have fl := judge_loop (I := I1) (d := d + 40) (a2 := .inl o) hX hq4 ht (thr_ok hs.1 ho hl) g2 (by rw [g3.1 _ (by decide) (by decide) (by decide) (by decide)]; exact h0) (fun j c hc => by rw [g3.1 _ (by decide) (by decide) (by decide) (by decide)]; exact h1 j c hc) t.length 0 (by omega)
          have fl : ev S0 (d + 40) 189 42 [.inr (.inl 392), .inl (q : Int), .inl o, .inl 0] [] (sh, I1, R) = some (some (.inl (fot t (thr s.1 o).2 0)), (sh, I1, R)) := fl
          refine ⟨I1, ?_, hm.frT g3, fun k hk => g3.1 k (by omega) (by omega) (by omega) (by omega)⟩
          rw [c_189]
          simp (disch := first | assumption | omega | exact Nat.le_of_ble_eq_true rfl | decide) only [u_189_0, u_189_1, u_189_4, u_189_7, u_189_8, u_189_9, u_189_12, u_189_15, u_189_16, u_189_17, u_189_18, u_189_21, u_189_22, u_189_23, u_189_26, u_189_28, u_189_29, u_189_30, u_189_31, u_189_34, u_189_37, u_189_39, u_189_40, u_189_41, m_isShelf, if_pos hq, bnd_some, psh_some, Int.reduceEq, not_false_eq_true, if_false, if_true, m_oon hX.1 hm.1, if_pos ho, r5, rv_some, h0, if_pos hge, g1, fl]
        · rw [if_pos hl]
          rw [if_neg hl] at g1
          refine ⟨I1, ?_, hm.frT g3, fun k hk => g3.1 k (by omega) (by omega) (by omega) (by omega)⟩
          rw [c_189]
          simp (disch := first | assumption | omega | exact Nat.le_of_ble_eq_true rfl | decide) only [u_189_0, u_189_1, u_189_4, u_189_7, u_189_8, u_189_9, u_189_12, u_189_15, u_189_16, u_189_17, u_189_18, u_189_21, u_189_22, u_189_23, u_189_26, u_189_28, u_189_29, u_189_30, u_189_31, u_189_34, u_189_37, u_189_39, u_189_40, u_189_41, m_isShelf, if_pos hq, bnd_some, psh_some, Int.reduceEq, not_false_eq_true, not_true, if_false, if_true, m_oon hX.1 hm.1, if_pos ho, r5, rv_some, h0, if_pos hge, g1]
    · rw [if_pos ho]
      refine ME.same hm ?_
      rw [c_189]
      simp (disch := first | assumption | omega | exact Nat.le_of_ble_eq_true rfl | decide) only [u_189_0, u_189_1, u_189_4, u_189_7, u_189_8, u_189_9, u_189_12, u_189_15, u_189_16, u_189_17, u_189_18, u_189_21, u_189_22, u_189_23, u_189_26, u_189_28, u_189_29, u_189_30, u_189_31, u_189_34, u_189_37, u_189_39, u_189_40, u_189_41, m_isShelf, if_pos hq, bnd_some, psh_some, Int.reduceEq, not_true, if_false, if_true, m_oon hX.1 hm.1, if_neg ho]
  · rw [if_pos hq]
    refine ME.same hm ?_
    rw [c_189]
    simp (disch := first | assumption | omega | exact Nat.le_of_ble_eq_true rfl | decide) only [u_189_0, u_189_1, u_189_4, u_189_7, u_189_8, u_189_9, u_189_12, u_189_15, u_189_16, u_189_17, u_189_18, u_189_21, u_189_22, u_189_23, u_189_26, u_189_28, u_189_29, u_189_30, u_189_31, u_189_34, u_189_37, u_189_39, u_189_40, u_189_41, m_isShelf, if_neg hq, bnd_some, psh_some, if_true]
theorem MM_stream (hX : MX sh R) (hm : mR I s) (hs : okS s) : ME sh R I (d + 41) 199 [.inl o, .inl k] (b_stream s o k, s) := by
  obtain ⟨t9, r9, tg_, lg⟩ := hX.1
  obtain ⟨r11, t11, l11⟩ := hX.g 11 402 200 (by decide)
  unfold b_stream
  by_cases hl : liv s.1 o
  · rw [if_neg (Classical.not_not.mpr hl)]
    by_cases hk : k < 0
    · rw [if_pos hk]
      have hk2 : ¬ 0 ≤ k := by omega
      refine ME.same hm ?_
      rw [c_199]
      simp (disch := first | assumption | omega | exact Nat.le_of_ble_eq_true rfl | decide) only [u_199_0, u_199_1, u_199_2, u_199_5, u_199_8, u_199_9, u_199_12, u_199_13, u_199_14, u_199_15, u_199_16, u_199_19, u_199_22, u_199_24, u_199_25, u_199_26, u_199_27, u_199_30, u_199_33, u_199_34, u_199_37, u_199_38, u_199_39, u_199_42, u_199_44, m_isObject hX.1 hm.1, if_pos hl, bnd_some, psh_some, Int.reduceEq, hk2, if_false]
    · rw [if_neg hk]
      have hk2 : 0 ≤ k := by omega
      obtain ⟨I1, g1, g2, g3⟩ := m_isSaved (d := d) hX hs.1 hm.1 (Or.inr hl)
      have g20 := g2.1
      by_cases hn : (thr s.1 o).2.length ≤ 200
      · rw [if_neg (Classical.not_not.mpr hn)]
        rw [if_pos hn] at g1
        by_cases hkl : k < ((thr s.1 o).2.length : Int)
        · rw [if_pos hkl]
          obtain ⟨j, rfl⟩ : ∃ j : Nat, k = (j : Int) := ⟨k.toNat, by omega⟩
          have hjl : j < (thr s.1 o).2.length := by omega
          have hge : ¬ ((thr s.1 o).2.length : Int) ≤ (j : Int) := by omega
          rw [Int.toNat_natCast, getD_at hjl]
          have hv := g2.2 j _ (by omega) (List.getElem?_eq_getElem hjl)
          refine ⟨I1, ?_, hm.frT g3, fun k hk => g3.1 k (by omega) (by omega) (by omega) (by omega)⟩
          rw [c_199]
          simp (disch := first | assumption | omega | exact Nat.le_of_ble_eq_true rfl | decide) only [u_199_0, u_199_1, u_199_2, u_199_5, u_199_8, u_199_9, u_199_12, u_199_13, u_199_14, u_199_15, u_199_16, u_199_19, u_199_22, u_199_24, u_199_25, u_199_26, u_199_27, u_199_30, u_199_33, u_199_34, u_199_37, u_199_38, u_199_39, u_199_42, u_199_44, m_isObject hX.1 hm.1, if_pos hl, bnd_some, psh_some, Int.reduceEq, not_false_eq_true, if_pos hk2, if_false, if_true, g1, g20, if_neg hge, r11, rv_some, hv]
        · rw [if_neg hkl]
          have hge : ((thr s.1 o).2.length : Int) ≤ k := by omega
          refine ⟨I1, ?_, hm.frT g3, fun k hk => g3.1 k (by omega) (by omega) (by omega) (by omega)⟩
          rw [c_199]
          simp (disch := first | assumption | omega | exact Nat.le_of_ble_eq_true rfl | decide) only [u_199_0, u_199_1, u_199_2, u_199_5, u_199_8, u_199_9, u_199_12, u_199_13, u_199_14, u_199_15, u_199_16, u_199_19, u_199_22, u_199_24, u_199_25, u_199_26, u_199_27, u_199_30, u_199_33, u_199_34, u_199_37, u_199_38, u_199_39, u_199_42, u_199_44, m_isObject hX.1 hm.1, if_pos hl, bnd_some, psh_some, Int.reduceEq, not_false_eq_true, if_pos hk2, if_false, if_true, g1, g20, if_pos hge]
      · rw [if_pos hn]
        rw [if_neg hn] at g1
        refine ⟨I1, ?_, hm.frT g3, fun k hk => g3.1 k (by omega) (by omega) (by omega) (by omega)⟩
        rw [c_199]
        simp (disch := first | assumption | omega | exact Nat.le_of_ble_eq_true rfl | decide) only [u_199_0, u_199_1, u_199_2, u_199_5, u_199_8, u_199_9, u_199_12, u_199_13, u_199_14, u_199_15, u_199_16, u_199_19, u_199_22, u_199_24, u_199_25, u_199_26, u_199_27, u_199_30, u_199_33, u_199_34, u_199_37, u_199_38, u_199_39, u_199_42, u_199_44, m_isObject hX.1 hm.1, if_pos hl, bnd_some, psh_some, Int.reduceEq, not_true, if_pos hk2, if_false, g1]
  · rw [if_pos hl]
    refine ME.same hm ?_
    rw [c_199]
    simp (disch := first | assumption | omega | exact Nat.le_of_ble_eq_true rfl | decide) only [u_199_0, u_199_1, u_199_2, u_199_5, u_199_8, u_199_9, u_199_12, u_199_13, u_199_14, u_199_15, u_199_16, u_199_19, u_199_22, u_199_24, u_199_25, u_199_26, u_199_27, u_199_30, u_199_33, u_199_34, u_199_37, u_199_38, u_199_39, u_199_42, u_199_44, m_isObject hX.1 hm.1, if_neg hl, bnd_some, psh_some, if_true]
theorem MM_cause (hX : MX sh R) (hm : mR I s) (hs : okS s) : ME sh R I (d + 2) 188 [.inl i, .inl q] (b_cause s i q, s) := by
  obtain ⟨t9, r9, tg_, lg⟩ := hX.1
  obtain ⟨r13, t13, l13⟩ := hX.g 13 403 16 (by decide)
  obtain ⟨r14, t14, l14⟩ := hX.g 14 404 16 (by decide)
  have hf := hm.2.2.2.2.2
  have h13 := hs.2.2.2.2.2.2.2
  have h0 := hf.1
  refine ME.same hm ?_
  unfold b_cause
  rw [c_188]
  by_cases hi : i < 0
  · rw [if_pos hi]
    simp (disch := first | assumption | omega | exact Nat.le_of_ble_eq_true rfl | decide) only [u_188_0, u_188_1, u_188_4, u_188_5, u_188_6, u_188_7, u_188_10, u_188_13, u_188_14, u_188_15, u_188_16, u_188_17, u_188_20, u_188_23, u_188_25, u_188_26, u_188_27, u_188_30, u_188_31, u_188_32, u_188_33, u_188_34, u_188_35, u_188_36, u_188_39, u_188_40, u_188_43, u_188_44, u_188_45, u_188_48, u_188_49, u_188_52, u_188_53, u_188_54, hi, if_true]
  · rw [if_neg hi]
    by_cases hq : 0 ≤ q ∧ q ≤ 1
    · rw [if_neg (Classical.not_not.mpr hq)]
      by_cases hl : (s.2.2.2.2.2.length : Int) ≤ i
      · rw [if_pos hl]
        have hl2 : ¬ i < (s.2.2.2.2.2.length : Int) := by omega
        simp (disch := first | assumption | omega | exact Nat.le_of_ble_eq_true rfl | decide) only [u_188_0, u_188_1, u_188_4, u_188_5, u_188_6, u_188_7, u_188_10, u_188_13, u_188_14, u_188_15, u_188_16, u_188_17, u_188_20, u_188_23, u_188_25, u_188_26, u_188_27, u_188_30, u_188_31, u_188_32, u_188_33, u_188_34, u_188_35, u_188_36, u_188_39, u_188_40, u_188_43, u_188_44, u_188_45, u_188_48, u_188_49, u_188_52, u_188_53, u_188_54, if_neg hi, m_in, if_pos hq, bnd_some, psh_some, Int.reduceEq, not_false_eq_true, if_true, h0, if_neg hl2]
      · rw [if_neg hl]
        have hl2 : i < (s.2.2.2.2.2.length : Int) := by omega
        obtain ⟨j, rfl⟩ : ∃ j : Nat, i = (j : Int) := ⟨i.toNat, by omega⟩
        have hk : s.2.2.2.2.2.length - 1 - j < s.2.2.2.2.2.length := by omega
        obtain ⟨v1, v2⟩ := hf.2 _ _ (List.getElem?_eq_getElem hk)
        rw [Int.toNat_natCast, getD_at hk]
        have e : (s.2.2.2.2.2.length : Int) - 1 - (j : Int) = ((s.2.2.2.2.2.length - 1 - j : Nat) : Int) := by omega
        by_cases hq0 : q = 0
        · rw [if_pos hq0]
          simp (disch := first | assumption | omega | exact Nat.le_of_ble_eq_true rfl | decide) only [u_188_0, u_188_1, u_188_4, u_188_5, u_188_6, u_188_7, u_188_10, u_188_13, u_188_14, u_188_15, u_188_16, u_188_17, u_188_20, u_188_23, u_188_25, u_188_26, u_188_27, u_188_30, u_188_31, u_188_32, u_188_33, u_188_34, u_188_35, u_188_36, u_188_39, u_188_40, u_188_43, u_188_44, u_188_45, u_188_48, u_188_49, u_188_52, u_188_53, u_188_54, if_neg hi, m_in, if_pos hq, bnd_some, psh_some, Int.reduceEq, not_false_eq_true, not_true, if_true, if_false, h0, if_pos hl2, hq0, wrI, e, r13, rv_some, v1]
          subst hq0
          simp (disch := first | assumption | omega | exact Nat.le_of_ble_eq_true rfl | decide) only [u_188_0, u_188_1, u_188_4, u_188_5, u_188_6, u_188_7, u_188_10, u_188_13, u_188_14, u_188_15, u_188_16, u_188_17, u_188_20, u_188_23, u_188_25, u_188_26, u_188_27, u_188_30, u_188_31, u_188_32, u_188_33, u_188_34, u_188_35, u_188_36, u_188_39, u_188_40, u_188_43, u_188_44, u_188_45, u_188_48, u_188_49, u_188_52, u_188_53, u_188_54, if_neg hi, m_in, if_pos hq, bnd_some, psh_some, Int.reduceEq, not_false_eq_true, not_true, if_true, if_false, h0, if_pos hl2, wrI, e, r13, rv_some, v1]
        · rw [if_neg hq0]
          simp (disch := first | assumption | omega | exact Nat.le_of_ble_eq_true rfl | decide) only [u_188_0, u_188_1, u_188_4, u_188_5, u_188_6, u_188_7, u_188_10, u_188_13, u_188_14, u_188_15, u_188_16, u_188_17, u_188_20, u_188_23, u_188_25, u_188_26, u_188_27, u_188_30, u_188_31, u_188_32, u_188_33, u_188_34, u_188_35, u_188_36, u_188_39, u_188_40, u_188_43, u_188_44, u_188_45, u_188_48, u_188_49, u_188_52, u_188_53, u_188_54, if_neg hi, m_in, if_pos hq, bnd_some, psh_some, Int.reduceEq, not_false_eq_true, if_true, if_false, h0, if_pos hl2, hq0, wrI, e, r14, rv_some, v2]
    · rw [if_pos hq]
      simp (disch := first | assumption | omega | exact Nat.le_of_ble_eq_true rfl | decide) only [u_188_0, u_188_1, u_188_4, u_188_5, u_188_6, u_188_7, u_188_10, u_188_13, u_188_14, u_188_15, u_188_16, u_188_17, u_188_20, u_188_23, u_188_25, u_188_26, u_188_27, u_188_30, u_188_31, u_188_32, u_188_33, u_188_34, u_188_35, u_188_36, u_188_39, u_188_40, u_188_43, u_188_44, u_188_45, u_188_48, u_188_49, u_188_52, u_188_53, u_188_54, if_neg hi, m_in, if_neg hq, bnd_some, psh_some, not_true, if_false]
theorem lays_loop {x y : Nat} (tx : tg sh x = 100) (lx : ln sh x = 744) (ty : tg sh y = 100) (ly : ln sh y = 744) (hxy : x ≠ y) (f : Int → Int) : ∀ (k j : Nat) (I : IM), j + k = 744 → I x = f → (∀ i : Nat, i < j → I y (i : Int) = f (i : Int)) → ∃ I', ev S0 d 130 2 [.inr (.inl x), .inr (.inl y), .inl (j : Int)] [] (sh, I, R) = some (none, (sh, I', R)) ∧ (∀ i : Nat, i < 744 → I' y (i : Int) = f (i : Int)) ∧ ∀ k, k ≠ y → I' k = I k := by
  intro k
  induction k with
  | zero =>
    intro j I hj hx h
    have hc : (744 : Int) ≤ (j : Int) := by omega
    refine ⟨I, ?_, fun i hi => h i (by omega), fun _ _ => rfl⟩
    simp (disch := first | assumption | omega | exact Nat.le_of_ble_eq_true rfl | decide) only [u_130_2, u_130_3, u_130_6, u_130_21, hc, if_true]
  | succ k ih =>
    intro j I hj hx h
    have hc : ¬ (744 : Int) ≤ (j : Int) := by omega
    obtain ⟨I', h1, h2, h3⟩ := ih (j + 1) (up I y (j : Int) (f (j : Int))) (by omega) (by rw [upf hxy]; exact hx) (fun i hi => by
      by_cases hij : i = j
      · subst hij; exact ups
      · rw [upj (by omega)]; exact h i (by omega))
    refine ⟨I', ?_, h2, fun k hk => by rw [h3 k hk, upf hk]⟩
    rw [u_130_2]
    simp (disch := first | assumption | omega | exact Nat.le_of_ble_eq_true rfl | decide) only [u_130_3, u_130_6, u_130_9, u_130_9n, u_130_10, u_130_11, u_130_11n, u_130_12, u_130_13, u_130_14, u_130_15, u_130_18, hc, if_false, hx, wrN, h1]
theorem m_lays {x y : Nat} (tx : tg sh x = 100) (lx : ln sh x = 744) (ty : tg sh y = 100) (ly : ln sh y = 744) (hxy : x ≠ y) : ∃ I', cl (d + 1) 130 [.inr (.inl x), .inr (.inl y)] (sh, I, R) = some (none, (sh, I', R)) ∧ (∀ i : Nat, i < 744 → I' y (i : Int) = I x (i : Int)) ∧ ∀ k, k ≠ y → I' k = I k := by
  obtain ⟨I', h1, h2, h3⟩ := lays_loop (R := R) (d := d) tx lx ty ly hxy (I x) 744 0 I (by omega) rfl (fun i hi => by omega)
  refine ⟨I', ?_, h2, h3⟩
  rw [c_130, u_130_0, u_130_1]
  exact h1
/-- rows of numbers that are one in their places say one world -/
theorem isM_same {I I' : IM} {x y : Nat} {w : WD} (hw : okW w) (h : isM I x w) (he : ∀ i : Nat, i < 744 → I' y (i : Int) = I x (i : Int)) : isM I' y w := by
  have he2 : ∀ z : Int, 0 ≤ z → z < 744 → I' y z = I x z := fun z a b => by
    obtain ⟨i, rfl⟩ : ∃ i : Nat, z = (i : Int) := ⟨z.toNat, by omega⟩
    exact he i (by omega)
  refine ⟨fun i hi => ?_, fun j hj => ?_, fun k a b => ?_⟩
  · have hok := hw.1 i hi
    have h6 := hok.2.2.2.2.2.2.2.1
    have h6' := hok.2.2.2.2.2.2.2.2.1
    obtain ⟨b1, b2⟩ := h.1 i hi
    refine ⟨by rw [he2 _ (by omega) (by omega)]; exact b1, fun hk => ?_⟩
    obtain ⟨c1, c2, c3⟩ := b2 hk
    refine ⟨by rw [he2 _ (by omega) (by omega)]; exact c1, ⟨by rw [he2 _ (by omega) (by omega)]; exact c2.1, fun j r hr => ?_⟩, ⟨by rw [he2 _ (by omega) (by omega)]; exact c3.1, fun j p hp => ?_⟩⟩
    · have := lenOf hr
      rw [he2 _ (by omega) (by omega)]; exact c2.2 j r hr
    · have := lenOf hp
      rw [he2 _ (by omega) (by omega), he2 _ (by omega) (by omega)]; exact c3.2 j p hp
  · have h4 := (hw.2.1 j hj).1
    refine ⟨by rw [he2 _ (by omega) (by omega)]; exact (h.2.1 j hj).1, fun i p hp => ?_⟩
    have := lenOf hp
    rw [he2 _ (by omega) (by omega), he2 _ (by omega) (by omega)]; exact (h.2.1 j hj).2 i p hp
  · rw [he2 _ (by omega) (by omega)]; exact h.2.2 k a b
theorem MM_image (hX : MX sh R) (hm : mR I s) (hs : okS s) : ME sh R I (d + 2) 200 [] (b_image s) := by
  obtain ⟨t9, r9, tg_, lg⟩ := hX.1
  obtain ⟨r2, t2, l2⟩ := hX.g 2 395 744 (by decide)
  obtain ⟨I1, g1, g2, g3⟩ := m_lays (I := I) (R := R) (d := d) tg_ lg t2 l2 (by decide)
  obtain ⟨a1, a2, a3, a4, a5, a6⟩ := id hm
  have W1 : isM (up I1 392 3 1) 393 s.1 := isMc.cong a1 (by rw [upf (by decide)]; exact g3 _ (by decide))
  refine ⟨up I1 392 3 1, ?_, ⟨W1, ups, fun _ => ?_, fun q hq => (a4 q hq).cong ?_ ?_, fun q hq => ?_, a6.cong ?_ ?_ ?_⟩, fun k hk => ?_⟩
  · have e : ((manyW s.1 : Nat) : Int) = ((30 - cntK s.1 0 : Nat) : Int) := by rw [manyW_eq]
    unfold b_image
    rw [c_200]
    simp (disch := first | assumption | omega | exact Nat.le_of_ble_eq_true rfl | decide) only [u_200_0, u_200_1, u_200_4, u_200_5, u_200_8, u_200_8kn, u_200_8nk, u_200_8nn, u_200_11, u_200_12, u_200_13, u_200_16, u_200_17, u_200_20, r9, r2, rv_some, g1, bnd_some, psh_none, psh_some, m_many hX.1 W1, e]
  · exact isMc.cong (isM_same hs.1 a1 g2) (upf (by decide))
  · rw [upf (by decide)]; exact g3 _ (by decide)
  · rw [upf (by decide)]; exact g3 _ (by decide)
  · rw [upf (by decide), g3 _ (by decide)]; exact a5 q hq
  · rw [upj (by decide), g3 _ (by decide)]
  · rw [upf (by decide)]; exact g3 _ (by decide)
  · rw [upf (by decide)]; exact g3 _ (by decide)
  · rw [upf (by omega)]; exact g3 _ (by omega)
theorem mback_loop (hX : MX sh R) {w : WD} (f : Nat → Int) : ∀ (k j : Nat) (I : IM), j + k = 8 → isM I 393 w → (∀ q : Nat, q < 8 → I 396 (q : Int) = if q < j then (if liv w (f q) then f q else -1) else f q) → ∃ I', ev S0 (d + 2) 201 23 [.inr (.inl 392), .inl (j : Int)] [] (sh, I, R) = ev S0 (d + 2) 201 64 [.inr (.inl 392), .inl 8] [] (sh, I', R) ∧ (∀ q : Nat, q < 8 → I' 396 (q : Int) = (if liv w (f q) then f q else -1)) ∧ ∀ k, k ≠ 396 → I' k = I k := by
  obtain ⟨t9, r9, tg_, lg⟩ := hX.1
  obtain ⟨r4, t4, l4⟩ := hX.g 4 396 8 (by decide)
  intro k
  induction k with
  | zero =>
    intro j I hj hW h
    obtain rfl : j = 8 := by omega
    have hc : (8 : Int) ≤ ((8 : Nat) : Int) := by decide
    refine ⟨I, ?_, fun q hq => by rw [h q hq, if_pos hq], fun _ _ => rfl⟩
    simp (disch := first | assumption | omega | exact Nat.le_of_ble_eq_true rfl | decide) only [u_201_23, u_201_24, u_201_26, hc, if_true]
    rfl
  | succ k ih =>
    intro j I hj hW h
    have hc : ¬ (8 : Int) ≤ (j : Int) := by omega
    have hv := h j (by omega)
    rw [if_neg (by omega)] at hv
    have step : ∀ v : Int, v = (if liv w (f j) then f j else -1) → ∃ I', ev S0 (d + 2) 201 23 [.inr (.inl 392), .inl ((j + 1 : Nat) : Int)] [] (sh, up I 396 (j : Int) v, R) = ev S0 (d + 2) 201 64 [.inr (.inl 392), .inl 8] [] (sh, I', R) ∧ (∀ q : Nat, q < 8 → I' 396 (q : Int) = (if liv w (f q) then f q else -1)) ∧ ∀ k, k ≠ 396 → I' k = I k := by
      intro v hv'
      obtain ⟨I', e1, e2, e3⟩ := ih (j + 1) (up I 396 (j : Int) v) (by omega) (isMc.cong hW (upf (by decide))) (fun q hq => by
        by_cases hqe : q = j
        · subst hqe
          rw [ups, if_pos (show q < q + 1 by omega), hv']
        · rw [upj (by omega), h q hq]
          by_cases hqj : q < j
          · rw [if_pos hqj, if_pos (show q < j + 1 by omega)]
          · rw [if_neg hqj, if_neg (show ¬ q < j + 1 by omega)])
      exact ⟨I', e1, e2, fun k hk => by rw [e3 k hk, upf hk]⟩
    by_cases hl : liv w (f j)
    · obtain ⟨I', e1, e2, e3⟩ := step (f j) (by rw [if_pos hl])
      refine ⟨I', ?_, e2, e3⟩
      rw [u_201_23]
      simp (disch := first | assumption | omega | exact Nat.le_of_ble_eq_true rfl | decide) only [u_201_24, u_201_26, u_201_29, u_201_30, u_201_33, u_201_34, u_201_35, u_201_36, u_201_39, u_201_40, u_201_41, u_201_44, u_201_47, u_201_48, u_201_51, u_201_52, u_201_53, u_201_56, u_201_57, u_201_58, u_201_61, hc, if_false, r4, rv_some, hv, m_isObject hX.1 hW, if_pos hl, bnd_some, psh_some, Int.reduceEq, wrN, e1]
    · obtain ⟨I', e1, e2, e3⟩ := step (-1) (by rw [if_neg hl])
      refine ⟨I', ?_, e2, e3⟩
      rw [u_201_23]
      simp (disch := first | assumption | omega | exact Nat.le_of_ble_eq_true rfl | decide) only [u_201_24, u_201_26, u_201_29, u_201_30, u_201_33, u_201_34, u_201_35, u_201_36, u_201_39, u_201_40, u_201_41, u_201_44, u_201_47, u_201_48, u_201_51, u_201_52, u_201_53, u_201_56, u_201_57, u_201_58, u_201_61, hc, if_false, if_true, r4, rv_some, hv, m_isObject hX.1 hW, if_neg hl, bnd_some, psh_some, wrN, e1]
theorem MM_back (hX : MX sh R) (hm : mR I s) (hs : okS s) : ME sh R I (d + 3) 201 [] (b_back s) := by
  obtain ⟨t9, r9, tg_, lg⟩ := hX.1
  obtain ⟨r2, t2, l2⟩ := hX.g 2 395 744 (by decide)
  obtain ⟨a1, a2, a3, a4, a5, a6⟩ := id hm
  unfold b_back
  by_cases h0 : s.2.2.1 = 0
  · rw [if_pos h0]
    refine ME.same hm ?_
    rw [h0] at a2
    rw [c_201]
    simp (disch := first | assumption | omega | exact Nat.le_of_ble_eq_true rfl | decide) only [u_201_0, u_201_1, u_201_4, u_201_7, u_201_9, u_201_10, u_201_11, u_201_14, u_201_15, u_201_18, u_201_18kn, u_201_18nk, u_201_18nn, u_201_21, u_201_22, a2, not_true, if_false]
  · rw [if_neg h0]
    have h1 : s.2.2.1 = 1 := hs.2.2.2.2.1.resolve_left h0
    obtain ⟨I1, g1, g2, g3⟩ := m_lays (I := I) (R := R) (d := d + 1) t2 l2 tg_ lg (by decide)
    have W1 : isM I1 393 s.2.1 := isM_same hs.2.2.1 (a3 h1) g2
    obtain ⟨I2, e1, e2, e3⟩ := mback_loop (d := d) hX (w := s.2.1) s.2.2.2.2.1 8 0 I1 (by omega) W1 (fun q hq => by rw [if_neg (show ¬ q < 0 by omega), g3 _ (by decide)]; exact a5 q hq)
    have W2 : isM I2 393 s.2.1 := isMc.cong W1 (e3 _ (by decide))
    refine ⟨I2, ?_, ⟨W2, ?_, fun q => isMc.cong (a3 q) ?_, fun q hq => (a4 q hq).cong ?_ ?_, e2, a6.cong ?_ ?_ ?_⟩, fun k hk => ?_⟩
    · rw [h1] at a2
      have e1 : ev S0 (d + 2) 201 23 [.inr (.inl 392), .inl 0] [] (sh, I1, R) = ev S0 (d + 2) 201 64 [.inr (.inl 392), .inl 8] [] (sh, I2, R) := e1
      have e : ((manyW s.2.1 : Nat) : Int) = ((30 - cntK s.2.1 0 : Nat) : Int) := by rw [manyW_eq]
      rw [c_201]
      simp (disch := first | assumption | omega | exact Nat.le_of_ble_eq_true rfl | decide) only [u_201_0, u_201_1, u_201_4, u_201_7, u_201_9, u_201_10, u_201_11, u_201_14, u_201_15, u_201_18, u_201_18kn, u_201_18nk, u_201_18nn, u_201_21, u_201_22, a2, Int.reduceEq, not_false_eq_true, if_true, r2, r9, rv_some, g1, bnd_some, psh_none]
      rw [e1]
      simp (disch := first | assumption | omega | exact Nat.le_of_ble_eq_true rfl | decide) only [u_201_64, u_201_65, u_201_68, bnd_some, psh_some, m_many hX.1 W2, e]
    · rw [e3 _ (by decide), g3 _ (by decide)]; exact a2
    · rw [e3 _ (by decide), g3 _ (by decide)]
    · rw [e3 _ (by decide), g3 _ (by decide)]
    · rw [e3 _ (by decide), g3 _ (by decide)]
    · rw [e3 _ (by decide), g3 _ (by decide)]
    · rw [e3 _ (by decide), g3 _ (by decide)]
    · rw [e3 _ (by decide), g3 _ (by decide)]
    · rw [e3 _ (by omega), g3 _ (by omega)]
end M4
