/-! THE CLASS: save, judge, stream, cause, image, back, tells, count -/
section C5
variable {sh : Shp} {R : RM} {I : IM} {d a b : Nat} {s : ST} {q n i c h o k : Int} {t u : List Int}
theorem s_takeS (hS : SgS sh R a) (hS' : SgS sh R b) (hd : a + 1 < b ∨ b + 1 < a) (h : isSg I b u) : ∃ I', cl (d + 1) 51 [.inr (.inl a), .inr (.inl b)] (sh, I, R) = some (none, (sh, I', R)) ∧ isSg I' a u ∧ FrS a I I' := by
  obtain ⟨t0, r0, t1, l1⟩ := hS
  obtain ⟨t0', r0', t1', l1'⟩ := hS'
  have hne : b + 1 ≠ a + 1 := by omega
  refine ⟨cp (up I a 1 (u.length : Int)) (b + 1) 0 (a + 1) 0 200, ?_, ⟨?_, fun j x hj hx => ?_⟩, fun k x y => ?_⟩
  · rw [c_51]
    simp (disch := first | assumption | omega | exact Nat.le_of_ble_eq_true rfl | decide) only [u_51_0, u_51_1, u_51_1n, u_51_2, u_51_5, u_51_8, u_51_8n, u_51_9, u_51_12, u_51_13, u_51_14, u_51_17, u_51_18, h.1, r0, r0', rv_some]
    rw [u_51_21 ⟨t1', t1, hne, by decide, by decide, by decide, by rw [l1']; decide, by rw [l1]; decide, by decide⟩, u_51_24]
  · show (if a = a + 1 ∧ _ then _ else up I a 1 (u.length : Int) a 1) = _
    rw [if_neg (by omega), ups]
  · show (if a + 1 = a + 1 ∧ (0 : Int) ≤ (j : Int) ∧ (j : Int) < 0 + 200 then up I a 1 (u.length : Int) (b + 1) (0 + ((j : Int) - 0)) else _) = _
    rw [if_pos (by omega), upk (by omega), show (0 : Int) + ((j : Int) - 0) = (j : Int) by omega]
    exact h.2 j x hj hx
  · funext z
    show (if k = a + 1 ∧ _ then _ else up I a 1 (u.length : Int) k z) = _
    rw [if_neg (by omega), upk x]
theorem CC_save (hC : CS sh R) (hc : cR I s) (hs : okS s) : CE sh R I (d + 42) 103 [.inl q, .inl o] (b_save s q o) := by
  obtain ⟨hH, -, ⟨r2, hK⟩, -, -, ⟨r5, t5, l5, hq5⟩, -⟩ := id hC
  have tc := hH.1
  have hT : 200 ≤ tg sh 381 ∧ tg sh 381 < 210 := by rw [t5]; decide
  have tk := hK.1
  have rk1 := hK.2.2.1
  have hSk := hK.2.2.2.2.2.2.1
  have ts := hSk.1
  unfold b_save
  by_cases hq : isq q
  · rw [if_neg (Classical.not_not.mpr hq)]
    by_cases ho : livN s.1 o
    · rw [if_neg (Classical.not_not.mpr ho)]
      obtain ⟨I1, g1, g2, g3, g4⟩ := s_goThrough (d := d) hK hH.2.2 hs.1 hc.1 ho
      have g30 := g3.1
      by_cases hl : (thr s.1 o).2.length ≤ 200
      · rw [if_neg (Classical.not_not.mpr hl)]
        have hl2 : ((thr s.1 o).2.length : Int) ≤ 200 := by omega
        obtain ⟨q, rfl⟩ : ∃ q' : Nat, q = (q' : Int) := ⟨q.toNat, by have := hq.1; omega⟩
        have hq4 : q < 4 := by have := hq.2; omega
        rw [Int.toNat_natCast]
        obtain ⟨e1, e2⟩ := hq5 q hq4
        have te := e2.1
        obtain ⟨I2, f1, f2, f3⟩ := s_takeS (d := d + 40) (a := 384 + 2 * q) (b := 364) e2 hSk (by omega) g3
        refine ⟨I2, ?_, (hc.frK g4).shelf hq4 f2 f3, fun k hk => by rw [f3 k (by omega) (by omega), g4 k (by omega)]⟩
        have f0 : I2 364 1 = ((thr s.1 o).2.length : Int) := by rw [f3 _ (by omega) (by omega)]; exact g30
        rw [c_103]
        simp (disch := first | assumption | omega | exact Nat.le_of_ble_eq_true rfl | decide) only [u_103_0, u_103_1, u_103_4, u_103_7, u_103_8, u_103_9, u_103_12, u_103_15, u_103_16, u_103_17, u_103_18, u_103_21, u_103_22, u_103_25, u_103_26, u_103_29, u_103_32, u_103_35, u_103_38, u_103_40, u_103_41, u_103_42, u_103_45, u_103_46, u_103_47, u_103_48, u_103_51, u_103_54, u_103_54n, u_103_57, u_103_58, u_103_61, u_103_64, u_103_67, s_isShelf, if_pos hq, bnd_some, psh_some, psh_none, Int.reduceEq, not_false_eq_true, if_false, if_true, s_oon hH hc.1, if_pos ho, r2, r5, rv_some, g1, rk1, s_tooLong ts, g30, if_pos hl2, e1, f1, f0]
      · rw [if_pos hl]
        have hl2 : ¬ ((thr s.1 o).2.length : Int) ≤ 200 := by omega
        refine ⟨I1, ?_, hc.frK g4, fun k hk => g4 k (by omega)⟩
        rw [c_103]
        simp (disch := first | assumption | omega | exact Nat.le_of_ble_eq_true rfl | decide) only [u_103_0, u_103_1, u_103_4, u_103_7, u_103_8, u_103_9, u_103_12, u_103_15, u_103_16, u_103_17, u_103_18, u_103_21, u_103_22, u_103_25, u_103_26, u_103_29, u_103_32, u_103_35, u_103_38, u_103_40, u_103_41, u_103_42, u_103_45, u_103_46, u_103_47, u_103_48, u_103_51, u_103_54, u_103_54n, u_103_57, u_103_58, u_103_61, u_103_64, u_103_67, s_isShelf, if_pos hq, bnd_some, psh_some, psh_none, Int.reduceEq, not_false_eq_true, if_false, if_true, s_oon hH hc.1, if_pos ho, r2, rv_some, g1, rk1, s_tooLong ts, g30, if_neg hl2]
    · rw [if_pos ho]
      refine CE.same hc ?_
      rw [c_103]
      simp (disch := first | assumption | omega | exact Nat.le_of_ble_eq_true rfl | decide) only [u_103_0, u_103_1, u_103_4, u_103_7, u_103_8, u_103_9, u_103_12, u_103_15, u_103_16, u_103_17, u_103_18, u_103_21, u_103_22, u_103_25, u_103_26, u_103_29, u_103_32, u_103_35, u_103_38, u_103_40, u_103_41, u_103_42, u_103_45, u_103_46, u_103_47, u_103_48, u_103_51, u_103_54, u_103_54n, u_103_57, u_103_58, u_103_61, u_103_64, u_103_67, s_isShelf, if_pos hq, bnd_some, psh_some, Int.reduceEq, not_true, if_false, if_true, s_oon hH hc.1, if_neg ho]
  · rw [if_pos hq]
    refine CE.same hc ?_
    rw [c_103]
    simp (disch := first | assumption | omega | exact Nat.le_of_ble_eq_true rfl | decide) only [u_103_0, u_103_1, u_103_4, u_103_7, u_103_8, u_103_9, u_103_12, u_103_15, u_103_16, u_103_17, u_103_18, u_103_21, u_103_22, u_103_25, u_103_26, u_103_29, u_103_32, u_103_35, u_103_38, u_103_40, u_103_41, u_103_42, u_103_45, u_103_46, u_103_47, u_103_48, u_103_51, u_103_54, u_103_54n, u_103_57, u_103_58, u_103_61, u_103_64, u_103_67, s_isShelf, if_neg hq, bnd_some, psh_some, if_true]
theorem s_signAt (hS : SgS sh R a) (h : isSg I a t) (ht : t.length ≤ 200) {j : Nat} : cl (d + 2) 48 [.inr (.inl a), .inl (j : Int)] (sh, I, R) = some (some (.inl (if j < t.length then t.getD j 0 else -1)), (sh, I, R)) := by
  obtain ⟨t0, r0, t1, l1⟩ := hS
  have h0 := h.1
  rw [c_48]
  by_cases hj : j < t.length
  · have hv := sgAt h ht hj
    have hc : 0 ≤ (j : Int) ∧ (j : Int) < (t.length : Int) ∧ (j : Int) < 200 := by omega
    rw [if_pos hj, getD_at hj]
    simp (disch := first | assumption | omega | exact Nat.le_of_ble_eq_true rfl | decide) only [u_48_0, u_48_1, u_48_2, u_48_5, u_48_8, u_48_9, u_48_12, u_48_13, u_48_14, u_48_17, u_48_18, s_hasPlaceS t0, h0, if_pos hc, bnd_some, psh_some, Int.reduceEq, if_false, r0, rv_some, hv]
  · have hc : ¬ (0 ≤ (j : Int) ∧ (j : Int) < (t.length : Int) ∧ (j : Int) < 200) := by omega
    rw [if_neg hj]
    simp (disch := first | assumption | omega | exact Nat.le_of_ble_eq_true rfl | decide) only [u_48_0, u_48_1, u_48_2, u_48_5, u_48_8, u_48_9, u_48_12, u_48_13, u_48_14, u_48_17, u_48_18, s_hasPlaceS t0, h0, if_neg hc, bnd_some, psh_some, if_true]
theorem fot_cons_drop {t u : List Int} {j : Nat} (h1 : j < t.length) (h2 : j < u.length) : fot (t.drop j) (u.drop j) j = if t[j] = u[j] then fot (t.drop (j + 1)) (u.drop (j + 1)) (j + 1) else (j : Int) := by
  rw [List.drop_eq_getElem_cons h1, List.drop_eq_getElem_cons h2]
  rfl
theorem fot_short {t u : List Int} {j : Nat} (h1 : j < t.length) (h2 : u.length ≤ j) : fot (t.drop j) (u.drop j) j = (j : Int) := by
  rw [List.drop_eq_getElem_cons h1, List.drop_eq_nil_of_le h2]
  rfl
theorem fot_end {t u : List Int} {j : Nat} (h1 : t.length = j) (h2 : j < u.length) : fot (t.drop j) (u.drop j) j = (j : Int) := by
  rw [List.drop_eq_nil_of_le (by omega), List.drop_eq_getElem_cons h2]
  rfl
theorem fot_same {t u : List Int} {j : Nat} (h1 : t.length = j) (h2 : u.length ≤ j) : fot (t.drop j) (u.drop j) j = -2 := by
  rw [List.drop_eq_nil_of_le (by omega), List.drop_eq_nil_of_le h2]
  rfl
theorem fot_loop (hS : SgS sh R a) (hS' : SgS sh R b) (h : isSg I a t) (h' : isSg I b u) (ht : okT t) (hu : okT u) : ∀ (k j : Nat), j + k = t.length → j ≤ t.length → ev S0 (d + 2) 52 2 [.inr (.inl a), .inr (.inl b), .inl (j : Int)] [] (sh, I, R) = some (some (.inl (fot (t.drop j) (u.drop j) j)), (sh, I, R)) := by
  have t0 := hS.1
  have t0' := hS'.1
  have h0 := h.1
  have h0' := h'.1
  have ht2 := ht.1
  intro k
  induction k with
  | zero =>
    intro j hj _
    obtain rfl : j = t.length := by omega
    have hc : (t.length : Int) ≤ (t.length : Int) := by omega
    by_cases hu1 : t.length < u.length
    · have hc2 : ¬ (u.length : Int) ≤ (t.length : Int) := by omega
      rw [fot_end rfl hu1]
      simp (disch := first | assumption | omega | exact Nat.le_of_ble_eq_true rfl | decide) only [u_52_2, u_52_3, u_52_4, u_52_7, u_52_31, u_52_32, u_52_35, u_52_35n, u_52_36, u_52_39, u_52_42, u_52_43, u_52_46, u_52_49, u_52_51, h0, h0', if_pos hc, hc2, if_false]
    · have hc2 : (u.length : Int) ≤ (t.length : Int) := by omega
      rw [fot_same rfl (by omega)]
      simp (disch := first | assumption | omega | exact Nat.le_of_ble_eq_true rfl | decide) only [u_52_2, u_52_3, u_52_4, u_52_7, u_52_31, u_52_32, u_52_35, u_52_35n, u_52_36, u_52_39, u_52_42, u_52_43, u_52_46, u_52_49, u_52_51, h0, h0', if_pos hc, if_pos hc2]
  | succ k ih =>
    intro j hj _
    have hc : ¬ (t.length : Int) ≤ (j : Int) := by omega
    have hjt : j < t.length := by omega
    have s1 := s_signAt (d := d) (j := j) hS h ht.1
    have s2 := s_signAt (d := d) (j := j) hS' h' hu.1
    rw [if_pos hjt, getD_at hjt] at s1
    rw [u_52_2]
    by_cases hju : j < u.length
    · rw [if_pos hju, getD_at hju] at s2
      rw [fot_cons_drop hjt hju]
      by_cases he : t[j] = u[j]
      · rw [if_pos he]
        simp (disch := first | assumption | omega | exact Nat.le_of_ble_eq_true rfl | decide) only [u_52_3, u_52_4, u_52_7, u_52_10, u_52_11, u_52_12, u_52_15, u_52_15n, u_52_16, u_52_17, u_52_20, u_52_23, u_52_24, u_52_25, u_52_28, h0, hc, if_false, s1, s2, bnd_some, psh_some, he, if_true, wrN, ih (j + 1) (by omega) (by omega)]
      · rw [if_neg he]
        simp (disch := first | assumption | omega | exact Nat.le_of_ble_eq_true rfl | decide) only [u_52_3, u_52_4, u_52_7, u_52_10, u_52_11, u_52_12, u_52_15, u_52_15n, u_52_16, u_52_17, u_52_20, u_52_23, u_52_24, u_52_25, u_52_28, h0, hc, if_false, s1, s2, bnd_some, psh_some, he]
    · rw [if_neg hju] at s2
      rw [fot_short hjt (by omega)]
      have he : ¬ t[j] = -1 := by have := (ht.2 _ (List.getElem_mem hjt)).1; omega
      simp (disch := first | assumption | omega | exact Nat.le_of_ble_eq_true rfl | decide) only [u_52_3, u_52_4, u_52_7, u_52_10, u_52_11, u_52_12, u_52_15, u_52_15n, u_52_16, u_52_17, u_52_20, u_52_23, u_52_24, u_52_25, u_52_28, h0, hc, if_false, s1, s2, bnd_some, psh_some, he]
theorem thr_ok {w : WD} (hw : okW w) (ho : o = -1 ∨ liv w o) (hl : (thr w o).2.length ≤ 200) : okT (thr w o).2 := by
  refine ⟨hl, fun c hc => ?_⟩
  rcases (thr_grow hw ho).1.2.2.2.2.2.1 c hc with q | q
  · cases q
  · exact q
theorem CC_judge (hC : CS sh R) (hc : cR I s) (hs : okS s) : CE sh R I (d + 42) 106 [.inl q, .inl o] (b_judge s q o, s) := by
  obtain ⟨hH, -, ⟨r2, hK⟩, -, -, ⟨r5, t5, l5, hq5⟩, -⟩ := id hC
  have tc := hH.1
  have hT : 200 ≤ tg sh 381 ∧ tg sh 381 < 210 := by rw [t5]; decide
  have tk := hK.1
  have rk1 := hK.2.2.1
  have hSk := hK.2.2.2.2.2.2.1
  have ts := hSk.1
  unfold b_judge
  by_cases hq : isq q
  · rw [if_neg (Classical.not_not.mpr hq)]
    by_cases ho : livN s.1 o
    · rw [if_neg (Classical.not_not.mpr ho)]
      obtain ⟨q, rfl⟩ : ∃ q' : Nat, q = (q' : Int) := ⟨q.toNat, by have := hq.1; omega⟩
      have hq4 : q < 4 := by have := hq.2; omega
      rw [Int.toNat_natCast]
      obtain ⟨e1, e2⟩ := hq5 q hq4
      obtain ⟨te, re, tr, lr⟩ := id e2
      have hsh := hc.2.2.2.1 q hq4
      have hot := hs.2.2.2.2.2.1 q hq4
      generalize hgv : s.2.2.2.1 q = sv at hsh hot ⊢
      cases sv with
      | none =>
        have hsh : I (384 + 2 * q) 1 = -1 := hsh
        refine CE.same hc ?_
        rw [c_106]
        simp (disch := first | assumption | omega | exact Nat.le_of_ble_eq_true rfl | decide) only [u_106_0, u_106_1, u_106_4, u_106_7, u_106_8, u_106_9, u_106_12, u_106_15, u_106_16, u_106_17, u_106_18, u_106_21, u_106_22, u_106_23, u_106_26, u_106_29, u_106_31, u_106_32, u_106_33, u_106_36, u_106_37, u_106_40, u_106_41, u_106_44, u_106_47, u_106_50, u_106_53, u_106_55, u_106_58, u_106_59, u_106_62, u_106_63, u_106_64, u_106_65, u_106_68, u_106_71, u_106_71n, u_106_74, s_isShelf, if_pos hq, bnd_some, psh_some, Int.reduceEq, not_false_eq_true, if_false, if_true, s_oon hH hc.1, if_pos ho, r5, rv_some, e1, s_isNothing te, hsh]
      | some t =>
        have hsh : isSg I (384 + 2 * q) t := hsh
        have ht := hot t rfl
        have h0 := hsh.1
        have hn1 : ¬ ((t.length : Int) = -1) := by omega
        dsimp only
        obtain ⟨I1, g1, g2, g3, g4⟩ := s_goThrough (d := d) hK hH.2.2 hs.1 hc.1 ho
        have g30 := g3.1
        by_cases hl : (thr s.1 o).2.length ≤ 200
        · rw [if_neg (Classical.not_not.mpr hl)]
          have hl2 : ((thr s.1 o).2.length : Int) ≤ 200 := by omega
          have hsh1 : isSg I1 (384 + 2 * q) t := hsh.cong (g4 _ (by omega)) (g4 _ (by omega))
          have fl := fot_loop (d := d + 38) e2 hSk hsh1 g3 ht (thr_ok hs.1 ho hl) t.length 0 (by omega) (by omega)
          have fl : cl (d + 41) 52 [.inr (.inl (384 + 2 * q)), .inr (.inl 364)] (sh, I1, R) = some (some (.inl (fot t (thr s.1 o).2 0)), (sh, I1, R)) := by
            rw [c_52, u_52_0, u_52_1]; exact fl
          refine ⟨I1, ?_, hc.frK g4, fun k hk => g4 k (by omega)⟩
          rw [c_106]
          simp (disch := first | assumption | omega | exact Nat.le_of_ble_eq_true rfl | decide) only [u_106_0, u_106_1, u_106_4, u_106_7, u_106_8, u_106_9, u_106_12, u_106_15, u_106_16, u_106_17, u_106_18, u_106_21, u_106_22, u_106_23, u_106_26, u_106_29, u_106_31, u_106_32, u_106_33, u_106_36, u_106_37, u_106_40, u_106_41, u_106_44, u_106_47, u_106_50, u_106_53, u_106_55, u_106_58, u_106_59, u_106_62, u_106_63, u_106_64, u_106_65, u_106_68, u_106_71, u_106_71n, u_106_74, s_isShelf, if_pos hq, bnd_some, psh_some, psh_none, Int.reduceEq, not_false_eq_true, if_false, if_true, s_oon hH hc.1, if_pos ho, r2, r5, rv_some, e1, s_isNothing te, h0, hn1, g1, rk1, s_tooLong ts, g30, if_pos hl2, fl]
        · rw [if_pos hl]
          have hl2 : ¬ ((thr s.1 o).2.length : Int) ≤ 200 := by omega
          refine ⟨I1, ?_, hc.frK g4, fun k hk => g4 k (by omega)⟩
          rw [c_106]
          simp (disch := first | assumption | omega | exact Nat.le_of_ble_eq_true rfl | decide) only [u_106_0, u_106_1, u_106_4, u_106_7, u_106_8, u_106_9, u_106_12, u_106_15, u_106_16, u_106_17, u_106_18, u_106_21, u_106_22, u_106_23, u_106_26, u_106_29, u_106_31, u_106_32, u_106_33, u_106_36, u_106_37, u_106_40, u_106_41, u_106_44, u_106_47, u_106_50, u_106_53, u_106_55, u_106_58, u_106_59, u_106_62, u_106_63, u_106_64, u_106_65, u_106_68, u_106_71, u_106_71n, u_106_74, s_isShelf, if_pos hq, bnd_some, psh_some, psh_none, Int.reduceEq, not_false_eq_true, if_false, if_true, s_oon hH hc.1, if_pos ho, r2, r5, rv_some, e1, s_isNothing te, h0, hn1, g1, rk1, s_tooLong ts, g30, if_neg hl2]
    · rw [if_pos ho]
      refine CE.same hc ?_
      rw [c_106]
      simp (disch := first | assumption | omega | exact Nat.le_of_ble_eq_true rfl | decide) only [u_106_0, u_106_1, u_106_4, u_106_7, u_106_8, u_106_9, u_106_12, u_106_15, u_106_16, u_106_17, u_106_18, u_106_21, u_106_22, u_106_23, u_106_26, u_106_29, u_106_31, u_106_32, u_106_33, u_106_36, u_106_37, u_106_40, u_106_41, u_106_44, u_106_47, u_106_50, u_106_53, u_106_55, u_106_58, u_106_59, u_106_62, u_106_63, u_106_64, u_106_65, u_106_68, u_106_71, u_106_71n, u_106_74, s_isShelf, if_pos hq, bnd_some, psh_some, Int.reduceEq, not_true, if_false, if_true, s_oon hH hc.1, if_neg ho]
  · rw [if_pos hq]
    refine CE.same hc ?_
    rw [c_106]
    simp (disch := first | assumption | omega | exact Nat.le_of_ble_eq_true rfl | decide) only [u_106_0, u_106_1, u_106_4, u_106_7, u_106_8, u_106_9, u_106_12, u_106_15, u_106_16, u_106_17, u_106_18, u_106_21, u_106_22, u_106_23, u_106_26, u_106_29, u_106_31, u_106_32, u_106_33, u_106_36, u_106_37, u_106_40, u_106_41, u_106_44, u_106_47, u_106_50, u_106_53, u_106_55, u_106_58, u_106_59, u_106_62, u_106_63, u_106_64, u_106_65, u_106_68, u_106_71, u_106_71n, u_106_74, s_isShelf, if_neg hq, bnd_some, psh_some, if_true]
theorem CC_stream (hC : CS sh R) (hc : cR I s) (hs : okS s) : CE sh R I (d + 42) 110 [.inl o, .inl k] (b_stream s o k, s) := by
  obtain ⟨hH, -, ⟨r2, hK⟩, -⟩ := id hC
  have tc := hH.1
  have rc := hH.2.1
  have tw := hH.2.2.1
  have tk := hK.1
  have rk1 := hK.2.2.1
  have hSk := hK.2.2.2.2.2.2.1
  obtain ⟨ts, rs, tr, lr⟩ := id hSk
  unfold b_stream
  by_cases hl : liv s.1 o
  · rw [if_neg (Classical.not_not.mpr hl)]
    obtain ⟨i, rfl, hi, hk0⟩ := liv_nat hl
    have hat := fun dd => s_atL (d := dd) hH.2.2 hc.1 hi hk0
    by_cases hk : k < 0
    · rw [if_pos hk]
      have hk2 : ¬ 0 ≤ k := by omega
      refine CE.same hc ?_
      rw [c_110]
      simp (disch := first | assumption | omega | exact Nat.le_of_ble_eq_true rfl | decide) only [u_110_0, u_110_1, u_110_4, u_110_5, u_110_8, u_110_8n, u_110_11, u_110_12, u_110_15, u_110_16, u_110_17, u_110_18, u_110_21, u_110_22, u_110_25, u_110_26, u_110_29, u_110_32, u_110_35, u_110_38, u_110_40, u_110_41, u_110_42, u_110_45, u_110_48, u_110_49, u_110_52, u_110_55, u_110_56, u_110_59, u_110_62, u_110_65, u_110_66, u_110_67, u_110_70, u_110_72, rc, rv_some, hat, bnd_some, psh_some, hk2, if_false]
    · rw [if_neg hk]
      have hk2 : 0 ≤ k := by omega
      obtain ⟨I1, g1, g2, g3, g4⟩ := s_goThrough (d := d) hK hH.2.2 hs.1 hc.1 (Or.inr hl)
      have g30 := g3.1
      by_cases hn : (thr s.1 (i : Int)).2.length ≤ 200
      · rw [if_neg (Classical.not_not.mpr hn)]
        have hn2 : ((thr s.1 (i : Int)).2.length : Int) ≤ 200 := by omega
        by_cases hkl : k < ((thr s.1 (i : Int)).2.length : Int)
        · rw [if_pos hkl]
          have hp : 0 ≤ k ∧ k < ((thr s.1 (i : Int)).2.length : Int) ∧ k < 200 := by omega
          obtain ⟨j, rfl⟩ : ∃ j : Nat, k = (j : Int) := ⟨k.toNat, by omega⟩
          have hjl : j < (thr s.1 (i : Int)).2.length := by omega
          rw [Int.toNat_natCast, getD_at hjl]
          have hv := sgAt g3 hn hjl
          have hpl : ∀ dd, cl (dd + 1) 47 [.inr (.inl 364), .inl (j : Int)] (sh, I1, R) = some (some (.inl 1), (sh, I1, R)) := fun dd => by rw [s_hasPlaceS ts, g30, if_pos hp]
          refine ⟨I1, ?_, hc.frK g4, fun k hk => g4 k (by omega)⟩
          have rs : R 364 0 = some 365 := rs
          have tr : tg sh 365 = 100 := tr
          have lr : ln sh 365 = 200 := lr
          have hv : I1 365 (j : Int) = (thr s.1 (i : Int)).2[j] := hv
          rw [c_110]
          simp (disch := first | assumption | omega | exact Nat.le_of_ble_eq_true rfl | decide) only [u_110_0, u_110_1, u_110_4, u_110_5, u_110_8, u_110_8n, u_110_11, u_110_12, u_110_15, u_110_16, u_110_17, u_110_18, u_110_21, u_110_22, u_110_25, u_110_26, u_110_29, u_110_32, u_110_35, u_110_38, u_110_40, u_110_41, u_110_42, u_110_45, u_110_48, u_110_49, u_110_52, u_110_55, u_110_56, u_110_59, u_110_62, u_110_65, u_110_66, u_110_67, u_110_70, u_110_72, rc, rv_some, hat, bnd_some, psh_some, psh_none, hk2, if_true, if_false, r2, g1, rk1, s_tooLong ts, g30, if_pos hn2, Int.reduceEq, hpl, rs, hv]
        · rw [if_neg hkl]
          have hp : ¬ (0 ≤ k ∧ k < ((thr s.1 (i : Int)).2.length : Int) ∧ k < 200) := by omega
          have hpl : ∀ dd, cl (dd + 1) 47 [.inr (.inl 364), .inl k] (sh, I1, R) = some (some (.inl 0), (sh, I1, R)) := fun dd => by rw [s_hasPlaceS ts, g30, if_neg hp]
          refine ⟨I1, ?_, hc.frK g4, fun k hk => g4 k (by omega)⟩
          rw [c_110]
          simp (disch := first | assumption | omega | exact Nat.le_of_ble_eq_true rfl | decide) only [u_110_0, u_110_1, u_110_4, u_110_5, u_110_8, u_110_8n, u_110_11, u_110_12, u_110_15, u_110_16, u_110_17, u_110_18, u_110_21, u_110_22, u_110_25, u_110_26, u_110_29, u_110_32, u_110_35, u_110_38, u_110_40, u_110_41, u_110_42, u_110_45, u_110_48, u_110_49, u_110_52, u_110_55, u_110_56, u_110_59, u_110_62, u_110_65, u_110_66, u_110_67, u_110_70, u_110_72, rc, rv_some, hat, bnd_some, psh_some, psh_none, hk2, if_true, if_false, r2, g1, rk1, s_tooLong ts, g30, if_pos hn2, Int.reduceEq, hpl]
      · rw [if_pos hn]
        have hn2 : ¬ ((thr s.1 (i : Int)).2.length : Int) ≤ 200 := by omega
        refine ⟨I1, ?_, hc.frK g4, fun k hk => g4 k (by omega)⟩
        rw [c_110]
        simp (disch := first | assumption | omega | exact Nat.le_of_ble_eq_true rfl | decide) only [u_110_0, u_110_1, u_110_4, u_110_5, u_110_8, u_110_8n, u_110_11, u_110_12, u_110_15, u_110_16, u_110_17, u_110_18, u_110_21, u_110_22, u_110_25, u_110_26, u_110_29, u_110_32, u_110_35, u_110_38, u_110_40, u_110_41, u_110_42, u_110_45, u_110_48, u_110_49, u_110_52, u_110_55, u_110_56, u_110_59, u_110_62, u_110_65, u_110_66, u_110_67, u_110_70, u_110_72, rc, rv_some, hat, bnd_some, psh_some, psh_none, hk2, if_true, if_false, r2, g1, rk1, s_tooLong ts, g30, if_neg hn2, Int.reduceEq]
  · rw [if_pos hl]
    refine CE.same hc ?_
    rw [c_110]
    simp (disch := first | assumption | omega | exact Nat.le_of_ble_eq_true rfl | decide) only [u_110_0, u_110_1, u_110_4, u_110_5, u_110_8, u_110_8n, u_110_11, u_110_12, u_110_15, u_110_16, u_110_17, u_110_18, u_110_21, u_110_22, u_110_25, u_110_26, u_110_29, u_110_32, u_110_35, u_110_38, u_110_40, u_110_41, u_110_42, u_110_45, u_110_48, u_110_49, u_110_52, u_110_55, u_110_56, u_110_59, u_110_62, u_110_65, u_110_66, u_110_67, u_110_70, u_110_72, rc, rv_some, s_atN hH.2.2 hc.1 (not_live hl), bnd_some, psh_some]
theorem s_tell {fl : FL} (hL : LdS sh R) (hf : cFl I fl) (h13 : fl.length ≤ 13) (hi : 0 ≤ i) {b : Int} (hb : b = 0 ∨ b = 1) : cl (d + 1) 3 [.inr (.inl 374), .inl i, .inl b] (sh, I, R) = some (some (.inl (if (fl.length : Int) ≤ i then -2 else if b = 1 then (fl.getD (fl.length - 1 - i.toNat) (0, 0)).1 else (fl.getD (fl.length - 1 - i.toNat) (0, 0)).2)), (sh, I, R)) := by
  obtain ⟨tl, -, l1, -, -, tf, f0, f1, t5, l5, t6, l6, -⟩ := hL
  have h0 := hf.1
  have hn : ¬ i < 0 := by omega
  rw [c_3]
  by_cases hl : (fl.length : Int) ≤ i
  · have hl2 : ¬ i < (fl.length : Int) := by omega
    rw [if_pos hl]
    simp (disch := first | assumption | omega | exact Nat.le_of_ble_eq_true rfl | decide) only [u_3_0, u_3_1, u_3_4, u_3_5, u_3_6, u_3_9, u_3_12, u_3_14, u_3_15, u_3_16, u_3_19, u_3_20, u_3_23, u_3_24, u_3_27, u_3_28, u_3_29, u_3_30, u_3_31, u_3_32, u_3_35, u_3_36, u_3_39, u_3_40, u_3_43, u_3_44, u_3_45, u_3_46, u_3_47, u_3_48, hn, h0, hl2, if_false]
  · have hl2 : i < (fl.length : Int) := by omega
    obtain ⟨j, rfl⟩ : ∃ j : Nat, i = (j : Int) := ⟨i.toNat, by omega⟩
    have hk : fl.length - 1 - j < fl.length := by omega
    obtain ⟨v1, v2⟩ := hf.2 _ _ (List.getElem?_eq_getElem hk)
    rw [if_neg hl, Int.toNat_natCast, getD_at hk]
    have e : (fl.length : Int) - 1 - (j : Int) = ((fl.length - 1 - j : Nat) : Int) := by omega
    rcases hb with rfl | rfl
    · simp (disch := first | assumption | omega | exact Nat.le_of_ble_eq_true rfl | decide) only [u_3_0, u_3_1, u_3_4, u_3_5, u_3_6, u_3_9, u_3_12, u_3_14, u_3_15, u_3_16, u_3_19, u_3_20, u_3_23, u_3_24, u_3_27, u_3_28, u_3_29, u_3_30, u_3_31, u_3_32, u_3_35, u_3_36, u_3_39, u_3_40, u_3_43, u_3_44, u_3_45, u_3_46, u_3_47, u_3_48, hn, h0, hl2, if_true, if_false, f1, rv_some, wrI, e, v2, Int.reduceEq]
    · simp (disch := first | assumption | omega | exact Nat.le_of_ble_eq_true rfl | decide) only [u_3_0, u_3_1, u_3_4, u_3_5, u_3_6, u_3_9, u_3_12, u_3_14, u_3_15, u_3_16, u_3_19, u_3_20, u_3_23, u_3_24, u_3_27, u_3_28, u_3_29, u_3_30, u_3_31, u_3_32, u_3_35, u_3_36, u_3_39, u_3_40, u_3_43, u_3_44, u_3_45, u_3_46, u_3_47, u_3_48, hn, h0, hl2, if_true, if_false, f0, rv_some, wrI, e, v1, Int.reduceEq]
theorem CC_cause (hC : CS sh R) (hc : cR I s) (hs : okS s) : CE sh R I (d + 2) 105 [.inl i, .inl q] (b_cause s i q, s) := by
  obtain ⟨hH, -, -, -, ⟨r4, hL⟩, -⟩ := id hC
  have tc := hH.1
  have tl := hL.1
  have l1 := hL.2.2.1
  have tf := hL.2.2.2.2.2.1
  have hfl := hc.2.2.2.2.2.1
  have h13 := hs.2.2.2.2.2.2.2
  unfold b_cause
  refine CE.same hc ?_
  rw [c_105]
  by_cases hi : i < 0
  · rw [if_pos hi]
    simp (disch := first | assumption | omega | exact Nat.le_of_ble_eq_true rfl | decide) only [u_105_0, u_105_1, u_105_4, u_105_5, u_105_8, u_105_9, u_105_10, u_105_13, u_105_14, u_105_15, u_105_16, u_105_19, u_105_22, u_105_23, u_105_24, u_105_27, u_105_28, u_105_31, u_105_32, u_105_35, hi, if_true]
  · rw [if_neg hi]
    have hi0 : 0 ≤ i := by omega
    by_cases hq : 0 ≤ q ∧ q ≤ 1
    · rw [if_neg (Classical.not_not.mpr hq)]
      by_cases hq0 : q = 0
      · subst hq0
        have t1 := s_tell (d := d) (b := 1) hL hfl h13 hi0 (Or.inr rfl)
        rw [if_pos (rfl : (1 : Int) = 1)] at t1
        have c0 : ¬ (0 : Int) < 0 := by decide
        have c1 : (0 : Int) ≤ 1 := by decide
        simp (disch := first | assumption | omega | exact Nat.le_of_ble_eq_true rfl | decide) only [u_105_0, u_105_1, u_105_4, u_105_5, u_105_8, u_105_9, u_105_10, u_105_13, u_105_14, u_105_15, u_105_16, u_105_19, u_105_22, u_105_23, u_105_24, u_105_27, u_105_28, u_105_31, u_105_32, u_105_35, hi, if_true, if_false, c0, c1, r4, rv_some, l1, not_true, t1, bnd_some, psh_some]
      · obtain rfl : q = 1 := by omega
        have t1 := s_tell (d := d) (b := 0) hL hfl h13 hi0 (Or.inl rfl)
        rw [if_neg (by decide : ¬ (0 : Int) = 1)] at t1
        have c0 : ¬ (1 : Int) < 0 := by decide
        have c1 : (1 : Int) ≤ 1 := by decide
        simp (disch := first | assumption | omega | exact Nat.le_of_ble_eq_true rfl | decide) only [u_105_0, u_105_1, u_105_4, u_105_5, u_105_8, u_105_9, u_105_10, u_105_13, u_105_14, u_105_15, u_105_16, u_105_19, u_105_22, u_105_23, u_105_24, u_105_27, u_105_28, u_105_31, u_105_32, u_105_35, hi, if_true, if_false, c0, c1, r4, rv_some, l1, Int.reduceEq, not_false_eq_true, t1, bnd_some, psh_some]
    · rw [if_pos hq]
      by_cases c0 : q < 0
      · simp (disch := first | assumption | omega | exact Nat.le_of_ble_eq_true rfl | decide) only [u_105_0, u_105_1, u_105_4, u_105_5, u_105_8, u_105_9, u_105_10, u_105_13, u_105_14, u_105_15, u_105_16, u_105_19, u_105_22, u_105_23, u_105_24, u_105_27, u_105_28, u_105_31, u_105_32, u_105_35, hi, if_true, if_false, c0]
      · have c1 : ¬ q ≤ 1 := by omega
        simp (disch := first | assumption | omega | exact Nat.le_of_ble_eq_true rfl | decide) only [u_105_0, u_105_1, u_105_4, u_105_5, u_105_8, u_105_9, u_105_10, u_105_13, u_105_14, u_105_15, u_105_16, u_105_19, u_105_22, u_105_23, u_105_24, u_105_27, u_105_28, u_105_31, u_105_32, u_105_35, hi, if_true, if_false, c0, c1]
theorem CC_image (hC : CS sh R) (hc : cR I s) (hs : okS s) : CE sh R I (d + 6) 111 [] (b_image s) := by
  obtain ⟨hH, ⟨r1, hS2⟩, -⟩ := id hC
  have tc := hH.1
  have rc := hH.2.1
  have tw := hS2.1
  obtain ⟨a1, a2, a3, a4, a5, a6, a7⟩ := id hc
  obtain ⟨I1, g1, g2, g3⟩ := s_takeW (d := d) hS2 hH.2.2 (by omega) a2 a1 hs.1
  have g2' : isW (up I1 0 8 1) 182 s.1 := g2.cong (fun k a b => upf (by omega))
  refine ⟨up I1 0 8 1, ?_, ⟨?_, g2', ups, fun q hq => (a4 q hq).cong ?_ ?_, fun q hq => ?_, a6.cong ?_ ?_ ?_, ?_⟩, fun k hk => ?_⟩
  · unfold b_image
    rw [c_111]
    simp (disch := first | assumption | omega | exact Nat.le_of_ble_eq_true rfl | decide) only [u_111_0, u_111_1, u_111_4, u_111_5, u_111_8, u_111_8n, u_111_11, u_111_12, u_111_13, u_111_16, u_111_17, u_111_20, u_111_23, r1, rc, rv_some, g1, bnd_some, psh_none, psh_some, s_howMany hS2 g2']
  · exact a1.cong (fun k a b => by rw [upf (by omega), g3 k (by omega)])
  · rw [upf (by omega), g3 _ (by omega)]
  · rw [upf (by omega), g3 _ (by omega)]
  · rw [upf (by omega), g3 _ (by omega)]; exact a5 q hq
  · rw [upf (by omega), g3 _ (by omega)]
  · rw [upf (by omega), g3 _ (by omega)]
  · rw [upf (by omega), g3 _ (by omega)]
  · rw [upf (by omega), g3 _ (by omega)]; exact a7
  · rw [upf (by omega), g3 _ (by omega)]
theorem back_loop (hC : CS sh R) {w : WD} (f : Nat → Int) : ∀ (k j : Nat) (I : IM), j + k = 8 → isW I 1 w → (∀ q : Nat, q < 8 → I 382 (q : Int) = if q < j then (if liv w (f q) then f q else -1) else f q) → ∃ I', ev S0 (d + 1) 112 23 [.inr (.inl 0), .inl (j : Int)] [] (sh, I, R) = ev S0 (d + 1) 112 58 [.inr (.inl 0), .inl 8] [] (sh, I', R) ∧ (∀ q : Nat, q < 8 → I' 382 (q : Int) = (if liv w (f q) then f q else -1)) ∧ ∀ k, k ≠ 382 → I' k = I k := by
  obtain ⟨hH, -, -, -, -, -, ⟨r6, t6, l6⟩, -⟩ := id hC
  have tc := hH.1
  have rc := hH.2.1
  have tw := hH.2.2.1
  intro k
  induction k with
  | zero =>
    intro j I hj hW h
    obtain rfl : j = 8 := by omega
    have hc : (8 : Int) ≤ ((8 : Nat) : Int) := by decide
    refine ⟨I, ?_, fun q hq => by rw [h q hq, if_pos hq], fun _ _ => rfl⟩
    simp (disch := first | assumption | omega | exact Nat.le_of_ble_eq_true rfl | decide) only [u_112_23, u_112_24, u_112_26, hc, if_true]
    rfl
  | succ k ih =>
    intro j I hj hW h
    have hc : ¬ (8 : Int) ≤ (j : Int) := by omega
    have hv := h j (by omega)
    rw [if_neg (by omega)] at hv
    by_cases hl : liv w (f j)
    · obtain ⟨i, hfi, hi, hk0⟩ := liv_nat hl
      rw [hfi] at hv
      have hat := s_atL (d := d) hH.2.2 hW hi hk0
      obtain ⟨I', e1, e2, e3⟩ := ih (j + 1) I (by omega) hW (fun q hq => by
        rw [h q hq]
        by_cases hqj : q < j
        · rw [if_pos hqj, if_pos (show q < j + 1 by omega)]
        · by_cases hqe : q = j
          · subst hqe
            rw [if_neg hqj, if_pos (by omega), if_pos hl]
          · rw [if_neg hqj, if_neg (by omega)])
      refine ⟨I', ?_, e2, e3⟩
      rw [u_112_23]
      simp (disch := first | assumption | omega | exact Nat.le_of_ble_eq_true rfl | decide) only [u_112_24, u_112_26, u_112_29, u_112_30, u_112_33, u_112_34, u_112_37, u_112_38, u_112_39, u_112_42, u_112_42n, u_112_45, u_112_46, u_112_49, u_112_50, u_112_51, u_112_52, u_112_55, hc, if_false, rc, r6, rv_some, hv, hat, bnd_some, psh_some, wrN, e1]
    · have hat := s_atN (d := d) hH.2.2 hW (not_live hl)
      obtain ⟨I', e1, e2, e3⟩ := ih (j + 1) (up I 382 (j : Int) (-1)) (by omega) (hW.cong (fun k a b => upf (by omega))) (fun q hq => by
        by_cases hqe : q = j
        · subst hqe
          rw [ups, if_pos (by omega), if_neg hl]
        · rw [upj (by omega), h q hq]
          by_cases hqj : q < j
          · rw [if_pos hqj, if_pos (show q < j + 1 by omega)]
          · rw [if_neg hqj, if_neg (by omega)])
      refine ⟨I', ?_, e2, fun k hk => by rw [e3 k hk, upf hk]⟩
      rw [u_112_23]
      simp (disch := first | assumption | omega | exact Nat.le_of_ble_eq_true rfl | decide) only [u_112_24, u_112_26, u_112_29, u_112_30, u_112_33, u_112_34, u_112_37, u_112_38, u_112_39, u_112_42, u_112_42n, u_112_45, u_112_46, u_112_49, u_112_50, u_112_51, u_112_52, u_112_55, hc, if_false, rc, r6, rv_some, hv, hat, bnd_some, psh_some, wrN, e1]
theorem CC_back (hC : CS sh R) (hc : cR I s) (hs : okS s) : CE sh R I (d + 6) 112 [] (b_back s) := by
  obtain ⟨hH, ⟨r1, hS2⟩, -⟩ := id hC
  have tc := hH.1
  have rc := hH.2.1
  have tw := hH.2.2.1
  obtain ⟨a1, a2, a3, a4, a5, a6, a7⟩ := id hc
  unfold b_back
  by_cases h0 : s.2.2.1 = 0
  · rw [if_pos h0]
    refine CE.same hc ?_
    rw [h0] at a3
    rw [c_112]
    simp (disch := first | assumption | omega | exact Nat.le_of_ble_eq_true rfl | decide) only [u_112_0, u_112_1, u_112_4, u_112_7, u_112_9, u_112_10, u_112_11, u_112_14, u_112_15, u_112_18, u_112_18n, u_112_21, u_112_22, a3, not_true, if_false]
  · rw [if_neg h0]
    have h1 : s.2.2.1 = 1 := hs.2.2.2.2.1.resolve_left h0
    obtain ⟨I1, g1, g2, g3⟩ := s_takeW (d := d) hH.2.2 hS2 (by omega) a1 a2 hs.2.2.1
    obtain ⟨I2, e1, e2, e3⟩ := back_loop (d := d + 4) hC (w := s.2.1) s.2.2.2.2.1 8 0 I1 (by omega) g2 (fun q hq => by rw [if_neg (by omega), g3 _ (by omega)]; exact a5 q hq)
    have W2 : isW I2 1 s.2.1 := g2.cong (fun k a b => e3 k (by omega))
    refine ⟨I2, ?_, ⟨W2, ?_, ?_, fun q hq => (a4 q hq).cong ?_ ?_, e2, a6.cong ?_ ?_ ?_, ?_⟩, fun k hk => ?_⟩
    · rw [h1] at a3
      have e1 : ev S0 (d + 5) 112 23 [.inr (.inl 0), .inl 0] [] (sh, I1, R) = ev S0 (d + 5) 112 58 [.inr (.inl 0), .inl 8] [] (sh, I2, R) := e1
      rw [c_112]
      simp (disch := first | assumption | omega | exact Nat.le_of_ble_eq_true rfl | decide) only [u_112_0, u_112_1, u_112_4, u_112_7, u_112_9, u_112_10, u_112_11, u_112_14, u_112_15, u_112_18, u_112_18n, u_112_21, u_112_22, a3, Int.reduceEq, not_false_eq_true, if_true, r1, rc, rv_some, g1, bnd_some, psh_none]
      rw [e1]
      simp (disch := first | assumption | omega | exact Nat.le_of_ble_eq_true rfl | decide) only [u_112_58, u_112_59, u_112_62, u_112_65, rc, rv_some, bnd_some, psh_some, s_howMany hH.2.2 W2]
    · exact a2.cong (fun k a b => by rw [e3 k (by omega), g3 k (by omega)])
    · rw [e3 _ (by omega), g3 _ (by omega)]; exact a3
    · rw [e3 _ (by omega), g3 _ (by omega)]
    · rw [e3 _ (by omega), g3 _ (by omega)]
    · rw [e3 _ (by omega), g3 _ (by omega)]
    · rw [e3 _ (by omega), g3 _ (by omega)]
    · rw [e3 _ (by omega), g3 _ (by omega)]
    · rw [e3 _ (by omega), g3 _ (by omega)]; exact a7
    · rw [e3 _ (by omega), g3 _ (by omega)]
end C5
