/-! THE CLASS: meeting all in a reach -/
theorem isW.cong {I I' : IM} {B : Nat} {w : WD} (h : isW I B w) (hf : ∀ k, B ≤ k → k ≤ B + 180 → I' k = I k) : isW I' B w := ⟨fun q hq => (h.1 q hq).cong (fun k a b => hf k (by omega) (by omega)), fun q hq => ⟨(h.2.1 q hq).1.cong (hf _ (by omega) (by omega)) (hf _ (by omega) (by omega)) (hf _ (by omega) (by omega)), by rw [hf _ (by omega) (by omega)]; exact (h.2.1 q hq).2⟩, fun q a b => by rw [hf _ (by omega) (by omega)]; exact h.2.2 q a b⟩
theorem isW.frS {I I' : IM} {a : Nat} {w : WD} (h : isW I 1 w) (hf : FrS a I I') (ha : 182 ≤ a) : isW I' 1 w := h.cong (fun k _ b => hf k (by omega) (by omega))
theorem isW.frK {I I' : IM} {w : WD} (h : isW I 1 w) (hf : FrK I I') : isW I' 1 w := h.cong (fun k _ b => hf k (by omega))
theorem FrK.tr {I I1 I2 : IM} (h1 : FrK I I1) (h2 : FrK I1 I2) : FrK I I2 := fun k h => (h2 k h).trans (h1 k h)
theorem FrS.K {I I' : IM} (h : FrS 364 I I') : FrK I I' := fun k hk => h k (by omega) (by omega)
theorem app3 {α : Type} (t a b : List α) : t ++ a ++ b = t ++ (a ++ b) := List.append_assoc _ _ _
section WALK
variable {sh : Shp} {R : RM} {I : IM} {d a : Nat} {w : WD} {t m : List Int} {c v : Int}
theorem s_tellHead (hK : KS sh R) (hS1 : WS sh R 1) (hw : okW w) (hW : isW I 1 w) {i : Nat} (hi : i < 30) (hk : (w.1 i).1 ≠ 0) (h : isSg I 364 t) (ht : t.length < 700000) : ∃ I', cl (d + 3) 59 [.inr (.inl 363), .inr (.inl (1 + 4 + 5 * i))] (sh, I, R) = some (none, (sh, I', R)) ∧ isSg I' 364 (t ++ hdN w (w.1 i)) ∧ FrS 364 I I' := by
  obtain ⟨t0, r0, r1, r2, r3, r4, hS, -⟩ := id hK
  obtain ⟨n1_, n2⟩ := hS1.2.2.2.2.2.2.2.2.2.2.1 i hi
  obtain ⟨nt, nr0, nr1, nF, nt4, nl4⟩ := n2
  have ts := hS.1
  have tw := hS1.1
  have rw2 : R 1 2 = some 4 := hS1.2.2.2.1
  have t4 : tg sh 4 = 100 := hS1.2.2.2.2.2.2.2.2.1
  have l4 : ln sh 4 = 4 := hS1.2.2.2.2.2.2.2.2.2.1
  have hok := hw.1 i hi
  obtain ⟨x1, x2, x3, x4, x5, x6⟩ := hW.1 i hi
  have o1 := hok.1
  have o2 := hok.2.1
  have o3 := hok.2.2.2.2.2.2.2.1
  have o4 := hok.2.2.2.2.2.2.2.2.2.1
  have o5 := hok.2.2.2.2.2.2.2.2.2.2.1
  rw [c_59]
  unfold hdN
  by_cases h4 : (w.1 i).1 = 4
  · rw [if_pos h4]
    obtain ⟨I2, g1, g2, g3⟩ := s_add (d := d + 1) (c := 82) hS h (by omega)
    obtain ⟨I3, f1, f2, f3⟩ := s_add (d := d + 1) (c := 48 + (w.1 i).2.1) hS g2 (by rw [List.length_append]; simp only [List.length_cons, List.length_nil]; omega)
    obtain ⟨I4, e1, e2, e3⟩ := s_add (d := d + 1) (c := 48 + ((w.1 i).2.2.1.length : Int)) hS f2 (by rw [List.length_append, List.length_append]; simp only [List.length_cons, List.length_nil]; omega)
    refine ⟨I4, ?_, ?_, (g3.tr f3).tr e3⟩
    · have y2 : I2 (1 + 4 + 5 * i) 3 = (w.1 i).2.1 := by rw [g3 _ (by omega) (by omega)]; exact x2
      have y3 : I3 (1 + 4 + 5 * i) 4 = ((w.1 i).2.2.1.length : Int) := by rw [f3 _ (by omega) (by omega), g3 _ (by omega) (by omega)]; exact x3
      simp (disch := first | assumption | omega | exact Nat.le_of_ble_eq_true rfl | decide) only [u_59_0, u_59_0n, u_59_1, u_59_4, u_59_5, u_59_8, u_59_9, u_59_12, u_59_14, u_59_17, u_59_18, u_59_21, u_59_23, u_59_23n, u_59_24, u_59_27, u_59_28, u_59_31, u_59_32, u_59_35, u_59_37, u_59_37n, u_59_38, u_59_41, u_59_42, u_59_45, x1, h4, not_true, if_false, r1, rv_some, g1, bnd_some, psh_none, y2, y3, wrI, f1, e1]
    · rw [app3, app3] at e2; exact e2
  · rw [if_neg h4]
    have hk1 : 1 ≤ (w.1 i).1 ∧ (w.1 i).1 ≤ 3 := by omega
    obtain ⟨k, hkn⟩ : ∃ k : Nat, (w.1 i).1 = (k : Int) := ⟨(w.1 i).1.toNat, by omega⟩
    have hcv := hw.2.2 k (by omega) (by omega)
    rw [hkn, Int.toNat_natCast]
    rw [hkn] at x1 h4 hk1
    obtain ⟨I2, g1, g2, g3⟩ := s_add (d := d + 1) (c := ltr (k : Int)) hS h (by omega)
    obtain ⟨I3, f1, f2, f3⟩ := s_add (d := d + 1) (c := 48 + w.2.2 k) hS g2 (by rw [List.length_append]; simp only [List.length_cons, List.length_nil]; omega)
    have hW3 := (hW.frS g3 (by omega)).frS f3 (by omega)
    obtain ⟨I4, e1, e2, e3⟩ := head_loop (d := d) hK hS1 hw hi (t ++ [ltr (k : Int)] ++ [48 + w.2.2 k]) (by rw [List.length_append, List.length_append]; simp only [List.length_cons, List.length_nil]; omega) (w.1 i).2.2.2.length 0 I3 (by omega) hW3 (by rw [List.take_zero]; show isSg I3 364 (t ++ [ltr (k : Int)] ++ [48 + w.2.2 k] ++ []); rw [List.append_nil]; exact f2)
    have e1 : ev S0 (d + 2) 59 119 [.inr (.inl 363), .inr (.inl (1 + 4 + 5 * i)), .inl 0] [] (sh, I3, R) = some (none, (sh, I4, R)) := e1
    refine ⟨I4, ?_, ?_, (g3.tr f3).tr e3⟩
    · have y1 : I2 (1 + 4 + 5 * i) 2 = (k : Int) := by rw [g3 _ (by omega) (by omega)]; exact x1
      have y2 : I2 4 (k : Int) = w.2.2 k := by rw [g3 _ (by omega) (by omega)]; exact hW.2.2 k (by omega) (by omega)
      unfold ltr at g1
      by_cases k1 : (k : Int) = 1
      · rw [if_pos k1] at g1
        simp (disch := first | assumption | omega | exact Nat.le_of_ble_eq_true rfl | decide) only [u_59_0, u_59_0n, u_59_1, u_59_4, u_59_5, u_59_8, u_59_9, u_59_12, u_59_14, u_59_17, u_59_18, u_59_21, u_59_23, u_59_23n, u_59_24, u_59_27, u_59_28, u_59_31, u_59_32, u_59_35, u_59_37, u_59_37n, u_59_38, u_59_41, u_59_42, u_59_45, u_59_46, u_59_47, u_59_50, u_59_50n, u_59_51, u_59_54, u_59_55, u_59_58, u_59_60, u_59_63, u_59_63n, u_59_64, u_59_67, u_59_68, u_59_71, u_59_73, u_59_76, u_59_78, u_59_81, u_59_82, u_59_85, u_59_87, u_59_87n, u_59_88, u_59_91, u_59_94, u_59_97, u_59_98, u_59_101, u_59_104, u_59_104n, u_59_105, u_59_108, u_59_109, u_59_112, u_59_113, u_59_114, u_59_117, u_59_118, x1, h4, not_true, not_false_eq_true, if_false, if_true, k1, r0, r1, rv_some, g1, bnd_some, psh_none, psh_some, y1, s_hasSch, if_pos hk1, Int.reduceEq, rw2, y2, wrI, f1, e1]
        rw [k1] at y1 y2 hk1
        simp (disch := first | assumption | omega | exact Nat.le_of_ble_eq_true rfl | decide) only [u_59_0, u_59_0n, u_59_1, u_59_4, u_59_5, u_59_8, u_59_9, u_59_12, u_59_14, u_59_17, u_59_18, u_59_21, u_59_23, u_59_23n, u_59_24, u_59_27, u_59_28, u_59_31, u_59_32, u_59_35, u_59_37, u_59_37n, u_59_38, u_59_41, u_59_42, u_59_45, u_59_46, u_59_47, u_59_50, u_59_50n, u_59_51, u_59_54, u_59_55, u_59_58, u_59_60, u_59_63, u_59_63n, u_59_64, u_59_67, u_59_68, u_59_71, u_59_73, u_59_76, u_59_78, u_59_81, u_59_82, u_59_85, u_59_87, u_59_87n, u_59_88, u_59_91, u_59_94, u_59_97, u_59_98, u_59_101, u_59_104, u_59_104n, u_59_105, u_59_108, u_59_109, u_59_112, u_59_113, u_59_114, u_59_117, u_59_118, x1, h4, not_true, not_false_eq_true, if_false, if_true, k1, r0, r1, rv_some, g1, bnd_some, psh_none, psh_some, y1, s_hasSch, if_pos hk1, Int.reduceEq, rw2, y2, wrI, f1, e1]
      · by_cases k2 : (k : Int) = 2
        · rw [if_neg k1, if_pos k2] at g1
          simp (disch := first | assumption | omega | exact Nat.le_of_ble_eq_true rfl | decide) only [u_59_0, u_59_0n, u_59_1, u_59_4, u_59_5, u_59_8, u_59_9, u_59_12, u_59_14, u_59_17, u_59_18, u_59_21, u_59_23, u_59_23n, u_59_24, u_59_27, u_59_28, u_59_31, u_59_32, u_59_35, u_59_37, u_59_37n, u_59_38, u_59_41, u_59_42, u_59_45, u_59_46, u_59_47, u_59_50, u_59_50n, u_59_51, u_59_54, u_59_55, u_59_58, u_59_60, u_59_63, u_59_63n, u_59_64, u_59_67, u_59_68, u_59_71, u_59_73, u_59_76, u_59_78, u_59_81, u_59_82, u_59_85, u_59_87, u_59_87n, u_59_88, u_59_91, u_59_94, u_59_97, u_59_98, u_59_101, u_59_104, u_59_104n, u_59_105, u_59_108, u_59_109, u_59_112, u_59_113, u_59_114, u_59_117, u_59_118, x1, h4, not_true, not_false_eq_true, if_false, if_true, k1, k2, r0, r1, rv_some, g1, bnd_some, psh_none, psh_some, y1, s_hasSch, if_pos hk1, Int.reduceEq, rw2, y2, wrI, f1, e1]
          rw [k2] at y1 y2 hk1
          simp (disch := first | assumption | omega | exact Nat.le_of_ble_eq_true rfl | decide) only [u_59_0, u_59_0n, u_59_1, u_59_4, u_59_5, u_59_8, u_59_9, u_59_12, u_59_14, u_59_17, u_59_18, u_59_21, u_59_23, u_59_23n, u_59_24, u_59_27, u_59_28, u_59_31, u_59_32, u_59_35, u_59_37, u_59_37n, u_59_38, u_59_41, u_59_42, u_59_45, u_59_46, u_59_47, u_59_50, u_59_50n, u_59_51, u_59_54, u_59_55, u_59_58, u_59_60, u_59_63, u_59_63n, u_59_64, u_59_67, u_59_68, u_59_71, u_59_73, u_59_76, u_59_78, u_59_81, u_59_82, u_59_85, u_59_87, u_59_87n, u_59_88, u_59_91, u_59_94, u_59_97, u_59_98, u_59_101, u_59_104, u_59_104n, u_59_105, u_59_108, u_59_109, u_59_112, u_59_113, u_59_114, u_59_117, u_59_118, x1, h4, not_true, not_false_eq_true, if_false, if_true, k1, k2, r0, r1, rv_some, g1, bnd_some, psh_none, psh_some, y1, s_hasSch, if_pos hk1, Int.reduceEq, rw2, y2, wrI, f1, e1]
        · rw [if_neg k1, if_neg k2] at g1
          simp (disch := first | assumption | omega | exact Nat.le_of_ble_eq_true rfl | decide) only [u_59_0, u_59_0n, u_59_1, u_59_4, u_59_5, u_59_8, u_59_9, u_59_12, u_59_14, u_59_17, u_59_18, u_59_21, u_59_23, u_59_23n, u_59_24, u_59_27, u_59_28, u_59_31, u_59_32, u_59_35, u_59_37, u_59_37n, u_59_38, u_59_41, u_59_42, u_59_45, u_59_46, u_59_47, u_59_50, u_59_50n, u_59_51, u_59_54, u_59_55, u_59_58, u_59_60, u_59_63, u_59_63n, u_59_64, u_59_67, u_59_68, u_59_71, u_59_73, u_59_76, u_59_78, u_59_81, u_59_82, u_59_85, u_59_87, u_59_87n, u_59_88, u_59_91, u_59_94, u_59_97, u_59_98, u_59_101, u_59_104, u_59_104n, u_59_105, u_59_108, u_59_109, u_59_112, u_59_113, u_59_114, u_59_117, u_59_118, x1, h4, not_true, not_false_eq_true, if_false, if_true, k1, k2, r0, r1, rv_some, g1, bnd_some, psh_none, psh_some, y1, s_hasSch, if_pos hk1, Int.reduceEq, rw2, y2, wrI, f1, e1]
    · rw [app3, app3, app3] at e2
      rw [app3]
      exact e2
theorem s_hasMet (hK : KS sh R) (h : isMt I m) {z : Int} : cl (d + 1) 57 [.inr (.inl 363), .inl z] (sh, I, R) = some (some (.inl (if 0 ≤ z ∧ z < 30 ∧ ¬ idm m z = -1 then 1 else 0)), (sh, I, R)) := by
  obtain ⟨t0, r0, r1, r2, r3, r4, hS, t6, l6, -⟩ := hK
  rw [c_57]
  by_cases h0 : z < 0
  · rw [if_neg (fun q => by omega)]
    simp (disch := first | assumption | omega | exact Nat.le_of_ble_eq_true rfl | decide) only [u_57_0, u_57_1, u_57_4, u_57_5, u_57_7, u_57_10, u_57_11, u_57_14, u_57_15, u_57_16, u_57_17, u_57_20, u_57_21, u_57_24, u_57_25, h0, if_true]
  · by_cases h1 : 30 ≤ z
    · rw [if_neg (fun q => by omega)]
      simp (disch := first | assumption | omega | exact Nat.le_of_ble_eq_true rfl | decide) only [u_57_0, u_57_1, u_57_4, u_57_5, u_57_7, u_57_10, u_57_11, u_57_14, u_57_15, u_57_16, u_57_17, u_57_20, u_57_21, u_57_24, u_57_25, h0, h1, if_true, if_false]
    · obtain ⟨i, rfl⟩ : ∃ i : Nat, z = (i : Int) := ⟨z.toNat, by omega⟩
      have hv := h.2.1 i (by omega)
      by_cases h2 : idm m (i : Int) = -1
      · rw [if_neg (fun q => q.2.2 h2)]
        simp (disch := first | assumption | omega | exact Nat.le_of_ble_eq_true rfl | decide) only [u_57_0, u_57_1, u_57_4, u_57_5, u_57_7, u_57_10, u_57_11, u_57_14, u_57_15, u_57_16, u_57_17, u_57_20, u_57_21, u_57_24, u_57_25, h0, h1, if_true, if_false, r2, rv_some, hv, h2]
      · rw [if_pos ⟨by omega, by omega, h2⟩]
        simp (disch := first | assumption | omega | exact Nat.le_of_ble_eq_true rfl | decide) only [u_57_0, u_57_1, u_57_4, u_57_5, u_57_7, u_57_10, u_57_11, u_57_14, u_57_15, u_57_16, u_57_17, u_57_20, u_57_21, u_57_24, u_57_25, h0, h1, if_true, if_false, r2, rv_some, hv, h2]
theorem isMt_new (h : isMt I m) {i : Nat} (hi : i < 30) (hn : (i : Int) ∉ m) (hl : m.length < 30) : isMt (up (up (up I 366 (i : Int) (m.length : Int)) 367 (m.length : Int) (i : Int)) 363 5 ((m.length + 1 : Nat) : Int)) (m ++ [(i : Int)]) := by
  refine ⟨?_, fun j hj => ?_, fun j x hx => ?_⟩
  · rw [ups, List.length_append]; rfl
  · rw [upk (by omega), upk (by omega), idm_app]
    by_cases hji : j = i
    · subst hji
      rw [ups, if_neg hn, if_pos rfl]
    · rw [upj (by omega), h.2.1 j hj]
      by_cases hm : (j : Int) ∈ m
      · rw [if_pos hm]
      · rw [if_neg hm, if_neg (by omega), idm_not.mpr hm]
  · rw [upk (by omega)]
    have := lenOf hx
    rw [List.length_append] at this
    simp only [List.length_cons, List.length_nil] at this
    by_cases hjl : j < m.length
    · rw [List.getElem?_append_left hjl] at hx
      rw [upj (by omega), upk (by omega)]
      exact h.2.2 j x hx
    · obtain rfl : j = m.length := by omega
      rw [List.getElem?_append_right (Nat.le_refl _), Nat.sub_self] at hx
      cases hx
      exact ups
/-- meeting one, given how those behind it are met -/
theorem meet_loop (hK : KS sh R) (hS1 : WS sh R 1) (hw : okW w) {F : List Int × List Int → Int → List Int × List Int} {n i dep : Nat} (hi : i < 30) (hk : (w.1 i).1 ≠ 0) (hdep : dep < 30)
    (hF : ∀ s r, okm w s.1 → n < s.1.length → (r = -1 ∨ liv w r) → grow w 1 (fun x => r ≠ -1 ∧ Rch w r x) s (F s r) ∧ (r = -1 ∨ r ∈ (F s r).1))
    (hM : ∀ (I : IM) (s : List Int × List Int) (r : Int), isW I 1 w → isMt I s.1 → isSg I 364 s.2 → okm w s.1 → n < s.1.length → s.2.length < 500000 + 40 * s.1.length → (r = -1 ∨ liv w r) → ∃ I', cl d 58 [.inr (.inl 363), .inl r, .inl ((dep + 1 : Nat) : Int)] (sh, I, R) = some (none, (sh, I', R)) ∧ isMt I' (F s r).1 ∧ isSg I' 364 (F s r).2 ∧ FrK I I')
    {s0 : List Int × List Int} (hs0 : s0.2.length + 12 < 500000 + 40 * s0.1.length) (hm0 : okm w s0.1) (hn0 : n < s0.1.length) :
    ∀ (k j : Nat) (I : IM), j + k = (w.1 i).2.2.1.length → isW I 1 w → isMt I (((w.1 i).2.2.1.take j).foldl F s0).1 → isSg I 364 (((w.1 i).2.2.1.take j).foldl F s0).2 → ∃ I', ev S0 d 58 111 [.inr (.inl 363), .inl (i : Int), .inl (dep : Int), .inr (.inl (1 + 4 + 5 * i)), .inl (j : Int)] [] (sh, I, R) = some (none, (sh, I', R)) ∧ isMt I' ((w.1 i).2.2.1.foldl F s0).1 ∧ isSg I' 364 ((w.1 i).2.2.1.foldl F s0).2 ∧ FrK I I' := by
  obtain ⟨t0, r0, r1, r2, r3, r4, hS, -⟩ := id hK
  obtain ⟨n1_, n2⟩ := hS1.2.2.2.2.2.2.2.2.2.2.1 i hi
  obtain ⟨nt, nr0, nr1, nF, nt4, nl4⟩ := n2
  have hok := hw.1 i hi
  have h6 := hok.2.2.2.2.2.2.2.1
  have hrs : ∀ r ∈ (w.1 i).2.2.1, r = -1 ∨ liv w r := fun r hr => by
    rcases hok.2.2.2.2.2.2.2.2.2.2.2.1 r hr with q | ⟨b, rfl, hb, hbk⟩
    · exact Or.inl q
    · exact Or.inr (liv_of hb hbk)
  intro k
  induction k with
  | zero =>
    intro j I hj hW h1 h2
    obtain ⟨x1, x2, x3, x4, x5, x6⟩ := hW.1 i hi
    have hc : ((w.1 i).2.2.1.length : Int) ≤ (j : Int) := by omega
    rw [List.take_of_length_le (by omega)] at h1 h2
    refine ⟨I, ?_, h1, h2, fun _ _ => rfl⟩
    simp (disch := first | assumption | omega | exact Nat.le_of_ble_eq_true rfl | decide) only [u_58_111, u_58_113, u_58_113n, u_58_114, u_58_117, u_58_140, x3, hc, if_true]
  | succ k ih =>
    intro j I hj hW h1 h2
    obtain ⟨x1, x2, x3, x4, x5, x6⟩ := hW.1 i hi
    have hjl : j < (w.1 i).2.2.1.length := by omega
    have hc : ¬ ((w.1 i).2.2.1.length : Int) ≤ (j : Int) := by omega
    obtain ⟨g, -⟩ := foldl_grow hF ((w.1 i).2.2.1.take j) s0 (fun r hr => hrs r (List.mem_of_mem_take hr)) hm0 hn0
    have hgl := g.2.1.length_le
    have hg3 := g.2.2.1
    rw [List.length_take] at hg3
    obtain ⟨I2, e1, e2, e3, e4⟩ := hM I _ ((w.1 i).2.2.1[j]) hW h1 h2 g.1 (by omega) (by omega) (hrs _ (List.getElem_mem hjl))
    have hst : ∀ s, ((w.1 i).2.2.1.take (j + 1)).foldl F s = F (((w.1 i).2.2.1.take j).foldl F s) ((w.1 i).2.2.1[j]) := fun s => by
      rw [List.take_succ_eq_append_getElem hjl, List.foldl_append]; rfl
    obtain ⟨I3, f1, f2, f3, f4⟩ := ih (j + 1) I2 (by omega) (hW.frK e4) (by rw [hst]; exact e2) (by rw [hst]; exact e3)
    refine ⟨I3, ?_, f2, f3, e4.tr f4⟩
    have hv := x4.at hjl
    have hd1 : wr ((dep : Int) + 1) = ((dep + 1 : Nat) : Int) := wrN (by omega)
    rw [u_58_111]
    simp (disch := first | assumption | omega | exact Nat.le_of_ble_eq_true rfl | decide) only [u_58_113, u_58_113n, u_58_114, u_58_117, u_58_120, u_58_121, u_58_121n, u_58_122, u_58_125, u_58_127, u_58_128, u_58_129, u_58_130, u_58_131, u_58_134, u_58_137, x3, hc, if_false, nr1, rv_some, hv, hd1, e1, bnd_some, psh_none, wrN, f1]
theorem s_meet (hK : KS sh R) (hS1 : WS sh R 1) (hw : okW w) : ∀ (f dep : Nat) (I : IM) (s : List Int × List Int) (o : Int), isW I 1 w → isMt I s.1 → isSg I 364 s.2 → okm w s.1 → 30 < s.1.length + f → dep ≤ s.1.length → s.2.length < 500000 + 40 * s.1.length → (o = -1 ∨ liv w o) → ∃ I', cl (d + f + 4) 58 [.inr (.inl 363), .inl o, .inl (dep : Int)] (sh, I, R) = some (none, (sh, I', R)) ∧ isMt I' (walk w f o s).1 ∧ isSg I' 364 (walk w f o s).2 ∧ FrK I I' := by
  obtain ⟨t0, r0, r1, r2, r3, r4, hS, t6, l6, t7, l7, -⟩ := id hK
  have ts := hS.1
  have tw := hS1.1
  intro f
  induction f with
  | zero => intro dep I s o _ _ _ h hn; have := okm_len h; omega
  | succ f ih =>
    intro dep I s o hW h1 h2 h hn hdep hl ho
    have h30 := okm_len h
    rw [show d + (f + 1) + 4 = d + f + 4 + 1 by omega, c_58]
    unfold walk
    by_cases hm1 : o = -1
    · rw [if_pos hm1]
      have hnl : ¬ live w o := fun q => by have := q.1; omega
      obtain ⟨I2, g1, g2, g3⟩ := s_add (d := d + f + 3) (c := 45) hS h2 (by omega)
      refine ⟨I2, ?_, h1.cong (g3 _ (by omega) (by omega)) (g3 _ (by omega) (by omega)) (g3 _ (by omega) (by omega)), g2, g3.K⟩
      simp (disch := first | assumption | omega | exact Nat.le_of_ble_eq_true rfl | decide) only [u_58_0, u_58_1, u_58_4, u_58_5, u_58_8, u_58_8n, u_58_9, u_58_9n, u_58_10, u_58_10n, u_58_13, u_58_14, u_58_17, u_58_19, u_58_22, r0, r1, rv_some, s_atN hS1 hW hnl, bnd_some, psh_some, psh_none, g1]
    · rw [if_neg hm1]
      have ho := ho.resolve_left hm1
      obtain ⟨i, rfl, hi, hk⟩ := liv_nat ho
      rw [Int.toNat_natCast]
      obtain ⟨n1_, n2⟩ := hS1.2.2.2.2.2.2.2.2.2.2.1 i hi
      have nt := n2.1
      rcases idm_spec s.1 (i : Int) with ⟨q1, q2⟩ | ⟨j, q1, q2, q3, q4⟩
      · rw [if_neg (fun q => q q1)]
        have hnew := okm_new h ho q2
        have hhm : ¬ (0 ≤ (i : Int) ∧ (i : Int) < 30 ∧ ¬ idm s.1 (i : Int) = -1) := fun q => q.2.2 q1
        have hd30 : ¬ (30 : Int) ≤ (dep : Int) := by omega
        have hm30 : (s.1.length : Int) < 30 := by omega
        have h10 := h1.1
        have m1 := isMt_new h1 hi q2 hnew
        have g1' : isSg (up (up (up I 366 (i : Int) (s.1.length : Int)) 367 (s.1.length : Int) (i : Int)) 363 5 ((s.1.length + 1 : Nat) : Int)) 364 s.2 := h2.cong (by rw [upf (by decide), upf (by decide), upf (by decide)]) (by rw [upf (by decide), upf (by decide), upf (by decide)])
        have w1 : isW (up (up (up I 366 (i : Int) (s.1.length : Int)) 367 (s.1.length : Int) (i : Int)) 363 5 ((s.1.length + 1 : Nat) : Int)) 1 w := hW.cong (fun k _ b => by rw [upf (by omega), upf (by omega), upf (by omega)])
        obtain ⟨I2, f1, f2, f3⟩ := s_tellHead (d := d + f + 1) hK hS1 hw w1 hi hk g1' (by omega)
        have hhl := hdN_len (hw.1 i hi)
        obtain ⟨I3, e1, e2, e3, e4⟩ := meet_loop (d := d + f + 4) (F := fun s r => walk w f r s) (n := max (30 - f) dep) (i := i) (dep := dep) hK hS1 hw hi hk (by omega) (fun s r q1 q2 q3 => walk_grow hw f r s q1 (by omega) q3) (fun I s r p1 p2 p3 p4 p5 p6 p7 => ih (dep + 1) I s r p1 p2 p3 p4 (by omega) (by omega) p6 p7) (s0 := (s.1 ++ [(i : Int)], s.2 ++ hdN w (w.1 i))) (by dsimp only; rw [List.length_append, List.length_append]; simp only [List.length_cons, List.length_nil]; omega) (okm_app h ho q2) (by dsimp only; rw [List.length_append]; simp only [List.length_cons, List.length_nil]; omega) (w.1 i).2.2.1.length 0 I2 (by omega) (w1.frS f3 (by omega)) (m1.cong (f3 _ (by omega) (by omega)) (f3 _ (by omega) (by omega)) (f3 _ (by omega) (by omega))) f2
        have e1 : ev S0 (d + f + 4) 58 111 [.inr (.inl 363), .inl (i : Int), .inl (dep : Int), .inr (.inl (1 + 4 + 5 * i)), .inl 0] [] (sh, I2, R) = some (none, (sh, I3, R)) := e1
        refine ⟨I3, ?_, e2, e3, fun k hk => ?_⟩
        · simp (disch := first | assumption | omega | exact Nat.le_of_ble_eq_true rfl | decide) only [u_58_0, u_58_1, u_58_4, u_58_5, u_58_8, u_58_8n, u_58_9, u_58_9n, u_58_10, u_58_10n, u_58_13, u_58_14, u_58_17, u_58_19, u_58_22, u_58_23, u_58_24, u_58_25, u_58_28, u_58_31, u_58_32, u_58_35, u_58_37, u_58_40, u_58_41, u_58_44, u_58_46, u_58_47, u_58_50, u_58_51, u_58_52, u_58_53, u_58_56, u_58_57, u_58_58, u_58_60, u_58_63, u_58_64, u_58_67, u_58_69, u_58_72, u_58_73, u_58_74, u_58_77, u_58_78, u_58_79, u_58_82, u_58_83, u_58_84, u_58_87, u_58_88, u_58_91, u_58_92, u_58_93, u_58_94, u_58_95, u_58_98, u_58_99, u_58_100, u_58_103, u_58_104, u_58_104n, u_58_105, u_58_105n, u_58_108, u_58_109, r0, r1, r2, r3, rv_some, s_atL hS1 hW hi hk, bnd_some, psh_some, psh_none, s_hasMet hK h1, if_neg hhm, if_true, if_false, hd30, h10, hm30, upk, wrN, f1, e1]
        · rw [e4 k hk, f3 k (by omega) (by omega), upf (by omega), upf (by omega), upf (by omega)]
      · rw [if_pos (by omega)]
        have hhm : (0 ≤ (i : Int) ∧ (i : Int) < 30 ∧ ¬ idm s.1 (i : Int) = -1) := ⟨by omega, by omega, by omega⟩
        have hid := h1.2.1 i hi
        obtain ⟨I2, g1, g2, g3⟩ := s_add (d := d + f + 3) (c := 35) hS h2 (by omega)
        obtain ⟨I3, f1, f2, f3⟩ := s_add (d := d + f + 3) (c := 65 + idm s.1 (i : Int)) hS g2 (by rw [List.length_append]; simp only [List.length_cons, List.length_nil]; omega)
        have g4 := g3.tr f3
        refine ⟨I3, ?_, h1.cong (g4 _ (by omega) (by omega)) (g4 _ (by omega) (by omega)) (g4 _ (by omega) (by omega)), by rw [app3] at f2; exact f2, g4.K⟩
        have hid2 : I2 366 (i : Int) = idm s.1 (i : Int) := by rw [g3 _ (by omega) (by omega)]; exact hid
        simp (disch := first | assumption | omega | exact Nat.le_of_ble_eq_true rfl | decide) only [u_58_0, u_58_1, u_58_4, u_58_5, u_58_8, u_58_8n, u_58_9, u_58_9n, u_58_10, u_58_10n, u_58_13, u_58_14, u_58_17, u_58_19, u_58_22, u_58_23, u_58_24, u_58_25, u_58_28, u_58_31, u_58_32, u_58_35, u_58_37, u_58_40, u_58_41, u_58_44, u_58_46, u_58_47, u_58_50, u_58_51, u_58_52, u_58_53, u_58_56, r0, r1, r2, rv_some, s_atL hS1 hW hi hk, bnd_some, psh_some, psh_none, s_hasMet hK h1, if_pos hhm, Int.reduceEq, if_false, g1, hid2, wrI, f1]
theorem begin_loop (hK : KS sh R) : ∀ (k j : Nat) (I : IM), j + k = 30 → (∀ i : Nat, i < j → I 366 (i : Int) = -1) → ∃ I', ev S0 d 54 15 [.inr (.inl 363), .inl (j : Int)] [] (sh, I, R) = some (none, (sh, I', R)) ∧ (∀ i : Nat, i < 30 → I' 366 (i : Int) = -1) ∧ ∀ k, k ≠ 366 → I' k = I k := by
  obtain ⟨t0, r0, r1, r2, r3, r4, hS, t6, l6, -⟩ := hK
  intro k
  induction k with
  | zero =>
    intro j I hj h
    have hc : (30 : Int) ≤ (j : Int) := by omega
    refine ⟨I, ?_, fun i hi => h i (by omega), fun _ _ => rfl⟩
    simp (disch := first | assumption | omega | exact Nat.le_of_ble_eq_true rfl | decide) only [u_54_15, u_54_16, u_54_18, u_54_34, hc, if_true]
  | succ k ih =>
    intro j I hj h
    have hc : ¬ (30 : Int) ≤ (j : Int) := by omega
    obtain ⟨I', h1, h2, h3⟩ := ih (j + 1) (up I 366 (j : Int) (-1)) (by omega) (fun i hi => by
      by_cases hij : i = j
      · subst hij; exact ups
      · rw [upj (by omega)]; exact h i (by omega))
    refine ⟨I', ?_, h2, fun k hk => by rw [h3 k hk, upf hk]⟩
    rw [u_54_15]
    simp (disch := first | assumption | omega | exact Nat.le_of_ble_eq_true rfl | decide) only [u_54_16, u_54_18, u_54_21, u_54_22, u_54_25, u_54_26, u_54_27, u_54_28, u_54_31, hc, if_false, r2, rv_some, wrN, h1]
theorem s_begin (hK : KS sh R) : ∃ I', cl (d + 1) 54 [.inr (.inl 363)] (sh, I, R) = some (none, (sh, I', R)) ∧ isMt I' [] ∧ isSg I' 364 [] ∧ FrK I I' := by
  obtain ⟨t0, r0, r1, r2, r3, r4, hS, t6, l6, -⟩ := id hK
  have ts := hS.1
  obtain ⟨I', h1, h2, h3⟩ := begin_loop (d := d) hK 30 0 (up (up I 363 5 0) 364 1 0) (by omega) (fun i hi => by omega)
  refine ⟨I', ?_, ⟨?_, fun i hi => h2 i hi, fun j x hx => by cases hx⟩, ⟨?_, fun j x _ hx => by cases hx⟩, fun k hk => ?_⟩
  · have h1 : ev S0 d 54 15 [.inr (.inl 363), .inl 0] [] (sh, up (up I 363 5 0) 364 1 0, R) = some (none, (sh, I', R)) := h1
    rw [c_54]
    simp (disch := first | assumption | omega | exact Nat.le_of_ble_eq_true rfl | decide) only [u_54_0, u_54_1, u_54_2, u_54_5, u_54_6, u_54_9, u_54_10, u_54_13, u_54_14, r1, rv_some, h1]
  · rw [h3 _ (by decide), upk (by decide), ups]; rfl
  · rw [h3 _ (by decide), ups]; rfl
  · rw [h3 _ (by omega), upf (by omega), upf (by omega)]
/-- all that is met and told from one object on -/
def thr (w : WD) (o : Int) : List Int × List Int := walk w 31 o ([], [])
theorem okm_nil (w : WD) : okm w [] := ⟨List.nodup_nil, fun o h => by cases h⟩
theorem s_goOn (hK : KS sh R) (hS1 : WS sh R 1) (hw : okW w) {s : List Int × List Int} {o : Int} (hW : isW I 1 w) (h1 : isMt I s.1) (h2 : isSg I 364 s.2) (h : okm w s.1) (hl : s.2.length < 500000 + 40 * s.1.length) (ho : o = -1 ∨ liv w o) : ∃ I', cl (d + 40) 55 [.inr (.inl 363), .inl o] (sh, I, R) = some (none, (sh, I', R)) ∧ isMt I' (walk w 31 o s).1 ∧ isSg I' 364 (walk w 31 o s).2 ∧ FrK I I' := by
  have t0 := hK.1
  obtain ⟨I', g1, g2, g3, g4⟩ := s_meet (d := d + 4) hK hS1 hw 31 0 I s o hW h1 h2 h (by omega) (by omega) hl ho
  refine ⟨I', ?_, g2, g3, g4⟩
  have g1 : cl (d + 39) 58 [.inr (.inl 363), .inl o, .inl 0] (sh, I, R) = some (none, (sh, I', R)) := g1
  rw [c_55]
  simp (disch := first | assumption | omega | exact Nat.le_of_ble_eq_true rfl | decide) only [u_55_0, u_55_1, u_55_2, u_55_3, u_55_6, g1, bnd_some, psh_none]
theorem s_goThrough (hK : KS sh R) (hS1 : WS sh R 1) (hw : okW w) {o : Int} (hW : isW I 1 w) (ho : o = -1 ∨ liv w o) : ∃ I', cl (d + 41) 56 [.inr (.inl 363), .inl o] (sh, I, R) = some (none, (sh, I', R)) ∧ isMt I' (thr w o).1 ∧ isSg I' 364 (thr w o).2 ∧ FrK I I' := by
  have t0 := hK.1
  obtain ⟨I1, f1, f2, f3, f4⟩ := s_begin (I := I) (d := d + 39) hK
  obtain ⟨I', g1, g2, g3, g4⟩ := s_goOn (d := d) (s := ([], [])) hK hS1 hw (hW.frK f4) f2 f3 (okm_nil w) (by simp) ho
  refine ⟨I', ?_, g2, g3, f4.tr g4⟩
  rw [c_56]
  simp (disch := first | assumption | omega | exact Nat.le_of_ble_eq_true rfl | decide) only [u_56_0, u_56_1, u_56_4, u_56_5, u_56_6, u_56_9, f1, g1, bnd_some, psh_none]
theorem thr_grow (hw : okW w) {o : Int} (ho : o = -1 ∨ liv w o) : grow w 1 (fun x => o ≠ -1 ∧ Rch w o x) ([], []) (thr w o) ∧ (o = -1 ∨ o ∈ (thr w o).1) := walk_grow hw 31 o ([], []) (okm_nil w) (by simp) ho
theorem thr_len (hw : okW w) {o : Int} (ho : o = -1 ∨ liv w o) : (thr w o).2.length ≤ 2000 := by
  obtain ⟨g, -⟩ := thr_grow hw ho
  have h1 := okm_len g.1
  have h2 := g.2.2.1
  dsimp only [List.length_nil] at h2
  omega
end WALK
