/-! THE CLASS: rows of signs, the walk -/
def SgS (sh : Shp) (R : RM) (a : Nat) : Prop := tg sh a = 5 ∧ R a 0 = some (a + 1) ∧ tg sh (a + 1) = 100 ∧ ln sh (a + 1) = 200
def isSg (I : IM) (a : Nat) (t : List Int) : Prop := I a 1 = (t.length : Int) ∧ ∀ (j : Nat) (c : Int), j < 200 → t[j]? = some c → I (a + 1) (j : Int) = c
theorem isSg.cong {I I' : IM} {a : Nat} {t : List Int} (h : isSg I a t) (h0 : I' a = I a) (h1 : I' (a + 1) = I (a + 1)) : isSg I' a t := ⟨by rw [h0]; exact h.1, fun j c hj hc => by rw [h1]; exact h.2 j c hj hc⟩
def FrS (a : Nat) (I I' : IM) : Prop := ∀ k, k ≠ a → k ≠ a + 1 → I' k = I k
theorem FrS.tr {a : Nat} {I I1 I2 : IM} (h1 : FrS a I I1) (h2 : FrS a I1 I2) : FrS a I I2 := fun k x y => (h2 k x y).trans (h1 k x y)
theorem FrS.rf {a : Nat} {I : IM} : FrS a I I := fun _ _ _ => rfl
theorem dv10 : ∀ n : Nat, n < 100 → b32 (fun x y => x / y) (n : Int) 10 = ((n / 10 : Nat) : Int) ∧ b32 (fun x y => x - x / y * y) (n : Int) 10 = ((n % 10 : Nat) : Int) := by decide +kernel
def KS (sh : Shp) (R : RM) : Prop := tg sh 363 = 6 ∧ R 363 0 = some 1 ∧ R 363 1 = some 364 ∧ R 363 2 = some 366 ∧ R 363 3 = some 367 ∧ R 363 4 = some 368 ∧ SgS sh R 364 ∧ tg sh 366 = 100 ∧ ln sh 366 = 30 ∧ tg sh 367 = 100 ∧ ln sh 367 = 30 ∧ tg sh 368 = 100 ∧ ln sh 368 = 30
def isMt (I : IM) (m : List Int) : Prop := I 363 5 = (m.length : Int) ∧ (∀ i : Nat, i < 30 → I 366 (i : Int) = idm m (i : Int)) ∧ ∀ (j : Nat) (x : Int), m[j]? = some x → I 367 (j : Int) = x
theorem isMt.cong {I I' : IM} {m : List Int} (h : isMt I m) (h0 : I' 363 = I 363) (h1 : I' 366 = I 366) (h2 : I' 367 = I 367) : isMt I' m := ⟨by rw [h0]; exact h.1, fun i hi => by rw [h1]; exact h.2.1 i hi, fun j x hx => by rw [h2]; exact h.2.2 j x hx⟩
def FrK (I I' : IM) : Prop := ∀ k, k < 363 ∨ 367 < k → I' k = I k
section WALK
variable {sh : Shp} {R : RM} {I : IM} {d a : Nat} {w : WD} {t m : List Int} {c v : Int}
theorem s_add (hS : SgS sh R a) (h : isSg I a t) (ht : t.length < 1000000) : ∃ I', cl (d + 1) 50 [.inr (.inl a), .inl c] (sh, I, R) = some (none, (sh, I', R)) ∧ isSg I' a (t ++ [c]) ∧ FrS a I I' := by
  obtain ⟨t0, r0, t1, l1⟩ := hS
  obtain ⟨h1, h2⟩ := id h
  have hn : ¬ ((t.length : Int) < 0) := by omega
  have hlen : (t ++ [c]).length = t.length + 1 := by rw [List.length_append]; rfl
  rw [c_50]
  by_cases hl : (200 : Int) ≤ (t.length : Int)
  · refine ⟨up I a 1 ((t.length + 1 : Nat) : Int), ?_, ⟨?_, fun j x hj hx => ?_⟩, fun k a b => upf a⟩
    · simp (disch := first | assumption | omega | exact Nat.le_of_ble_eq_true rfl | decide) only [u_50_0, u_50_1, u_50_4, u_50_7, u_50_8, u_50_11, u_50_14, u_50_17, u_50_18, u_50_21, u_50_22, u_50_25, u_50_26, u_50_27, u_50_28, u_50_29, u_50_32, u_50_33, u_50_34, u_50_37, h1, hn, hl, if_false, if_true, wrN]
    · rw [ups, hlen]
    · rw [upk (by omega)]
      rw [List.getElem?_append_left (by omega)] at hx
      exact h2 j x hj hx
  · refine ⟨up (up I (a + 1) (t.length : Int) c) a 1 ((t.length + 1 : Nat) : Int), ?_, ⟨?_, fun j x hj hx => ?_⟩, fun k a b => by rw [upf a, upf b]⟩
    · simp (disch := first | assumption | omega | exact Nat.le_of_ble_eq_true rfl | decide) only [u_50_0, u_50_1, u_50_4, u_50_7, u_50_8, u_50_11, u_50_14, u_50_17, u_50_18, u_50_21, u_50_22, u_50_25, u_50_26, u_50_27, u_50_28, u_50_29, u_50_32, u_50_33, u_50_34, u_50_37, h1, hn, hl, if_false, r0, rv_some, upk, wrN]
    · rw [ups, hlen]
    · rw [upk (by omega)]
      have := lenOf hx
      rw [hlen] at this
      by_cases hjl : j < t.length
      · rw [List.getElem?_append_left hjl] at hx
        rw [upj (by omega)]
        exact h2 j x hj hx
      · obtain rfl : j = t.length := by omega
        rw [List.getElem?_append_right (Nat.le_refl _), Nat.sub_self] at hx
        cases hx
        exact ups
theorem s_tellNumber (hK : KS sh R) (h : isSg I 364 t) (ht : t.length < 900000) (hv : -99 ≤ v ∧ v ≤ 99) : ∃ I', cl (d + 2) 60 [.inr (.inl 363), .inl v] (sh, I, R) = some (none, (sh, I', R)) ∧ isSg I' 364 (t ++ dgs v) ∧ FrS 364 I I' := by
  obtain ⟨t0, r0, r1, r2, r3, r4, hS, -⟩ := id hK
  have ts := hS.1
  have hab : (if 0 ≤ v then v else wr (0 - v)) = ((v.natAbs : Nat) : Int) := by
    split
    · omega
    · rw [wrI (by omega) (by omega)]; omega
  obtain ⟨dv1, dv2⟩ := dv10 v.natAbs (by omega)
  have e1 : wr (48 + ((v.natAbs / 10 : Nat) : Int)) = 48 + ((v.natAbs / 10 : Nat) : Int) := wrI (by omega) (by omega)
  have e2 : wr (48 + ((v.natAbs % 10 : Nat) : Int)) = 48 + ((v.natAbs % 10 : Nat) : Int) := wrI (by omega) (by omega)
  rw [c_60]
  have rest : ∀ (I1 : IM) (t1 : List Int), isSg I1 364 t1 → t1.length < 950000 → ∃ I', ev S0 (d + 1) 60 13 [.inr (.inl 363), .inl v, .inr (.inr 1)] [] (sh, I1, R) = some (none, (sh, I', R)) ∧ isSg I' 364 (t1 ++ (if 10 ≤ v.natAbs then [48 + ((v.natAbs / 10 : Nat) : Int)] else []) ++ [48 + ((v.natAbs % 10 : Nat) : Int)]) ∧ FrS 364 I1 I' := by
    intro I1 t1 q1 q2
    by_cases h10 : 10 ≤ v.natAbs
    · rw [if_pos h10]
      have hlt : ¬ ((v.natAbs : Nat) : Int) < 10 := by clear dv1 dv2 e1 e2 hab; omega
      obtain ⟨I2, g1, g2, g3⟩ := s_add (d := d) (c := 48 + ((v.natAbs / 10 : Nat) : Int)) hS q1 (by omega)
      obtain ⟨I3, f1, f2, f3⟩ := s_add (d := d) (c := 48 + ((v.natAbs % 10 : Nat) : Int)) hS g2 (by rw [List.length_append]; simp only [List.length_cons, List.length_nil]; omega)
      refine ⟨I3, ?_, f2, g3.tr f3⟩
      simp (disch := first | assumption | omega | exact Nat.le_of_ble_eq_true rfl | decide) only [u_60_13, u_60_14, u_60_17, u_60_18, u_60_19, u_60_21, u_60_24, u_60_25, u_60_28, u_60_30, u_60_31, u_60_33, u_60_34, u_60_35, u_60_38, u_60_39, u_60_42, u_60_44, u_60_45, u_60_47, u_60_48, u_60_49, u_60_52, hab, hlt, if_false, r1, rv_some, dv1, dv2, e1, e2, g1, f1, bnd_some, psh_none]
    · rw [if_neg h10, List.append_nil]
      have hlt : ((v.natAbs : Nat) : Int) < 10 := by clear dv1 dv2 e1 e2 hab; omega
      obtain ⟨I3, f1, f2, f3⟩ := s_add (d := d) (c := 48 + ((v.natAbs % 10 : Nat) : Int)) hS q1 (by omega)
      refine ⟨I3, ?_, f2, f3⟩
      simp (disch := first | assumption | omega | exact Nat.le_of_ble_eq_true rfl | decide) only [u_60_13, u_60_14, u_60_17, u_60_18, u_60_19, u_60_21, u_60_24, u_60_25, u_60_28, u_60_30, u_60_31, u_60_33, u_60_34, u_60_35, u_60_38, u_60_39, u_60_42, u_60_44, u_60_45, u_60_47, u_60_48, u_60_49, u_60_52, hab, hlt, if_true, r1, rv_some, dv1, dv2, e1, e2, f1, bnd_some, psh_none]
  unfold dgs
  by_cases hv0 : v < 0
  · rw [if_pos hv0]
    have hge : ¬ 0 ≤ v := by omega
    obtain ⟨I2, g1, g2, g3⟩ := s_add (d := d) (c := 45) hS h (by omega)
    obtain ⟨I3, f1, f2, f3⟩ := rest I2 _ g2 (by rw [List.length_append]; simp only [List.length_cons, List.length_nil]; omega)
    refine ⟨I3, ?_, ?_, g3.tr f3⟩
    · simp (disch := first | assumption | omega | exact Nat.le_of_ble_eq_true rfl | decide) only [u_60_0, u_60_1, u_60_4, u_60_5, u_60_8, u_60_10, hge, if_false, r1, rv_some, g1, f1, bnd_some, psh_none]
    · rw [← List.append_assoc, ← List.append_assoc]; exact f2
  · rw [if_neg hv0, List.nil_append, ← List.append_assoc]
    have hge : 0 ≤ v := by omega
    obtain ⟨I3, f1, f2, f3⟩ := rest I t h (by omega)
    refine ⟨I3, ?_, f2, f3⟩
    simp (disch := first | assumption | omega | exact Nat.le_of_ble_eq_true rfl | decide) only [u_60_0, u_60_1, u_60_4, u_60_5, u_60_8, u_60_10, hge, if_true, f1]
theorem fsg_take {L : FL} {j : Nat} (hj : j < L.length) : fsg (L.take (j + 1)) = fsg (L.take j) ++ [(L[j]).1] ++ dgs (L[j]).2 := by
  unfold fsg
  rw [List.take_succ_eq_append_getElem hj, List.flatMap_append, List.append_assoc]
  congr 1
  simp
theorem head_loop (hK : KS sh R) (hS1 : WS sh R 1) (hw : okW w) {i : Nat} (hi : i < 30) (t : List Int) (ht : t.length < 800000) : ∀ (k j : Nat) (I : IM), j + k = (w.1 i).2.2.2.length → isW I 1 w → isSg I 364 (t ++ fsg ((w.1 i).2.2.2.take j)) → ∃ I', ev S0 (d + 2) 59 119 [.inr (.inl 363), .inr (.inl (1 + 4 + 5 * i)), .inl (j : Int)] [] (sh, I, R) = some (none, (sh, I', R)) ∧ isSg I' 364 (t ++ fsg (w.1 i).2.2.2 ++ [46]) ∧ FrS 364 I I' := by
  obtain ⟨t0, r0, r1, r2, r3, r4, hS, -⟩ := id hK
  obtain ⟨n1_, n2⟩ := hS1.2.2.2.2.2.2.2.2.2.2.1 i hi
  obtain ⟨nt, nr0, nr1, nF, nt4, nl4⟩ := n2
  obtain ⟨ft0, ft1, fl1, ft2, fl2, fr1, fr2⟩ := nF
  have ts := hS.1
  have hok := hw.1 i hi
  have h6 := hok.2.2.2.2.2.2.2.2.1
  have hrg := hok.2.2.2.2.2.2.2.2.2.2.2.2
  intro k
  induction k with
  | zero =>
    intro j I hj hW h
    obtain ⟨x1, x2, x3, x4, x5, x6⟩ := hW.1 i hi
    have hc : ((w.1 i).2.2.2.length : Int) ≤ (j : Int) := by omega
    rw [List.take_of_length_le (by omega)] at h
    have hfl := fsg_len (w.1 i).2.2.2
    obtain ⟨I2, g1, g2, g3⟩ := s_add (d := d + 1) (c := 46) hS h (by rw [List.length_append]; omega)
    refine ⟨I2, ?_, g2, g3⟩
    have x51 := x5.1
    simp (disch := first | assumption | omega | exact Nat.le_of_ble_eq_true rfl | decide) only [u_59_119, u_59_120, u_59_120n, u_59_121, u_59_124, u_59_127, u_59_165, u_59_166, u_59_169, u_59_171, u_59_174, nr0, rv_some, x51, hc, if_true, r1, g1, bnd_some, psh_none]
  | succ k ih =>
    intro j I hj hW h
    have hjl : j < (w.1 i).2.2.2.length := by omega
    obtain ⟨x1, x2, x3, x4, x5, x6⟩ := hW.1 i hi
    have hc : ¬ ((w.1 i).2.2.2.length : Int) ≤ (j : Int) := by omega
    have hfl := fsg_len ((w.1 i).2.2.2.take j)
    rw [List.length_take] at hfl
    obtain ⟨v1, v2⟩ := x5.at hjl
    have hvr := hrg _ (List.getElem_mem hjl)
    obtain ⟨I2, g1, g2, g3⟩ := s_add (d := d + 1) (c := ((w.1 i).2.2.2[j]).1) hS h (by rw [List.length_append]; omega)
    obtain ⟨I3, f1, f2, f3⟩ := s_tellNumber (d := d) (v := ((w.1 i).2.2.2[j]).2) hK g2 (by rw [List.length_append, List.length_append]; simp only [List.length_cons, List.length_nil]; omega) ⟨hvr.2.2.1, hvr.2.2.2⟩
    have hW2 : isW I2 1 w := ⟨fun q hq => (hW.1 q hq).cong (fun k a b => g3 k (by omega) (by omega)), fun q hq => ⟨(hW.2.1 q hq).1.cong (g3 _ (by omega) (by omega)) (g3 _ (by omega) (by omega)) (g3 _ (by omega) (by omega)), by rw [g3 _ (by omega) (by omega)]; exact (hW.2.1 q hq).2⟩, fun q a b => by rw [g3 _ (by omega) (by omega)]; exact hW.2.2 q a b⟩
    have hW3 : isW I3 1 w := ⟨fun q hq => (hW2.1 q hq).cong (fun k a b => f3 k (by omega) (by omega)), fun q hq => ⟨(hW2.2.1 q hq).1.cong (f3 _ (by omega) (by omega)) (f3 _ (by omega) (by omega)) (f3 _ (by omega) (by omega)), by rw [f3 _ (by omega) (by omega)]; exact (hW2.2.1 q hq).2⟩, fun q a b => by rw [f3 _ (by omega) (by omega)]; exact hW2.2.2 q a b⟩
    have v2' : I2 (1 + 4 + 5 * i + 1 + 2) (j : Int) = ((w.1 i).2.2.2[j]).2 := by rw [g3 _ (by omega) (by omega)]; exact v2
    obtain ⟨I4, e1, e2, e3⟩ := ih (j + 1) I3 (by omega) hW3 (by rw [fsg_take hjl, ← List.append_assoc, ← List.append_assoc]; exact f2)
    refine ⟨I4, ?_, e2, (g3.tr f3).tr e3⟩
    have x51 := x5.1
    rw [u_59_119]
    simp (disch := first | assumption | omega | exact Nat.le_of_ble_eq_true rfl | decide) only [u_59_120, u_59_120n, u_59_121, u_59_124, u_59_127, u_59_130, u_59_131, u_59_134, u_59_134n, u_59_135, u_59_138, u_59_141, u_59_142, u_59_143, u_59_146, u_59_147, u_59_147n, u_59_148, u_59_151, u_59_154, u_59_155, u_59_156, u_59_159, u_59_162, nr0, rv_some, x51, hc, if_false, r1, fr1, fr2, v1, v2', g1, f1, bnd_some, psh_none, wrN, e1]
end WALK
