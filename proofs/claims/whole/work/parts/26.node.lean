/-! NODE: an object's room: kind, what it holds, references, fields -/
abbrev ND : Type := Int × Int × List Int × FL
def NS (sh : Shp) (R : RM) (n : Nat) : Prop := tg sh n = 3 ∧ R n 0 = some (n + 1) ∧ R n 1 = some (n + 4) ∧ FS sh R (n + 1) ∧ tg sh (n + 4) = 100 ∧ ln sh (n + 4) = 6
def isRf (I : IM) (k : Nat) (rs : List Int) : Prop := ∀ (j : Nat) (r : Int), rs[j]? = some r → I k j = r
def isN (I : IM) (n : Nat) (x : ND) : Prop := I n 2 = x.1 ∧ I n 3 = x.2.1 ∧ I n 4 = (x.2.2.1.length : Int) ∧ isRf I (n + 4) x.2.2.1 ∧ isF I (n + 1) x.2.2.2 ∧ I (n + 1) 0 = 6
def FrN (n : Nat) (I I' : IM) : Prop := ∀ k, k < n ∨ n + 4 < k → I' k = I k
theorem FrN.rf {n : Nat} {I : IM} : FrN n I I := fun _ _ => rfl
theorem FrN.tr {n : Nat} {I I1 I2 : IM} (h1 : FrN n I I1) (h2 : FrN n I1 I2) : FrN n I I2 := fun k h => (h2 k h).trans (h1 k h)
theorem isF.cong {I I' : IM} {f : Nat} {L : FL} (h : isF I f L) (h0 : I' f = I f) (h1 : I' (f + 1) = I (f + 1)) (h2 : I' (f + 2) = I (f + 2)) : isF I' f L := by
  unfold isF
  rw [h0, h1, h2]
  exact h
theorem isN.cong {I I' : IM} {n : Nat} {x : ND} (h : isN I n x) (h0 : ∀ k, n ≤ k → k ≤ n + 4 → I' k = I k) : isN I' n x := by
  obtain ⟨a, b, c, e, f, g⟩ := h
  refine ⟨?_, ?_, ?_, fun j r hr => ?_, f.cong (h0 _ (by omega) (by omega)) (h0 _ (by omega) (by omega)) (h0 _ (by omega) (by omega)), ?_⟩
  · rw [h0 n (by omega) (by omega)]; exact a
  · rw [h0 n (by omega) (by omega)]; exact b
  · rw [h0 n (by omega) (by omega)]; exact c
  · rw [h0 (n + 4) (by omega) (by omega)]; exact e j r hr
  · rw [h0 (n + 1) (by omega) (by omega)]; exact g
theorem isN.fr {n n' : Nat} {I I1 : IM} {x : ND} (h : isN I n x) (h1 : FrN n' I I1) (hd : n + 4 < n' ∨ n' + 4 < n) : isN I1 n x := h.cong (fun k _ _ => h1 k (by omega))
theorem isRf.at {I : IM} {k : Nat} {rs : List Int} (h : isRf I k rs) {j : Nat} (hj : j < rs.length) : I k j = rs[j] := h j rs[j] (List.getElem?_eq_getElem hj)
section NODE
variable {sh : Shp} {R : RM} {I : IM} {n n' d : Nat} {x y : ND}
theorem become_loop (hN : NS sh R n) {a1 a2 a3 : AV} : ∀ (k j : Nat) (I : IM), j + k = 6 → (∀ i : Nat, i < j → I (n + 4) i = -1) → ∃ I', ev S0 d 34 34 [.inr (.inl n), a1, a2, a3, .inl (j : Int)] [] (sh, I, R) = some (none, (sh, I', R)) ∧ (∀ i : Nat, i < 6 → I' (n + 4) i = -1) ∧ ∀ k, k ≠ n + 4 → I' k = I k := by
  obtain ⟨t0, r0, r1, hF, t4, l4⟩ := hN
  intro k
  induction k with
  | zero =>
    intro j I hj h
    refine ⟨I, ?_, fun i hi => h i (by omega), fun _ _ => rfl⟩
    have hc : (6 : Int) ≤ (j : Int) := by omega
    simp (disch := first | assumption | omega | exact Nat.le_of_ble_eq_true rfl | decide) only [u_34_0, u_34_1, u_34_2, u_34_5, u_34_6, u_34_7, u_34_10, u_34_11, u_34_12, u_34_13, u_34_15, u_34_18, u_34_21, u_34_24, u_34_25, u_34_28, u_34_31, u_34_32, u_34_34, u_34_36, u_34_38, u_34_41, u_34_42, u_34_45, u_34_47, u_34_48, u_34_49, u_34_52, u_34_55, hc, if_true]
  | succ k ih =>
    intro j I hj h
    have hc : ¬ (6 : Int) ≤ (j : Int) := by omega
    obtain ⟨I', h1, h2, h3⟩ := ih (j + 1) (up I (n + 4) (j : Int) (-1)) (by omega) (fun i hi => by
      by_cases hij : i = j
      · subst hij; exact ups
      · rw [upj (by omega)]; exact h i (by omega))
    refine ⟨I', ?_, h2, fun k hk => (h3 k hk).trans (upf hk)⟩
    rw [u_34_34]
    simp (disch := first | assumption | omega | exact Nat.le_of_ble_eq_true rfl | decide) only [u_34_0, u_34_1, u_34_2, u_34_5, u_34_6, u_34_7, u_34_10, u_34_11, u_34_12, u_34_13, u_34_15, u_34_18, u_34_21, u_34_24, u_34_25, u_34_28, u_34_31, u_34_32, u_34_36, u_34_38, u_34_41, u_34_42, u_34_45, u_34_47, u_34_48, u_34_49, u_34_52, u_34_55, hc, if_false, r1, rv_some, l4, wrN, h1]
theorem s_become (hN : NS sh R n) {kd hd : Int} {len : Nat} (hl : len ≤ 6) (h6 : I (n + 1) 0 = 6) : ∃ I', cl (d + 2) 34 [.inr (.inl n), .inl kd, .inl hd, .inl (len : Int)] (sh, I, R) = some (none, (sh, I', R)) ∧ isN I' n (kd, hd, List.replicate len (-1), []) ∧ FrN n I I' := by
  obtain ⟨t0, r0, r1, hF, t4, l4⟩ := id hN
  have tF := hF.1
  obtain ⟨I', h1, h2, h3⟩ := become_loop (d := d + 1) hN (a1 := .inl kd) (a2 := .inl hd) (a3 := .inl (len : Int)) 6 0 (up (up (up (up I n 2 kd) n 3 hd) n 4 (len : Int)) (n + 1) 3 0) (by omega) (fun i hi => by omega)
  refine ⟨I', ?_, ⟨?_, ?_, ?_, ?_, ?_, ?_⟩, fun k hk => ?_⟩
  · rw [c_34]
    have e1 : (if (6 : Int) < (len : Int) then (6 : Int) else (len : Int)) = (len : Int) := if_neg (by omega)
    have e2 : (if (0 : Int) < (len : Int) then (len : Int) else 0) = (len : Int) := by split <;> omega
    simp (disch := first | assumption | omega | exact Nat.le_of_ble_eq_true rfl | decide) only [u_34_0, u_34_1, u_34_2, u_34_5, u_34_6, u_34_7, u_34_10, u_34_11, u_34_12, u_34_13, u_34_15, u_34_18, u_34_21, u_34_24, u_34_25, u_34_28, u_34_31, u_34_32, e1, e2, r0, rv_some, s_clear hF, bnd_some, psh_none]
    exact h1
  · rw [h3 n (by omega), upk (by omega), upj (by decide), upj (by decide), ups]
  · rw [h3 n (by omega), upk (by omega), upj (by decide), ups]
  · rw [h3 n (by omega), upk (by omega), ups]; simp
  · intro j r hr
    have hj := (List.getElem?_eq_some_iff.mp hr).1
    simp only [List.length_replicate] at hj
    rw [h2 j (by omega)]
    exact (List.eq_of_mem_replicate (List.mem_of_getElem? hr)).symm
  · refine ⟨?_, fun j p hp => by cases hp⟩
    rw [h3 (n + 1) (by omega), ups]; rfl
  · rw [h3 (n + 1) (by omega), upj (by decide), upk (by omega), upk (by omega), upk (by omega)]; exact h6
  · rw [h3 k (by omega), upf (by omega), upf (by omega), upf (by omega), upf (by omega)]
theorem s_takeN (hN : NS sh R n) (hN' : NS sh R n') (hd : n + 4 < n' ∨ n' + 4 < n) (hx : isN I n' x) (hL : x.2.2.2.length ≤ 6) (hr : x.2.2.1.length ≤ 6) (h6 : I (n + 1) 0 = 6) : ∃ I', cl (d + 4) 35 [.inr (.inl n), .inr (.inl n')] (sh, I, R) = some (none, (sh, I', R)) ∧ isN I' n x ∧ FrN n I I' := by
  obtain ⟨t0, r0, r1, hF, t4, l4⟩ := id hN
  obtain ⟨s0, q0, q1, hG, s4, m4⟩ := id hN'
  have tF := hF.1
  have sF := hG.1
  obtain ⟨x1, x2, x3, x4, x5, x6⟩ := id hx
  obtain ⟨I1, h1, h2, h3⟩ := s_takeF (d := d) (I := up (up (up I n 2 x.1) n 3 x.2.1) n 4 (x.2.2.1.length : Int)) (M := x.2.2.2) (m := 6) hF hG (by omega) (x5.cong (by rw [upf (by omega), upf (by omega), upf (by omega)]) (by rw [upf (by omega), upf (by omega), upf (by omega)]) (by rw [upf (by omega), upf (by omega), upf (by omega)])) (by rw [upk (by omega), upk (by omega), upk (by omega)]; exact h6) hL (by omega)
  have h3n : ∀ k, k ≠ n + 1 → k ≠ n + 2 → k ≠ n + 3 → I1 k = (up (up (up I n 2 x.1) n 3 x.2.1) n 4 (x.2.2.1.length : Int)) k := fun k a b c => h3.1 k a (by omega) (by omega)
  refine ⟨cp I1 (n' + 4) 0 (n + 4) 0 6, ?_, ⟨?_, ?_, ?_, ?_, ?_, ?_⟩, fun k hk => ?_⟩
  · rw [c_35]
    have hcp : tg sh (n' + 4) = 100 ∧ tg sh (n + 4) = 100 ∧ n' + 4 ≠ n + 4 ∧ (0 : Int) ≤ 0 ∧ (0 : Int) ≤ 0 ∧ (0 : Int) ≤ 6 ∧ (0 : Int) + 6 ≤ (ln sh (n' + 4) : Int) ∧ (0 : Int) + 6 ≤ (ln sh (n + 4) : Int) ∧ ([] : List AV).length ≤ 8 := ⟨s4, t4, by omega, by decide, by decide, by decide, by rw [m4]; decide, by rw [l4]; decide, by decide⟩
    simp (disch := first | assumption | omega | exact Nat.le_of_ble_eq_true rfl | decide) only [u_35_0, u_35_1, u_35_1n, u_35_2, u_35_5, u_35_8, u_35_9, u_35_9n, u_35_10, u_35_13, u_35_16, u_35_17, u_35_17n, u_35_18, u_35_21, u_35_24, u_35_25, u_35_28, u_35_28n, u_35_29, u_35_32, u_35_32n, u_35_35, u_35_35n, u_35_36, u_35_39, u_35_40, u_35_41, u_35_44, u_35_45, u_35_50, r0, r1, q0, q1, rv_some, x1, x2, x3, upk, h1, bnd_some, psh_none]
    rw [u_35_47 hcp, u_35_50]
  · rw [cp_ne (by omega), h3n n (by omega) (by omega) (by omega), upj (by decide), upj (by decide), ups]
  · rw [cp_ne (by omega), h3n n (by omega) (by omega) (by omega), upj (by decide), ups]
  · rw [cp_ne (by omega), h3n n (by omega) (by omega) (by omega), ups]
  · intro j r hjr
    have hj := (List.getElem?_eq_some_iff.mp hjr).1
    have e : cp I1 (n' + 4) 0 (n + 4) 0 6 (n + 4) (j : Int) = I1 (n' + 4) (j : Int) := by
      unfold cp
      rw [if_pos ⟨rfl, by omega, by omega⟩]
      congr 1
      omega
    rw [e, h3n (n' + 4) (by omega) (by omega) (by omega), upk (by omega), upk (by omega), upk (by omega)]
    exact x4 j r hjr
  · exact h2.cong (cp_ne (by omega)) (cp_ne (by omega)) (cp_ne (by omega))
  · rw [cp_ne (by omega), h3.2, upk (by omega), upk (by omega), upk (by omega)]; exact h6
  · rw [cp_ne (by omega), h3n k (by omega) (by omega) (by omega), upf (by omega), upf (by omega), upf (by omega)]
theorem s_hasPlaceN (hN : NS sh R n) (hx : isN I n x) {i : Int} : cl (d + 1) 36 [.inr (.inl n), .inl i] (sh, I, R) = some (some (.inl (if 0 ≤ i ∧ i < (x.2.2.1.length : Int) then 1 else 0)), (sh, I, R)) := by
  have t0 := hN.1
  rw [c_36]
  by_cases h0 : i < 0
  · have hc : ¬ (0 ≤ i ∧ i < (x.2.2.1.length : Int)) := by omega
    simp (disch := first | assumption | omega | exact Nat.le_of_ble_eq_true rfl | decide) only [u_36_0, u_36_1, u_36_4, u_36_5, u_36_6, u_36_9, u_36_12, u_36_13, u_36_16, u_36_17, h0, hc, if_true, if_false]
  · by_cases h1 : (x.2.2.1.length : Int) ≤ i
    · have hc : ¬ (0 ≤ i ∧ i < (x.2.2.1.length : Int)) := by omega
      simp (disch := first | assumption | omega | exact Nat.le_of_ble_eq_true rfl | decide) only [u_36_0, u_36_1, u_36_4, u_36_5, u_36_6, u_36_9, u_36_12, u_36_13, u_36_16, u_36_17, hx.2.2.1, h0, h1, hc, if_true, if_false]
    · have hc : (0 ≤ i ∧ i < (x.2.2.1.length : Int)) := by omega
      rw [if_pos hc]
      simp (disch := first | assumption | omega | exact Nat.le_of_ble_eq_true rfl | decide) only [u_36_0, u_36_1, u_36_4, u_36_5, u_36_6, u_36_9, u_36_12, u_36_13, u_36_16, u_36_17, hx.2.2.1, h0, h1, if_true, if_false]
/-- may a row for h (of an object of kind kd) hold one of kind k2 -/
def mayH (kd h k2 : Int) : Int := if ¬ kd = 4 then 1 else if h = 0 then 1 else if k2 = h then 1 else if ¬ h = 2 then 0 else if ¬ k2 = 3 then 0 else 1
theorem s_mayN (hN : NS sh R n) : cl (d + 1) 37 [.inr (.inl n), .inr (.inr 0)] (sh, I, R) = some (some (.inl 1), (sh, I, R)) := by
  rw [c_37]
  simp (disch := first | assumption | omega | exact Nat.le_of_ble_eq_true rfl | decide) only [u_37_0, u_37_0n, u_37_1, u_37_1n, u_37_4, u_37_5, u_37_8, u_37_9, u_37_12, u_37_13, u_37_16, u_37_19, u_37_20, u_37_21, u_37_21n, u_37_22, u_37_25, u_37_26, u_37_29, u_37_32, u_37_33, u_37_36, u_37_37, u_37_40, u_37_40n, u_37_41, u_37_44, u_37_45, u_37_48, u_37_49, u_37_52, u_37_53]
theorem s_may (hN : NS sh R n) (hN' : NS sh R n') : cl (d + 1) 37 [.inr (.inl n), .inr (.inl n')] (sh, I, R) = some (some (.inl (mayH (I n 2) (I n 3) (I n' 2))), (sh, I, R)) := by
  have t0 := hN.1
  have s0 := hN'.1
  rw [c_37]
  unfold mayH
  by_cases h1 : I n 2 = 4
  · by_cases h2 : I n 3 = 0
    · simp (disch := first | assumption | omega | exact Nat.le_of_ble_eq_true rfl | decide) only [u_37_0, u_37_0n, u_37_1, u_37_1n, u_37_4, u_37_5, u_37_8, u_37_9, u_37_12, u_37_13, u_37_16, u_37_19, u_37_20, u_37_21, u_37_21n, u_37_22, u_37_25, u_37_26, u_37_29, u_37_32, u_37_33, u_37_36, u_37_37, u_37_40, u_37_40n, u_37_41, u_37_44, u_37_45, u_37_48, u_37_49, u_37_52, u_37_53, h1, h2, not_true, not_false_eq_true, if_true, if_false]
    · by_cases h3 : I n' 2 = I n 3
      · simp (disch := first | assumption | omega | exact Nat.le_of_ble_eq_true rfl | decide) only [u_37_0, u_37_0n, u_37_1, u_37_1n, u_37_4, u_37_5, u_37_8, u_37_9, u_37_12, u_37_13, u_37_16, u_37_19, u_37_20, u_37_21, u_37_21n, u_37_22, u_37_25, u_37_26, u_37_29, u_37_32, u_37_33, u_37_36, u_37_37, u_37_40, u_37_40n, u_37_41, u_37_44, u_37_45, u_37_48, u_37_49, u_37_52, u_37_53, h1, h2, h3, not_true, not_false_eq_true, if_true, if_false]
      · by_cases h4 : I n 3 = 2
        · by_cases h5 : I n' 2 = 3
          · simp (disch := first | assumption | omega | exact Nat.le_of_ble_eq_true rfl | decide) only [u_37_0, u_37_0n, u_37_1, u_37_1n, u_37_4, u_37_5, u_37_8, u_37_9, u_37_12, u_37_13, u_37_16, u_37_19, u_37_20, u_37_21, u_37_21n, u_37_22, u_37_25, u_37_26, u_37_29, u_37_32, u_37_33, u_37_36, u_37_37, u_37_40, u_37_40n, u_37_41, u_37_44, u_37_45, u_37_48, u_37_49, u_37_52, u_37_53, h1, h4, h5, not_true, not_false_eq_true, if_true, if_false, Int.reduceEq]
          · rw [h4] at h3
            simp (disch := first | assumption | omega | exact Nat.le_of_ble_eq_true rfl | decide) only [u_37_0, u_37_0n, u_37_1, u_37_1n, u_37_4, u_37_5, u_37_8, u_37_9, u_37_12, u_37_13, u_37_16, u_37_19, u_37_20, u_37_21, u_37_21n, u_37_22, u_37_25, u_37_26, u_37_29, u_37_32, u_37_33, u_37_36, u_37_37, u_37_40, u_37_40n, u_37_41, u_37_44, u_37_45, u_37_48, u_37_49, u_37_52, u_37_53, h1, h4, h5, h3, not_true, not_false_eq_true, if_true, if_false, Int.reduceEq]
        · simp (disch := first | assumption | omega | exact Nat.le_of_ble_eq_true rfl | decide) only [u_37_0, u_37_0n, u_37_1, u_37_1n, u_37_4, u_37_5, u_37_8, u_37_9, u_37_12, u_37_13, u_37_16, u_37_19, u_37_20, u_37_21, u_37_21n, u_37_22, u_37_25, u_37_26, u_37_29, u_37_32, u_37_33, u_37_36, u_37_37, u_37_40, u_37_40n, u_37_41, u_37_44, u_37_45, u_37_48, u_37_49, u_37_52, u_37_53, h1, h2, h3, h4, not_true, not_false_eq_true, if_true, if_false, Int.reduceEq]
  · simp (disch := first | assumption | omega | exact Nat.le_of_ble_eq_true rfl | decide) only [u_37_0, u_37_0n, u_37_1, u_37_1n, u_37_4, u_37_5, u_37_8, u_37_9, u_37_12, u_37_13, u_37_16, u_37_19, u_37_20, u_37_21, u_37_21n, u_37_22, u_37_25, u_37_26, u_37_29, u_37_32, u_37_33, u_37_36, u_37_37, u_37_40, u_37_40n, u_37_41, u_37_44, u_37_45, u_37_48, u_37_49, u_37_52, u_37_53, h1, not_true, not_false_eq_true, if_true, if_false]
theorem s_looks (hN : NS sh R n) (hN' : NS sh R n') (hx : isN I n x) (hy : isN I n' y) (hL : x.2.2.2.length ≤ 6) : cl (d + 2) 38 [.inr (.inl n), .inr (.inl n')] (sh, I, R) = some (some (.inl (if x.1 = y.1 ∧ x.2.1 = y.2.1 ∧ x.2.2.1.length = y.2.2.1.length ∧ x.2.2.2 = y.2.2.2 then 1 else 0)), (sh, I, R)) := by
  obtain ⟨t0, r0, r1, hF, t4, l4⟩ := id hN
  obtain ⟨s0, q0, q1, hG, s4, m4⟩ := id hN'
  have tF := hF.1
  have sF := hG.1
  obtain ⟨x1, x2, x3, x4, x5, x6⟩ := id hx
  obtain ⟨y1, y2, y3, y4, y5, y6⟩ := id hy
  rw [c_38]
  by_cases h1 : x.1 = y.1
  · by_cases h2 : x.2.1 = y.2.1
    · by_cases h3 : x.2.2.1.length = y.2.2.1.length
      · have h3' : (x.2.2.1.length : Int) = (y.2.2.1.length : Int) := by omega
        by_cases h4 : x.2.2.2 = y.2.2.2
        · rw [if_pos ⟨h1, h2, h3, h4⟩]
          simp (disch := first | assumption | omega | exact Nat.le_of_ble_eq_true rfl | decide) only [u_38_0, u_38_1, u_38_4, u_38_4n, u_38_5, u_38_8, u_38_11, u_38_12, u_38_15, u_38_15n, u_38_16, u_38_19, u_38_22, u_38_23, u_38_26, u_38_26n, u_38_27, u_38_30, u_38_33, u_38_34, u_38_37, u_38_37n, u_38_38, u_38_41, u_38_41n, u_38_44, u_38_47, u_38_48, u_38_51, u_38_52, x1, x2, x3, y1, y2, y3, h1, h2, h3', not_true, if_false, if_true, r0, q0, rv_some, s_same hF hG x5 y5 hL, h4, bnd_some, psh_some, Int.reduceEq]
        · rw [if_neg (fun q => h4 q.2.2.2)]
          simp (disch := first | assumption | omega | exact Nat.le_of_ble_eq_true rfl | decide) only [u_38_0, u_38_1, u_38_4, u_38_4n, u_38_5, u_38_8, u_38_11, u_38_12, u_38_15, u_38_15n, u_38_16, u_38_19, u_38_22, u_38_23, u_38_26, u_38_26n, u_38_27, u_38_30, u_38_33, u_38_34, u_38_37, u_38_37n, u_38_38, u_38_41, u_38_41n, u_38_44, u_38_47, u_38_48, u_38_51, u_38_52, x1, x2, x3, y1, y2, y3, h1, h2, h3', not_true, if_false, if_true, r0, q0, rv_some, s_same hF hG x5 y5 hL, h4, bnd_some, psh_some, Int.reduceEq]
      · have h3' : ¬ (x.2.2.1.length : Int) = (y.2.2.1.length : Int) := by omega
        rw [if_neg (fun q => h3 q.2.2.1)]
        simp (disch := first | assumption | omega | exact Nat.le_of_ble_eq_true rfl | decide) only [u_38_0, u_38_1, u_38_4, u_38_4n, u_38_5, u_38_8, u_38_11, u_38_12, u_38_15, u_38_15n, u_38_16, u_38_19, u_38_22, u_38_23, u_38_26, u_38_26n, u_38_27, u_38_30, u_38_33, u_38_34, u_38_37, u_38_37n, u_38_38, u_38_41, u_38_41n, u_38_44, u_38_47, u_38_48, u_38_51, u_38_52, x1, x2, x3, y1, y2, y3, h1, h2, h3', not_true, not_false_eq_true, if_false, if_true]
    · rw [if_neg (fun q => h2 q.2.1)]
      simp (disch := first | assumption | omega | exact Nat.le_of_ble_eq_true rfl | decide) only [u_38_0, u_38_1, u_38_4, u_38_4n, u_38_5, u_38_8, u_38_11, u_38_12, u_38_15, u_38_15n, u_38_16, u_38_19, u_38_22, u_38_23, u_38_26, u_38_26n, u_38_27, u_38_30, u_38_33, u_38_34, u_38_37, u_38_37n, u_38_38, u_38_41, u_38_41n, u_38_44, u_38_47, u_38_48, u_38_51, u_38_52, x1, x2, x3, y1, y2, y3, h1, h2, not_true, not_false_eq_true, if_false, if_true]
  · rw [if_neg (fun q => h1 q.1)]
    simp (disch := first | assumption | omega | exact Nat.le_of_ble_eq_true rfl | decide) only [u_38_0, u_38_1, u_38_4, u_38_4n, u_38_5, u_38_8, u_38_11, u_38_12, u_38_15, u_38_15n, u_38_16, u_38_19, u_38_22, u_38_23, u_38_26, u_38_26n, u_38_27, u_38_30, u_38_33, u_38_34, u_38_37, u_38_37n, u_38_38, u_38_41, u_38_41n, u_38_44, u_38_47, u_38_48, u_38_51, u_38_52, x1, y1, h1, not_true, not_false_eq_true, if_false, if_true]
def nref (rs : List Int) : Nat := (rs.filter (fun r => decide (¬ r = -1))).length
theorem nref_le (rs : List Int) : nref rs ≤ rs.length := List.length_filter_le _ _
theorem hmr_loop (hN : NS sh R n) (hx : isN I n x) (hr : x.2.2.1.length ≤ 6) : ∀ (k j : Nat), j + k = x.2.2.1.length → ev S0 d 39 4 [.inr (.inl n), .inl ((nref (x.2.2.1.take j) : Nat) : Int), .inl (j : Int)] [] (sh, I, R) = some (some (.inl ((nref x.2.2.1 : Nat) : Int)), (sh, I, R)) := by
  obtain ⟨t0, r0, r1, hF, t4, l4⟩ := id hN
  obtain ⟨x1, x2, x3, x4, x5, x6⟩ := id hx
  intro k
  induction k with
  | zero =>
    intro j hj
    have hc : (x.2.2.1.length : Int) ≤ (j : Int) := by omega
    rw [List.take_of_length_le (by omega)]
    simp (disch := first | assumption | omega | exact Nat.le_of_ble_eq_true rfl | decide) only [u_39_0, u_39_1, u_39_2, u_39_3, u_39_4, u_39_5, u_39_6, u_39_9, u_39_12, u_39_13, u_39_14, u_39_17, u_39_18, u_39_19, u_39_20, u_39_23, u_39_24, u_39_27, u_39_28, u_39_29, u_39_30, u_39_33, u_39_36, u_39_37, x3, hc, if_true]
  | succ k ih =>
    intro j hj
    have hjl : j < x.2.2.1.length := by omega
    have hc : ¬ (x.2.2.1.length : Int) ≤ (j : Int) := by omega
    have hle : nref (x.2.2.1.take j) ≤ 6 := by
      refine Nat.le_trans (nref_le _) ?_
      rw [List.length_take]; omega
    have hs : nref (x.2.2.1.take (j + 1)) = nref (x.2.2.1.take j) + (if ¬ x.2.2.1[j] = -1 then 1 else 0) := by
      unfold nref
      rw [List.take_succ_eq_append_getElem hjl, List.filter_append, List.length_append]
      congr 1
      by_cases hx : x.2.2.1[j] = -1
      · simp [hx]
      · simp [hx]
    have ih := ih (j + 1) (by omega)
    rw [u_39_4]
    by_cases hx : x.2.2.1[j] = -1
    · rw [if_neg (Classical.not_not.mpr hx)] at hs
      have hs : nref (x.2.2.1.take (j + 1)) = nref (x.2.2.1.take j) := hs
      rw [hs] at ih
      have hw : wr (((nref (x.2.2.1.take j) : Nat) : Int) + 0) = ((nref (x.2.2.1.take j) : Nat) : Int) := by rw [wr_id ⟨by omega, by omega⟩]; omega
      simp (disch := first | assumption | omega | exact Nat.le_of_ble_eq_true rfl | decide) only [u_39_0, u_39_1, u_39_2, u_39_3, u_39_5, u_39_6, u_39_9, u_39_12, u_39_13, u_39_14, u_39_17, u_39_18, u_39_19, u_39_20, u_39_23, u_39_24, u_39_27, u_39_28, u_39_29, u_39_30, u_39_33, u_39_36, u_39_37, x3, hc, if_false, if_true, r1, rv_some, l4, x4.at hjl, hx, not_true, hw, wrN, ih]
    · rw [if_pos hx] at hs
      rw [hs] at ih
      simp (disch := first | assumption | omega | exact Nat.le_of_ble_eq_true rfl | decide) only [u_39_0, u_39_1, u_39_2, u_39_3, u_39_5, u_39_6, u_39_9, u_39_12, u_39_13, u_39_14, u_39_17, u_39_18, u_39_19, u_39_20, u_39_23, u_39_24, u_39_27, u_39_28, u_39_29, u_39_30, u_39_33, u_39_36, u_39_37, x3, hc, if_false, if_true, r1, rv_some, l4, x4.at hjl, hx, not_false_eq_true, wrN, ih]
theorem s_hmr (hN : NS sh R n) (hx : isN I n x) (hr : x.2.2.1.length ≤ 6) : cl (d + 1) 39 [.inr (.inl n)] (sh, I, R) = some (some (.inl ((nref x.2.2.1 : Nat) : Int)), (sh, I, R)) := by
  rw [c_39, u_39_0, u_39_1, u_39_2, u_39_3]
  exact hmr_loop (d := d) hN hx hr x.2.2.1.length 0 (by omega)
end NODE
