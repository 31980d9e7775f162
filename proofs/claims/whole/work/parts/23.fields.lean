/-! FIELDS: names with numbers, a list of pairs -/
abbrev FL : Type := List (Int × Int)
def FS (sh : Shp) (R : RM) (f : Nat) : Prop := tg sh f = 1 ∧ tg sh (f + 1) = 100 ∧ ln sh (f + 1) = 6 ∧ tg sh (f + 2) = 100 ∧ ln sh (f + 2) = 6 ∧ R f 1 = some (f + 1) ∧ R f 2 = some (f + 2)
def isF (I : IM) (f : Nat) (L : FL) : Prop := I f 3 = (L.length : Int) ∧ ∀ (j : Nat) (p : Int × Int), L[j]? = some p → I (f + 1) j = p.1 ∧ I (f + 2) j = p.2
/-- only this one's cells have changed, and not how many it may have -/
def FrF (f : Nat) (I I' : IM) : Prop := (∀ k, k ≠ f → k ≠ f + 1 → k ≠ f + 2 → I' k = I k) ∧ I' f 0 = I f 0
def fix : FL → Int → Nat → Int
  | [], _, _ => -1
  | p :: L, n, j => if p.1 = n then j else fix L n (j + 1)
def fidx (L : FL) (n : Int) : Int := fix L n 0
def fnum : FL → Int → Int
  | [], _ => -2000000000
  | p :: L, n => if p.1 = n then p.2 else fnum L n
theorem wrN {j : Nat} (h : j < 2000000000) : wr ((j : Int) + 1) = ((j + 1 : Nat) : Int) := by
  rw [wr_id ⟨by omega, by omega⟩]; omega
theorem fix_spec : ∀ (L : FL) (n : Int) (j : Nat), (fix L n j = -1 ∧ fnum L n = -2000000000 ∧ ∀ p ∈ L, p.1 ≠ n) ∨ ∃ (i : Nat) (p : Int × Int), fix L n j = ((j + i : Nat) : Int) ∧ L[i]? = some p ∧ p.1 = n ∧ fnum L n = p.2
  | [], n, j => Or.inl ⟨rfl, rfl, fun p hp => by cases hp⟩
  | p :: L, n, j => by
    by_cases h : p.1 = n
    · refine Or.inr ⟨0, p, ?_, rfl, h, ?_⟩
      · simp [fix, h]
      · simp [fnum, h]
    · rcases fix_spec L n (j + 1) with ⟨h1, h2, h3⟩ | ⟨i, q, h1, h2, h3, h4⟩
      · refine Or.inl ⟨?_, ?_, List.forall_mem_cons.mpr ⟨h, h3⟩⟩
        · simp [fix, h, h1]
        · simp [fnum, h, h2]
      · refine Or.inr ⟨i + 1, q, ?_, ?_, h3, ?_⟩
        · simp only [fix, if_neg h, h1]; omega
        · simpa using h2
        · simp [fnum, h, h4]
theorem fidx_spec (L : FL) (n : Int) : (fidx L n = -1 ∧ fnum L n = -2000000000 ∧ ∀ p ∈ L, p.1 ≠ n) ∨ ∃ (i : Nat) (p : Int × Int), fidx L n = (i : Int) ∧ i < L.length ∧ L[i]? = some p ∧ p.1 = n ∧ fnum L n = p.2 := by
  rcases fix_spec L n 0 with h | ⟨i, p, h1, h2, h3, h4⟩
  · exact Or.inl h
  · refine Or.inr ⟨i, p, ?_, (List.getElem?_eq_some_iff.mp h2).1, h2, h3, h4⟩
    rw [Nat.zero_add] at h1
    exact h1
theorem isF.at {I : IM} {f : Nat} {L : FL} (h : isF I f L) {j : Nat} (hj : j < L.length) : I (f + 1) j = (L[j]).1 ∧ I (f + 2) j = (L[j]).2 := h.2 j L[j] (List.getElem?_eq_getElem hj)
section FIELDS
variable {sh : Shp} {R : RM} {I : IM} {f d : Nat} {L : FL} {n v : Int}
theorem placeOf_loop (hF : FS sh R f) (h : isF I f L) (hL : L.length ≤ 6) : ∀ (k j : Nat), j + k = L.length → ev S0 d 5 2 [.inr (.inl f), .inl n, .inl (j : Int)] [] (sh, I, R) = some (some (.inl (fix (L.drop j) n j)), (sh, I, R)) := by
  obtain ⟨t0, t1, l1, t2, l2, r1, r2⟩ := hF
  intro k
  induction k with
  | zero =>
    intro j hj
    rw [u_5_2, u_5_3, u_5_4 t0, u_5_7, if_pos (by rw [h.1]; omega), u_5_28, u_5_29, List.drop_eq_nil_of_le (by omega)]
    rfl
  | succ k ih =>
    intro j hj
    have hjl : j < L.length := by omega
    rw [u_5_2, u_5_3, u_5_4 t0, u_5_7, if_neg (by rw [h.1]; omega), u_5_10, u_5_11 t0, r1, rv_some, u_5_14, u_5_15 t1 (by omega) (by rw [l1]; omega), u_5_16, u_5_17, (h.at hjl).1, List.drop_eq_getElem_cons hjl]
    by_cases hn : (L[j]).1 = n
    · rw [if_neg (Classical.not_not.mpr hn), u_5_20, u_5_21]
      simp [fix, hn]
    · rw [if_pos hn, u_5_22, u_5_25, wrN (by omega), ih (j + 1) (by omega)]
      simp [fix, hn]
theorem s_placeOf (hF : FS sh R f) (h : isF I f L) (hL : L.length ≤ 6) : cl (d + 1) 5 [.inr (.inl f), .inl n] (sh, I, R) = some (some (.inl (fidx L n)), (sh, I, R)) := by
  rw [c_5, u_5_0, u_5_1]
  exact placeOf_loop hF h hL L.length 0 (by omega)
theorem s_has (hF : FS sh R f) (h : isF I f L) (hL : L.length ≤ 6) : cl (d + 2) 6 [.inr (.inl f), .inl n] (sh, I, R) = some (some (.inl (if fidx L n = -1 then 0 else 1)), (sh, I, R)) := by
  have t0 := hF.1
  rw [c_6]
  by_cases hx : fidx L n = -1
  · simp (disch := first | assumption | omega | decide) only [u_6_0, u_6_1, u_6_2, u_6_5, u_6_6, u_6_9, u_6_10, u_6_13, u_6_14, s_placeOf hF h hL, bnd_some, psh_some, hx, if_true, List.length_nil]
  · simp (disch := first | assumption | omega | decide) only [u_6_0, u_6_1, u_6_2, u_6_5, u_6_6, u_6_9, u_6_10, u_6_13, u_6_14, s_placeOf hF h hL, bnd_some, psh_some, hx, if_false, List.length_nil]
theorem s_numberOf (hF : FS sh R f) (h : isF I f L) (hL : L.length ≤ 6) : cl (d + 2) 7 [.inr (.inl f), .inl n] (sh, I, R) = some (some (.inl (fnum L n)), (sh, I, R)) := by
  obtain ⟨t0, t1, l1, t2, l2, r1, r2⟩ := id hF
  rw [c_7]
  rcases fidx_spec L n with ⟨h1, h2, -⟩ | ⟨i, p, h1, hi, h2, h3, h4⟩
  · simp (disch := first | assumption | omega | decide) only [u_7_0, u_7_1, u_7_2, u_7_5, u_7_6, u_7_7, u_7_8, u_7_11, u_7_13, u_7_16, u_7_17, u_7_20, u_7_21, u_7_22, s_placeOf hF h hL, bnd_some, psh_some, h1, h2, not_true, if_false, List.length_nil]
  · have hne : ¬ ((i : Int) = -1) := by omega
    simp (disch := first | assumption | omega | decide) only [u_7_0, u_7_1, u_7_2, u_7_5, u_7_6, u_7_7, u_7_8, u_7_11, u_7_13, u_7_16, u_7_17, u_7_20, u_7_21, u_7_22, s_placeOf hF h hL, bnd_some, psh_some, h1, h4, hne, not_false_eq_true, if_true, List.length_nil, r2, rv_some, l2, (h.2 i p h2).2]
theorem s_isFull (hF : FS sh R f) (h : isF I f L) {m : Nat} (hm : I f 0 = m) : cl (d + 1) 8 [.inr (.inl f)] (sh, I, R) = some (some (.inl (if m ≤ L.length then 1 else 0)), (sh, I, R)) := by
  have t0 := hF.1
  rw [c_8]
  by_cases hx : m ≤ L.length
  · have hy : ¬ ((L.length : Int) < (m : Int)) := by omega
    simp (disch := first | assumption | omega | decide) only [u_8_0, u_8_1, u_8_4, u_8_5, u_8_8, u_8_11, u_8_12, u_8_15, u_8_16, h.1, hm, hx, hy, if_true, if_false]
  · have hy : ((L.length : Int) < (m : Int)) := by omega
    simp (disch := first | assumption | omega | decide) only [u_8_0, u_8_1, u_8_4, u_8_5, u_8_8, u_8_11, u_8_12, u_8_15, u_8_16, h.1, hm, hx, hy, if_true, if_false]
end FIELDS
