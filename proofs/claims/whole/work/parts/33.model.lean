/-! THE MODEL: its world in one row of numbers -/
def mFl (I : IM) (c i : Nat) (L : FL) : Prop := I c (90 + (i : Int)) = (L.length : Int) ∧ ∀ (j : Nat) (p : Int × Int), L[j]? = some p → I c (120 + 6 * (i : Int) + (j : Int)) = p.1 ∧ I c (300 + 6 * (i : Int) + (j : Int)) = p.2
def mRf (I : IM) (c i : Nat) (rs : List Int) : Prop := I c (60 + (i : Int)) = (rs.length : Int) ∧ ∀ (j : Nat) (r : Int), rs[j]? = some r → I c (480 + 6 * (i : Int) + (j : Int)) = r
def mSc (I : IM) (c s : Nat) (L : FL) : Prop := I c (660 + (s : Int)) = (L.length : Int) ∧ ∀ (j : Nat) (p : Int × Int), L[j]? = some p → I c (669 + 4 * (s : Int) + (j : Int)) = p.1 ∧ I c (705 + 4 * (s : Int) + (j : Int)) = p.2
def mN (I : IM) (c i : Nat) (x : ND) : Prop := I c (i : Int) = x.1 ∧ (x.1 ≠ 0 → I c (30 + (i : Int)) = x.2.1 ∧ mRf I c i x.2.2.1 ∧ mFl I c i x.2.2.2)
def isM (I : IM) (c : Nat) (w : WD) : Prop := (∀ i : Nat, i < 30 → mN I c i (w.1 i)) ∧ (∀ s : Nat, s < 9 → mSc I c s (w.2.1 s)) ∧ ∀ k : Nat, 1 ≤ k → k ≤ 3 → I c (740 + (k : Int)) = w.2.2 k
def nSlot (o : Nat) (z : Int) : Prop := z = (o : Int) ∨ z = 30 + (o : Int) ∨ z = 60 + (o : Int) ∨ z = 90 + (o : Int) ∨ (120 + 6 * (o : Int) ≤ z ∧ z < 126 + 6 * (o : Int)) ∨ (300 + 6 * (o : Int) ≤ z ∧ z < 306 + 6 * (o : Int)) ∨ (480 + 6 * (o : Int) ≤ z ∧ z < 486 + 6 * (o : Int))
theorem mFl.at {I : IM} {c i : Nat} {L : FL} (h : mFl I c i L) {j : Nat} (hj : j < L.length) : I c (120 + 6 * (i : Int) + (j : Int)) = (L[j]).1 ∧ I c (300 + 6 * (i : Int) + (j : Int)) = (L[j]).2 := h.2 j L[j] (List.getElem?_eq_getElem hj)
theorem mRf.at {I : IM} {c i : Nat} {rs : List Int} (h : mRf I c i rs) {j : Nat} (hj : j < rs.length) : I c (480 + 6 * (i : Int) + (j : Int)) = rs[j] := h.2 j rs[j] (List.getElem?_eq_getElem hj)
theorem mSc.at {I : IM} {c s : Nat} {L : FL} (h : mSc I c s L) {j : Nat} (hj : j < L.length) : I c (669 + 4 * (s : Int) + (j : Int)) = (L[j]).1 ∧ I c (705 + 4 * (s : Int) + (j : Int)) = (L[j]).2 := h.2 j L[j] (List.getElem?_eq_getElem hj)
theorem lenOf {α : Type} {l : List α} {j : Nat} {p : α} (h : l[j]? = some p) : j < l.length := (List.getElem?_eq_some_iff.mp h).1
theorem wrI {z : Int} (h1 : -2147483648 ≤ z) (h2 : z < 2147483648) : wr z = z := wr_id ⟨h1, h2⟩
theorem mN.cong {I I' : IM} {c i : Nat} {x : ND} (h : mN I c i x) (hr : x.2.2.1.length ≤ 6) (hL : x.2.2.2.length ≤ 6) (hf : ∀ z, nSlot i z → I' c z = I c z) : mN I' c i x := by
  refine ⟨?_, fun hk => ?_⟩
  · rw [hf _ (Or.inl rfl)]; exact h.1
  · obtain ⟨h1, h2, h3⟩ := h.2 hk
    refine ⟨?_, ⟨?_, fun j r hjr => ?_⟩, ⟨?_, fun j p hjp => ?_⟩⟩
    · rw [hf _ (by unfold nSlot; omega)]; exact h1
    · rw [hf _ (by unfold nSlot; omega)]; exact h2.1
    · have := lenOf hjr
      rw [hf _ (by unfold nSlot; omega)]; exact h2.2 j r hjr
    · rw [hf _ (by unfold nSlot; omega)]; exact h3.1
    · have := lenOf hjp
      rw [hf _ (by unfold nSlot; omega), hf _ (by unfold nSlot; omega)]; exact h3.2 j p hjp
theorem nSlot_apart {i o : Nat} {z : Int} (hi : i < 30) (ho : o < 30) (hne : i ≠ o) (h : nSlot i z) : ¬ nSlot o z := by
  unfold nSlot at h ⊢
  omega
theorem nSlot_lt {i : Nat} {z : Int} (hi : i < 30) (h : nSlot i z) : 0 ≤ z ∧ z < 660 := by
  unfold nSlot at h
  omega
theorem isM_setN {I I' : IM} {c o : Nat} {w : WD} {x : ND} (h : isM I c w) (hw : okW w) (ho : o < 30) (hx : mN I' c o x) (hf : ∀ z, ¬ nSlot o z → I' c z = I c z) : isM I' c (setN w o x) := by
  refine ⟨fun i hi => ?_, fun s hs => ⟨?_, fun j p hjp => ?_⟩, fun k a b => ?_⟩
  · by_cases hio : i = o
    · subst hio
      rw [setN_at]; exact hx
    · have e : (setN w o x).1 i = w.1 i := by simp [setN, hio]
      rw [e]
      have hok := hw.1 i hi
      exact (h.1 i hi).cong hok.2.2.2.2.2.2.2.1 hok.2.2.2.2.2.2.2.2.1 (fun z hz => hf z (nSlot_apart hi ho hio hz))
  · rw [hf _ (by unfold nSlot; omega)]; exact (h.2.1 s hs).1
  · have hl := lenOf hjp
    have hl4 : (w.2.1 s).length ≤ 4 := (hw.2.1 s hs).1
    have hl : j < (w.2.1 s).length := hl
    rw [hf _ (by unfold nSlot; omega), hf _ (by unfold nSlot; omega)]
    exact (h.2.1 s hs).2 j p hjp
  · rw [hf _ (by unfold nSlot; omega)]; exact h.2.2 k a b
def MS (sh : Shp) (R : RM) : Prop := tg sh 392 = 9 ∧ R 392 0 = some 393 ∧ tg sh 393 = 100 ∧ ln sh 393 = 744
section MODEL
variable {sh : Shp} {R : RM} {I : IM} {d : Nat} {w : WD} {k x y z v n : Int}
theorem m_in : cl (d + 1) 129 [.inl x, .inl y, .inl z] (sh, I, R) = some (some (.inl (if y ≤ x ∧ x ≤ z then 1 else 0)), (sh, I, R)) := by
  rw [c_129]
  by_cases h1 : x < y
  · rw [if_neg (by omega)]; simp (disch := first | assumption | omega | exact Nat.le_of_ble_eq_true rfl | decide) only [u_129_0, u_129_1, u_129_2, u_129_5, u_129_6, u_129_7, u_129_10, u_129_11, u_129_14, u_129_15, h1, if_true]
  · by_cases h2 : z < x
    · rw [if_neg (by omega)]; simp (disch := first | assumption | omega | exact Nat.le_of_ble_eq_true rfl | decide) only [u_129_0, u_129_1, u_129_2, u_129_5, u_129_6, u_129_7, u_129_10, u_129_11, u_129_14, u_129_15, h1, h2, if_true, if_false]
    · rw [if_pos (by omega)]; simp (disch := first | assumption | omega | exact Nat.le_of_ble_eq_true rfl | decide) only [u_129_0, u_129_1, u_129_2, u_129_5, u_129_6, u_129_7, u_129_10, u_129_11, u_129_14, u_129_15, h1, h2, if_false]
theorem if01 {c : Prop} (h : Decidable c) : ((if c then (1 : Int) else 0) = 0) ∨ ((if c then (1 : Int) else 0) = 1) := by
  split
  · exact Or.inr rfl
  · exact Or.inl rfl
theorem m_isName : cl (d + 2) 131 [.inl x] (sh, I, R) = some (some (.inl (if isNm x then 1 else 0)), (sh, I, R)) := by
  rw [c_131]
  by_cases h : isNm x
  · simp (disch := first | assumption | omega | exact Nat.le_of_ble_eq_true rfl | decide) only [u_131_0, u_131_1, u_131_3, u_131_5, u_131_8, m_in, if_pos h, bnd_some, psh_some]
  · simp (disch := first | assumption | omega | exact Nat.le_of_ble_eq_true rfl | decide) only [u_131_0, u_131_1, u_131_3, u_131_5, u_131_8, m_in, if_neg h, bnd_some, psh_some]
theorem m_isNumber : cl (d + 2) 132 [.inl x] (sh, I, R) = some (some (.inl (if isNu x then 1 else 0)), (sh, I, R)) := by
  rw [c_132]
  by_cases h : isNu x
  · simp (disch := first | assumption | omega | exact Nat.le_of_ble_eq_true rfl | decide) only [u_132_0, u_132_1, u_132_3, u_132_5, u_132_8, m_in, if_pos h, bnd_some, psh_some]
  · simp (disch := first | assumption | omega | exact Nat.le_of_ble_eq_true rfl | decide) only [u_132_0, u_132_1, u_132_3, u_132_5, u_132_8, m_in, if_neg h, bnd_some, psh_some]
theorem m_isSchema : cl (d + 2) 147 [.inl x, .inl y] (sh, I, R) = some (some (.inl (if inS x y then 1 else 0)), (sh, I, R)) := by
  rw [c_147]
  by_cases h1 : 1 ≤ x ∧ x ≤ 3
  · by_cases h2 : 1 ≤ y ∧ y ≤ 3
    · rw [if_pos ⟨h1, h2⟩]; simp (disch := first | assumption | omega | exact Nat.le_of_ble_eq_true rfl | decide) only [u_147_0, u_147_1, u_147_2, u_147_3, u_147_6, u_147_9, u_147_10, u_147_11, u_147_12, u_147_15, u_147_18, u_147_19, u_147_22, u_147_23, m_in, if_pos h1, if_pos h2, bnd_some, psh_some, Int.reduceEq, if_false]
    · rw [if_neg (fun q => h2 q.2)]; simp (disch := first | assumption | omega | exact Nat.le_of_ble_eq_true rfl | decide) only [u_147_0, u_147_1, u_147_2, u_147_3, u_147_6, u_147_9, u_147_10, u_147_11, u_147_12, u_147_15, u_147_18, u_147_19, u_147_22, u_147_23, m_in, if_pos h1, if_neg h2, bnd_some, psh_some, Int.reduceEq, if_false, if_true]
  · rw [if_neg (fun q => h1 q.1)]; simp (disch := first | assumption | omega | exact Nat.le_of_ble_eq_true rfl | decide) only [u_147_0, u_147_1, u_147_2, u_147_3, u_147_6, u_147_9, u_147_10, u_147_11, u_147_12, u_147_15, u_147_18, u_147_19, u_147_22, u_147_23, m_in, if_neg h1, bnd_some, psh_some, if_true]
theorem m_isObject (hM : MS sh R) (h : isM I 393 w) : cl (d + 2) 133 [.inr (.inl 392), .inl x] (sh, I, R) = some (some (.inl (if liv w x then 1 else 0)), (sh, I, R)) := by
  obtain ⟨t, r, tg_, lg⟩ := hM
  rw [c_133]
  by_cases h1 : 0 ≤ x ∧ x ≤ 29
  · obtain ⟨i, rfl⟩ : ∃ i : Nat, x = (i : Int) := ⟨x.toNat, by omega⟩
    have hi : i < 30 := by omega
    have hk := (h.1 i hi).1
    by_cases h2 : (w.1 i).1 = 0
    · rw [if_neg (fun q => by have := q.2.2; rw [Int.toNat_natCast] at this; exact this h2)]
      simp (disch := first | assumption | omega | exact Nat.le_of_ble_eq_true rfl | decide) only [u_133_0, u_133_1, u_133_2, u_133_4, u_133_7, u_133_10, u_133_11, u_133_14, u_133_15, u_133_16, u_133_17, u_133_18, u_133_21, u_133_22, u_133_25, u_133_26, m_in, if_pos h1, bnd_some, psh_some, Int.reduceEq, if_false, r, rv_some, wrI, Int.zero_add, hk, h2, if_true]
    · rw [if_pos (liv_of hi h2)]
      simp (disch := first | assumption | omega | exact Nat.le_of_ble_eq_true rfl | decide) only [u_133_0, u_133_1, u_133_2, u_133_4, u_133_7, u_133_10, u_133_11, u_133_14, u_133_15, u_133_16, u_133_17, u_133_18, u_133_21, u_133_22, u_133_25, u_133_26, m_in, if_pos h1, bnd_some, psh_some, Int.reduceEq, if_false, r, rv_some, wrI, Int.zero_add, hk, h2]
  · rw [if_neg (fun q => h1 ⟨q.1, by have := q.2.1; omega⟩)]
    simp (disch := first | assumption | omega | exact Nat.le_of_ble_eq_true rfl | decide) only [u_133_0, u_133_1, u_133_2, u_133_4, u_133_7, u_133_10, u_133_11, u_133_14, u_133_15, u_133_16, u_133_17, u_133_18, u_133_21, u_133_22, u_133_25, u_133_26, m_in, if_neg h1, bnd_some, psh_some, if_true]
theorem m_oon (hM : MS sh R) (h : isM I 393 w) : cl (d + 3) 134 [.inr (.inl 392), .inl x] (sh, I, R) = some (some (.inl (if livN w x then 1 else 0)), (sh, I, R)) := by
  have t := hM.1
  rw [c_134]
  by_cases h1 : x = -1
  · rw [if_pos (Or.inl h1)]; simp (disch := first | assumption | omega | exact Nat.le_of_ble_eq_true rfl | decide) only [u_134_0, u_134_1, u_134_2, u_134_5, u_134_6, u_134_7, u_134_10, u_134_13, u_134_14, u_134_17, u_134_18, h1, if_true]
  · by_cases h2 : liv w x
    · rw [if_pos (Or.inr h2)]; simp (disch := first | assumption | omega | exact Nat.le_of_ble_eq_true rfl | decide) only [u_134_0, u_134_1, u_134_2, u_134_5, u_134_6, u_134_7, u_134_10, u_134_13, u_134_14, u_134_17, u_134_18, h1, if_false, m_isObject hM h, if_pos h2, bnd_some, psh_some, Int.reduceEq]
    · rw [if_neg (fun q => q.elim h1 h2)]; simp (disch := first | assumption | omega | exact Nat.le_of_ble_eq_true rfl | decide) only [u_134_0, u_134_1, u_134_2, u_134_5, u_134_6, u_134_7, u_134_10, u_134_13, u_134_14, u_134_17, u_134_18, h1, if_false, m_isObject hM h, if_neg h2, bnd_some, psh_some, Int.reduceEq, if_true]
theorem m_refOf (hM : MS sh R) {o i : Nat} (ho : o < 30) (hi : i < 6) : cl (d + 1) 135 [.inr (.inl 392), .inl (o : Int), .inl (i : Int)] (sh, I, R) = some (some (.inl (I 393 (480 + 6 * (o : Int) + (i : Int)))), (sh, I, R)) := by
  obtain ⟨t, r, tg_, lg⟩ := hM
  rw [c_135]
  simp (disch := first | assumption | omega | exact Nat.le_of_ble_eq_true rfl | decide) only [u_135_0, u_135_1, u_135_4, u_135_7, u_135_9, u_135_10, u_135_11, u_135_12, u_135_13, u_135_14, u_135_15, r, rv_some, wrI]
def nT2 (x : Int) : Int := if x < 0 then -2 else x
theorem m_told : cl (d + 1) 136 [.inl x] (sh, I, R) = some (some (.inl (nT2 x)), (sh, I, R)) := by
  rw [c_136]
  unfold nT2
  by_cases h : 0 ≤ x
  · rw [if_neg (by omega)]; simp (disch := first | assumption | omega | exact Nat.le_of_ble_eq_true rfl | decide) only [u_136_0, u_136_1, u_136_4, u_136_6, u_136_9, u_136_10, h, if_true]
  · rw [if_pos (by omega)]; simp (disch := first | assumption | omega | exact Nat.le_of_ble_eq_true rfl | decide) only [u_136_0, u_136_1, u_136_4, u_136_6, u_136_9, u_136_10, h, if_false]
theorem many_loop (hM : MS sh R) (h : isM I 393 w) : ∀ (k j : Nat), j + k = 30 → ev S0 d 137 4 [.inr (.inl 392), .inl ((sumN (fun i => if ¬ (w.1 i).1 = 0 then 1 else 0) j : Nat) : Int), .inl (j : Int)] [] (sh, I, R) = some (some (.inl ((sumN (fun i => if ¬ (w.1 i).1 = 0 then 1 else 0) 30 : Nat) : Int)), (sh, I, R)) := by
  obtain ⟨t, r, tg_, lg⟩ := hM
  intro k
  induction k with
  | zero =>
    intro j hj
    obtain rfl : j = 30 := by omega
    have hc : (30 : Int) ≤ ((30 : Nat) : Int) := by omega
    simp (disch := first | assumption | omega | exact Nat.le_of_ble_eq_true rfl | decide) only [u_137_0, u_137_1, u_137_2, u_137_3, u_137_4, u_137_5, u_137_7, u_137_10, u_137_11, u_137_12, u_137_15, u_137_16, u_137_17, u_137_18, u_137_19, u_137_22, u_137_23, u_137_26, u_137_27, u_137_28, u_137_29, u_137_32, u_137_35, u_137_36, hc, if_true]
  | succ k ih =>
    intro j hj
    have hc : ¬ (30 : Int) ≤ (j : Int) := by omega
    have hk := (h.1 j (by omega)).1
    have hle : sumN (fun i => if ¬ (w.1 i).1 = 0 then 1 else 0) j ≤ 1 * j := sumN_le j (fun i hi => by split <;> omega)
    have ih := ih (j + 1) (by omega)
    rw [u_137_4]
    by_cases h0 : (w.1 j).1 = 0
    · have e : sumN (fun i => if ¬ (w.1 i).1 = 0 then 1 else 0) (j + 1) = sumN (fun i => if ¬ (w.1 i).1 = 0 then 1 else 0) j := by
        show _ + (if ¬ (w.1 j).1 = 0 then 1 else 0) = _
        rw [if_neg (Classical.not_not.mpr h0)]
        rfl
      rw [e] at ih
      have hw0 : wr (((sumN (fun i => if ¬ (w.1 i).1 = 0 then 1 else 0) j : Nat) : Int) + 0) = ((sumN (fun i => if ¬ (w.1 i).1 = 0 then 1 else 0) j : Nat) : Int) := by rw [wr_id ⟨by omega, by omega⟩]; omega
      have hj0 : wr (0 + (j : Int)) = (j : Int) := by rw [wr_id ⟨by omega, by omega⟩]; omega
      clear e
      simp (disch := first | assumption | omega | exact Nat.le_of_ble_eq_true rfl | decide) only [u_137_0, u_137_1, u_137_2, u_137_3, u_137_5, u_137_7, u_137_10, u_137_11, u_137_12, u_137_15, u_137_16, u_137_17, u_137_18, u_137_19, u_137_22, u_137_23, u_137_26, u_137_27, u_137_28, u_137_29, u_137_32, u_137_35, u_137_36, hc, if_false, r, rv_some, hj0, hk, h0, if_true, hw0, wrN, ih]
    · have e : sumN (fun i => if ¬ (w.1 i).1 = 0 then 1 else 0) (j + 1) = sumN (fun i => if ¬ (w.1 i).1 = 0 then 1 else 0) j + 1 := by
        show _ + (if ¬ (w.1 j).1 = 0 then 1 else 0) = _
        rw [if_pos h0]
      rw [e] at ih
      have hj0 : wr (0 + (j : Int)) = (j : Int) := by rw [wr_id ⟨by omega, by omega⟩]; omega
      simp (disch := first | assumption | omega | exact Nat.le_of_ble_eq_true rfl | decide) only [u_137_0, u_137_1, u_137_2, u_137_3, u_137_5, u_137_7, u_137_10, u_137_11, u_137_12, u_137_15, u_137_16, u_137_17, u_137_18, u_137_19, u_137_22, u_137_23, u_137_26, u_137_27, u_137_28, u_137_29, u_137_32, u_137_35, u_137_36, hc, if_false, r, rv_some, hj0, hk, h0, wrN, ih]
/-- how many objects there are -/
def manyW (w : WD) : Nat := sumN (fun i => if ¬ (w.1 i).1 = 0 then 1 else 0) 30
theorem many_cnt (w : WD) : ∀ n, sumN (fun i => if ¬ (w.1 i).1 = 0 then 1 else 0) n + sumN (fun i => if (w.1 i).1 = 0 then 1 else 0) n = n
  | 0 => rfl
  | n + 1 => by
    have := many_cnt w n
    show (_ + (if ¬ (w.1 n).1 = 0 then 1 else 0)) + (_ + (if (w.1 n).1 = 0 then 1 else 0)) = _
    by_cases h : (w.1 n).1 = 0
    · rw [if_neg (Classical.not_not.mpr h), if_pos h]; omega
    · rw [if_pos h, if_neg h]; omega
theorem manyW_eq (w : WD) : manyW w = 30 - cntK w 0 := by
  have := many_cnt w 30
  unfold manyW cntK
  omega
theorem manyW_full (w : WD) : manyW w = 30 ↔ freeW w = -1 := by
  have hall : ∀ n, sumN (fun i => if (w.1 i).1 = 0 then 1 else 0) n = 0 ↔ ∀ i, i < n → (w.1 i).1 ≠ 0 := by
    intro n
    induction n with
    | zero => exact ⟨fun _ i hi => by omega, fun _ => rfl⟩
    | succ n ih =>
      show _ + (if (w.1 n).1 = 0 then 1 else 0) = 0 ↔ _
      by_cases h : (w.1 n).1 = 0
      · rw [if_pos h]
        exact ⟨fun q => by omega, fun q => absurd h (q n (by omega))⟩
      · rw [if_neg h]
        constructor
        · intro q i hi
          by_cases hin : i = n
          · subst hin; exact h
          · exact ih.mp (by omega) i (by omega)
        · intro q
          have := ih.mpr (fun i hi => q i (by omega))
          omega
  have hc := many_cnt w 30
  have h30 := hall 30
  have hm : manyW w = 30 ↔ sumN (fun i => if (w.1 i).1 = 0 then 1 else 0) 30 = 0 := by unfold manyW; omega
  rw [hm, h30]
  rcases freeW_spec w with ⟨h1, h2⟩ | ⟨i, h1, h2, h3, -⟩
  · exact ⟨fun _ => h1, fun _ => h2⟩
  · exact ⟨fun q => absurd h3 (q i h2), fun q => by omega⟩
theorem m_many (hM : MS sh R) (h : isM I 393 w) : cl (d + 1) 137 [.inr (.inl 392)] (sh, I, R) = some (some (.inl ((manyW w : Nat) : Int)), (sh, I, R)) := by
  rw [c_137, u_137_0, u_137_1, u_137_2, u_137_3]
  exact many_loop (d := d) hM h 30 0 (by omega)
theorem mfree_loop (hM : MS sh R) (h : isM I 393 w) {i : Nat} (hi : i < 30) (h0 : (w.1 i).1 = 0) (hb : ∀ i', i' < i → (w.1 i').1 ≠ 0) : ∀ (k j : Nat), j + k = i → ev S0 d 138 2 [.inr (.inl 392), .inl (j : Int)] [] (sh, I, R) = some (some (.inl (i : Int)), (sh, I, R)) := by
  obtain ⟨t, r, tg_, lg⟩ := hM
  intro k
  induction k with
  | zero =>
    intro j hj
    obtain rfl : j = i := by omega
    have hc : ¬ (30 : Int) ≤ (j : Int) := by omega
    have hk := (h.1 j hi).1
    have hj0 : wr (0 + (j : Int)) = (j : Int) := by rw [wr_id ⟨by omega, by omega⟩]; omega
    simp (disch := first | assumption | omega | exact Nat.le_of_ble_eq_true rfl | decide) only [u_138_0, u_138_1, u_138_2, u_138_3, u_138_5, u_138_8, u_138_9, u_138_12, u_138_13, u_138_14, u_138_15, u_138_16, u_138_19, u_138_22, u_138_25, u_138_26, hc, if_false, r, rv_some, hj0, hk, h0, if_true]
  | succ k ih =>
    intro j hj
    have hc : ¬ (30 : Int) ≤ (j : Int) := by omega
    have hk := (h.1 j (by omega)).1
    have hne := hb j (by omega)
    have hj0 : wr (0 + (j : Int)) = (j : Int) := by rw [wr_id ⟨by omega, by omega⟩]; omega
    rw [u_138_2]
    simp (disch := first | assumption | omega | exact Nat.le_of_ble_eq_true rfl | decide) only [u_138_0, u_138_1, u_138_3, u_138_5, u_138_8, u_138_9, u_138_12, u_138_13, u_138_14, u_138_15, u_138_16, u_138_19, u_138_22, u_138_25, u_138_26, hc, if_false, r, rv_some, hj0, hk, hne, wrN, ih (j + 1) (by omega)]
theorem m_free (hM : MS sh R) (h : isM I 393 w) {i : Nat} (hf : freeW w = (i : Int)) : i < 30 ∧ cl (d + 1) 138 [.inr (.inl 392)] (sh, I, R) = some (some (.inl (i : Int)), (sh, I, R)) := by
  rcases freeW_spec w with ⟨h1, h2⟩ | ⟨i', h1, h2, h3, h4⟩
  · omega
  · obtain rfl : i' = i := by omega
    refine ⟨h2, ?_⟩
    rw [c_138, u_138_0, u_138_1]
    exact mfree_loop (d := d) hM h h2 h3 h4 i' 0 (by omega)
end MODEL
