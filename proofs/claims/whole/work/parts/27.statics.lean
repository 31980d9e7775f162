/-! SMALL STATIC METHODS OF THE CLASS -/
section STATICS
variable {sh : Shp} {R : RM} {I : IM} {d : Nat} {k x : Int}
theorem s_isShelf : cl (d + 1) 121 [.inl k] (sh, I, R) = some (some (.inl (if 0 ≤ k ∧ k < 4 then 1 else 0)), (sh, I, R)) := by
  rw [c_121]
  by_cases h1 : k < 0
  · rw [if_neg (by omega)]; simp (disch := first | assumption | omega | exact Nat.le_of_ble_eq_true rfl | decide) only [u_121_0, u_121_1, u_121_4, u_121_5, u_121_6, u_121_9, u_121_10, u_121_13, u_121_14, h1, if_true, if_false]
  · by_cases h2 : 4 ≤ k
    · rw [if_neg (by omega)]; simp (disch := first | assumption | omega | exact Nat.le_of_ble_eq_true rfl | decide) only [u_121_0, u_121_1, u_121_4, u_121_5, u_121_6, u_121_9, u_121_10, u_121_13, u_121_14, h1, h2, if_true, if_false]
    · rw [if_pos (by omega)]; simp (disch := first | assumption | omega | exact Nat.le_of_ble_eq_true rfl | decide) only [u_121_0, u_121_1, u_121_4, u_121_5, u_121_6, u_121_9, u_121_10, u_121_13, u_121_14, h1, h2, if_true, if_false]
theorem s_isHandle : cl (d + 1) 122 [.inl k] (sh, I, R) = some (some (.inl (if 0 ≤ k ∧ k < 8 then 1 else 0)), (sh, I, R)) := by
  rw [c_122]
  by_cases h1 : k < 0
  · rw [if_neg (by omega)]; simp (disch := first | assumption | omega | exact Nat.le_of_ble_eq_true rfl | decide) only [u_122_0, u_122_1, u_122_4, u_122_5, u_122_7, u_122_10, u_122_11, u_122_14, u_122_15, h1, if_true, if_false]
  · by_cases h2 : 8 ≤ k
    · rw [if_neg (by omega)]; simp (disch := first | assumption | omega | exact Nat.le_of_ble_eq_true rfl | decide) only [u_122_0, u_122_1, u_122_4, u_122_5, u_122_7, u_122_10, u_122_11, u_122_14, u_122_15, h1, h2, if_true, if_false]
    · rw [if_pos (by omega)]; simp (disch := first | assumption | omega | exact Nat.le_of_ble_eq_true rfl | decide) only [u_122_0, u_122_1, u_122_4, u_122_5, u_122_7, u_122_10, u_122_11, u_122_14, u_122_15, h1, h2, if_true, if_false]
theorem s_isName : cl (d + 1) 123 [.inl k] (sh, I, R) = some (some (.inl (if 97 ≤ k ∧ k ≤ 104 then 1 else 0)), (sh, I, R)) := by
  rw [c_123]
  by_cases h1 : k < 97
  · rw [if_neg (by omega)]; simp (disch := first | assumption | omega | exact Nat.le_of_ble_eq_true rfl | decide) only [u_123_0, u_123_1, u_123_3, u_123_6, u_123_7, u_123_9, u_123_12, u_123_13, u_123_16, u_123_17, h1, if_true, if_false]
  · by_cases h2 : 104 < k
    · rw [if_neg (by omega)]; simp (disch := first | assumption | omega | exact Nat.le_of_ble_eq_true rfl | decide) only [u_123_0, u_123_1, u_123_3, u_123_6, u_123_7, u_123_9, u_123_12, u_123_13, u_123_16, u_123_17, h1, h2, if_true, if_false]
    · rw [if_pos (by omega)]; simp (disch := first | assumption | omega | exact Nat.le_of_ble_eq_true rfl | decide) only [u_123_0, u_123_1, u_123_3, u_123_6, u_123_7, u_123_9, u_123_12, u_123_13, u_123_16, u_123_17, h1, h2, if_true, if_false]
theorem s_isNumber : cl (d + 1) 124 [.inl k] (sh, I, R) = some (some (.inl (if -99 ≤ k ∧ k ≤ 99 then 1 else 0)), (sh, I, R)) := by
  rw [c_124]
  by_cases h1 : k < -99
  · rw [if_neg (by omega)]; simp (disch := first | assumption | omega | exact Nat.le_of_ble_eq_true rfl | decide) only [u_124_0, u_124_1, u_124_3, u_124_6, u_124_7, u_124_9, u_124_12, u_124_13, u_124_16, u_124_17, h1, if_true, if_false]
  · by_cases h2 : 99 < k
    · rw [if_neg (by omega)]; simp (disch := first | assumption | omega | exact Nat.le_of_ble_eq_true rfl | decide) only [u_124_0, u_124_1, u_124_3, u_124_6, u_124_7, u_124_9, u_124_12, u_124_13, u_124_16, u_124_17, h1, h2, if_true, if_false]
    · rw [if_pos (by omega)]; simp (disch := first | assumption | omega | exact Nat.le_of_ble_eq_true rfl | decide) only [u_124_0, u_124_1, u_124_3, u_124_6, u_124_7, u_124_9, u_124_12, u_124_13, u_124_16, u_124_17, h1, h2, if_true, if_false]
theorem s_hasSch : cl (d + 1) 125 [.inl k] (sh, I, R) = some (some (.inl (if 1 ≤ k ∧ k ≤ 3 then 1 else 0)), (sh, I, R)) := by
  rw [c_125]
  by_cases h1 : k < 1
  · rw [if_neg (by omega)]; simp (disch := first | assumption | omega | exact Nat.le_of_ble_eq_true rfl | decide) only [u_125_0, u_125_1, u_125_2, u_125_5, u_125_6, u_125_7, u_125_10, u_125_11, u_125_14, u_125_15, h1, if_true, if_false]
  · by_cases h2 : 3 < k
    · rw [if_neg (by omega)]; simp (disch := first | assumption | omega | exact Nat.le_of_ble_eq_true rfl | decide) only [u_125_0, u_125_1, u_125_2, u_125_5, u_125_6, u_125_7, u_125_10, u_125_11, u_125_14, u_125_15, h1, h2, if_true, if_false]
    · rw [if_pos (by omega)]; simp (disch := first | assumption | omega | exact Nat.le_of_ble_eq_true rfl | decide) only [u_125_0, u_125_1, u_125_2, u_125_5, u_125_6, u_125_7, u_125_10, u_125_11, u_125_14, u_125_15, h1, h2, if_true, if_false]
theorem s_refsOf : cl (d + 1) 126 [.inl k] (sh, I, R) = some (some (.inl (if k = 1 then 0 else k)), (sh, I, R)) := by
  rw [c_126]
  by_cases h1 : k = 1
  · simp (disch := first | assumption | omega | exact Nat.le_of_ble_eq_true rfl | decide) only [u_126_0, u_126_1, u_126_2, u_126_5, u_126_6, u_126_9, u_126_10, h1, not_true, if_true, if_false]
  · simp (disch := first | assumption | omega | exact Nat.le_of_ble_eq_true rfl | decide) only [u_126_0, u_126_1, u_126_2, u_126_5, u_126_6, u_126_9, u_126_10, h1, not_false_eq_true, if_true, if_false]
theorem s_orNot : cl (d + 1) 127 [.inl k] (sh, I, R) = some (some (.inl (if k = -1 then -2 else k)), (sh, I, R)) := by
  rw [c_127]
  by_cases h1 : k = -1
  · simp (disch := first | assumption | omega | exact Nat.le_of_ble_eq_true rfl | decide) only [u_127_0, u_127_1, u_127_2, u_127_5, u_127_7, u_127_10, u_127_11, h1, not_true, if_true, if_false]
  · simp (disch := first | assumption | omega | exact Nat.le_of_ble_eq_true rfl | decide) only [u_127_0, u_127_1, u_127_2, u_127_5, u_127_7, u_127_10, u_127_11, h1, not_false_eq_true, if_true, if_false]
end STATICS
