/-! WORLD: objects, schemas, current versions -/
abbrev WD : Type := (Nat → ND) × (Nat → FL) × (Nat → Int)
def WS (sh : Shp) (R : RM) (B : Nat) : Prop := tg sh B = 7 ∧ R B 0 = some (B + 1) ∧ R B 1 = some (B + 2) ∧ R B 2 = some (B + 3) ∧ tg sh (B + 1) = 203 ∧ ln sh (B + 1) = 30 ∧ tg sh (B + 2) = 201 ∧ ln sh (B + 2) = 9 ∧ tg sh (B + 3) = 100 ∧ ln sh (B + 3) = 4 ∧
  (∀ i : Nat, i < 30 → R (B + 1) i = some (B + 4 + 5 * i) ∧ NS sh R (B + 4 + 5 * i)) ∧ ∀ j : Nat, j < 9 → R (B + 2) j = some (B + 154 + 3 * j) ∧ FS sh R (B + 154 + 3 * j)
def isW (I : IM) (B : Nat) (w : WD) : Prop := (∀ i : Nat, i < 30 → isN I (B + 4 + 5 * i) (w.1 i)) ∧ (∀ j : Nat, j < 9 → isF I (B + 154 + 3 * j) (w.2.1 j) ∧ I (B + 154 + 3 * j) 0 = 4) ∧ ∀ k : Nat, 1 ≤ k → k ≤ 3 → I (B + 3) k = w.2.2 k
/-- what is always so of a world -/
def okN (w : WD) (x : ND) : Prop := 0 ≤ x.1 ∧ x.1 ≤ 4 ∧ (x.1 = 0 → x.2.2.1 = [] ∧ x.2.2.2 = []) ∧ (x.1 = 1 → x.2.2.1.length = 0) ∧ (x.1 = 2 → x.2.2.1.length = 2) ∧ (x.1 = 3 → x.2.2.1.length = 3) ∧ (x.1 = 4 → x.2.2.2 = []) ∧ x.2.2.1.length ≤ 6 ∧ x.2.2.2.length ≤ 6 ∧ 0 ≤ x.2.1 ∧ x.2.1 ≤ 3 ∧
  (∀ r ∈ x.2.2.1, r = -1 ∨ ∃ i : Nat, r = (i : Int) ∧ i < 30 ∧ (w.1 i).1 ≠ 0) ∧ (∀ p ∈ x.2.2.2, 97 ≤ p.1 ∧ p.1 ≤ 104 ∧ -99 ≤ p.2 ∧ p.2 ≤ 99)
def okW (w : WD) : Prop := (∀ i : Nat, i < 30 → okN w (w.1 i)) ∧ (∀ j : Nat, j < 9 → (w.2.1 j).length ≤ 4 ∧ ∀ p ∈ w.2.1 j, 97 ≤ p.1 ∧ p.1 ≤ 104 ∧ -99 ≤ p.2 ∧ p.2 ≤ 99) ∧ ∀ k : Nat, 1 ≤ k → k ≤ 3 → 1 ≤ w.2.2 k ∧ w.2.2 k ≤ 3
def FrW (B : Nat) (I I' : IM) : Prop := ∀ k, k < B ∨ B + 180 < k → I' k = I k
def setN (w : WD) (i : Nat) (x : ND) : WD := (fun j => if j = i then x else w.1 j, w.2)
/-- the least number that none has -/
def frees (w : WD) : Nat → Nat → Int
  | 0, _ => -1
  | k + 1, j => if (w.1 j).1 = 0 then (j : Int) else frees w k (j + 1)
def freeW (w : WD) : Int := frees w 30 0
theorem frees_spec (w : WD) : ∀ (k j : Nat), frees w k j = -1 ∧ (∀ i, j ≤ i → i < j + k → (w.1 i).1 ≠ 0) ∨ ∃ i : Nat, frees w k j = (i : Int) ∧ j ≤ i ∧ i < j + k ∧ (w.1 i).1 = 0 ∧ ∀ i', j ≤ i' → i' < i → (w.1 i').1 ≠ 0
  | 0, j => Or.inl ⟨rfl, fun i h1 h2 => by omega⟩
  | k + 1, j => by
    unfold frees
    by_cases h : (w.1 j).1 = 0
    · rw [if_pos h]
      exact Or.inr ⟨j, rfl, Nat.le_refl _, by omega, h, fun i' a b => by omega⟩
    · rw [if_neg h]
      rcases frees_spec w k (j + 1) with ⟨h1, h2⟩ | ⟨i, h1, h2, h3, h4, h5⟩
      · refine Or.inl ⟨h1, fun i a b => ?_⟩
        by_cases hi : i = j
        · subst hi; exact h
        · exact h2 i (by omega) (by omega)
      · refine Or.inr ⟨i, h1, by omega, by omega, h4, fun i' a b => ?_⟩
        by_cases hi : i' = j
        · subst hi; exact h
        · exact h5 i' (by omega) b
theorem freeW_spec (w : WD) : freeW w = -1 ∧ (∀ i, i < 30 → (w.1 i).1 ≠ 0) ∨ ∃ i : Nat, freeW w = (i : Int) ∧ i < 30 ∧ (w.1 i).1 = 0 ∧ ∀ i', i' < i → (w.1 i').1 ≠ 0 := by
  rcases frees_spec w 30 0 with ⟨h1, h2⟩ | ⟨i, h1, h2, h3, h4, h5⟩
  · exact Or.inl ⟨h1, fun i a => h2 i (by omega) (by omega)⟩
  · exact Or.inr ⟨i, h1, by omega, h4, fun i' a => h5 i' (by omega) a⟩
theorem isW_setN {I I' : IM} {B i : Nat} {w : WD} {x : ND} (h : isW I B w) (hi : i < 30) (hx : isN I' (B + 4 + 5 * i) x) (hf : FrN (B + 4 + 5 * i) I I') : isW I' B (setN w i x) := by
  refine ⟨fun j hj => ?_, fun j hj => ⟨?_, ?_⟩, fun k a b => ?_⟩
  · by_cases hji : j = i
    · subst hji
      simp only [setN, if_true]
      exact hx
    · simp only [setN, if_neg hji]
      exact (h.1 j hj).fr hf (by omega)
  · exact (h.2.1 j hj).1.cong (hf _ (by omega)) (hf _ (by omega)) (hf _ (by omega))
  · rw [hf _ (by omega)]; exact (h.2.1 j hj).2
  · rw [hf _ (by omega)]; exact h.2.2 k a b
theorem FrN.W {B i : Nat} {I I' : IM} (hi : i < 30) (h : FrN (B + 4 + 5 * i) I I') : FrW B I I' := fun k hk => h k (by omega)
section WORLD
variable {sh : Shp} {R : RM} {I : IM} {B d : Nat} {w : WD}
theorem s_atL (hS : WS sh R B) (h : isW I B w) {i : Nat} (hi : i < 30) (hk : (w.1 i).1 ≠ 0) : cl (d + 1) 68 [.inr (.inl B), .inl (i : Int)] (sh, I, R) = some (some (.inr (.inl (B + 4 + 5 * i))), (sh, I, R)) := by
  obtain ⟨t0, r0, r1, r2, t1, l1, t2, l2, t3, l3, hn, hs⟩ := hS
  have hT : 200 ≤ tg sh (B + 1) ∧ tg sh (B + 1) < 210 := by rw [t1]; decide
  obtain ⟨n1, n2⟩ := hn i hi
  have tn := n2.1
  have h1 : ¬ ((i : Int) < 0) := by omega
  have h2 : ¬ ((30 : Int) ≤ (i : Int)) := by omega
  rw [c_68]
  simp (disch := first | assumption | omega | exact Nat.le_of_ble_eq_true rfl | decide) only [u_68_0, u_68_1, u_68_4, u_68_5, u_68_7, u_68_10, u_68_11, u_68_14, u_68_15, u_68_16, u_68_19, u_68_22, u_68_23, u_68_23n, u_68_24, u_68_25, u_68_28, u_68_29, u_68_30, u_68_30n, h1, h2, if_false, if_true, r0, rv_some, n1, (h.1 i hi).1, hk, not_false_eq_true]
/-- there is an object of that number -/
def live (w : WD) (z : Int) : Prop := 0 ≤ z ∧ z < 30 ∧ (w.1 z.toNat).1 ≠ 0
theorem live_nat {w : WD} {z : Int} (h : live w z) : ∃ i : Nat, z = (i : Int) ∧ i < 30 ∧ (w.1 i).1 ≠ 0 := ⟨z.toNat, by have := h.1; omega, by have := h.1; have := h.2.1; omega, h.2.2⟩
theorem s_atN (hS : WS sh R B) (h : isW I B w) {z : Int} (hz : ¬ live w z) : cl (d + 1) 68 [.inr (.inl B), .inl z] (sh, I, R) = some (some (.inr (.inr 0)), (sh, I, R)) := by
  obtain ⟨t0, r0, r1, r2, t1, l1, t2, l2, t3, l3, hn, hs⟩ := hS
  have hT : 200 ≤ tg sh (B + 1) ∧ tg sh (B + 1) < 210 := by rw [t1]; decide
  rw [c_68]
  by_cases h1 : z < 0
  · simp (disch := first | assumption | omega | exact Nat.le_of_ble_eq_true rfl | decide) only [u_68_0, u_68_1, u_68_4, u_68_5, u_68_7, u_68_10, u_68_11, u_68_14, u_68_15, u_68_16, u_68_19, u_68_22, u_68_23, u_68_23n, u_68_24, u_68_25, u_68_28, u_68_29, u_68_30, u_68_30n, h1, if_true]
  · by_cases h2 : 30 ≤ z
    · simp (disch := first | assumption | omega | exact Nat.le_of_ble_eq_true rfl | decide) only [u_68_0, u_68_1, u_68_4, u_68_5, u_68_7, u_68_10, u_68_11, u_68_14, u_68_15, u_68_16, u_68_19, u_68_22, u_68_23, u_68_23n, u_68_24, u_68_25, u_68_28, u_68_29, u_68_30, u_68_30n, h1, h2, if_true, if_false]
    · obtain ⟨i, rfl⟩ : ∃ i : Nat, z = (i : Int) := ⟨z.toNat, by omega⟩
      have hi : i < 30 := by omega
      obtain ⟨n1, n2⟩ := hn i hi
      have tn := n2.1
      have hk : (w.1 i).1 = 0 := Classical.byContradiction (fun q => hz ⟨by omega, by omega, q⟩)
      simp (disch := first | assumption | omega | exact Nat.le_of_ble_eq_true rfl | decide) only [u_68_0, u_68_1, u_68_4, u_68_5, u_68_7, u_68_10, u_68_11, u_68_14, u_68_15, u_68_16, u_68_19, u_68_22, u_68_23, u_68_23n, u_68_24, u_68_25, u_68_28, u_68_29, u_68_30, u_68_30n, h1, h2, if_false, r0, rv_some, n1, (h.1 i hi).1, hk, not_true]
theorem s_schemaOf (hS : WS sh R B) {k v : Nat} (hk1 : 1 ≤ k) (hk2 : k ≤ 3) (hv1 : 1 ≤ v) (hv2 : v ≤ 3) : cl (d + 2) 69 [.inr (.inl B), .inl (k : Int), .inl (v : Int)] (sh, I, R) = some (some (.inr (.inl (B + 154 + 3 * (3 * (k - 1) + v - 1)))), (sh, I, R)) := by
  obtain ⟨t0, r0, r1, r2, t1, l1, t2, l2, t3, l3, hn, hs⟩ := hS
  have hT : 200 ≤ tg sh (B + 2) ∧ tg sh (B + 2) < 210 := by rw [t2]; decide
  have hc : (1 : Int) ≤ (k : Int) ∧ (k : Int) ≤ 3 := by omega
  have h1 : ¬ ((v : Int) < 1) := by omega
  have h2 : (v : Int) ≤ 3 := by omega
  have e1 : wr ((k : Int) - 1) = (k : Int) - 1 := wr_id ⟨by omega, by omega⟩
  have e2 : wr (((k : Int) - 1) * 3) = ((k : Int) - 1) * 3 := wr_id ⟨by omega, by omega⟩
  have e3 : wr (((k : Int) - 1) * 3 + (v : Int)) = ((k : Int) - 1) * 3 + (v : Int) := wr_id ⟨by omega, by omega⟩
  have e4 : wr (((k : Int) - 1) * 3 + (v : Int) - 1) = ((3 * (k - 1) + v - 1 : Nat) : Int) := by rw [wr_id ⟨by omega, by omega⟩]; omega
  obtain ⟨n1, n2⟩ := hs (3 * (k - 1) + v - 1) (by omega)
  rw [c_69]
  simp (disch := first | assumption | omega | exact Nat.le_of_ble_eq_true rfl | decide) only [u_69_0, u_69_1, u_69_4, u_69_7, u_69_8, u_69_9, u_69_12, u_69_13, u_69_14, u_69_17, u_69_18, u_69_18n, u_69_19, u_69_20, u_69_23, u_69_24, u_69_25, u_69_26, u_69_27, u_69_28, u_69_29, u_69_30, u_69_31, u_69_32, u_69_33, u_69_33n, s_hasSch, bnd_some, psh_some, hc, h1, h2, and_self, if_true, if_false, Int.reduceEq, r1, rv_some, e1, e2, e3, e4, n1]
theorem s_schemaN (hS : WS sh R B) {k v : Int} (hn : ¬ ((1 ≤ k ∧ k ≤ 3) ∧ 1 ≤ v ∧ v ≤ 3)) : cl (d + 2) 69 [.inr (.inl B), .inl k, .inl v] (sh, I, R) = some (some (.inr (.inr 0)), (sh, I, R)) := by
  have t0 := hS.1
  rw [c_69]
  by_cases hc : 1 ≤ k ∧ k ≤ 3
  · by_cases h1 : v < 1
    · simp (disch := first | assumption | omega | exact Nat.le_of_ble_eq_true rfl | decide) only [u_69_0, u_69_1, u_69_4, u_69_7, u_69_8, u_69_9, u_69_12, u_69_13, u_69_14, u_69_17, u_69_18, u_69_18n, u_69_19, u_69_20, u_69_23, u_69_24, u_69_25, u_69_26, u_69_27, u_69_28, u_69_29, u_69_30, u_69_31, u_69_32, u_69_33, u_69_33n, s_hasSch, bnd_some, psh_some, hc, h1, and_self, if_true, if_false, Int.reduceEq]
    · have h2 : ¬ v ≤ 3 := by omega
      simp (disch := first | assumption | omega | exact Nat.le_of_ble_eq_true rfl | decide) only [u_69_0, u_69_1, u_69_4, u_69_7, u_69_8, u_69_9, u_69_12, u_69_13, u_69_14, u_69_17, u_69_18, u_69_18n, u_69_19, u_69_20, u_69_23, u_69_24, u_69_25, u_69_26, u_69_27, u_69_28, u_69_29, u_69_30, u_69_31, u_69_32, u_69_33, u_69_33n, s_hasSch, bnd_some, psh_some, hc, h1, h2, and_self, if_true, if_false, Int.reduceEq]
  · simp (disch := first | assumption | omega | exact Nat.le_of_ble_eq_true rfl | decide) only [u_69_0, u_69_1, u_69_4, u_69_7, u_69_8, u_69_9, u_69_12, u_69_13, u_69_14, u_69_17, u_69_18, u_69_18n, u_69_19, u_69_20, u_69_23, u_69_24, u_69_25, u_69_26, u_69_27, u_69_28, u_69_29, u_69_30, u_69_31, u_69_32, u_69_33, u_69_33n, s_hasSch, bnd_some, psh_some, hc, if_true, if_false]
/-- which schema is the current one of a kind -/
def curS (w : WD) (k : Nat) : Nat := 3 * (k - 1) + (w.2.2 k).toNat - 1
theorem s_curS (hS : WS sh R B) (h : isW I B w) (hw : okW w) {k : Nat} (hk1 : 1 ≤ k) (hk2 : k ≤ 3) : cl (d + 3) 70 [.inr (.inl B), .inl (k : Int)] (sh, I, R) = some (some (.inr (.inl (B + 154 + 3 * curS w k))), (sh, I, R)) ∧ curS w k < 9 := by
  obtain ⟨t0, r0, r1, r2, t1, l1, t2, l2, t3, l3, hn, hs⟩ := id hS
  have hc : (1 : Int) ≤ (k : Int) ∧ (k : Int) ≤ 3 := by omega
  have hv := hw.2.2 k hk1 hk2
  obtain ⟨v, hve⟩ : ∃ v : Nat, w.2.2 k = (v : Int) := ⟨(w.2.2 k).toNat, by omega⟩
  have hr : I (B + 3) (k : Int) = (v : Int) := (h.2.2 k hk1 hk2).trans hve
  have hcs : curS w k = 3 * (k - 1) + v - 1 := by unfold curS; rw [hve]; simp
  refine ⟨?_, by rw [hcs]; omega⟩
  rw [c_70, hcs]
  simp (disch := first | assumption | omega | exact Nat.le_of_ble_eq_true rfl | decide) only [u_70_0, u_70_1, u_70_4, u_70_7, u_70_8, u_70_9, u_70_10, u_70_13, u_70_14, u_70_15, u_70_18, u_70_21, u_70_22, u_70_22n, s_hasSch, bnd_some, psh_some, hc, and_self, if_true, if_false, Int.reduceEq, r2, rv_some, hr, s_schemaOf hS hk1 hk2 (by omega : 1 ≤ v) (by omega : v ≤ 3)]
theorem s_curN (hS : WS sh R B) {k : Int} (hk : ¬ (1 ≤ k ∧ k ≤ 3)) : cl (d + 2) 70 [.inr (.inl B), .inl k] (sh, I, R) = some (some (.inr (.inr 0)), (sh, I, R)) := by
  have t0 := hS.1
  rw [c_70]
  simp (disch := first | assumption | omega | exact Nat.le_of_ble_eq_true rfl | decide) only [u_70_0, u_70_1, u_70_4, u_70_7, u_70_8, u_70_9, u_70_10, u_70_13, u_70_14, u_70_15, u_70_18, u_70_21, u_70_22, u_70_22n, s_hasSch, bnd_some, psh_some, hk, if_true, if_false]
theorem free_loop (hS : WS sh R B) (h : isW I B w) : ∀ (k j : Nat), j + k = 30 → ev S0 d 71 2 [.inr (.inl B), .inl (j : Int)] [] (sh, I, R) = some (some (.inl (frees w k j)), (sh, I, R)) := by
  obtain ⟨t0, r0, r1, r2, t1, l1, t2, l2, t3, l3, hn, hs⟩ := hS
  have hT : 200 ≤ tg sh (B + 1) ∧ tg sh (B + 1) < 210 := by rw [t1]; decide
  intro k
  induction k with
  | zero =>
    intro j hj
    have hc : (30 : Int) ≤ (j : Int) := by omega
    simp (disch := first | assumption | omega | exact Nat.le_of_ble_eq_true rfl | decide) only [u_71_0, u_71_1, u_71_2, u_71_3, u_71_5, u_71_8, u_71_9, u_71_12, u_71_13, u_71_14, u_71_17, u_71_20, u_71_21, u_71_22, u_71_25, u_71_28, u_71_29, hc, if_true]
    rfl
  | succ k ih =>
    intro j hj
    have hc : ¬ (30 : Int) ≤ (j : Int) := by omega
    obtain ⟨n1, n2⟩ := hn j (by omega)
    have tn := n2.1
    rw [u_71_2]
    unfold frees
    by_cases hk : (w.1 j).1 = 0
    · simp (disch := first | assumption | omega | exact Nat.le_of_ble_eq_true rfl | decide) only [u_71_0, u_71_1, u_71_3, u_71_5, u_71_8, u_71_9, u_71_12, u_71_13, u_71_14, u_71_17, u_71_20, u_71_21, u_71_22, u_71_25, u_71_28, u_71_29, hc, if_false, r0, rv_some, n1, (h.1 j (by omega)).1, hk, not_true, if_true]
    · simp (disch := first | assumption | omega | exact Nat.le_of_ble_eq_true rfl | decide) only [u_71_0, u_71_1, u_71_3, u_71_5, u_71_8, u_71_9, u_71_12, u_71_13, u_71_14, u_71_17, u_71_20, u_71_21, u_71_22, u_71_25, u_71_28, u_71_29, hc, if_false, r0, rv_some, n1, (h.1 j (by omega)).1, hk, not_false_eq_true, if_true, wrN, ih (j + 1) (by omega)]
theorem s_free (hS : WS sh R B) (h : isW I B w) : cl (d + 1) 71 [.inr (.inl B)] (sh, I, R) = some (some (.inl (freeW w)), (sh, I, R)) := by
  rw [c_71, u_71_0, u_71_1]
  exact free_loop (d := d) hS h 30 0 (by omega)
theorem s_isFullW (hS : WS sh R B) (h : isW I B w) : cl (d + 2) 72 [.inr (.inl B)] (sh, I, R) = some (some (.inl (if freeW w = -1 then 1 else 0)), (sh, I, R)) := by
  have t0 := hS.1
  rw [c_72]
  by_cases hf : freeW w = -1
  · simp (disch := first | assumption | omega | exact Nat.le_of_ble_eq_true rfl | decide) only [u_72_0, u_72_1, u_72_4, u_72_5, u_72_8, u_72_9, u_72_12, u_72_13, s_free hS h, bnd_some, psh_some, hf, not_true, if_true, if_false]
  · simp (disch := first | assumption | omega | exact Nat.le_of_ble_eq_true rfl | decide) only [u_72_0, u_72_1, u_72_4, u_72_5, u_72_8, u_72_9, u_72_12, u_72_13, s_free hS h, bnd_some, psh_some, hf, not_false_eq_true, if_true, if_false]
theorem s_make (hS : WS sh R B) (h : isW I B w) {kd hd : Int} {len i : Nat} (hl : len ≤ 6) (hf : freeW w = (i : Int)) (hi : i < 30) : ∃ I', cl (d + 3) 73 [.inr (.inl B), .inl kd, .inl hd, .inl (len : Int)] (sh, I, R) = some (some (.inl (i : Int)), (sh, I', R)) ∧ isW I' B (setN w i (kd, hd, List.replicate len (-1), [])) ∧ FrW B I I' := by
  obtain ⟨t0, r0, r1, r2, t1, l1, t2, l2, t3, l3, hn, hs⟩ := id hS
  have hT : 200 ≤ tg sh (B + 1) ∧ tg sh (B + 1) < 210 := by rw [t1]; decide
  obtain ⟨n1, n2⟩ := hn i hi
  have tn := n2.1
  have hne : ¬ ((i : Int) = -1) := by omega
  obtain ⟨I', g1, g2, g3⟩ := s_become (d := d) (I := I) n2 (kd := kd) (hd := hd) hl (h.1 i hi).2.2.2.2.2
  refine ⟨I', ?_, isW_setN h hi g2 g3, g3.W hi⟩
  rw [c_73]
  simp (disch := first | assumption | omega | exact Nat.le_of_ble_eq_true rfl | decide) only [u_73_0, u_73_1, u_73_4, u_73_6, u_73_8, u_73_9, u_73_12, u_73_13, u_73_16, u_73_18, u_73_19, u_73_20, u_73_21, u_73_22, u_73_25, u_73_27, s_free hS h, bnd_some, psh_some, psh_none, hf, hne, if_false, r0, rv_some, n1, g1]
theorem s_makeSame (hS : WS sh R B) (h : isW I B w) (hw : okW w) {i o : Nat} (hf : freeW w = (i : Int)) (hi : i < 30) (ho : o < 30) (hk : (w.1 o).1 ≠ 0) : ∃ I', cl (d + 5) 74 [.inr (.inl B), .inr (.inl (B + 4 + 5 * o))] (sh, I, R) = some (some (.inl (i : Int)), (sh, I', R)) ∧ isW I' B (setN w i (w.1 o)) ∧ FrW B I I' := by
  obtain ⟨t0, r0, r1, r2, t1, l1, t2, l2, t3, l3, hn, hs⟩ := id hS
  have hT : 200 ≤ tg sh (B + 1) ∧ tg sh (B + 1) < 210 := by rw [t1]; decide
  obtain ⟨n1, n2⟩ := hn i hi
  obtain ⟨m1, m2⟩ := hn o ho
  have tn := n2.1
  have hne : ¬ ((i : Int) = -1) := by omega
  have hok := hw.1 o ho
  have hio : i ≠ o := by
    intro q
    subst q
    rcases freeW_spec w with ⟨q1, -⟩ | ⟨i2, q1, q2, q3, -⟩
    · omega
    · obtain rfl : i2 = i := by omega
      exact hk q3
  obtain ⟨I', g1, g2, g3⟩ := s_takeN (d := d) (I := I) n2 m2 (by omega) (h.1 o ho) hok.2.2.2.2.2.2.2.2.1 hok.2.2.2.2.2.2.2.1 (h.1 i hi).2.2.2.2.2
  refine ⟨I', ?_, isW_setN h hi g2 g3, g3.W hi⟩
  rw [c_74]
  simp (disch := first | assumption | omega | exact Nat.le_of_ble_eq_true rfl | decide) only [u_74_0, u_74_1, u_74_4, u_74_5, u_74_6, u_74_7, u_74_10, u_74_10n, u_74_11, u_74_11n, u_74_14, u_74_15, u_74_18, u_74_19, u_74_20, u_74_20n, u_74_21, u_74_21n, u_74_24, u_74_25, s_free hS h, bnd_some, psh_some, psh_none, hf, hne, if_false, r0, rv_some, n1, g1]
theorem s_drop (hS : WS sh R B) (h : isW I B w) {i : Nat} (hi : i < 30) : ∃ I', cl (d + 3) 75 [.inr (.inl B), .inl (i : Int)] (sh, I, R) = some (none, (sh, I', R)) ∧ isW I' B (setN w i (0, 0, [], [])) ∧ FrW B I I' := by
  obtain ⟨t0, r0, r1, r2, t1, l1, t2, l2, t3, l3, hn, hs⟩ := id hS
  have hT : 200 ≤ tg sh (B + 1) ∧ tg sh (B + 1) < 210 := by rw [t1]; decide
  obtain ⟨n1, n2⟩ := hn i hi
  have tn := n2.1
  have h1 : ¬ ((i : Int) < 0) := by omega
  have h2 : ¬ ((30 : Int) ≤ (i : Int)) := by omega
  obtain ⟨I', g1, g2, g3⟩ := s_become (d := d) (I := I) n2 (kd := 0) (hd := 0) (len := 0) (by omega) (h.1 i hi).2.2.2.2.2
  refine ⟨I', ?_, isW_setN h hi g2 g3, g3.W hi⟩
  rw [c_75]
  have g1 : cl (d + 2) 34 [.inr (.inl (B + 4 + 5 * i)), .inl 0, .inl 0, .inl 0] (sh, I, R) = some (none, (sh, I', R)) := g1
  simp (disch := first | assumption | omega | exact Nat.le_of_ble_eq_true rfl | decide) only [u_75_0, u_75_1, u_75_4, u_75_5, u_75_7, u_75_10, u_75_11, u_75_14, u_75_15, u_75_16, u_75_17, u_75_18, u_75_19, u_75_22, h1, h2, bnd_some, psh_some, psh_none, if_false, r0, rv_some, n1, g1]
end WORLD
