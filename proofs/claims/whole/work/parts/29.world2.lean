/-! WORLD: defaults, counts, a whole world taken over -/
def sumN (f : Nat → Nat) : Nat → Nat
  | 0 => 0
  | n + 1 => sumN f n + f n
theorem sumN_le {f : Nat → Nat} {c : Nat} : ∀ n, (∀ i, i < n → f i ≤ c) → sumN f n ≤ c * n
  | 0, _ => Nat.zero_le _
  | n + 1, h => by
    have h1 := sumN_le n (fun i hi => h i (by omega))
    have h2 := h n (by omega)
    show sumN f n + f n ≤ c * (n + 1)
    rw [Nat.mul_add]
    omega
theorem sumN_congr {f g : Nat → Nat} : ∀ n, (∀ i, i < n → f i = g i) → sumN f n = sumN g n
  | 0, _ => rfl
  | n + 1, h => by
    show sumN f n + f n = sumN g n + g n
    rw [sumN_congr n (fun i hi => h i (by omega)), h n (by omega)]
theorem wrA {a b : Nat} (h : a + b < 2000000000) : wr ((a : Int) + (b : Int)) = ((a + b : Nat) : Int) := by
  rw [wr_id ⟨by omega, by omega⟩]; omega
theorem wrS {a b : Nat} (h : b ≤ a) (h2 : a < 2000000000) : wr ((a : Int) - (b : Int)) = ((a - b : Nat) : Int) := by
  rw [wr_id ⟨by omega, by omega⟩]; omega
def defs (w : WD) (x : ND) : ND := (x.1, x.2.1, x.2.2.1, fmiss 6 x.2.2.2 (w.2.1 (curS w x.1.toNat)))
def cntK (w : WD) (k : Int) : Nat := sumN (fun i => if (w.1 i).1 = k then 1 else 0) 30
def cntF (w : WD) : Nat := sumN (fun i => (w.1 i).2.2.2.length) 30
def cntR (w : WD) : Nat := sumN (fun i => nref (w.1 i).2.2.1) 30
def cntS (w : WD) : Nat := sumN (fun j => (w.2.1 j).length) 9
section WORLD
variable {sh : Shp} {R : RM} {I : IM} {B B' d : Nat} {w w' : WD}
theorem s_addDef (hS : WS sh R B) (h : isW I B w) (hw : okW w) {i k : Nat} (hi : i < 30) (hk : (w.1 i).1 = (k : Int)) (hk1 : 1 ≤ k) (hk3 : k ≤ 3) : ∃ I', cl (d + 4) 76 [.inr (.inl B), .inr (.inl (B + 4 + 5 * i))] (sh, I, R) = some (none, (sh, I', R)) ∧ isW I' B (setN w i (defs w (w.1 i))) ∧ FrW B I I' := by
  obtain ⟨t0, r0, r1, r2, t1, l1, t2, l2, t3, l3, hn, hs⟩ := id hS
  obtain ⟨n1, n2⟩ := hn i hi
  obtain ⟨tn, rn0, rn1, hF, -⟩ := id n2
  have tF := hF.1
  obtain ⟨hc1, hc2⟩ := s_curS (d := d) hS h hw hk1 hk3
  obtain ⟨m1, m2⟩ := hs (curS w k) hc2
  obtain ⟨x1, x2, x3, x4, x5, x6⟩ := h.1 i hi
  have hok := hw.1 i hi
  have hsl := (hw.2.1 (curS w k) hc2).1
  obtain ⟨I', g1, g2, g3⟩ := s_addM (d := d) (I := I) (m := 6) hF m2 (by omega) x5 (h.2.1 (curS w k) hc2).1 x6 hok.2.2.2.2.2.2.2.2.1 (by omega) (by omega)
  have hfr : FrN (B + 4 + 5 * i) I I' := fun q hq => g3.1 q (by omega) (by omega) (by omega)
  refine ⟨I', ?_, isW_setN h hi ⟨?_, ?_, ?_, ?_, ?_, ?_⟩ hfr, hfr.W hi⟩
  · rw [c_76]
    simp (disch := first | assumption | omega | exact Nat.le_of_ble_eq_true rfl | decide) only [u_76_0, u_76_1, u_76_1n, u_76_2, u_76_5, u_76_8, u_76_8n, u_76_9, u_76_9n, u_76_10, u_76_10n, u_76_13, u_76_13n, u_76_14, u_76_17, u_76_17n, u_76_18, u_76_18n, u_76_21, x1, hk, hc1, bnd_some, psh_some, psh_none, rn0, rv_some, g1]
  · rw [g3.1 _ (by omega) (by omega) (by omega)]; exact x1
  · rw [g3.1 _ (by omega) (by omega) (by omega)]; exact x2
  · rw [g3.1 _ (by omega) (by omega) (by omega)]; exact x3
  · intro j r hr
    rw [g3.1 _ (by omega) (by omega) (by omega)]; exact x4 j r hr
  · unfold defs
    dsimp only
    rw [hk, Int.toNat_natCast]
    exact g2
  · rw [g3.2]; exact x6
theorem s_kept (hS : WS sh R B) (h : isW I B w) (hw : okW w) {i k : Nat} (hi : i < 30) (hk : (w.1 i).1 = (k : Int)) (hk1 : 1 ≤ k) (hk3 : k ≤ 3) : cl (d + 4) 77 [.inr (.inl B), .inr (.inl (B + 4 + 5 * i))] (sh, I, R) = some (some (.inl ((fbes (w.1 i).2.2.2 (w.2.1 (curS w k)) : Nat) : Int)), (sh, I, R)) := by
  obtain ⟨t0, r0, r1, r2, t1, l1, t2, l2, t3, l3, hn, hs⟩ := id hS
  obtain ⟨n1, n2⟩ := hn i hi
  obtain ⟨tn, rn0, rn1, hF, -⟩ := id n2
  have tF := hF.1
  obtain ⟨hc1, hc2⟩ := s_curS (d := d) hS h hw hk1 hk3
  obtain ⟨m1, m2⟩ := hs (curS w k) hc2
  obtain ⟨x1, x2, x3, x4, x5, x6⟩ := h.1 i hi
  have hok := hw.1 i hi
  have hsl := (hw.2.1 (curS w k) hc2).1
  rw [c_77]
  simp (disch := first | assumption | omega | exact Nat.le_of_ble_eq_true rfl | decide) only [u_77_0, u_77_1, u_77_1n, u_77_2, u_77_5, u_77_8, u_77_8n, u_77_9, u_77_9n, u_77_10, u_77_10n, u_77_13, u_77_14, u_77_17, u_77_17n, u_77_18, u_77_21, u_77_21n, u_77_22, u_77_22n, u_77_25, x1, hk, hc1, bnd_some, psh_some, psh_none, rn0, rv_some, s_bes hF m2 x5 (h.2.1 (curS w k) hc2).1 hok.2.2.2.2.2.2.2.2.1 (by omega : (w.2.1 (curS w k)).length ≤ 6)]
theorem s_keptR (hS : WS sh R B) (h : isW I B w) {i : Nat} (hi : i < 30) (hk : (w.1 i).1 = 4) : cl (d + 3) 77 [.inr (.inl B), .inr (.inl (B + 4 + 5 * i))] (sh, I, R) = some (some (.inl 0), (sh, I, R)) := by
  obtain ⟨t0, r0, r1, r2, t1, l1, t2, l2, t3, l3, hn, hs⟩ := id hS
  obtain ⟨n1, n2⟩ := hn i hi
  obtain ⟨tn, rn0, rn1, hF, -⟩ := id n2
  obtain ⟨x1, x2, x3, x4, x5, x6⟩ := h.1 i hi
  rw [c_77]
  simp (disch := first | assumption | omega | exact Nat.le_of_ble_eq_true rfl | decide) only [u_77_0, u_77_1, u_77_1n, u_77_2, u_77_5, u_77_8, u_77_8n, u_77_9, u_77_9n, u_77_10, u_77_10n, u_77_13, u_77_14, u_77_17, u_77_17n, u_77_18, u_77_21, u_77_21n, u_77_22, u_77_22n, u_77_25, x1, hk, s_curN hS (k := 4) (by decide), bnd_some, psh_some]
theorem hmo_loop (hS : WS sh R B) (h : isW I B w) {kk : Int} : ∀ (k j : Nat), j + k = 30 → ev S0 d 78 4 [.inr (.inl B), .inl kk, .inl ((sumN (fun i => if (w.1 i).1 = kk then 1 else 0) j : Nat) : Int), .inl (j : Int)] [] (sh, I, R) = some (some (.inl ((cntK w kk : Nat) : Int)), (sh, I, R)) := by
  obtain ⟨t0, r0, r1, r2, t1, l1, t2, l2, t3, l3, hn, hs⟩ := hS
  have hT : 200 ≤ tg sh (B + 1) ∧ tg sh (B + 1) < 210 := by rw [t1]; decide
  intro k
  induction k with
  | zero =>
    intro j hj
    obtain rfl : j = 30 := by omega
    have hc : (30 : Int) ≤ ((30 : Nat) : Int) := by omega
    simp (disch := first | assumption | omega | exact Nat.le_of_ble_eq_true rfl | decide) only [u_78_0, u_78_1, u_78_2, u_78_3, u_78_4, u_78_5, u_78_7, u_78_10, u_78_11, u_78_12, u_78_15, u_78_16, u_78_17, u_78_20, u_78_21, u_78_24, u_78_25, u_78_28, u_78_29, u_78_30, u_78_31, u_78_34, u_78_37, u_78_38, hc, if_true]
    rfl
  | succ k ih =>
    intro j hj
    have hc : ¬ (30 : Int) ≤ (j : Int) := by omega
    obtain ⟨n1, n2⟩ := hn j (by omega)
    have tn := n2.1
    have hle : sumN (fun i => if (w.1 i).1 = kk then 1 else 0) j ≤ 1 * j := sumN_le j (fun i hi => by split <;> omega)
    have ih := ih (j + 1) (by omega)
    rw [u_78_4]
    by_cases hk : (w.1 j).1 = kk
    · have e : sumN (fun i => if (w.1 i).1 = kk then 1 else 0) (j + 1) = sumN (fun i => if (w.1 i).1 = kk then 1 else 0) j + 1 := by
        show _ + (if (w.1 j).1 = kk then 1 else 0) = _
        rw [if_pos hk]
      rw [e] at ih
      simp (disch := first | assumption | omega | exact Nat.le_of_ble_eq_true rfl | decide) only [u_78_0, u_78_1, u_78_2, u_78_3, u_78_5, u_78_7, u_78_10, u_78_11, u_78_12, u_78_15, u_78_16, u_78_17, u_78_20, u_78_21, u_78_24, u_78_25, u_78_28, u_78_29, u_78_30, u_78_31, u_78_34, u_78_37, u_78_38, hc, if_false, r0, rv_some, n1, (h.1 j (by omega)).1, hk, not_true, wrN, ih]
    · have e : sumN (fun i => if (w.1 i).1 = kk then 1 else 0) (j + 1) = sumN (fun i => if (w.1 i).1 = kk then 1 else 0) j := by
        show _ + (if (w.1 j).1 = kk then 1 else 0) = _
        rw [if_neg hk]
        rfl
      rw [e] at ih
      have hw0 : wr (((sumN (fun i => if (w.1 i).1 = kk then 1 else 0) j : Nat) : Int) + 0) = ((sumN (fun i => if (w.1 i).1 = kk then 1 else 0) j : Nat) : Int) := by rw [wr_id ⟨by omega, by omega⟩]; omega
      simp (disch := first | assumption | omega | exact Nat.le_of_ble_eq_true rfl | decide) only [u_78_0, u_78_1, u_78_2, u_78_3, u_78_5, u_78_7, u_78_10, u_78_11, u_78_12, u_78_15, u_78_16, u_78_17, u_78_20, u_78_21, u_78_24, u_78_25, u_78_28, u_78_29, u_78_30, u_78_31, u_78_34, u_78_37, u_78_38, hc, if_false, if_true, r0, rv_some, n1, (h.1 j (by omega)).1, hk, not_false_eq_true, hw0, wrN, ih]
theorem s_hmo (hS : WS sh R B) (h : isW I B w) {kk : Int} : cl (d + 1) 78 [.inr (.inl B), .inl kk] (sh, I, R) = some (some (.inl ((cntK w kk : Nat) : Int)), (sh, I, R)) := by
  rw [c_78, u_78_0, u_78_1, u_78_2, u_78_3]
  exact hmo_loop (d := d) hS h 30 0 (by omega)
theorem cntK_le (w : WD) (k : Int) : cntK w k ≤ 30 := by
  have := sumN_le (f := fun i => if (w.1 i).1 = k then 1 else 0) (c := 1) 30 (fun i hi => by split <;> omega)
  unfold cntK
  omega
theorem s_howMany (hS : WS sh R B) (h : isW I B w) : cl (d + 2) 79 [.inr (.inl B)] (sh, I, R) = some (some (.inl ((30 - cntK w 0 : Nat) : Int)), (sh, I, R)) := by
  have t0 := hS.1
  have hle := cntK_le w 0
  have hw0 : wr (30 - ((cntK w 0 : Nat) : Int)) = ((30 - cntK w 0 : Nat) : Int) := by rw [wr_id ⟨by omega, by omega⟩]; omega
  rw [c_79]
  simp (disch := first | assumption | omega | exact Nat.le_of_ble_eq_true rfl | decide) only [u_79_0, u_79_2, u_79_3, u_79_4, u_79_7, u_79_8, s_hmo hS h, bnd_some, psh_some, hw0]
theorem hmf_loop (hS : WS sh R B) (h : isW I B w) (hw : okW w) : ∀ (k j : Nat), j + k = 30 → ev S0 d 80 4 [.inr (.inl B), .inl ((sumN (fun i => (w.1 i).2.2.2.length) j : Nat) : Int), .inl (j : Int)] [] (sh, I, R) = some (some (.inl ((cntF w : Nat) : Int)), (sh, I, R)) := by
  obtain ⟨t0, r0, r1, r2, t1, l1, t2, l2, t3, l3, hn, hs⟩ := hS
  have hT : 200 ≤ tg sh (B + 1) ∧ tg sh (B + 1) < 210 := by rw [t1]; decide
  intro k
  induction k with
  | zero =>
    intro j hj
    obtain rfl : j = 30 := by omega
    have hc : (30 : Int) ≤ ((30 : Nat) : Int) := by omega
    simp (disch := first | assumption | omega | exact Nat.le_of_ble_eq_true rfl | decide) only [u_80_0, u_80_1, u_80_2, u_80_3, u_80_4, u_80_5, u_80_7, u_80_10, u_80_11, u_80_12, u_80_15, u_80_16, u_80_17, u_80_20, u_80_23, u_80_24, u_80_25, u_80_28, u_80_31, u_80_32, hc, if_true]
    rfl
  | succ k ih =>
    intro j hj
    have hc : ¬ (30 : Int) ≤ (j : Int) := by omega
    obtain ⟨n1, n2⟩ := hn j (by omega)
    obtain ⟨tn, rn0, rn1, hF, -⟩ := id n2
    have tF := hF.1
    have hle : sumN (fun i => (w.1 i).2.2.2.length) j ≤ 6 * j := sumN_le j (fun i hi => (hw.1 i (by omega)).2.2.2.2.2.2.2.2.1)
    have hlj := (hw.1 j (by omega)).2.2.2.2.2.2.2.2.1
    have ih := ih (j + 1) (by omega)
    have e : sumN (fun i => (w.1 i).2.2.2.length) (j + 1) = sumN (fun i => (w.1 i).2.2.2.length) j + (w.1 j).2.2.2.length := rfl
    rw [e] at ih
    rw [u_80_4]
    simp (disch := first | assumption | omega | exact Nat.le_of_ble_eq_true rfl | decide) only [u_80_0, u_80_1, u_80_2, u_80_3, u_80_5, u_80_7, u_80_10, u_80_11, u_80_12, u_80_15, u_80_16, u_80_17, u_80_20, u_80_23, u_80_24, u_80_25, u_80_28, u_80_31, u_80_32, hc, if_false, r0, rv_some, n1, rn0, (h.1 j (by omega)).2.2.2.2.1.1, wrA, wrN, ih]
theorem s_hmf (hS : WS sh R B) (h : isW I B w) (hw : okW w) : cl (d + 1) 80 [.inr (.inl B)] (sh, I, R) = some (some (.inl ((cntF w : Nat) : Int)), (sh, I, R)) := by
  rw [c_80, u_80_0, u_80_1, u_80_2, u_80_3]
  exact hmf_loop (d := d) hS h hw 30 0 (by omega)
theorem hmr2_loop (hS : WS sh R B) (h : isW I B w) (hw : okW w) : ∀ (k j : Nat), j + k = 30 → ev S0 (d + 1) 81 4 [.inr (.inl B), .inl ((sumN (fun i => nref (w.1 i).2.2.1) j : Nat) : Int), .inl (j : Int)] [] (sh, I, R) = some (some (.inl ((cntR w : Nat) : Int)), (sh, I, R)) := by
  obtain ⟨t0, r0, r1, r2, t1, l1, t2, l2, t3, l3, hn, hs⟩ := hS
  have hT : 200 ≤ tg sh (B + 1) ∧ tg sh (B + 1) < 210 := by rw [t1]; decide
  intro k
  induction k with
  | zero =>
    intro j hj
    obtain rfl : j = 30 := by omega
    have hc : (30 : Int) ≤ ((30 : Nat) : Int) := by omega
    simp (disch := first | assumption | omega | exact Nat.le_of_ble_eq_true rfl | decide) only [u_81_0, u_81_1, u_81_2, u_81_3, u_81_4, u_81_5, u_81_7, u_81_10, u_81_11, u_81_12, u_81_15, u_81_16, u_81_17, u_81_20, u_81_21, u_81_22, u_81_25, u_81_28, u_81_29, hc, if_true]
    rfl
  | succ k ih =>
    intro j hj
    have hc : ¬ (30 : Int) ≤ (j : Int) := by omega
    obtain ⟨n1, n2⟩ := hn j (by omega)
    have tn := n2.1
    have hle : sumN (fun i => nref (w.1 i).2.2.1) j ≤ 6 * j := sumN_le j (fun i hi => Nat.le_trans (nref_le _) (hw.1 i (by omega)).2.2.2.2.2.2.2.1)
    have hl6 := (hw.1 j (by omega)).2.2.2.2.2.2.2.1
    have hlj := nref_le (w.1 j).2.2.1
    have ih := ih (j + 1) (by omega)
    have e : sumN (fun i => nref (w.1 i).2.2.1) (j + 1) = sumN (fun i => nref (w.1 i).2.2.1) j + nref (w.1 j).2.2.1 := rfl
    rw [e] at ih
    rw [u_81_4]
    simp (disch := first | assumption | omega | exact Nat.le_of_ble_eq_true rfl | decide) only [u_81_0, u_81_1, u_81_2, u_81_3, u_81_5, u_81_7, u_81_10, u_81_11, u_81_12, u_81_15, u_81_16, u_81_17, u_81_20, u_81_21, u_81_22, u_81_25, u_81_28, u_81_29, hc, if_false, r0, rv_some, n1, s_hmr n2 (h.1 j (by omega)) hl6, bnd_some, psh_some, wrA, wrN, ih]
theorem s_hmr2 (hS : WS sh R B) (h : isW I B w) (hw : okW w) : cl (d + 2) 81 [.inr (.inl B)] (sh, I, R) = some (some (.inl ((cntR w : Nat) : Int)), (sh, I, R)) := by
  rw [c_81, u_81_0, u_81_1, u_81_2, u_81_3]
  exact hmr2_loop (d := d) hS h hw 30 0 (by omega)
theorem hmn_loop (hS : WS sh R B) (h : isW I B w) (hw : okW w) : ∀ (k j : Nat), j + k = 9 → ev S0 d 82 4 [.inr (.inl B), .inl ((sumN (fun j => (w.2.1 j).length) j : Nat) : Int), .inl (j : Int)] [] (sh, I, R) = some (some (.inl ((cntS w : Nat) : Int)), (sh, I, R)) := by
  obtain ⟨t0, r0, r1, r2, t1, l1, t2, l2, t3, l3, hn, hs⟩ := hS
  have hT : 200 ≤ tg sh (B + 2) ∧ tg sh (B + 2) < 210 := by rw [t2]; decide
  intro k
  induction k with
  | zero =>
    intro j hj
    obtain rfl : j = 9 := by omega
    have hc : (9 : Int) ≤ ((9 : Nat) : Int) := by omega
    simp (disch := first | assumption | omega | exact Nat.le_of_ble_eq_true rfl | decide) only [u_82_0, u_82_1, u_82_2, u_82_3, u_82_4, u_82_5, u_82_7, u_82_10, u_82_11, u_82_12, u_82_15, u_82_16, u_82_17, u_82_20, u_82_21, u_82_22, u_82_25, u_82_28, u_82_29, hc, if_true]
    rfl
  | succ k ih =>
    intro j hj
    have hc : ¬ (9 : Int) ≤ (j : Int) := by omega
    obtain ⟨n1, n2⟩ := hs j (by omega)
    have tn := n2.1
    have hle : sumN (fun j => (w.2.1 j).length) j ≤ 4 * j := sumN_le j (fun i hi => (hw.2.1 i (by omega)).1)
    have hlj := (hw.2.1 j (by omega)).1
    have ih := ih (j + 1) (by omega)
    have e : sumN (fun j => (w.2.1 j).length) (j + 1) = sumN (fun j => (w.2.1 j).length) j + (w.2.1 j).length := rfl
    rw [e] at ih
    rw [u_82_4]
    simp (disch := first | assumption | omega | exact Nat.le_of_ble_eq_true rfl | decide) only [u_82_0, u_82_1, u_82_2, u_82_3, u_82_5, u_82_7, u_82_10, u_82_11, u_82_12, u_82_15, u_82_16, u_82_17, u_82_20, u_82_21, u_82_22, u_82_25, u_82_28, u_82_29, hc, if_false, r1, rv_some, n1, (h.2.1 j (by omega)).1.1, wrA, wrN, ih]
theorem s_hmn (hS : WS sh R B) (h : isW I B w) (hw : okW w) : cl (d + 1) 82 [.inr (.inl B)] (sh, I, R) = some (some (.inl ((cntS w : Nat) : Int)), (sh, I, R)) := by
  rw [c_82, u_82_0, u_82_1, u_82_2, u_82_3]
  exact hmn_loop (d := d) hS h hw 9 0 (by omega)
theorem FrW.tr {I1 I2 : IM} (h1 : FrW B I I1) (h2 : FrW B I1 I2) : FrW B I I2 := fun k h => (h2 k h).trans (h1 k h)
theorem isW.fr {I1 : IM} (h : isW I B w) (h1 : FrW B' I I1) (hd : B + 180 < B' ∨ B' + 180 < B) : isW I1 B w := by
  refine ⟨fun i hi => (h.1 i hi).cong (fun k a b => h1 k (by omega)), fun j hj => ⟨(h.2.1 j hj).1.cong (h1 _ (by omega)) (h1 _ (by omega)) (h1 _ (by omega)), ?_⟩, fun k a b => ?_⟩
  · rw [h1 _ (by omega)]; exact (h.2.1 j hj).2
  · rw [h1 _ (by omega)]; exact h.2.2 k a b
def mixN (w' w : WD) (j : Nat) : WD := (fun i => if i < j then w'.1 i else w.1 i, w.2)
def mixS (w' w : WD) (j : Nat) : WD := (w'.1, fun i => if i < j then w'.2.1 i else w.2.1 i, w.2.2)
theorem isW_congr {w2 : WD} (h : isW I B w) (h1 : ∀ i, i < 30 → w.1 i = w2.1 i) (h2 : ∀ j, j < 9 → w.2.1 j = w2.2.1 j) (h3 : ∀ k, 1 ≤ k → k ≤ 3 → w.2.2 k = w2.2.2 k) : isW I B w2 :=
  ⟨fun i hi => by rw [← h1 i hi]; exact h.1 i hi, fun j hj => by rw [← h2 j hj]; exact h.2.1 j hj, fun k a b => by rw [← h3 k a b]; exact h.2.2 k a b⟩
theorem tw_loop1 (hS : WS sh R B) (hS' : WS sh R B') (hd : B + 180 < B' ∨ B' + 180 < B) (hw : okW w') : ∀ (k j : Nat) (I : IM), j + k = 30 → isW I B (mixN w' w j) → isW I B' w' → ∃ I', ev S0 (d + 4) 83 2 [.inr (.inl B), .inr (.inl B'), .inl (j : Int)] [] (sh, I, R) = ev S0 (d + 4) 83 29 [.inr (.inl B), .inr (.inl B'), .inl 30] [] (sh, I', R) ∧ isW I' B (mixN w' w 30) ∧ FrW B I I' := by
  obtain ⟨t0, r0, r1, r2, t1, l1, t2, l2, t3, l3, hn, hs⟩ := id hS
  obtain ⟨s0, q0, q1, q2, s1, m1, s2, m2, s3, m3, hn', hs'⟩ := id hS'
  have hT : 200 ≤ tg sh (B + 1) ∧ tg sh (B + 1) < 210 := by rw [t1]; decide
  have hT' : 200 ≤ tg sh (B' + 1) ∧ tg sh (B' + 1) < 210 := by rw [s1]; decide
  intro k
  induction k with
  | zero =>
    intro j I hj h h'
    obtain rfl : j = 30 := by omega
    have hc : (30 : Int) ≤ ((30 : Nat) : Int) := by omega
    refine ⟨I, ?_, h, fun _ _ => rfl⟩
    simp (disch := first | assumption | omega | exact Nat.le_of_ble_eq_true rfl | decide) only [u_83_2, u_83_3, u_83_5, hc, if_true]
    rfl
  | succ k ih =>
    intro j I hj h h'
    have hc : ¬ (30 : Int) ≤ (j : Int) := by omega
    have hj30 : j < 30 := by omega
    obtain ⟨n1, n2⟩ := hn j hj30
    obtain ⟨o1, o2⟩ := hn' j hj30
    have tn := n2.1
    have hok := hw.1 j hj30
    obtain ⟨I1, g1, g2, g3⟩ := s_takeN (d := d) (I := I) n2 o2 (by omega) (h'.1 j hj30) hok.2.2.2.2.2.2.2.2.1 hok.2.2.2.2.2.2.2.1 (h.1 j hj30).2.2.2.2.2
    obtain ⟨I', g4, g5, g6⟩ := ih (j + 1) I1 (by omega) (isW_congr (isW_setN h hj30 g2 g3) (fun i hi => by
      simp only [setN, mixN]
      by_cases hij : i = j
      · subst hij; simp
      · by_cases hlt : i < j
        · simp [hij, hlt, show i < j + 1 by omega]
        · simp [hij, hlt, show ¬ i < j + 1 by omega]) (fun _ _ => rfl) (fun _ _ _ => rfl)) (h'.fr (g3.W hj30) (by omega))
    refine ⟨I', ?_, g5, (g3.W hj30).tr g6⟩
    rw [u_83_2]
    simp (disch := first | assumption | omega | exact Nat.le_of_ble_eq_true rfl | decide) only [u_83_3, u_83_5, u_83_8, u_83_9, u_83_12, u_83_13, u_83_14, u_83_14n, u_83_15, u_83_18, u_83_19, u_83_20, u_83_20n, u_83_23, u_83_26, hc, if_false, r0, q0, rv_some, n1, o1, g1, bnd_some, psh_none, wrN, g4]
theorem tw_loop2 (hS : WS sh R B) (hS' : WS sh R B') (hd : B + 180 < B' ∨ B' + 180 < B) (hw : okW w') : ∀ (k j : Nat) (I : IM), j + k = 9 → isW I B (mixS w' w j) → isW I B' w' → ∃ I', ev S0 (d + 4) 83 31 [.inr (.inl B), .inr (.inl B'), .inl (j : Int)] [] (sh, I, R) = ev S0 (d + 4) 83 58 [.inr (.inl B), .inr (.inl B'), .inl 9] [] (sh, I', R) ∧ isW I' B (mixS w' w 9) ∧ FrW B I I' := by
  obtain ⟨t0, r0, r1, r2, t1, l1, t2, l2, t3, l3, hn, hs⟩ := id hS
  obtain ⟨s0, q0, q1, q2, s1, m1, s2, m2, s3, m3, hn', hs'⟩ := id hS'
  have hT : 200 ≤ tg sh (B + 2) ∧ tg sh (B + 2) < 210 := by rw [t2]; decide
  have hT' : 200 ≤ tg sh (B' + 2) ∧ tg sh (B' + 2) < 210 := by rw [s2]; decide
  intro k
  induction k with
  | zero =>
    intro j I hj h h'
    obtain rfl : j = 9 := by omega
    have hc : (9 : Int) ≤ ((9 : Nat) : Int) := by omega
    refine ⟨I, ?_, h, fun _ _ => rfl⟩
    simp (disch := first | assumption | omega | exact Nat.le_of_ble_eq_true rfl | decide) only [u_83_31, u_83_32, u_83_34, hc, if_true]
    rfl
  | succ k ih =>
    intro j I hj h h'
    have hc : ¬ (9 : Int) ≤ (j : Int) := by omega
    have hj9 : j < 9 := by omega
    obtain ⟨n1, n2⟩ := hs j hj9
    obtain ⟨o1, o2⟩ := hs' j hj9
    have tn := n2.1
    obtain ⟨I1, g1, g2, g3⟩ := s_takeF (d := d + 1) (I := I) (m := 4) n2 o2 (by omega) (h'.2.1 j hj9).1 (h.2.1 j hj9).2 (hw.2.1 j hj9).1 (by omega)
    have hfr : FrW B I I1 := fun q hq => g3.1 q (by omega) (by omega) (by omega)
    obtain ⟨I', g4, g5, g6⟩ := ih (j + 1) I1 (by omega) ⟨fun i hi => (h.1 i hi).cong (fun q a b => g3.1 q (by omega) (by omega) (by omega)), fun i hi => by
      by_cases hij : i = j
      · subst hij
        refine ⟨?_, by rw [g3.2]; exact (h.2.1 i hi).2⟩
        simp only [mixS, Nat.lt_succ_self, if_true]
        exact g2
      · refine ⟨?_, by rw [g3.1 _ (by omega) (by omega) (by omega)]; exact (h.2.1 i hi).2⟩
        have e : (mixS w' w (j + 1)).2.1 i = (mixS w' w j).2.1 i := by
          simp only [mixS]
          by_cases hlt : i < j
          · simp [hlt, show i < j + 1 by omega]
          · simp [hlt, show ¬ i < j + 1 by omega]
        rw [e]
        exact (h.2.1 i hi).1.cong (g3.1 _ (by omega) (by omega) (by omega)) (g3.1 _ (by omega) (by omega) (by omega)) (g3.1 _ (by omega) (by omega) (by omega)), fun q a b => by rw [g3.1 _ (by omega) (by omega) (by omega)]; exact h.2.2 q a b⟩ (h'.fr hfr (by omega))
    refine ⟨I', ?_, g5, hfr.tr g6⟩
    rw [u_83_31]
    simp (disch := first | assumption | omega | exact Nat.le_of_ble_eq_true rfl | decide) only [u_83_32, u_83_34, u_83_37, u_83_38, u_83_41, u_83_42, u_83_43, u_83_43n, u_83_44, u_83_47, u_83_48, u_83_49, u_83_49n, u_83_52, u_83_55, hc, if_false, r1, q1, rv_some, n1, o1, g1, bnd_some, psh_none, wrN, g4]
theorem s_takeW (hS : WS sh R B) (hS' : WS sh R B') (hd : B + 180 < B' ∨ B' + 180 < B) (h : isW I B w) (h' : isW I B' w') (hw : okW w') : ∃ I', cl (d + 5) 83 [.inr (.inl B), .inr (.inl B')] (sh, I, R) = some (none, (sh, I', R)) ∧ isW I' B w' ∧ FrW B I I' := by
  obtain ⟨t0, r0, r1, r2, t1, l1, t2, l2, t3, l3, hn, hs⟩ := id hS
  obtain ⟨s0, q0, q1, q2, s1, m1, s2, m2, s3, m3, hn', hs'⟩ := id hS'
  obtain ⟨I1, g1, g2, g3⟩ := tw_loop1 (d := d) (w := w) hS hS' hd hw 30 0 I (by omega) (isW_congr h (fun i hi => by simp [mixN]) (fun _ _ => rfl) (fun _ _ _ => rfl)) h'
  have h1' := h'.fr g3 (by omega)
  obtain ⟨I2, g4, g5, g6⟩ := tw_loop2 (d := d) (w := w) hS hS' hd hw 9 0 I1 (by omega) (isW_congr g2 (fun i hi => by simp [mixN, mixS, hi]) (fun j hj => by simp [mixN, mixS]) (fun _ _ _ => rfl)) h1'
  have h2' := h1'.fr g6 (by omega)
  refine ⟨cp I2 (B' + 3) 0 (B + 3) 0 4, ?_, ⟨fun i hi => ?_, fun j hj => ⟨?_, ?_⟩, fun k a b => ?_⟩, fun k hk => ?_⟩
  · rw [c_83, u_83_0, u_83_1]
    refine g1.trans ?_
    rw [u_83_29, u_83_30]
    refine g4.trans ?_
    have hcp : tg sh (B' + 3) = 100 ∧ tg sh (B + 3) = 100 ∧ B' + 3 ≠ B + 3 ∧ (0 : Int) ≤ 0 ∧ (0 : Int) ≤ 0 ∧ (0 : Int) ≤ 4 ∧ (0 : Int) + 4 ≤ (ln sh (B' + 3) : Int) ∧ (0 : Int) + 4 ≤ (ln sh (B + 3) : Int) ∧ ([] : List AV).length ≤ 8 := ⟨s3, t3, by omega, by decide, by decide, by decide, by rw [m3]; decide, by rw [l3]; decide, by decide⟩
    simp (disch := first | assumption | omega | exact Nat.le_of_ble_eq_true rfl | decide) only [u_83_58, u_83_58n, u_83_59, u_83_62, u_83_63, u_83_64, u_83_67, u_83_68, r2, q2, rv_some]
    rw [u_83_69 hcp, u_83_72]
  · have := g5.1 i hi
    exact this.cong (fun q a b => cp_ne (by omega))
  · have e : (mixS w' w 9).2.1 j = w'.2.1 j := by simp [mixS, hj]
    rw [← e]
    exact (g5.2.1 j hj).1.cong (cp_ne (by omega)) (cp_ne (by omega)) (cp_ne (by omega))
  · rw [cp_ne (by omega)]; exact (g5.2.1 j hj).2
  · have e : cp I2 (B' + 3) 0 (B + 3) 0 4 (B + 3) (k : Int) = I2 (B' + 3) (k : Int) := by
      unfold cp
      rw [if_pos ⟨rfl, by omega, by omega⟩]
      congr 1
      omega
    rw [e]
    exact h2'.2.2 k a b
  · rw [cp_ne (by omega), g6 k hk, g3 k hk]
end WORLD
