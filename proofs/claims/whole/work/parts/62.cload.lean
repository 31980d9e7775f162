/-! THE CLASS: load -/
def LdR (sh : Shp) (R : RM) (q : Nat) : Prop := LdS sh R ∧ WS sh R 1 ∧ R 373 5 = some (384 + 2 * q) ∧ SgS sh R (384 + 2 * q) ∧ q < 4
def ldM (I : IM) (m : List Int) : Prop := I 373 4 = (m.length : Int) ∧ ∀ (j : Nat) (x : Int), m[j]? = some x → I 380 (j : Int) = x
def ldI (I : IM) (t : List Int) (q a : Nat) (m : List Int) : Prop := I 373 6 = (a : Int) ∧ ldM I m ∧ isSg I (384 + 2 * q) t ∧ I 377 0 = 6
def FrG (I I' : IM) : Prop := (∀ k, k < 373 ∨ 379 < k → I' k = I k) ∧ (∀ z, z ≠ 6 → I' 373 z = I 373 z) ∧ I' 377 0 = I 377 0
def Fr3c (I I' : IM) : Prop := I' 374 = I 374 ∧ I' 375 = I 375 ∧ I' 376 = I 376
def FrD (I I' : IM) : Prop := (∀ k, k < 1 ∨ (181 < k ∧ k < 373) ∨ 380 < k → I' k = I k) ∧ I' 377 0 = I 377 0
theorem FrG.rf {I : IM} : FrG I I := ⟨fun _ _ => rfl, fun _ _ => rfl, rfl⟩
theorem FrG.tr {I I1 I2 : IM} (h1 : FrG I I1) (h2 : FrG I1 I2) : FrG I I2 := ⟨fun k a => (h2.1 k a).trans (h1.1 k a), fun z a => (h2.2.1 z a).trans (h1.2.1 z a), h2.2.2.trans h1.2.2⟩
theorem Fr3c.rf {I : IM} : Fr3c I I := ⟨rfl, rfl, rfl⟩
theorem Fr3c.tr {I I1 I2 : IM} (h1 : Fr3c I I1) (h2 : Fr3c I1 I2) : Fr3c I I2 := ⟨h2.1.trans h1.1, h2.2.1.trans h1.2.1, h2.2.2.trans h1.2.2⟩
theorem FrD.rf {I : IM} : FrD I I := ⟨fun _ _ => rfl, rfl⟩
theorem FrD.tr {I I1 I2 : IM} (h1 : FrD I I1) (h2 : FrD I1 I2) : FrD I I2 := ⟨fun k a => (h2.1 k a).trans (h1.1 k a), h2.2.trans h1.2⟩
theorem FrG.D {I I' : IM} (h : FrG I I') : FrD I I' := ⟨fun k hk => h.1 k (by omega), h.2.2⟩
theorem FrW.D {I I' : IM} (h : FrW 1 I I') : FrD I I' := ⟨fun k hk => h k (by omega), by rw [h _ (by omega)]⟩
theorem FrW.c {I I' : IM} (h : FrW 1 I I') : Fr3c I I' := ⟨h _ (by omega), h _ (by omega), h _ (by omega)⟩
theorem ldM.cong {I I' : IM} {m : List Int} (h : ldM I m) (h0 : I' 373 4 = I 373 4) (h1 : I' 380 = I 380) : ldM I' m := ⟨by rw [h0]; exact h.1, fun j x hx => by rw [h1]; exact h.2 j x hx⟩
theorem ldI.G {I I' : IM} {t : List Int} {q a a' : Nat} {m : List Int} (h : ldI I t q a m) (hf : FrG I I') (ha : I' 373 6 = (a' : Int)) : ldI I' t q a' m := ⟨ha, h.2.1.cong (hf.2.1 _ (by decide)) (hf.1 _ (by omega)), h.2.2.1.cong (hf.1 _ (by omega)) (hf.1 _ (by omega)), by rw [hf.2.2]; exact h.2.2.2⟩
theorem isW.G {I I' : IM} {w : WD} (h : isW I 1 w) (hf : FrG I I') : isW I' 1 w := h.cong (fun k _ b => hf.1 k (by omega))
theorem ldI.W {I I' : IM} {t : List Int} {q a : Nat} {m : List Int} (h : ldI I t q a m) (hf : FrW 1 I I') : ldI I' t q a m := ⟨by rw [hf _ (by omega)]; exact h.1, h.2.1.cong (by rw [hf _ (by omega)]) (hf _ (by omega)), h.2.2.1.cong (hf _ (by omega)) (hf _ (by omega)), by rw [hf _ (by omega)]; exact h.2.2.2⟩
theorem up6_G {I : IM} {v : Int} : FrG I (up I 373 6 v) := ⟨fun k hk => upf (by omega), fun z hz => upj hz, by rw [upk (by decide)]⟩
theorem up6_c {I : IM} {v : Int} : Fr3c I (up I 373 6 v) := ⟨upf (by decide), upf (by decide), upf (by decide)⟩
section CLD
variable {sh : Shp} {R : RM} {I : IM} {d q a : Nat} {w : WD} {t m : List Int}
theorem s_here (hR : LdR sh R q) (ht : okT t) (h : ldI I t q a m) : cl (d + 1) 20 [.inr (.inl 373)] (sh, I, R) = some (some (.inl (hr t a)), (sh, I, R)) := by
  obtain ⟨⟨tl, l0, l1, l2, l3, -⟩, hS1, r5, ⟨ts, rs, tr, lr⟩, hq⟩ := hR
  have h6 := h.1
  have hl := h.2.2.1.1
  rw [c_20]
  unfold hr
  by_cases hlt : a < t.length
  · rw [if_pos hlt, getD_at hlt]
    have ht2 := ht.1
    have hv := sgAt h.2.2.1 ht.1 hlt
    have c1 : ¬ (t.length : Int) ≤ (a : Int) := by omega
    have c2 : ¬ (200 : Int) ≤ (a : Int) := by omega
    simp (disch := first | assumption | omega | exact Nat.le_of_ble_eq_true rfl | decide) only [u_20_0, u_20_1, u_20_4, u_20_4n, u_20_7, u_20_8, u_20_11, u_20_12, u_20_15, u_20_18, u_20_21, u_20_22, u_20_25, u_20_28, u_20_31, u_20_32, u_20_35, u_20_36, u_20_37, u_20_38, u_20_41, u_20_42, u_20_45, u_20_48, u_20_49, u_20_52, u_20_53, u_20_56, u_20_57, r5, rs, rv_some, h6, hl, c1, c2, if_false, Int.reduceEq, hv]
  · rw [if_neg hlt]
    have c1 : (t.length : Int) ≤ (a : Int) := by omega
    simp (disch := first | assumption | omega | exact Nat.le_of_ble_eq_true rfl | decide) only [u_20_0, u_20_1, u_20_4, u_20_4n, u_20_7, u_20_8, u_20_11, u_20_12, u_20_15, u_20_18, u_20_21, u_20_22, u_20_25, u_20_28, u_20_31, u_20_32, u_20_35, u_20_36, u_20_37, u_20_38, u_20_41, u_20_42, u_20_45, u_20_48, u_20_49, u_20_52, u_20_53, u_20_56, u_20_57, r5, rv_some, h6, hl, if_pos c1, if_true]
theorem s_bgn (hL : LdS sh R) {pl why : Int} : ∃ I', cl (d + 1) 1 [.inr (.inl 374), .inl pl, .inl why] (sh, I, R) = some (some (.inl (-1000000)), (sh, I', R)) ∧ cFl I' [(why, pl)] ∧ ∀ k, k < 374 ∨ 376 < k → I' k = I k := by
  obtain ⟨tl, l0, l1, l2, l3, tf, f0, f1, t5, l5, t6, l6, -⟩ := hL
  refine ⟨up (up (up I 375 0 why) 376 0 pl) 374 2 1, ?_, ⟨by rw [ups]; rfl, fun j p hp => ?_⟩, fun k hk => by rw [upf (by omega), upf (by omega), upf (by omega)]⟩
  · rw [c_1]
    simp (disch := first | assumption | omega | exact Nat.le_of_ble_eq_true rfl | decide) only [u_1_0, u_1_1, u_1_4, u_1_5, u_1_6, u_1_7, u_1_8, u_1_11, u_1_12, u_1_13, u_1_14, u_1_15, u_1_16, u_1_19, u_1_21, f0, f1, rv_some]
  · cases j with
    | zero =>
      cases hp
      exact ⟨by show up (up (up I 375 0 why) 376 0 pl) 374 2 1 375 0 = _; rw [upk (by decide), upk (by decide), ups], by show up (up (up I 375 0 why) 376 0 pl) 374 2 1 376 0 = _; rw [upk (by decide), ups]⟩
    | succ j => cases hp
theorem s_pass (hL : LdS sh R) {fl : FL} (h : cFl I fl) (hl : fl.length ≤ 12) {pl : Int} : ∃ I', cl (d + 1) 2 [.inr (.inl 374), .inl pl] (sh, I, R) = some (some (.inl (-1000000)), (sh, I', R)) ∧ cFl I' (fl ++ [(8, pl)]) ∧ ∀ k, k < 374 ∨ 376 < k → I' k = I k := by
  obtain ⟨tl, l0, l1, l2, l3, tf, f0, f1, t5, l5, t6, l6, -⟩ := hL
  have h0 := h.1
  have hc : ¬ (12 : Int) < (fl.length : Int) := by omega
  refine ⟨up (up (up I 375 (fl.length : Int) 8) 376 (fl.length : Int) pl) 374 2 ((fl.length + 1 : Nat) : Int), ?_, ⟨by rw [ups, List.length_append]; rfl, fun j p hp => ?_⟩, fun k hk => by rw [upf (by omega), upf (by omega), upf (by omega)]⟩
  · rw [c_2]
    simp (disch := first | assumption | omega | exact Nat.le_of_ble_eq_true rfl | decide) only [u_2_0, u_2_1, u_2_4, u_2_6, u_2_9, u_2_10, u_2_13, u_2_14, u_2_17, u_2_19, u_2_20, u_2_21, u_2_24, u_2_25, u_2_28, u_2_29, u_2_30, u_2_31, u_2_32, u_2_35, u_2_36, u_2_37, u_2_40, u_2_42, h0, hc, if_false, f0, f1, rv_some, upk, wrN]
  · have := lenOf hp
    rw [List.length_append] at this
    simp only [List.length_cons, List.length_nil] at this
    have e1 : ∀ z, up (up (up I 375 (fl.length : Int) 8) 376 (fl.length : Int) pl) 374 2 ((fl.length + 1 : Nat) : Int) 375 z = up I 375 (fl.length : Int) 8 375 z := fun z => by rw [upk (by decide), upk (by decide)]
    have e2 : ∀ z, up (up (up I 375 (fl.length : Int) 8) 376 (fl.length : Int) pl) 374 2 ((fl.length + 1 : Nat) : Int) 376 z = up (up I 375 (fl.length : Int) 8) 376 (fl.length : Int) pl 376 z := fun z => by rw [upk (by decide)]
    rw [e1, e2]
    by_cases hj : j < fl.length
    · rw [List.getElem?_append_left hj] at hp
      rw [upj (by omega), upj (by omega), upk (by decide)]
      exact h.2 j p hp
    · obtain rfl : j = fl.length := by omega
      rw [List.getElem?_append_right (Nat.le_refl _), Nat.sub_self] at hp
      cases hp
      exact ⟨ups, ups⟩
theorem frB_G {I I' : IM} (h : ∀ k, k < 374 ∨ 376 < k → I' k = I k) : FrG I I' := ⟨fun k hk => h k (by omega), fun z _ => by rw [h _ (by omega)], by rw [h _ (by omega)]⟩
theorem hr_bd {t : List Int} (ht : okT t) (a : Nat) : -1 ≤ hr t a ∧ hr t a ≤ 255 := by
  unfold hr
  by_cases h : a < t.length
  · rw [if_pos h, getD_at h]
    have := ht.2 _ (List.getElem_mem h)
    omega
  · rw [if_neg h]; omega
theorem s_digS (hR : LdR sh R q) (ht : okT t) (h : ldI I t q a m) {lo hi v : Int} (hd : dgR t lo hi a = some v) (hlo : 0 ≤ lo) : cl (d + 2) 28 [.inr (.inl 373), .inl lo, .inl hi] (sh, I, R) = some (some (.inl v), (sh, up I 373 6 ((a + 1 : Nat) : Int), R)) ∧ a < t.length := by
  have tl := hR.1.1
  have hh := fun dd => s_here (d := dd) hR ht h
  have h6 := h.1
  obtain ⟨e1, e2, e3⟩ := dgR_some hd
  have hb := hr_bd ht a
  have ht2 := ht.1
  have hlt := hr_lt (t := t) (a := a) (by omega)
  have hw : wr (hr t a - 48) = v := by rw [← e1]; exact wrI (by omega) (by omega)
  refine ⟨?_, hlt⟩
  have c1 : ¬ v < lo := by omega
  clear e1 hb
  rw [c_28]
  simp (disch := first | assumption | omega | exact Nat.le_of_ble_eq_true rfl | decide) only [u_28_0, u_28_1, u_28_4, u_28_6, u_28_7, u_28_8, u_28_9, u_28_10, u_28_13, u_28_14, u_28_15, u_28_18, u_28_19, u_28_22, u_28_23, u_28_26, u_28_27, u_28_30, u_28_31, u_28_32, u_28_33, u_28_36, u_28_37, u_28_38, u_28_41, u_28_42, hh, bnd_some, psh_some, hw, c1, if_false, if_pos e3, h6, wrN]
theorem s_digF (hR : LdR sh R q) (ht : okT t) (h : ldI I t q a m) {lo hi : Int} (hd : dgR t lo hi a = none) : ∃ I', cl (d + 2) 28 [.inr (.inl 373), .inl lo, .inl hi] (sh, I, R) = some (some (.inl (-1000000)), (sh, I', R)) ∧ cFl I' [(1, (a : Int))] ∧ FrG I I' := by
  obtain ⟨tl, l0, l1, l2, l3, tf, -⟩ := id hR.1
  have hh := fun dd => s_here (d := dd) hR ht h
  have h6 := h.1
  have hb := hr_bd ht a
  have hn : ¬ (lo ≤ hr t a - 48 ∧ hr t a - 48 ≤ hi) := fun q => by
    unfold dgR at hd
    rw [if_pos q] at hd
    cases hd
  obtain ⟨I', f1, f2, f3⟩ := s_bgn (d := d) (I := I) (pl := (a : Int)) (why := 1) hR.1
  refine ⟨I', ?_, f2, frB_G f3⟩
  have hw : wr (hr t a - 48) = hr t a - 48 := wrI (by omega) (by omega)
  rw [c_28]
  by_cases c1 : hr t a - 48 < lo
  · simp (disch := first | assumption | omega | exact Nat.le_of_ble_eq_true rfl | decide) only [u_28_0, u_28_1, u_28_4, u_28_6, u_28_7, u_28_8, u_28_9, u_28_10, u_28_13, u_28_14, u_28_15, u_28_18, u_28_19, u_28_22, u_28_23, u_28_26, u_28_27, u_28_30, u_28_31, u_28_32, u_28_33, u_28_36, u_28_37, u_28_38, u_28_41, u_28_42, hh, bnd_some, psh_some, hw, c1, if_true, h6, l1, rv_some, f1]
  · have c2 : ¬ hr t a - 48 ≤ hi := fun q => hn ⟨by omega, q⟩
    simp (disch := first | assumption | omega | exact Nat.le_of_ble_eq_true rfl | decide) only [u_28_0, u_28_1, u_28_4, u_28_6, u_28_7, u_28_8, u_28_9, u_28_10, u_28_13, u_28_14, u_28_15, u_28_18, u_28_19, u_28_22, u_28_23, u_28_26, u_28_27, u_28_30, u_28_31, u_28_32, u_28_33, u_28_36, u_28_37, u_28_38, u_28_41, u_28_42, hh, bnd_some, psh_some, hw, c1, c2, if_false, h6, l1, rv_some, f1]
/-- a number -/
theorem s_num (hR : LdR sh R q) (ht : okT t) (h : ldI I t q a m) (ha : a ≤ t.length) : ∃ I', (match nmR t a with
    | some p => cl (d + 3) 31 [.inr (.inl 373)] (sh, I, R) = some (some (.inl p.1), (sh, I', R)) ∧ I' 373 6 = ((p.2 : Nat) : Int) ∧ FrG I I' ∧ (∀ k, k ≠ 373 → I' k = I k)
    | none => cl (d + 3) 31 [.inr (.inl 373)] (sh, I, R) = some (some (.inl (-1000000)), (sh, I', R)) ∧ cFl I' [(1, (nA t a : Int))] ∧ FrG I I') := by
  have tl := hR.1.1
  have hh := fun dd => s_here (d := dd) hR ht h
  have h6 := h.1
  have hb := hr_bd ht a
  have ht2 := ht.1
  have hlo : nLo t a = 0 ∨ nLo t a = 1 := by unfold nLo; split <;> simp
  have start : ∃ I1, (∀ r : Option Res, ev S0 (d + 2) 31 29 [.inr (.inl 373), .inl (nLo t a), .inr (.inr 1), .inr (.inr 1)] [] (sh, I1, R) = r → cl (d + 3) 31 [.inr (.inl 373)] (sh, I, R) = r) ∧ ldI I1 t q (nA t a) m ∧ FrG I I1 ∧ (∀ k, k ≠ 373 → I1 k = I k) := by
    by_cases h45 : hr t a = 45
    · have hna : nA t a = a + 1 := by unfold nA; rw [if_pos h45]
      have hl1 : nLo t a = 1 := by unfold nLo; rw [if_pos h45]
      rw [hna, hl1]
      refine ⟨up I 373 6 ((a + 1 : Nat) : Int), fun r hr' => ?_, h.G up6_G ups, up6_G, fun k hk => upf hk⟩
      simp only [h45] at hh
      rw [c_31]
      simp (disch := first | assumption | omega | exact Nat.le_of_ble_eq_true rfl | decide) only [u_31_0, u_31_1, u_31_4, u_31_6, u_31_9, u_31_10, u_31_13, u_31_14, u_31_15, u_31_16, u_31_19, u_31_20, u_31_21, u_31_24, u_31_25, u_31_26, hh, bnd_some, psh_some, not_true, if_false, Int.reduceEq, h6, wrN]
      exact hr'
    · have hna : nA t a = a := by unfold nA; rw [if_neg h45]
      have hl1 : nLo t a = 0 := by unfold nLo; rw [if_neg h45]
      rw [hna, hl1]
      refine ⟨I, fun r hr' => ?_, h, FrG.rf, fun k _ => rfl⟩
      rw [c_31]
      simp (disch := first | assumption | omega | exact Nat.le_of_ble_eq_true rfl | decide) only [u_31_0, u_31_1, u_31_4, u_31_6, u_31_9, u_31_10, u_31_13, u_31_14, u_31_15, u_31_16, u_31_19, u_31_20, u_31_21, u_31_24, u_31_25, u_31_26, hh, bnd_some, psh_some, h45, not_false_eq_true, if_true]
      exact hr'
  obtain ⟨I1, s1, s2, s3, s4⟩ := start
  unfold nmR
  have hdg : ∀ r : Option Res, ev S0 (d + 2) 31 41 [.inr (.inl 373), .inl (nLo t a), .inr (.inr 1), .inr (.inr 1)] [.inl 9, .inl (nLo t a), .inr (.inl 373)] (sh, I1, R) = r → ev S0 (d + 2) 31 29 [.inr (.inl 373), .inl (nLo t a), .inr (.inr 1), .inr (.inr 1)] [] (sh, I1, R) = r := by
    intro r hr'
    rcases hlo with e | e
    · rw [e] at hr' ⊢
      simp (disch := first | assumption | omega | exact Nat.le_of_ble_eq_true rfl | decide) only [u_31_29, u_31_30, u_31_31, u_31_34, u_31_35, u_31_38, u_31_39, if_true]
      exact hr'
    · rw [e] at hr' ⊢
      simp (disch := first | assumption | omega | exact Nat.le_of_ble_eq_true rfl | decide) only [u_31_29, u_31_30, u_31_31, u_31_34, u_31_35, u_31_38, u_31_39, Int.reduceEq, if_false]
      exact hr'
  cases hd : dgR t (nLo t a) 9 (nA t a) with
  | none =>
    obtain ⟨I2, f1, f2, f3⟩ := s_digF (d := d) hR ht s2 hd
    refine ⟨I2, s1 _ (hdg _ ?_), f2, s3.tr f3⟩
    simp (disch := first | assumption | omega | exact Nat.le_of_ble_eq_true rfl | decide) only [u_31_41, u_31_44, u_31_45, u_31_46, u_31_48, u_31_51, u_31_53, f1, bnd_some, psh_some, not_true, if_false]
  | some v =>
    obtain ⟨f1, f2⟩ := s_digS (d := d) hR ht s2 hd (by omega)
    obtain ⟨e1, e2, e3⟩ := dgR_some hd
    have hb2 := hr_bd ht (nA t a + 1)
    have g2 : ldI (up I1 373 6 ((nA t a + 1 : Nat) : Int)) t q (nA t a + 1) m := s2.G up6_G ups
    have hh2 := fun dd => s_here (d := dd) hR ht g2
    have hv9 : v ≤ 9 := e3
    have hv0 : ¬ v = -1000000 := by omega
    have hw : wr (hr t (nA t a + 1) - 48) = hr t (nA t a + 1) - 48 := wrI (by omega) (by omega)
    have g6 := g2.1
    clear e1
    have hend : ∀ (v' : Int) (I2 : IM) (a3 : AV), -99 ≤ v' → v' ≤ 99 → ev S0 (d + 2) 31 93 [.inr (.inl 373), .inl (nLo t a), .inl v', a3] [] (sh, I2, R) = some (some (.inl (if hr t a = 45 then -v' else v')), (sh, I2, R)) := by
      intro v' I2 a3 b1 b2
      by_cases h45 : hr t a = 45
      · have hl1 : nLo t a = 1 := by unfold nLo; rw [if_pos h45]
        have hng : wr (-v') = -v' := wrI (by omega) (by omega)
        rw [hl1, if_pos h45]
        simp (disch := first | assumption | omega | exact Nat.le_of_ble_eq_true rfl | decide) only [u_31_93, u_31_94, u_31_97, u_31_98, u_31_99, u_31_102, u_31_103, Int.reduceEq, if_false, hng]
      · have hl1 : nLo t a = 0 := by unfold nLo; rw [if_neg h45]
        rw [hl1, if_neg h45]
        simp (disch := first | assumption | omega | exact Nat.le_of_ble_eq_true rfl | decide) only [u_31_93, u_31_94, u_31_97, u_31_98, u_31_99, u_31_102, u_31_103, if_true]
    dsimp only
    unfold nTw
    by_cases hc : 0 < v ∧ 0 ≤ hr t (nA t a + 1) - 48 ∧ hr t (nA t a + 1) - 48 ≤ 9
    · rw [if_pos hc]
      have c1 : ¬ v ≤ 0 := by omega
      have c2 : ¬ hr t (nA t a + 1) - 48 < 0 := by omega
      have c3 : ¬ 9 < hr t (nA t a + 1) - 48 := by omega
      have hlt := hr_lt (t := t) (a := nA t a + 1) (by omega)
      have hm1 : wr (10 * v) = 10 * v := wrI (by omega) (by omega)
      have hm2 : wr (10 * v + (hr t (nA t a + 1) - 48)) = 10 * v + (hr t (nA t a + 1) - 48) := wrI (by omega) (by omega)
      have hed := hend (10 * v + (hr t (nA t a + 1) - 48)) (up (up I1 373 6 ((nA t a + 1 : Nat) : Int)) 373 6 ((nA t a + 1 + 1 : Nat) : Int)) (.inl (hr t (nA t a + 1) - 48)) (by omega) (by omega)
      refine ⟨up (up I1 373 6 ((nA t a + 1 : Nat) : Int)) 373 6 ((nA t a + 1 + 1 : Nat) : Int), s1 _ (hdg _ ?_), ups, (s3.tr up6_G).tr up6_G, fun k hk => by rw [upf hk, upf hk, s4 k hk]⟩
      clear hb hb2 hend
      simp (disch := first | assumption | omega | exact Nat.le_of_ble_eq_true rfl | decide) only [u_31_41, u_31_44, u_31_45, u_31_46, u_31_48, u_31_51, u_31_53, u_31_54, u_31_55, u_31_58, u_31_60, u_31_61, u_31_62, u_31_63, u_31_66, u_31_67, u_31_70, u_31_71, u_31_73, u_31_76, u_31_77, u_31_78, u_31_81, u_31_82, u_31_83, u_31_86, u_31_88, u_31_89, u_31_90, u_31_91, u_31_92, f1, bnd_some, psh_some, hv0, not_false_eq_true, if_true, hh2, hw, c1, c2, c3, if_false, g6, wrN, hm1, hm2]
      exact hed
    · rw [if_neg hc]
      have hed := hend v (up I1 373 6 ((nA t a + 1 : Nat) : Int)) (.inl (hr t (nA t a + 1) - 48)) (by omega) (by omega)
      refine ⟨up I1 373 6 ((nA t a + 1 : Nat) : Int), s1 _ (hdg _ ?_), ups, s3.tr up6_G, fun k hk => by rw [upf hk, s4 k hk]⟩
      clear hb hend
      by_cases c1 : v ≤ 0
      · simp (disch := first | assumption | omega | exact Nat.le_of_ble_eq_true rfl | decide) only [u_31_41, u_31_44, u_31_45, u_31_46, u_31_48, u_31_51, u_31_53, u_31_54, u_31_55, u_31_58, u_31_60, u_31_61, u_31_62, u_31_63, u_31_66, u_31_67, u_31_70, u_31_71, u_31_73, u_31_76, u_31_77, u_31_78, u_31_81, u_31_82, u_31_83, u_31_86, u_31_88, u_31_89, u_31_90, u_31_91, u_31_92, f1, bnd_some, psh_some, hv0, not_false_eq_true, if_true, hh2, hw, if_pos c1]
        exact hed
      · by_cases c2 : hr t (nA t a + 1) - 48 < 0
        · simp (disch := first | assumption | omega | exact Nat.le_of_ble_eq_true rfl | decide) only [u_31_41, u_31_44, u_31_45, u_31_46, u_31_48, u_31_51, u_31_53, u_31_54, u_31_55, u_31_58, u_31_60, u_31_61, u_31_62, u_31_63, u_31_66, u_31_67, u_31_70, u_31_71, u_31_73, u_31_76, u_31_77, u_31_78, u_31_81, u_31_82, u_31_83, u_31_86, u_31_88, u_31_89, u_31_90, u_31_91, u_31_92, f1, bnd_some, psh_some, hv0, not_false_eq_true, if_true, hh2, hw, if_neg c1, if_pos c2]
          exact hed
        · have c3 : 9 < hr t (nA t a + 1) - 48 := by omega
          simp (disch := first | assumption | omega | exact Nat.le_of_ble_eq_true rfl | decide) only [u_31_41, u_31_44, u_31_45, u_31_46, u_31_48, u_31_51, u_31_53, u_31_54, u_31_55, u_31_58, u_31_60, u_31_61, u_31_62, u_31_63, u_31_66, u_31_67, u_31_70, u_31_71, u_31_73, u_31_76, u_31_77, u_31_78, u_31_81, u_31_82, u_31_83, u_31_86, u_31_88, u_31_89, u_31_90, u_31_91, u_31_92, f1, bnd_some, psh_some, hv0, not_false_eq_true, if_true, hh2, hw, if_neg c1, if_neg c2, if_pos c3]
          exact hed
theorem s_why (hL : LdS sh R) {L : FL} (h : isF I 377 L) (hL6 : L.length ≤ 6) (h0 : I 377 0 = 6) {n : Int} : cl (d + 3) 30 [.inr (.inl 373), .inl n] (sh, I, R) = some (some (.inl (if ¬ isNm n then 1 else if ¬ fidx L n = -1 ∨ 6 ≤ L.length then 6 else 0)), (sh, I, R)) := by
  obtain ⟨tl, l0, l1, l2, l3, tf, f0, f1, t5, l5, t6, l6, hF, -⟩ := hL
  have tF := hF.1
  rw [c_30]
  by_cases h1 : isNm n
  · rw [if_neg (Classical.not_not.mpr h1)]
    have hfull := fun dd => s_isFull (d := dd) (m := 6) hF h h0
    by_cases h2 : fidx L n = -1
    · by_cases h3 : 6 ≤ L.length
      · rw [if_pos (Or.inr h3)]
        simp only [if_pos h3] at hfull
        simp (disch := first | assumption | omega | exact Nat.le_of_ble_eq_true rfl | decide) only [u_30_0, u_30_1, u_30_4, u_30_7, u_30_8, u_30_9, u_30_10, u_30_13, u_30_14, u_30_17, u_30_20, u_30_21, u_30_24, u_30_27, u_30_30, u_30_32, u_30_35, u_30_36, s_isName, if_pos h1, bnd_some, psh_some, Int.reduceEq, not_false_eq_true, not_true, if_true, if_false, l2, rv_some, s_has hF h hL6, if_pos h2, hfull]
      · rw [if_neg (fun z => z.elim (fun z => z h2) h3)]
        simp only [if_neg h3] at hfull
        simp (disch := first | assumption | omega | exact Nat.le_of_ble_eq_true rfl | decide) only [u_30_0, u_30_1, u_30_4, u_30_7, u_30_8, u_30_9, u_30_10, u_30_13, u_30_14, u_30_17, u_30_20, u_30_21, u_30_24, u_30_27, u_30_30, u_30_32, u_30_35, u_30_36, s_isName, if_pos h1, bnd_some, psh_some, Int.reduceEq, not_false_eq_true, not_true, if_true, if_false, l2, rv_some, s_has hF h hL6, if_pos h2, hfull]
    · rw [if_pos (Or.inl h2)]
      simp (disch := first | assumption | omega | exact Nat.le_of_ble_eq_true rfl | decide) only [u_30_0, u_30_1, u_30_4, u_30_7, u_30_8, u_30_9, u_30_10, u_30_13, u_30_14, u_30_17, u_30_20, u_30_21, u_30_24, u_30_27, u_30_30, u_30_32, u_30_35, u_30_36, s_isName, if_pos h1, bnd_some, psh_some, Int.reduceEq, not_false_eq_true, if_true, l2, rv_some, s_has hF h hL6, if_neg h2]
  · rw [if_pos h1]
    simp (disch := first | assumption | omega | exact Nat.le_of_ble_eq_true rfl | decide) only [u_30_0, u_30_1, u_30_4, u_30_7, u_30_8, u_30_9, u_30_10, u_30_13, u_30_14, u_30_17, u_30_20, u_30_21, u_30_24, u_30_27, u_30_30, u_30_32, u_30_35, u_30_36, s_isName, if_neg h1, bnd_some, psh_some, not_true, if_false]
/-- the fields -/
theorem fl_loop (hR : LdR sh R q) (ht : okT t) : ∀ (f a i : Nat) (I : IM) (L : FL) (a2 a3 a4 : AV), i + f = 7 → L.length = i → i ≤ 6 → a ≤ t.length → okFl L → ldI I t q a m → isF I 377 L → ∃ I', (match flR t f a L with
    | .inl p => ev S0 (d + 3) 29 9 [.inr (.inl 373), .inl (i : Int), a2, a3, a4] [] (sh, I, R) = some (some (.inl 1), (sh, I', R)) ∧ isF I' 377 p.1 ∧ I' 373 6 = ((p.2 : Nat) : Int) ∧ FrG I I' ∧ Fr3c I I'
    | .inr fl => ev S0 (d + 3) 29 9 [.inr (.inl 373), .inl (i : Int), a2, a3, a4] [] (sh, I, R) = some (some (.inl 0), (sh, I', R)) ∧ cFl I' fl ∧ FrG I I') := by
  obtain ⟨tl, l0, l1, l2, l3, tf, f0, f1, t5, l5, t6, l6, hF, -⟩ := id hR.1
  have tF := hF.1
  intro f
  induction f with
  | zero => intro a i I L a2 a3 a4 hi hL hi6; omega
  | succ f ih =>
    intro a i I L a2 a3 a4 hi hL hi6 ha hok h hf
    have hh := fun dd => s_here (d := dd) hR ht h
    have h6 := h.1
    have hgt : ¬ (6 : Int) < (i : Int) := by omega
    have ht2 := ht.1
    unfold flR
    by_cases h1 : hr t a = 46
    · rw [if_pos h1]
      dsimp only
      simp only [h1] at hh
      refine ⟨up I 373 6 ((a + 1 : Nat) : Int), ?_, hf.cong (upf (by decide)) (upf (by decide)) (upf (by decide)), ups, up6_G, up6_c⟩
      simp (disch := first | assumption | omega | exact Nat.le_of_ble_eq_true rfl | decide) only [u_29_9, u_29_10, u_29_12, u_29_15, u_29_16, u_29_19, u_29_21, u_29_96, u_29_97, u_29_98, u_29_101, u_29_102, u_29_103, u_29_106, u_29_107, hgt, if_false, hh, bnd_some, psh_some, if_true, h6, wrN]
    · rw [if_neg h1]
      have hwy := fun dd => s_why (d := dd) (n := hr t a) hR.1 hf hok.1 h.2.2.2
      by_cases h2 : isNm (hr t a)
      · rw [if_neg (Classical.not_not.mpr h2)]
        simp only [if_neg (Classical.not_not.mpr h2)] at hwy
        by_cases h3 : ¬ fidx L (hr t a) = -1 ∨ 6 ≤ L.length
        · rw [if_pos h3]
          simp only [if_pos h3] at hwy
          obtain ⟨I', f1', f2', f3'⟩ := s_bgn (d := d + 2) (I := I) (pl := (a : Int)) (why := 6) hR.1
          refine ⟨I', ?_, f2', frB_G f3'⟩
          simp (disch := first | assumption | omega | exact Nat.le_of_ble_eq_true rfl | decide) only [u_29_9, u_29_10, u_29_12, u_29_15, u_29_16, u_29_19, u_29_21, u_29_24, u_29_25, u_29_28, u_29_29, u_29_30, u_29_31, u_29_34, u_29_35, u_29_36, u_29_39, u_29_40, u_29_43, u_29_44, u_29_47, u_29_48, u_29_51, u_29_52, u_29_53, hgt, if_false, hh, bnd_some, psh_some, h1, hwy, Int.reduceEq, h6, l1, rv_some, f1']
        · rw [if_neg h3]
          simp only [if_neg h3] at hwy
          have hlt := hr_lt (t := t) (a := a) (by have := h2.1; omega)
          have g2 : ldI (up I 373 6 ((a + 1 : Nat) : Int)) t q (a + 1) m := h.G up6_G ups
          obtain ⟨I2, hn⟩ := s_num (d := d) hR ht g2 (by omega)
          cases hnm : nmR t (a + 1) with
          | none =>
            rw [hnm] at hn
            obtain ⟨n1_, n2, n3⟩ := hn
            refine ⟨I2, ?_, n2, up6_G.tr n3⟩
            simp (disch := first | assumption | omega | exact Nat.le_of_ble_eq_true rfl | decide) only [u_29_9, u_29_10, u_29_12, u_29_15, u_29_16, u_29_19, u_29_21, u_29_24, u_29_25, u_29_28, u_29_29, u_29_30, u_29_31, u_29_34, u_29_35, u_29_36, u_29_39, u_29_40, u_29_43, u_29_44, u_29_47, u_29_48, u_29_51, u_29_52, u_29_53, u_29_54, u_29_55, u_29_56, u_29_59, u_29_60, u_29_61, u_29_64, u_29_65, u_29_68, u_29_70, u_29_72, u_29_74, u_29_77, u_29_78, hgt, if_false, if_true, hh, bnd_some, psh_some, h1, hwy, Int.reduceEq, h6, wrN, n1_, not_true]
          | some p =>
            rw [hnm] at hn
            obtain ⟨n1_, n2, n3, n4⟩ := hn
            obtain ⟨k1, k2, k3⟩ := nmR_ok hnm
            have g3 := g2.G n3 n2
            rw [not_or] at h3
            have hf2 : isF I2 377 L := hf.cong (by rw [n4 _ (by decide), upf (by decide)]) (by rw [n4 _ (by decide), upf (by decide)]) (by rw [n4 _ (by decide), upf (by decide)])
            obtain ⟨I3, b1, b2, b3⟩ := s_append (d := d + 1) (m := 6) (n := hr t a) (v := p.1) hF hf2 g3.2.2.2 (by omega) (Nat.le_refl _)
            have hG3 : FrG I2 I3 := ⟨fun k hk => b3.1 k (by omega) (by omega) (by omega), fun z _ => by rw [b3.1 _ (by decide) (by decide) (by decide)], b3.2⟩
            have hc3 : Fr3c I I3 := ⟨by rw [b3.1 _ (by decide) (by decide) (by decide), n4 _ (by decide), upf (by decide)], by rw [b3.1 _ (by decide) (by decide) (by decide), n4 _ (by decide), upf (by decide)], by rw [b3.1 _ (by decide) (by decide) (by decide), n4 _ (by decide), upf (by decide)]⟩
            have hok3 : okFl (L ++ [(hr t a, p.1)]) := ⟨by rw [List.length_append]; simp only [List.length_cons, List.length_nil]; omega, fun x hx => by
              rcases List.mem_append.mp hx with z | z
              · exact hok.2 x z
              · rw [List.mem_singleton] at z
                rw [z]; exact ⟨h2.1, h2.2, k1.1, k1.2⟩⟩
            obtain ⟨I4, e⟩ := ih p.2 (i + 1) I3 (L ++ [(hr t a, p.1)]) (.inl (hr t a)) (.inl 0) (.inl p.1) (by omega) (by rw [List.length_append, hL]; rfl) (by omega) k2 hok3 (g3.G hG3 (by rw [b3.1 _ (by decide) (by decide) (by decide)]; exact n2)) b2
            have hfr := (up6_G (I := I) (v := ((a + 1 : Nat) : Int))).tr (n3.tr hG3)
            have hne : ¬ p.1 = -1000000 := by have := k1.1; omega
            have hgo : ev S0 (d + 3) 29 9 [.inr (.inl 373), .inl (i : Int), a2, a3, a4] [] (sh, I, R) = ev S0 (d + 3) 29 9 [.inr (.inl 373), .inl ((i + 1 : Nat) : Int), .inl (hr t a), .inl 0, .inl p.1] [] (sh, I3, R) := by
              rw [u_29_9]
              simp (disch := first | assumption | omega | exact Nat.le_of_ble_eq_true rfl | decide) only [u_29_10, u_29_12, u_29_15, u_29_16, u_29_19, u_29_21, u_29_24, u_29_25, u_29_28, u_29_29, u_29_30, u_29_31, u_29_34, u_29_35, u_29_36, u_29_39, u_29_40, u_29_43, u_29_44, u_29_47, u_29_48, u_29_51, u_29_52, u_29_53, u_29_54, u_29_55, u_29_56, u_29_59, u_29_60, u_29_61, u_29_64, u_29_65, u_29_68, u_29_70, u_29_72, u_29_74, u_29_77, u_29_78, u_29_79, u_29_80, u_29_83, u_29_84, u_29_86, u_29_89, u_29_90, u_29_93, hgt, if_false, if_true, hh, bnd_some, psh_some, h1, hwy, Int.reduceEq, h6, wrN, n1_, hne, not_false_eq_true, l2, rv_some, b1]
            rw [hgo]
            dsimp only
            cases hfl : flR t f p.2 (L ++ [(hr t a, p.1)]) with
            | inl x =>
              rw [hfl] at e
              exact ⟨I4, e.1, e.2.1, e.2.2.1, hfr.tr e.2.2.2.1, hc3.tr e.2.2.2.2⟩
            | inr fl =>
              rw [hfl] at e
              exact ⟨I4, e.1, e.2.1, hfr.tr e.2.2⟩
      · rw [if_pos h2]
        simp only [if_pos h2] at hwy
        obtain ⟨I', f1', f2', f3'⟩ := s_bgn (d := d + 2) (I := I) (pl := (a : Int)) (why := 1) hR.1
        refine ⟨I', ?_, f2', frB_G f3'⟩
        simp (disch := first | assumption | omega | exact Nat.le_of_ble_eq_true rfl | decide) only [u_29_9, u_29_10, u_29_12, u_29_15, u_29_16, u_29_19, u_29_21, u_29_24, u_29_25, u_29_28, u_29_29, u_29_30, u_29_31, u_29_34, u_29_35, u_29_36, u_29_39, u_29_40, u_29_43, u_29_44, u_29_47, u_29_48, u_29_51, u_29_52, u_29_53, hgt, if_false, hh, bnd_some, psh_some, h1, hwy, Int.reduceEq, h6, l1, rv_some, f1']
theorem s_flds (hR : LdR sh R q) (ht : okT t) (ha : a ≤ t.length) (h : ldI I t q a m) : ∃ I', (match flR t 7 a [] with
    | .inl p => cl (d + 4) 29 [.inr (.inl 373)] (sh, I, R) = some (some (.inl 1), (sh, I', R)) ∧ isF I' 377 p.1 ∧ I' 373 6 = ((p.2 : Nat) : Int) ∧ FrG I I' ∧ Fr3c I I'
    | .inr fl => cl (d + 4) 29 [.inr (.inl 373)] (sh, I, R) = some (some (.inl 0), (sh, I', R)) ∧ cFl I' fl ∧ FrG I I') := by
  obtain ⟨tl, l0, l1, l2, l3, tf, f0, f1, t5, l5, t6, l6, hF, -⟩ := id hR.1
  have tF := hF.1
  have hG0 : FrG I (up I 377 3 0) := ⟨fun k hk => upf (by omega), fun z _ => by rw [upf (by decide)], upj (by decide)⟩
  have hc0 : Fr3c I (up I 377 3 0) := ⟨upf (by decide), upf (by decide), upf (by decide)⟩
  obtain ⟨I', e⟩ := fl_loop (d := d) (m := m) hR ht 7 a 0 (up I 377 3 0) [] (.inr (.inr 1)) (.inr (.inr 1)) (.inr (.inr 1)) (by omega) rfl (by omega) ha ⟨Nat.zero_le _, fun p hp => by cases hp⟩ (h.G hG0 (by rw [upk (by decide)]; exact h.1)) ⟨ups, fun j p hp => by cases hp⟩
  have hgo : cl (d + 4) 29 [.inr (.inl 373)] (sh, I, R) = ev S0 (d + 3) 29 9 [.inr (.inl 373), .inl ((0 : Nat) : Int), .inr (.inr 1), .inr (.inr 1), .inr (.inr 1)] [] (sh, up I 377 3 0, R) := by
    rw [c_29]
    simp (disch := first | assumption | omega | exact Nat.le_of_ble_eq_true rfl | decide) only [u_29_0, u_29_1, u_29_4, u_29_7, u_29_8, l2, rv_some, s_clear hF, bnd_some, psh_none]
    rfl
  rw [hgo]
  refine ⟨I', ?_⟩
  cases hfl : flR t 7 a [] with
  | inl x =>
    rw [hfl] at e
    exact ⟨e.1, e.2.1, e.2.2.1, hG0.tr e.2.2.2.1, hc0.tr e.2.2.2.2⟩
  | inr fl =>
    rw [hfl] at e
    exact ⟨e.1, e.2.1, hG0.tr e.2.2⟩
end CLD
