/-! THE MODEL: load -/
def mdI (I : IM) (t : List Int) (q a : Nat) (m : List Int) : Prop := I 392 18 = (a : Int) ∧ I 392 17 = (t.length : Int) ∧ I 392 16 = 200 * (q : Int) ∧ (I 392 19 = (m.length : Int) ∧ ∀ (j : Nat) (x : Int), m[j]? = some x → I 405 (j : Int) = x) ∧ ∀ (j : Nat) (c : Int), t[j]? = some c → I 398 (200 * (q : Int) + (j : Int)) = c
def FrH (I I' : IM) : Prop := (∀ k, k ≠ 392 → k ≠ 403 → k ≠ 404 → k ≠ 406 → k ≠ 407 → I' k = I k) ∧ ∀ z, z ≠ 15 → z ≠ 18 → I' 392 z = I 392 z
def Fr3m (I I' : IM) : Prop := I' 392 15 = I 392 15 ∧ I' 403 = I 403 ∧ I' 404 = I 404
def FrZ (I I' : IM) : Prop := (∀ k, k ≠ 392 → k ≠ 393 → k ≠ 403 → k ≠ 404 → k ≠ 405 → k ≠ 406 → k ≠ 407 → I' k = I k) ∧ ∀ z, z ≠ 15 → z ≠ 18 → z ≠ 19 → I' 392 z = I 392 z
theorem FrH.rf {I : IM} : FrH I I := ⟨fun _ _ _ _ _ _ => rfl, fun _ _ _ => rfl⟩
theorem FrH.tr {I I1 I2 : IM} (h1 : FrH I I1) (h2 : FrH I1 I2) : FrH I I2 := ⟨fun k a b c e f => (h2.1 k a b c e f).trans (h1.1 k a b c e f), fun z a b => (h2.2 z a b).trans (h1.2 z a b)⟩
theorem Fr3m.rf {I : IM} : Fr3m I I := ⟨rfl, rfl, rfl⟩
theorem Fr3m.tr {I I1 I2 : IM} (h1 : Fr3m I I1) (h2 : Fr3m I1 I2) : Fr3m I I2 := ⟨h2.1.trans h1.1, h2.2.1.trans h1.2.1, h2.2.2.trans h1.2.2⟩
theorem FrZ.rf {I : IM} : FrZ I I := ⟨fun _ _ _ _ _ _ _ _ => rfl, fun _ _ _ _ => rfl⟩
theorem FrZ.tr {I I1 I2 : IM} (h1 : FrZ I I1) (h2 : FrZ I1 I2) : FrZ I I2 := ⟨fun k a b c e f g h => (h2.1 k a b c e f g h).trans (h1.1 k a b c e f g h), fun z a b c => (h2.2 z a b c).trans (h1.2 z a b c)⟩
theorem FrH.Z {I I' : IM} (h : FrH I I') : FrZ I I' := ⟨fun k a _ c e _ f g => h.1 k a c e f g, fun z a b _ => h.2 z a b⟩
theorem Fr3.Z {I I' : IM} (h : Fr3 I I') : FrZ I I' := ⟨fun k _ b _ _ _ _ _ => h k b, fun z _ _ _ => by rw [h _ (by decide)]⟩
theorem Fr3.m {I I' : IM} (h : Fr3 I I') : Fr3m I I' := ⟨by rw [h _ (by decide)], h _ (by decide), h _ (by decide)⟩
theorem mdI.H {I I' : IM} {t : List Int} {q a a' : Nat} {m : List Int} (h : mdI I t q a m) (hf : FrH I I') (ha : I' 392 18 = (a' : Int)) : mdI I' t q a' m := ⟨ha, by rw [hf.2 _ (by decide) (by decide)]; exact h.2.1, by rw [hf.2 _ (by decide) (by decide)]; exact h.2.2.1, ⟨by rw [hf.2 _ (by decide) (by decide)]; exact h.2.2.2.1.1, fun j x hx => by rw [hf.1 _ (by decide) (by decide) (by decide) (by decide) (by decide)]; exact h.2.2.2.1.2 j x hx⟩, fun j c hc => by rw [hf.1 _ (by decide) (by decide) (by decide) (by decide) (by decide)]; exact h.2.2.2.2 j c hc⟩
theorem mdI.g {I I' : IM} {t : List Int} {q a : Nat} {m : List Int} (h : mdI I t q a m) (hf : Fr3 I I') : mdI I' t q a m := ⟨by rw [hf _ (by decide)]; exact h.1, by rw [hf _ (by decide)]; exact h.2.1, by rw [hf _ (by decide)]; exact h.2.2.1, ⟨by rw [hf _ (by decide)]; exact h.2.2.2.1.1, fun j x hx => by rw [hf _ (by decide)]; exact h.2.2.2.1.2 j x hx⟩, fun j c hc => by rw [hf _ (by decide)]; exact h.2.2.2.2 j c hc⟩
theorem isM.H {I I' : IM} {w : WD} (h : isM I 393 w) (hf : FrH I I') : isM I' 393 w := h.cong (hf.1 _ (by decide) (by decide) (by decide) (by decide) (by decide))
theorem up18_H {I : IM} {v : Int} : FrH I (up I 392 18 v) := ⟨fun k a _ _ _ _ => upf a, fun z _ b => upj b⟩
theorem up18_m {I : IM} {v : Int} : Fr3m I (up I 392 18 v) := ⟨upj (by decide), upf (by decide), upf (by decide)⟩
def isNN (I : IM) (L : FL) : Prop := ∀ (j : Nat) (p : Int × Int), L[j]? = some p → I 406 (j : Int) = p.1 ∧ I 407 (j : Int) = p.2
section MLD
variable {sh : Shp} {R : RM} {I : IM} {d q a : Nat} {w : WD} {t m : List Int}
theorem m_here (hX : MX sh R) (hq : q < 4) (ht : okT t) (h : mdI I t q a m) : cl (d + 1) 178 [.inr (.inl 392)] (sh, I, R) = some (some (.inl (hr t a)), (sh, I, R)) := by
  have t9 := hX.1.1
  obtain ⟨r6, t6, l6⟩ := hX.g 6 398 800 (by decide)
  obtain ⟨h1, h2, h3, -, h5⟩ := h
  have ht2 := ht.1
  rw [c_178]
  unfold hr
  by_cases hlt : a < t.length
  · rw [if_pos hlt, getD_at hlt]
    have hv := h5 a _ (List.getElem?_eq_getElem hlt)
    have c1 : ¬ (t.length : Int) ≤ (a : Int) := by omega
    simp (disch := first | assumption | omega | exact Nat.le_of_ble_eq_true rfl | decide) only [u_178_0, u_178_1, u_178_4, u_178_5, u_178_8, u_178_11, u_178_12, u_178_15, u_178_16, u_178_19, u_178_20, u_178_23, u_178_24, u_178_25, u_178_28, u_178_29, r6, rv_some, h1, h2, h3, c1, if_false, wrI, hv]
  · rw [if_neg hlt]
    have c1 : (t.length : Int) ≤ (a : Int) := by omega
    simp (disch := first | assumption | omega | exact Nat.le_of_ble_eq_true rfl | decide) only [u_178_0, u_178_1, u_178_4, u_178_5, u_178_8, u_178_11, u_178_12, u_178_15, u_178_16, u_178_19, u_178_20, u_178_23, u_178_24, u_178_25, u_178_28, u_178_29, h1, h2, if_pos c1]
theorem m_fails (hX : MX sh R) {pl why : Int} : ∃ I', cl (d + 1) 179 [.inr (.inl 392), .inl why, .inl pl] (sh, I, R) = some (some (.inl (-9)), (sh, I', R)) ∧ mFlm I' [(why, pl)] ∧ (∀ k, k ≠ 392 → k ≠ 403 → k ≠ 404 → I' k = I k) ∧ ∀ z, z ≠ 15 → I' 392 z = I 392 z := by
  have t9 := hX.1.1
  obtain ⟨r1, t1, l1⟩ := hX.g 13 403 16 (by decide)
  obtain ⟨r2, t2, l2⟩ := hX.g 14 404 16 (by decide)
  refine ⟨up (up (up I 392 15 1) 403 0 why) 404 0 pl, ?_, ⟨by rw [upk (by decide), upk (by decide), ups]; rfl, fun j p hp => ?_⟩, fun k a b c => by rw [upf c, upf b, upf a], fun z hz => by rw [upk (by decide), upk (by decide), upj hz]⟩
  · rw [c_179]
    simp (disch := first | assumption | omega | exact Nat.le_of_ble_eq_true rfl | decide) only [u_179_0, u_179_1, u_179_2, u_179_5, u_179_6, u_179_9, u_179_10, u_179_11, u_179_12, u_179_13, u_179_16, u_179_17, u_179_18, u_179_19, u_179_21, r1, r2, rv_some]
  · cases j with
    | zero =>
      cases hp
      exact ⟨by show up (up (up I 392 15 1) 403 0 why) 404 0 pl 403 0 = _; rw [upk (by decide), ups], by show up (up (up I 392 15 1) 403 0 why) 404 0 pl 404 0 = _; rw [ups]⟩
    | succ j => cases hp
theorem m_passes (hX : MX sh R) {fl : FL} (h : mFlm I fl) (hl : fl.length ≤ 12) {pl : Int} : ∃ I', cl (d + 1) 180 [.inr (.inl 392), .inl pl] (sh, I, R) = some (some (.inl (-9)), (sh, I', R)) ∧ mFlm I' (fl ++ [(8, pl)]) ∧ (∀ k, k ≠ 392 → k ≠ 403 → k ≠ 404 → I' k = I k) ∧ ∀ z, z ≠ 15 → I' 392 z = I 392 z := by
  have t9 := hX.1.1
  obtain ⟨r1, t1, l1⟩ := hX.g 13 403 16 (by decide)
  obtain ⟨r2, t2, l2⟩ := hX.g 14 404 16 (by decide)
  have h0 := h.1
  refine ⟨up (up (up I 403 (fl.length : Int) 8) 404 (fl.length : Int) pl) 392 15 ((fl.length + 1 : Nat) : Int), ?_, ⟨by rw [ups, List.length_append]; rfl, fun j p hp => ?_⟩, fun k a b c => by rw [upf a, upf c, upf b], fun z hz => by rw [upj hz, upk (by decide), upk (by decide)]⟩
  · rw [c_180]
    simp (disch := first | assumption | omega | exact Nat.le_of_ble_eq_true rfl | decide) only [u_180_0, u_180_1, u_180_4, u_180_5, u_180_8, u_180_10, u_180_11, u_180_12, u_180_15, u_180_16, u_180_19, u_180_20, u_180_21, u_180_22, u_180_23, u_180_26, u_180_27, u_180_28, u_180_31, u_180_33, h0, r1, r2, rv_some, upk, wrI, n1]
  · have := lenOf hp
    rw [List.length_append] at this
    simp only [List.length_cons, List.length_nil] at this
    have e1 : ∀ z, up (up (up I 403 (fl.length : Int) 8) 404 (fl.length : Int) pl) 392 15 ((fl.length + 1 : Nat) : Int) 403 z = up I 403 (fl.length : Int) 8 403 z := fun z => by rw [upk (by decide), upk (by decide)]
    have e2 : ∀ z, up (up (up I 403 (fl.length : Int) 8) 404 (fl.length : Int) pl) 392 15 ((fl.length + 1 : Nat) : Int) 404 z = up (up I 403 (fl.length : Int) 8) 404 (fl.length : Int) pl 404 z := fun z => by rw [upk (by decide)]
    rw [e1, e2]
    by_cases hj : j < fl.length
    · rw [List.getElem?_append_left hj] at hp
      rw [upj (by omega), upj (by omega), upk (by decide)]
      exact h.2 j p hp
    · obtain rfl : j = fl.length := by omega
      rw [List.getElem?_append_right (Nat.le_refl _), Nat.sub_self] at hp
      cases hp
      exact ⟨ups, ups⟩
theorem frA_H {I I' : IM} (h1 : ∀ k, k ≠ 392 → k ≠ 403 → k ≠ 404 → I' k = I k) (h2 : ∀ z, z ≠ 15 → I' 392 z = I 392 z) : FrH I I' := ⟨fun k a b c _ _ => h1 k a b c, fun z a _ => h2 z a⟩
theorem dg_in {t : List Int} {lo hi : Int} {a : Nat} : (48 + lo ≤ hr t a ∧ hr t a ≤ 48 + hi) ↔ ∃ v, dgR t lo hi a = some v := by
  unfold dgR
  constructor
  · intro h
    exact ⟨hr t a - 48, by rw [if_pos (by omega)]⟩
  · rintro ⟨v, hv⟩
    by_cases q : lo ≤ hr t a - 48 ∧ hr t a - 48 ≤ hi
    · omega
    · rw [if_neg q] at hv; cases hv
theorem m_num (hX : MX sh R) (hq : q < 4) (ht : okT t) (h : mdI I t q a m) (ha : a ≤ t.length) {n : Nat} (hn : n < 6) : ∃ I', (match nmR t a with
    | some p => cl (d + 2) 182 [.inr (.inl 392), .inl (n : Int)] (sh, I, R) = some (some (.inl 1), (sh, I', R)) ∧ I' 392 18 = ((p.2 : Nat) : Int) ∧ I' 407 (n : Int) = p.1 ∧ FrH I I' ∧ Fr3m I I' ∧ I' 406 = I 406 ∧ (∀ z, z ≠ (n : Int) → I' 407 z = I 407 z)
    | none => cl (d + 2) 182 [.inr (.inl 392), .inl (n : Int)] (sh, I, R) = some (some (.inl (-9)), (sh, I', R)) ∧ mFlm I' [(1, (nA t a : Int))] ∧ FrH I I') := by
  have t9 := hX.1.1
  obtain ⟨r22, t22, l22⟩ := hX.g 22 407 6 (by decide)
  have hh := fun dd => m_here (d := dd) hX hq ht h
  have h6 := h.1
  have hb := hr_bd ht a
  have ht2 := ht.1
  have start : ∃ I1 sg, (∀ r : Option Res, ev S0 (d + 1) 182 23 [.inr (.inl 392), .inl (n : Int), .inl sg, .inr (.inr 1)] [] (sh, I1, R) = r → cl (d + 2) 182 [.inr (.inl 392), .inl (n : Int)] (sh, I, R) = r) ∧ mdI I1 t q (nA t a) m ∧ FrH I I1 ∧ Fr3m I I1 ∧ (∀ k, k ≠ 392 → I1 k = I k) ∧ ((hr t a = 45 ∧ sg = -1 ∧ nLo t a = 1) ∨ (¬ hr t a = 45 ∧ sg = 1 ∧ nLo t a = 0)) := by
    by_cases h45 : hr t a = 45
    · have hna : nA t a = a + 1 := by unfold nA; rw [if_pos h45]
      have hl1 : nLo t a = 1 := by unfold nLo; rw [if_pos h45]
      rw [hna]
      refine ⟨up I 392 18 ((a + 1 : Nat) : Int), -1, fun r hr' => ?_, h.H up18_H ups, up18_H, up18_m, fun k hk => upf hk, Or.inl ⟨h45, rfl, hl1⟩⟩
      simp only [h45] at hh
      rw [c_182]
      simp (disch := first | assumption | omega | exact Nat.le_of_ble_eq_true rfl | decide) only [u_182_0, u_182_1, u_182_2, u_182_3, u_182_6, u_182_8, u_182_11, u_182_12, u_182_13, u_182_14, u_182_15, u_182_18, u_182_19, u_182_20, hh, bnd_some, psh_some, not_true, if_false, h6, wrI, n1]
      exact hr'
    · have hna : nA t a = a := by unfold nA; rw [if_neg h45]
      have hl1 : nLo t a = 0 := by unfold nLo; rw [if_neg h45]
      rw [hna]
      refine ⟨I, 1, fun r hr' => ?_, h, FrH.rf, Fr3m.rf, fun k _ => rfl, Or.inr ⟨h45, rfl, hl1⟩⟩
      rw [c_182]
      simp (disch := first | assumption | omega | exact Nat.le_of_ble_eq_true rfl | decide) only [u_182_0, u_182_1, u_182_2, u_182_3, u_182_6, u_182_8, u_182_11, u_182_12, u_182_13, u_182_14, u_182_15, u_182_18, u_182_19, u_182_20, hh, bnd_some, psh_some, h45, not_false_eq_true, if_true]
      exact hr'
  obtain ⟨I1, sg, s1, s2, s3, s4, s5, s6⟩ := start
  have hh1 := fun dd => m_here (d := dd) hX hq ht s2
  have g6 := s2.1
  have hb1 := hr_bd ht (nA t a)
  have hdg : ∀ r : Option Res, ev S0 (d + 1) 182 40 [.inr (.inl 392), .inl (n : Int), .inl sg, .inr (.inr 1)] [.inl 57, .inl (48 + nLo t a), .inl (hr t (nA t a))] (sh, I1, R) = r → ev S0 (d + 1) 182 23 [.inr (.inl 392), .inl (n : Int), .inl sg, .inr (.inr 1)] [] (sh, I1, R) = r := by
    intro r hr'
    rcases s6 with ⟨-, e, e2⟩ | ⟨-, e, e2⟩
    · rw [e, e2] at hr'
      rw [e]
      have hge : ¬ (0 : Int) ≤ -1 := by decide
      simp (disch := first | assumption | omega | exact Nat.le_of_ble_eq_true rfl | decide) only [u_182_23, u_182_24, u_182_27, u_182_28, u_182_31, u_182_33, u_182_36, u_182_38, hh1, bnd_some, psh_some, if_neg hge]
      exact hr'
    · rw [e, e2] at hr'
      rw [e]
      have hge : (0 : Int) ≤ 1 := by decide
      simp (disch := first | assumption | omega | exact Nat.le_of_ble_eq_true rfl | decide) only [u_182_23, u_182_24, u_182_27, u_182_28, u_182_31, u_182_33, u_182_36, u_182_38, hh1, bnd_some, psh_some, if_pos hge]
      exact hr'
  unfold nmR
  cases hd : dgR t (nLo t a) 9 (nA t a) with
  | none =>
    have hno : ¬ (48 + nLo t a ≤ hr t (nA t a) ∧ hr t (nA t a) ≤ 57) := fun z => by
      obtain ⟨v, hv⟩ := dg_in.mp (show 48 + nLo t a ≤ hr t (nA t a) ∧ hr t (nA t a) ≤ 48 + 9 from z)
      rw [hd] at hv; cases hv
    obtain ⟨I2, f1, f2, f3, f4⟩ := m_fails (d := d) (I := I1) (pl := (nA t a : Int)) (why := 1) hX
    refine ⟨I2, s1 _ (hdg _ ?_), f2, s3.tr (frA_H f3 f4)⟩
    simp (disch := first | assumption | omega | exact Nat.le_of_ble_eq_true rfl | decide) only [u_182_40, u_182_43, u_182_46, u_182_47, u_182_48, u_182_49, u_182_52, u_182_55, m_in, if_neg hno, bnd_some, psh_some, not_true, if_false, g6, f1]
  | some v =>
    obtain ⟨e1, e2, e3⟩ := dgR_some hd
    have hyes : 48 + nLo t a ≤ hr t (nA t a) ∧ hr t (nA t a) ≤ 57 := (dg_in (hi := 9)).mpr ⟨v, hd⟩
    have hlo : nLo t a = 0 ∨ nLo t a = 1 := by unfold nLo; split <;> simp
    have hlt := hr_lt (t := t) (a := nA t a) (by omega)
    have hw : wr (hr t (nA t a) - 48) = v := by rw [← e1]; exact wrI (by omega) (by omega)
    have hb2 := hr_bd ht (nA t a + 1)
    have g2 : mdI (up I1 392 18 ((nA t a + 1 : Nat) : Int)) t q (nA t a + 1) m := s2.H up18_H ups
    have hh2 := fun dd => m_here (d := dd) hX hq ht g2
    have g26 := g2.1
    have hmid : ∀ r : Option Res, ev S0 (d + 1) 182 74 [.inr (.inl 392), .inl (n : Int), .inl sg, .inl v] [] (sh, up I1 392 18 ((nA t a + 1 : Nat) : Int), R) = r → ev S0 (d + 1) 182 40 [.inr (.inl 392), .inl (n : Int), .inl sg, .inr (.inr 1)] [.inl 57, .inl (48 + nLo t a), .inl (hr t (nA t a))] (sh, I1, R) = r := by
      intro r hr'
      clear e1 hb hb1 hb2
      simp (disch := first | assumption | omega | exact Nat.le_of_ble_eq_true rfl | decide) only [u_182_40, u_182_43, u_182_46, u_182_47, u_182_48, u_182_49, u_182_52, u_182_55, u_182_56, u_182_57, u_182_60, u_182_62, u_182_63, u_182_64, u_182_65, u_182_66, u_182_69, u_182_70, u_182_71, m_in, if_pos hyes, bnd_some, psh_some, Int.reduceEq, not_false_eq_true, if_true, hh1, hw, g6, wrI, n1]
      exact hr'
    have hend : ∀ (v' : Int) (I2 : IM), 0 ≤ v' → v' ≤ 99 → ev S0 (d + 1) 182 115 [.inr (.inl 392), .inl (n : Int), .inl sg, .inl v'] [] (sh, I2, R) = some (some (.inl 1), (sh, up I2 407 (n : Int) (if hr t a = 45 then -v' else v'), R)) := by
      intro v' I2 b1 b2
      rcases s6 with ⟨h45, e, -⟩ | ⟨h45, e, -⟩
      · have hng : wr (-1 * v') = -v' := by rw [wrI (by omega) (by omega)]; omega
        rw [e, if_pos h45]
        simp (disch := first | assumption | omega | exact Nat.le_of_ble_eq_true rfl | decide) only [u_182_115, u_182_116, u_182_119, u_182_120, u_182_121, u_182_122, u_182_123, u_182_124, u_182_125, r22, rv_some, hng]
      · have hng : wr (1 * v') = v' := by rw [wrI (by omega) (by omega)]; omega
        rw [e, if_neg h45]
        simp (disch := first | assumption | omega | exact Nat.le_of_ble_eq_true rfl | decide) only [u_182_115, u_182_116, u_182_119, u_182_120, u_182_121, u_182_122, u_182_123, u_182_124, u_182_125, r22, rv_some, hng]
    dsimp only
    unfold nTw
    by_cases hc : 0 < v ∧ 0 ≤ hr t (nA t a + 1) - 48 ∧ hr t (nA t a + 1) - 48 ≤ 9
    · rw [if_pos hc]
      have c1 : ¬ v ≤ 0 := by omega
      have c2 : 48 ≤ hr t (nA t a + 1) ∧ hr t (nA t a + 1) ≤ 57 := by omega
      have hlt2 := hr_lt (t := t) (a := nA t a + 1) (by omega)
      have hm1 : wr (10 * v) = 10 * v := wrI (by omega) (by omega)
      have hm2 : wr (10 * v + hr t (nA t a + 1)) = 10 * v + hr t (nA t a + 1) := wrI (by omega) (by omega)
      have hm3 : wr (10 * v + hr t (nA t a + 1) - 48) = 10 * v + (hr t (nA t a + 1) - 48) := by rw [wrI (by omega) (by omega)]; omega
      have hed := hend (10 * v + (hr t (nA t a + 1) - 48)) (up (up I1 392 18 ((nA t a + 1 : Nat) : Int)) 392 18 ((nA t a + 1 + 1 : Nat) : Int)) (by omega) (by omega)
      refine ⟨up (up (up I1 392 18 ((nA t a + 1 : Nat) : Int)) 392 18 ((nA t a + 1 + 1 : Nat) : Int)) 407 (n : Int) (if hr t a = 45 then -(10 * v + (hr t (nA t a + 1) - 48)) else 10 * v + (hr t (nA t a + 1) - 48)), s1 _ (hdg _ (hmid _ ?_)), ?_, ?_, ?_, ?_, ?_, ?_⟩
      rotate_left
      · rw [upk (by decide), ups]
      · rw [ups]
      · exact ((s3.tr up18_H).tr up18_H).tr ⟨fun k _ _ _ _ x => upf x, fun z _ _ => by rw [upk (by decide)]⟩
      · exact ((s4.tr up18_m).tr up18_m).tr ⟨by rw [upk (by decide)], upf (by decide), upf (by decide)⟩
      · rw [upf (by decide), upf (by decide), upf (by decide), s5 _ (by decide)]
      · intro z hz
        rw [upj hz, upk (by decide), upk (by decide), s5 _ (by decide)]
      · rw [← hed]
        clear hed hend hb hb1 hb2 hmid e1 hw
        simp (disch := first | assumption | omega | exact Nat.le_of_ble_eq_true rfl | decide) only [u_182_74, u_182_75, u_182_78, u_182_79, u_182_82, u_182_84, u_182_86, u_182_89, u_182_92, u_182_94, u_182_95, u_182_96, u_182_97, u_182_100, u_182_101, u_182_103, u_182_104, u_182_105, u_182_106, u_182_107, u_182_110, u_182_111, u_182_112, c1, if_false, hh2, bnd_some, psh_some, m_in, if_pos c2, Int.reduceEq, hm1, hm2, hm3, g26, wrI, n1]
    · rw [if_neg hc]
      have hed := hend v (up I1 392 18 ((nA t a + 1 : Nat) : Int)) (by omega) (by omega)
      refine ⟨up (up I1 392 18 ((nA t a + 1 : Nat) : Int)) 407 (n : Int) (if hr t a = 45 then -v else v), s1 _ (hdg _ (hmid _ ?_)), ?_, ?_, ?_, ?_, ?_, ?_⟩
      rotate_left
      · rw [upk (by decide), ups]
      · rw [ups]
      · exact (s3.tr up18_H).tr ⟨fun k _ _ _ _ x => upf x, fun z _ _ => by rw [upk (by decide)]⟩
      · exact (s4.tr up18_m).tr ⟨by rw [upk (by decide)], upf (by decide), upf (by decide)⟩
      · rw [upf (by decide), upf (by decide), s5 _ (by decide)]
      · intro z hz
        rw [upj hz, upk (by decide), s5 _ (by decide)]
      · rw [← hed]
        clear hed hend hmid
        by_cases c1 : v ≤ 0
        · simp (disch := first | assumption | omega | exact Nat.le_of_ble_eq_true rfl | decide) only [u_182_74, u_182_75, u_182_78, u_182_79, u_182_82, u_182_84, u_182_86, u_182_89, u_182_92, u_182_94, u_182_95, u_182_96, u_182_97, u_182_100, u_182_101, u_182_103, u_182_104, u_182_105, u_182_106, u_182_107, u_182_110, u_182_111, u_182_112, if_pos c1]
        · have c2 : ¬ (48 ≤ hr t (nA t a + 1) ∧ hr t (nA t a + 1) ≤ 57) := by omega
          clear e1 hb hb1 hb2 hw
          simp (disch := first | assumption | omega | exact Nat.le_of_ble_eq_true rfl | decide) only [u_182_74, u_182_75, u_182_78, u_182_79, u_182_82, u_182_84, u_182_86, u_182_89, u_182_92, u_182_94, u_182_95, u_182_96, u_182_97, u_182_100, u_182_101, u_182_103, u_182_104, u_182_105, u_182_106, u_182_107, u_182_110, u_182_111, u_182_112, if_neg c1, hh2, bnd_some, psh_some, m_in, if_neg c2, if_true]
theorem or01 : ∀ x : Int, (x = 0 ∨ x = 1) → b32 (fun x y => x ||| y) x 0 = x ∧ b32 (fun x y => x ||| y) x 1 = 1 := by
  rintro x (rfl | rfl) <;> decide +kernel
def hasB (L : FL) (n : Int) : Bool := L.any (fun p => decide (p.1 = n))
theorem hasB_iff {L : FL} {n : Int} : hasB L n = true ↔ ∃ p ∈ L, p.1 = n := by
  unfold hasB
  rw [List.any_eq_true]
  exact ⟨fun ⟨p, a, b⟩ => ⟨p, a, of_decide_eq_true b⟩, fun ⟨p, a, b⟩ => ⟨p, a, decide_eq_true b⟩⟩
theorem hasB_cons {p : Int × Int} {L : FL} {n : Int} (h : ¬ p.1 = n) : hasB (p :: L) n = hasB L n := by
  show (decide (p.1 = n) || L.any _) = _
  rw [decide_eq_false h, Bool.false_or]
  rfl
theorem had_loop (hX : MX sh R) {L : FL} (hL : L.length ≤ 6) (hN : isNN I L) {nm : Int} {a1 : AV} : ∀ (k j : Nat) (h : Int), (h = 0 ∨ h = 1) → j + k = L.length → ev S0 d 183 83 [.inr (.inl 392), a1, .inl (L.length : Int), .inl nm, .inl h, .inl (j : Int)] [] (sh, I, R) = ev S0 d 183 116 [.inr (.inl 392), a1, .inl (L.length : Int), .inl nm, .inl (if h = 1 ∨ hasB (L.drop j) nm = true then 1 else 0), .inl (L.length : Int)] [] (sh, I, R) := by
  have t9 := hX.1.1
  obtain ⟨r21, t21, l21⟩ := hX.g 21 406 6 (by decide)
  intro k
  induction k with
  | zero =>
    intro j h hh hj
    obtain rfl : j = L.length := by omega
    have hc : (L.length : Int) ≤ (L.length : Int) := by omega
    have e : (if h = 1 ∨ hasB (L.drop L.length) nm = true then (1 : Int) else 0) = h := by
      rw [List.drop_length]
      by_cases h1 : h = 1
      · rw [if_pos (Or.inl h1), h1]
      · rw [if_neg (fun z => z.elim h1 (fun z => by cases z))]
        omega
    rw [e]
    simp (disch := first | assumption | omega | exact Nat.le_of_ble_eq_true rfl | decide) only [u_183_83, u_183_85, u_183_86, if_pos hc]
  | succ k ih =>
    intro j h hh hj
    have hjl : j < L.length := by omega
    have hc : ¬ (L.length : Int) ≤ (j : Int) := by omega
    obtain ⟨v1, v2⟩ := hN j _ (List.getElem?_eq_getElem hjl)
    obtain ⟨o0, o1⟩ := or01 h hh
    rw [u_183_83]
    by_cases he : L[j].1 = nm
    · have ih' := ih (j + 1) 1 (Or.inr rfl) (by omega)
      rw [if_pos (Or.inl rfl)] at ih'
      have e : (if h = 1 ∨ hasB (L.drop j) nm = true then (1 : Int) else 0) = 1 := if_pos (Or.inr (hasB_iff.mpr ⟨L[j], by rw [List.drop_eq_getElem_cons hjl]; exact List.mem_cons_self, he⟩))
      rw [e]
      rw [he] at v1
      simp (disch := first | assumption | omega | exact Nat.le_of_ble_eq_true rfl | decide) only [u_183_85, u_183_86, u_183_89, u_183_91, u_183_92, u_183_95, u_183_97, u_183_98, u_183_99, u_183_102, u_183_103, u_183_106, u_183_107, u_183_108, u_183_110, u_183_113, hc, if_false, r21, rv_some, v1, not_true, o1, wrI, n1, ih']
    · have ih' := ih (j + 1) h hh (by omega)
      have e : (if h = 1 ∨ hasB (L.drop j) nm = true then (1 : Int) else 0) = if h = 1 ∨ hasB (L.drop (j + 1)) nm = true then 1 else 0 := by
        rw [List.drop_eq_getElem_cons hjl, hasB_cons he]
      rw [e]
      simp (disch := first | assumption | omega | exact Nat.le_of_ble_eq_true rfl | decide) only [u_183_85, u_183_86, u_183_89, u_183_91, u_183_92, u_183_95, u_183_97, u_183_98, u_183_99, u_183_102, u_183_103, u_183_106, u_183_107, u_183_108, u_183_110, u_183_113, hc, if_false, if_true, r21, rv_some, v1, he, not_false_eq_true, o0, wrI, n1, ih']
theorem mfl_loop (hX : MX sh R) (hq : q < 4) (ht : okT t) {kd : AV} : ∀ (f a i : Nat) (I : IM) (L : FL) (a3 a4 a5 : AV), i + f = 7 → L.length = i → i ≤ 6 → a ≤ t.length → okFl L → mdI I t q a m → isNN I L → ∃ I', (match flR t f a L with
    | .inl p => (∃ a3' a4' a5', ev S0 (d + 2) 183 36 [.inr (.inl 392), kd, .inl (i : Int), a3, a4, a5] [] (sh, I, R) = ev S0 (d + 2) 183 178 [.inr (.inl 392), kd, .inl (p.1.length : Int), a3', a4', a5'] [] (sh, I', R)) ∧ isNN I' p.1 ∧ I' 392 18 = ((p.2 : Nat) : Int) ∧ FrH I I' ∧ Fr3m I I'
    | .inr fl => ev S0 (d + 2) 183 36 [.inr (.inl 392), kd, .inl (i : Int), a3, a4, a5] [] (sh, I, R) = some (some (.inl (-9)), (sh, I', R)) ∧ mFlm I' fl ∧ FrH I I') := by
  have t9 := hX.1.1
  obtain ⟨r21, t21, l21⟩ := hX.g 21 406 6 (by decide)
  have ht2 := ht.1
  intro f
  induction f with
  | zero => intro a i I L a3 a4 a5 hi hL hi6; omega
  | succ f ih =>
    intro a i I L a3 a4 a5 hi hL hi6 ha hok h hN
    have hh := fun dd => m_here (d := dd) hX hq ht h
    have h6 := h.1
    unfold flR
    by_cases h1 : hr t a = 46
    · rw [if_pos h1]
      dsimp only
      simp only [h1] at hh
      refine ⟨up I 392 18 ((a + 1 : Nat) : Int), ⟨a3, a4, a5, ?_⟩, fun j p hp => by rw [upk (by decide), upk (by decide)]; exact hN j p hp, ups, up18_H, up18_m⟩
      rw [hL]
      simp (disch := first | assumption | omega | exact Nat.le_of_ble_eq_true rfl | decide) only [u_183_36, u_183_37, u_183_40, u_183_42, u_183_168, u_183_169, u_183_170, u_183_173, u_183_174, u_183_175, hh, bnd_some, psh_some, if_true, h6, wrI, n1]
    · rw [if_neg h1]
      by_cases h2 : isNm (hr t a)
      · rw [if_neg (Classical.not_not.mpr h2)]
        have h70 := had_loop (d := d + 2) (R := R) (sh := sh) (nm := hr t a) (a1 := kd) hX hok.1 hN L.length 0 (if L.length = 6 then 1 else 0) (by split <;> simp) (by omega)
        rw [List.drop_zero] at h70
        have hiff : ((if L.length = 6 then (1 : Int) else 0) = 1 ∨ hasB L (hr t a) = true) ↔ (¬ fidx L (hr t a) = -1 ∨ 6 ≤ L.length) := by
          have hlen : ((if L.length = 6 then (1 : Int) else 0) = 1) ↔ 6 ≤ L.length := by
            have := hok.1
            by_cases z : L.length = 6
            · rw [if_pos z]; omega
            · rw [if_neg z]; omega
          rw [hlen]
          rcases fidx_spec L (hr t a) with ⟨z, -, y⟩ | ⟨j, p, z, -, y, x, -⟩
          · refine ⟨fun k => k.elim (fun k => Or.inr k) (fun k => ?_), fun k => k.elim (fun k => absurd z k) (fun k => Or.inl k)⟩
            obtain ⟨p, hp, e⟩ := hasB_iff.mp k
            exact absurd e (y p hp)
          · exact ⟨fun _ => Or.inl (by omega), fun _ => Or.inr (hasB_iff.mpr ⟨p, List.mem_of_getElem? y, x⟩)⟩
        have hgo : ∀ r : Option Res, ev S0 (d + 2) 183 116 [.inr (.inl 392), kd, .inl (L.length : Int), .inl (hr t a), .inl (if ¬ fidx L (hr t a) = -1 ∨ 6 ≤ L.length then 1 else 0), .inl (L.length : Int)] [] (sh, I, R) = r → ev S0 (d + 2) 183 36 [.inr (.inl 392), kd, .inl (i : Int), a3, a4, a5] [] (sh, I, R) = r := by
          intro r hr'
          have e : (if (if L.length = 6 then (1 : Int) else 0) = 1 ∨ hasB L (hr t a) = true then (1 : Int) else 0) = if ¬ fidx L (hr t a) = -1 ∨ 6 ≤ L.length then 1 else 0 := by
            by_cases z : ¬ fidx L (hr t a) = -1 ∨ 6 ≤ L.length
            · rw [if_pos z, if_pos (hiff.mpr z)]
            · rw [if_neg z, if_neg (fun y => z (hiff.mp y))]
          rw [e] at h70
          rw [← hL]
          by_cases z : L.length = 6
          · rw [if_pos z] at h70
            have h70 : ev S0 (d + 2) 183 83 [.inr (.inl 392), kd, .inl (L.length : Int), .inl (hr t a), .inl 1, .inl 0] [] (sh, I, R) = _ := h70
            have zi : (L.length : Int) = 6 := by omega
            rw [zi] at h70 hr' ⊢
            simp (disch := first | assumption | omega | exact Nat.le_of_ble_eq_true rfl | decide) only [u_183_36, u_183_37, u_183_40, u_183_42, u_183_45, u_183_46, u_183_49, u_183_50, u_183_51, u_183_54, u_183_57, u_183_58, u_183_59, u_183_60, u_183_63, u_183_66, u_183_67, u_183_68, u_183_70, u_183_73, u_183_74, u_183_77, u_183_78, u_183_80, u_183_81, hh, bnd_some, psh_some, h1, if_false, m_isName, if_pos h2, Int.reduceEq, not_false_eq_true, not_true, if_true]
            rw [h70]
            exact hr'
          · rw [if_neg z] at h70
            have h70 : ev S0 (d + 2) 183 83 [.inr (.inl 392), kd, .inl (L.length : Int), .inl (hr t a), .inl 0, .inl 0] [] (sh, I, R) = _ := h70
            have zi : ¬ (L.length : Int) = 6 := by omega
            simp (disch := first | assumption | omega | exact Nat.le_of_ble_eq_true rfl | decide) only [u_183_36, u_183_37, u_183_40, u_183_42, u_183_45, u_183_46, u_183_49, u_183_50, u_183_51, u_183_54, u_183_57, u_183_58, u_183_59, u_183_60, u_183_63, u_183_66, u_183_67, u_183_68, u_183_70, u_183_73, u_183_74, u_183_77, u_183_78, u_183_80, u_183_81, hh, bnd_some, psh_some, h1, if_false, m_isName, if_pos h2, Int.reduceEq, not_false_eq_true, if_true, zi]
            rw [h70]
            exact hr'
        clear h70 hiff
        by_cases h3 : ¬ fidx L (hr t a) = -1 ∨ 6 ≤ L.length
        · rw [if_pos h3]
          rw [if_pos h3] at hgo
          obtain ⟨I', f1, f2, f3, f4⟩ := m_fails (d := d + 1) (I := I) (pl := (a : Int)) (why := 6) hX
          refine ⟨I', hgo _ ?_, f2, frA_H f3 f4⟩
          simp (disch := first | assumption | omega | exact Nat.le_of_ble_eq_true rfl | decide) only [u_183_116, u_183_118, u_183_121, u_183_122, u_183_124, u_183_125, u_183_128, u_183_131, Int.reduceEq, if_false, h6, f1, bnd_some, psh_some]
        · rw [if_neg h3]
          rw [if_neg h3] at hgo
          have hlt := hr_lt (t := t) (a := a) (by have := h2.1; omega)
          rw [not_or] at h3
          have hU : FrH I (up (up I 406 (L.length : Int) (hr t a)) 392 18 ((a + 1 : Nat) : Int)) := ⟨fun k x _ _ y _ => by rw [upf x, upf y], fun z _ x => by rw [upj x, upk (by decide)]⟩
          have hUm : Fr3m I (up (up I 406 (L.length : Int) (hr t a)) 392 18 ((a + 1 : Nat) : Int)) := ⟨by rw [upj (by decide), upk (by decide)], by rw [upf (by decide), upf (by decide)], by rw [upf (by decide), upf (by decide)]⟩
          have g2 : mdI (up (up I 406 (L.length : Int) (hr t a)) 392 18 ((a + 1 : Nat) : Int)) t q (a + 1) m := h.H hU ups
          obtain ⟨I2, hn⟩ := m_num (d := d) hX hq ht g2 (by omega) (n := L.length) (by omega)
          cases hnm : nmR t (a + 1) with
          | none =>
            rw [hnm] at hn
            obtain ⟨n1_, n2, n3⟩ := hn
            refine ⟨I2, hgo _ ?_, n2, hU.tr n3⟩
            simp (disch := first | assumption | omega | exact Nat.le_of_ble_eq_true rfl | decide) only [u_183_116, u_183_118, u_183_121, u_183_122, u_183_124, u_183_125, u_183_128, u_183_131, u_183_132, u_183_133, u_183_136, u_183_137, u_183_138, u_183_139, u_183_140, u_183_141, u_183_144, u_183_145, u_183_146, u_183_149, u_183_150, u_183_151, u_183_154, u_183_156, u_183_159, u_183_161, if_true, r21, rv_some, h6, upk, wrI, n1, n1_, bnd_some, psh_some, not_true, if_false]
          | some p =>
            rw [hnm] at hn
            obtain ⟨n1_, n2, n3, n4, n5, n6, n7⟩ := hn
            obtain ⟨k1, k2, k3⟩ := nmR_ok hnm
            have g3 := g2.H n4 n2
            have hok3 : okFl (L ++ [(hr t a, p.1)]) := ⟨by rw [List.length_append]; simp only [List.length_cons, List.length_nil]; omega, fun x hx => by
              rcases List.mem_append.mp hx with z | z
              · exact hok.2 x z
              · rw [List.mem_singleton] at z
                rw [z]; exact ⟨h2.1, h2.2, k1.1, k1.2⟩⟩
            have hN3 : isNN I2 (L ++ [(hr t a, p.1)]) := fun j y hy => by
              have := lenOf hy
              rw [List.length_append] at this
              simp only [List.length_cons, List.length_nil] at this
              by_cases hj : j < L.length
              · rw [List.getElem?_append_left hj] at hy
                rw [n6, n7 _ (by omega), upk (by decide), upj (by omega), upk (by decide), upk (by decide)]
                exact hN j y hy
              · obtain rfl : j = L.length := by omega
                rw [List.getElem?_append_right (Nat.le_refl _), Nat.sub_self] at hy
                cases hy
                exact ⟨by rw [n6, upk (by decide), ups], n3⟩
            obtain ⟨I4, e⟩ := ih p.2 (i + 1) I2 (L ++ [(hr t a, p.1)]) (.inl (hr t a)) (.inl 0) (.inl (L.length : Int)) (by omega) (by rw [List.length_append, hL]; rfl) (by omega) k2 hok3 g3 hN3
            have hgo2 : ev S0 (d + 2) 183 36 [.inr (.inl 392), kd, .inl (i : Int), a3, a4, a5] [] (sh, I, R) = ev S0 (d + 2) 183 36 [.inr (.inl 392), kd, .inl ((i + 1 : Nat) : Int), .inl (hr t a), .inl 0, .inl (L.length : Int)] [] (sh, I2, R) := by
              refine hgo _ ?_
              rw [hL] at n1_ ⊢
              simp (disch := first | assumption | omega | exact Nat.le_of_ble_eq_true rfl | decide) only [u_183_116, u_183_118, u_183_121, u_183_122, u_183_124, u_183_125, u_183_128, u_183_131, u_183_132, u_183_133, u_183_136, u_183_137, u_183_138, u_183_139, u_183_140, u_183_141, u_183_144, u_183_145, u_183_146, u_183_149, u_183_150, u_183_151, u_183_154, u_183_156, u_183_159, u_183_161, u_183_162, u_183_165, if_true, r21, rv_some, h6, upk, wrI, n1, n1_, bnd_some, psh_some, Int.reduceEq, not_false_eq_true]
            rw [hgo2]
            dsimp only
            cases hfl : flR t f p.2 (L ++ [(hr t a, p.1)]) with
            | inl x =>
              rw [hfl] at e
              exact ⟨I4, e.1, e.2.1, e.2.2.1, (hU.tr n4).tr e.2.2.2.1, (hUm.tr n5).tr e.2.2.2.2⟩
            | inr fl =>
              rw [hfl] at e
              exact ⟨I4, e.1, e.2.1, (hU.tr n4).tr e.2.2⟩
      · rw [if_pos h2]
        obtain ⟨I', f1, f2, f3, f4⟩ := m_fails (d := d + 1) (I := I) (pl := (a : Int)) (why := 1) hX
        refine ⟨I', ?_, f2, frA_H f3 f4⟩
        simp (disch := first | assumption | omega | exact Nat.le_of_ble_eq_true rfl | decide) only [u_183_36, u_183_37, u_183_40, u_183_42, u_183_45, u_183_46, u_183_49, u_183_50, u_183_51, u_183_54, u_183_57, u_183_58, u_183_59, u_183_60, u_183_63, u_183_66, hh, bnd_some, psh_some, h1, if_false, m_isName, if_neg h2, not_true, h6, f1]
end MLD
