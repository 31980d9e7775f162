/-! THE CLASS: load, parts -/
def cRes (I I' : IM) (t : List Int) (q : Nat) (r : RRes) (v : Int) : Prop := FrD I I' ∧ (match r with
  | .inl x => v = x.1 ∧ isW I' 1 x.2.1 ∧ ldI I' t q x.2.2.1 x.2.2.2 ∧ Fr3c I I'
  | .inr e => v = -1000000 ∧ isW I' 1 e.2.1 ∧ ldM I' e.2.2 ∧ cFl I' e.1)
def cRes2 (I I' : IM) (t : List Int) (q : Nat) (r : LSt ⊕ LFl) (v : Int) : Prop := FrD I I' ∧ (match r with
  | .inl s => v = 1 ∧ isW I' 1 s.1 ∧ ldI I' t q s.2.1 s.2.2 ∧ Fr3c I I'
  | .inr e => v = 0 ∧ isW I' 1 e.2.1 ∧ ldM I' e.2.2 ∧ cFl I' e.1)
section CLP
variable {sh : Shp} {R : RM} {I : IM} {d q a : Nat} {w : WD} {t m : List Int}
theorem s_mk (hR : LdR sh R q) (hW : isW I 1 w) (hm : okm w m) (h : ldI I t q a m) {kd hd : Int} {len i : Nat} (hl : len ≤ 6) (hf : freeW w = (i : Int)) (hi : i < 30) (hi0 : (w.1 i).1 = 0) : ∃ I', cl (d + 4) 27 [.inr (.inl 373), .inl kd, .inl hd, .inl (len : Int)] (sh, I, R) = some (some (.inl (i : Int)), (sh, I', R)) ∧ isW I' 1 (setN w i (kd, hd, List.replicate len (-1), [])) ∧ ldI I' t q a (m ++ [(i : Int)]) ∧ FrD I I' ∧ Fr3c I I' ∧ (∀ k, 374 ≤ k → k ≤ 379 → I' k = I k) := by
  obtain ⟨⟨tl, l0, l1, l2, l3, tf, f0, f1, t5, l5, t6, l6, hF, t8, l8⟩, hS1, r5, hSg, hq⟩ := id hR
  have tw := hS1.1
  obtain ⟨I1, g1, g2, g3⟩ := s_make (d := d) (kd := kd) (hd := hd) hS1 hW hl hf hi
  have h1 := h.W g3
  have h4 := h1.2.1.1
  have hni : (i : Int) ∉ m := fun z => (hm.2 _ z).2.2 (by rw [Int.toNat_natCast]; exact hi0)
  have hlen : m.length < 30 := by
    have := pig 30 (m ++ [(i : Int)]) (by
      rw [List.nodup_append]
      refine ⟨hm.1, by simp, fun x hx y hy => ?_⟩
      rw [List.mem_singleton] at hy
      exact fun z => hni (by rw [← hy, ← z]; exact hx)) (fun x hx => by
      rcases List.mem_append.mp hx with z | z
      · exact ⟨(hm.2 x z).1, (hm.2 x z).2.1⟩
      · rw [List.mem_singleton] at z
        omega)
    rw [List.length_append] at this
    simp only [List.length_cons, List.length_nil] at this
    omega
  have hne : ¬ (i : Int) = -1 := by omega
  have hlt : (m.length : Int) < 30 := by omega
  refine ⟨up (up I1 380 (m.length : Int) (i : Int)) 373 4 ((m.length + 1 : Nat) : Int), ?_, g2.cong (fun k _ b => by rw [upf (by omega), upf (by omega)]), ⟨?_, ⟨?_, fun j x hx => ?_⟩, h1.2.2.1.cong (by rw [upf (by omega), upf (by omega)]) (by rw [upf (by omega), upf (by omega)]), ?_⟩, ⟨fun k hk => ?_, ?_⟩, ⟨?_, ?_, ?_⟩, fun k a b => ?_⟩
  · rw [c_27]
    simp (disch := first | assumption | omega | exact Nat.le_of_ble_eq_true rfl | decide) only [u_27_0, u_27_1, u_27_4, u_27_5, u_27_6, u_27_7, u_27_10, u_27_12, u_27_14, u_27_15, u_27_18, u_27_19, u_27_22, u_27_24, u_27_27, u_27_28, u_27_31, u_27_32, u_27_35, u_27_36, u_27_39, u_27_40, u_27_41, u_27_44, u_27_45, u_27_48, u_27_50, u_27_51, u_27_52, u_27_53, u_27_56, u_27_57, u_27_58, u_27_61, u_27_63, l0, l3, rv_some, g1, bnd_some, psh_some, hne, if_false, h4, hlt, if_true, upk, wrN]
  · rw [upj (by decide), upk (by decide)]; exact h1.1
  · rw [ups, List.length_append]; rfl
  · rw [upk (by decide)]
    have := lenOf hx
    rw [List.length_append] at this
    simp only [List.length_cons, List.length_nil] at this
    by_cases hj : j < m.length
    · rw [List.getElem?_append_left hj] at hx
      rw [upj (by omega)]
      exact h1.2.1.2 j x hx
    · obtain rfl : j = m.length := by omega
      rw [List.getElem?_append_right (Nat.le_refl _), Nat.sub_self] at hx
      cases hx
      exact ups
  · rw [upk (by decide), upk (by decide)]; exact h1.2.2.2
  · rw [upf (by omega), upf (by omega), g3 k (by omega)]
  · rw [upk (by decide), upk (by decide), g3 _ (by omega)]
  · rw [upf (by decide), upf (by decide), g3 _ (by omega)]
  · rw [upf (by decide), upf (by decide), g3 _ (by omega)]
  · rw [upf (by decide), upf (by decide), g3 _ (by omega)]
  · rw [upf (by omega), upf (by omega), g3 k (by omega)]
theorem s_rowHd (hR : LdR sh R q) (ht : okT t) {s : LSt} (hs : okD t s) (hf : ¬ freeW s.1 = -1) (hW : isW I 1 s.1) (h : ldI I t q s.2.1 s.2.2) : ∃ I' v, cl (d + 5) 25 [.inr (.inl 373)] (sh, I, R) = some (some (.inl v), (sh, I', R)) ∧ cRes I I' t q (hdR t 4 s) v := by
  have tl := hR.1.1
  obtain ⟨i, hi, hi30, hi0⟩ := free_nat hf
  unfold hdR
  rw [if_pos rfl, c_25]
  cases h1 : dgR t 0 3 s.2.1 with
  | none =>
    obtain ⟨I1, f1, f2, f3⟩ := s_digF (d := d + 2) hR ht h h1
    refine ⟨I1, -1000000, ?_, f3.D, rfl, hW.G f3, h.2.1.cong (f3.2.1 _ (by decide)) (f3.1 _ (by omega)), f2⟩
    simp (disch := first | assumption | omega | exact Nat.le_of_ble_eq_true rfl | decide) only [u_25_0, u_25_1, u_25_2, u_25_3, u_25_6, u_25_7, u_25_8, u_25_10, u_25_13, u_25_15, u_25_18, u_25_19, u_25_20, u_25_22, u_25_25, u_25_26, u_25_27, u_25_29, u_25_32, u_25_34, u_25_37, u_25_38, u_25_39, u_25_40, u_25_41, u_25_44, f1, bnd_some, psh_some, not_true, if_false]
  | some k =>
    obtain ⟨f1, f2⟩ := s_digS (d := d + 2) hR ht h h1 (by decide)
    obtain ⟨e1, e2, e3⟩ := dgR_some h1
    have hk0 : ¬ k = -1000000 := by omega
    have g2 : ldI (up I 373 6 ((s.2.1 + 1 : Nat) : Int)) t q (s.2.1 + 1) s.2.2 := h.G up6_G ups
    have hW2 := hW.G (up6_G (I := I) (v := ((s.2.1 + 1 : Nat) : Int)))
    dsimp only
    cases h2 : dgR t 0 6 (s.2.1 + 1) with
    | none =>
      obtain ⟨I2, b1, b2, b3⟩ := s_digF (d := d + 2) hR ht g2 h2
      have hG := (up6_G (I := I) (v := ((s.2.1 + 1 : Nat) : Int))).tr b3
      refine ⟨I2, -1000000, ?_, hG.D, rfl, hW.G hG, h.2.1.cong (hG.2.1 _ (by decide)) (hG.1 _ (by omega)), b2⟩
      clear e1
      simp (disch := first | assumption | omega | exact Nat.le_of_ble_eq_true rfl | decide) only [u_25_0, u_25_1, u_25_2, u_25_3, u_25_6, u_25_7, u_25_8, u_25_10, u_25_13, u_25_15, u_25_18, u_25_19, u_25_20, u_25_22, u_25_25, u_25_26, u_25_27, u_25_29, u_25_32, u_25_34, u_25_37, u_25_38, u_25_39, u_25_40, u_25_41, u_25_44, f1, bnd_some, psh_some, hk0, not_false_eq_true, if_true, b1, not_true, if_false]
    | some n =>
      obtain ⟨b1, b2⟩ := s_digS (d := d + 2) hR ht g2 h2 (by decide)
      obtain ⟨c1, c2, c3⟩ := dgR_some h2
      have hn0 : ¬ n = -1000000 := by omega
      obtain ⟨len, rfl⟩ : ∃ len : Nat, n = (len : Int) := ⟨n.toNat, by omega⟩
      have g3 : ldI (up (up I 373 6 ((s.2.1 + 1 : Nat) : Int)) 373 6 ((s.2.1 + 1 + 1 : Nat) : Int)) t q (s.2.1 + 1 + 1) s.2.2 := g2.G up6_G ups
      have hG := (up6_G (I := I) (v := ((s.2.1 + 1 : Nat) : Int))).tr (up6_G (v := ((s.2.1 + 1 + 1 : Nat) : Int)))
      obtain ⟨I3, k1, k2, k3, k4, k5, -⟩ := s_mk (d := d) (kd := 4) (hd := k) (len := len) hR (hW.G hG) hs.2.2.2 g3 (by omega) hi hi30 hi0
      dsimp only
      rw [hi, Int.toNat_natCast, Int.toNat_natCast]
      refine ⟨I3, (i : Int), ?_, hG.D.tr k4, rfl, k2, k3, (up6_c.tr up6_c).tr k5⟩
      clear e1 c1
      simp (disch := first | assumption | omega | exact Nat.le_of_ble_eq_true rfl | decide) only [u_25_0, u_25_1, u_25_2, u_25_3, u_25_6, u_25_7, u_25_8, u_25_10, u_25_13, u_25_15, u_25_18, u_25_19, u_25_20, u_25_22, u_25_25, u_25_26, u_25_27, u_25_29, u_25_32, u_25_34, u_25_37, u_25_38, u_25_39, u_25_40, u_25_41, u_25_44, f1, bnd_some, psh_some, hk0, not_false_eq_true, if_true, b1, hn0, k1]
theorem s_hd (hR : LdR sh R q) (ht : okT t) {s : LSt} (hs : okD t s) (hf : ¬ freeW s.1 = -1) {kd : Int} (hk : 1 ≤ kd ∧ kd ≤ 3) (hW : isW I 1 s.1) (h : ldI I t q s.2.1 s.2.2) : ∃ I' v, cl (d + 6) 26 [.inr (.inl 373), .inl kd] (sh, I, R) = some (some (.inl v), (sh, I', R)) ∧ cRes I I' t q (hdR t kd s) v := by
  obtain ⟨⟨tl, l0, l1, l2, l3, tf, f0, f1, t5, l5, t6, l6, hF, t8, l8⟩, hS1, r5, hSg, hq⟩ := id hR
  have tw := hS1.1
  obtain ⟨i, hi, hi30, hi0⟩ := free_nat hf
  obtain ⟨n1_, n2_⟩ := hS1.2.2.2.2.2.2.2.2.2.2.1 i hi30
  obtain ⟨tn, rn0, rn1, hFn, tn4, ln4⟩ := id n2_
  have tFn := hFn.1
  have tF := hF.1
  unfold hdR
  rw [if_neg (by omega), c_26]
  cases h1 : dgR t 1 3 s.2.1 with
  | none =>
    obtain ⟨I1, f1, f2, f3⟩ := s_digF (d := d + 3) hR ht h h1
    refine ⟨I1, -1000000, ?_, f3.D, rfl, hW.G f3, h.2.1.cong (f3.2.1 _ (by decide)) (f3.1 _ (by omega)), f2⟩
    simp (disch := first | assumption | omega | exact Nat.le_of_ble_eq_true rfl | decide) only [u_26_0, u_26_1, u_26_2, u_26_3, u_26_6, u_26_8, u_26_11, u_26_12, u_26_15, u_26_18, u_26_20, u_26_21, u_26_22, u_26_23, u_26_24, u_26_25, u_26_28, u_26_31, u_26_32, u_26_33, u_26_36, u_26_37, u_26_40, u_26_40n, u_26_41, u_26_41n, u_26_42, u_26_42n, u_26_45, u_26_45n, u_26_46, u_26_49, u_26_50, u_26_53, u_26_53n, u_26_56, u_26_57, u_26_60, u_26_60n, u_26_61, u_26_61n, u_26_64, u_26_65, f1, bnd_some, psh_some, if_true]
  | some k =>
    obtain ⟨f1, f2⟩ := s_digS (d := d + 3) hR ht h h1 (by decide)
    obtain ⟨e1, e2, e3⟩ := dgR_some h1
    have hk0 : ¬ k = -1000000 := by omega
    have g2 : ldI (up I 373 6 ((s.2.1 + 1 : Nat) : Int)) t q (s.2.1 + 1) s.2.2 := h.G up6_G ups
    obtain ⟨I2, hfl⟩ := s_flds (d := d + 1) hR ht (by omega) g2
    have hflok := flR_ok (t := t) 7 (s.2.1 + 1) [] (by omega) ⟨Nat.zero_le _, fun p hp => by cases hp⟩ (by simp)
    dsimp only
    cases h2 : flR t 7 (s.2.1 + 1) [] with
    | inr fl =>
      rw [h2] at hfl
      obtain ⟨b1, b2, b3⟩ := hfl
      have hG := (up6_G (I := I) (v := ((s.2.1 + 1 : Nat) : Int))).tr b3
      refine ⟨I2, -1000000, ?_, hG.D, rfl, hW.G hG, h.2.1.cong (hG.2.1 _ (by decide)) (hG.1 _ (by omega)), b2⟩
      clear e1
      simp (disch := first | assumption | omega | exact Nat.le_of_ble_eq_true rfl | decide) only [u_26_0, u_26_1, u_26_2, u_26_3, u_26_6, u_26_8, u_26_11, u_26_12, u_26_15, u_26_18, u_26_20, u_26_21, u_26_22, u_26_23, u_26_24, u_26_25, u_26_28, u_26_31, u_26_32, u_26_33, u_26_36, u_26_37, u_26_40, u_26_40n, u_26_41, u_26_41n, u_26_42, u_26_42n, u_26_45, u_26_45n, u_26_46, u_26_49, u_26_50, u_26_53, u_26_53n, u_26_56, u_26_57, u_26_60, u_26_60n, u_26_61, u_26_61n, u_26_64, u_26_65, f1, bnd_some, psh_some, hk0, if_false, b1, not_true]
    | inl p =>
      rw [h2] at hfl hflok
      obtain ⟨b1, b2, b3, b4, b5⟩ := hfl
      dsimp only at hflok
      have hG := (up6_G (I := I) (v := ((s.2.1 + 1 : Nat) : Int))).tr b4
      have g3 := g2.G b4 b3
      have hro : (if kd = 1 then 0 else kd) = ((rOf kd : Nat) : Int) := by unfold rOf; split <;> omega
      obtain ⟨I3, k1, k2, k3, k4, k5, k6⟩ := s_mk (d := d + 1) (kd := kd) (hd := 0) (len := rOf kd) hR (hW.G hG) hs.2.2.2 g3 (by unfold rOf; split <;> omega) hi hi30 hi0
      have hF3 : isF I3 377 p.1 := b2.cong (k6 _ (by decide) (by decide)) (k6 _ (by decide) (by decide)) (k6 _ (by decide) (by decide))
      have hN3 := k2.1 i hi30
      rw [setN_at] at hN3
      have hcap : I3 (1 + 4 + 5 * i + 1) 0 = 6 := hN3.2.2.2.2.2
      obtain ⟨I4, c1, c2, c3⟩ := s_takeF (d := d + 2) (m := 6) (f := 1 + 4 + 5 * i + 1) (g := 377) hFn hF (by omega) hF3 hcap hflok.1.1 (Nat.le_refl _)
      obtain ⟨hN4, hfrN⟩ := isN_setF hN3 c2 c3
      have hW4 := isW_setN k2 hi30 hN4 hfrN
      rw [setN_setN] at hW4
      have hW4 : isW I4 1 (setN s.1 i (kd, 0, List.replicate (rOf kd) (-1), p.1)) := hW4
      have hokx : okN (setN s.1 i (kd, 0, List.replicate (rOf kd) (-1), p.1)) (kd, 0, List.replicate (rOf kd) (-1), p.1) := by
        obtain ⟨y1, y2, y3, y4, y5, y6, y7, y8, y9, y10, y11, y12, y13⟩ := okN_new (setN s.1 i (kd, 0, List.replicate (rOf kd) (-1), p.1)) hk
        exact ⟨y1, y2, fun z => by dsimp only at z; omega, y4, y5, y6, fun z => by dsimp only at z; omega, y8, hflok.1.1, y10, y11, y12, hflok.1.2⟩
      have hok4 := okW_setN hs.1 hokx (by dsimp only; omega)
      have hkk : ((setN s.1 i (kd, 0, List.replicate (rOf kd) (-1), p.1)).1 i).1 = ((kd.toNat : Nat) : Int) := by rw [setN_at]; dsimp only; omega
      obtain ⟨I5, m1, m2, m3⟩ := s_addDef (d := d + 1) hS1 hW4 hok4 hi30 hkk (by omega) (by omega)
      rw [setN_at, setN_setN, defs_setN] at m2
      dsimp only
      rw [hi, Int.toNat_natCast]
      have hfr4 : FrW 1 I3 I4 := hfrN.W hi30
      refine ⟨I5, (i : Int), ?_, ((hG.D.tr k4).tr hfr4.D).tr m3.D, rfl, m2, (k3.W hfr4).W m3, (((up6_c.tr b5).tr k5).tr hfr4.c).tr m3.c⟩
      have hat := fun dd => s_atL (d := dd) hS1 k2 hi30 (by rw [setN_at]; dsimp only; omega)
      clear e1
      simp (disch := first | assumption | omega | exact Nat.le_of_ble_eq_true rfl | decide) only [u_26_0, u_26_1, u_26_2, u_26_3, u_26_6, u_26_8, u_26_11, u_26_12, u_26_15, u_26_18, u_26_20, u_26_21, u_26_22, u_26_23, u_26_24, u_26_25, u_26_28, u_26_31, u_26_32, u_26_33, u_26_36, u_26_37, u_26_40, u_26_40n, u_26_41, u_26_41n, u_26_42, u_26_42n, u_26_45, u_26_45n, u_26_46, u_26_49, u_26_50, u_26_53, u_26_53n, u_26_56, u_26_57, u_26_60, u_26_60n, u_26_61, u_26_61n, u_26_64, u_26_65, f1, bnd_some, psh_some, psh_none, hk0, if_false, b1, Int.reduceEq, not_false_eq_true, if_true, s_refsOf, hro, k1, l0, l2, rv_some, hat, rn0, c1, m1]
theorem s_met (hR : LdR sh R q) (ht : okT t) {s : LSt} (hs : okD t s) (hW : isW I 1 s.1) (h : ldI I t q s.2.1 s.2.2) : ∃ I' v, cl (d + 2) 24 [.inr (.inl 373)] (sh, I, R) = some (some (.inl v), (sh, I', R)) ∧ cRes I I' t q (mtR t s) v := by
  obtain ⟨tl, l0, l1, l2, l3, tf, f0, f1, t5, l5, t6, l6, hF, t8, l8⟩ := id hR.1
  have hh := fun dd => s_here (d := dd) hR ht h
  have h6 := h.1
  have h4 := h.2.1.1
  have hb := hr_bd ht s.2.1
  have ht2 := ht.1
  have hw : wr (hr t s.2.1 - 65) = hr t s.2.1 - 65 := wrI (by omega) (by omega)
  have h30 := okm_len hs.2.2.2
  unfold mtR
  rw [c_24]
  by_cases h1 : 0 ≤ hr t s.2.1 - 65 ∧ hr t s.2.1 - 65 ≤ 29
  · rw [if_neg (Classical.not_not.mpr h1)]
    have c1 : ¬ hr t s.2.1 - 65 < 0 := by omega
    have c2 : hr t s.2.1 - 65 < 30 := by omega
    by_cases h2 : (s.2.2.length : Int) ≤ hr t s.2.1 - 65
    · rw [if_pos h2]
      have c3 : ¬ hr t s.2.1 - 65 < (s.2.2.length : Int) := by omega
      obtain ⟨I1, g1, g2, g3⟩ := s_bgn (d := d) (I := I) (pl := (s.2.1 : Int)) (why := 2) hR.1
      have hG := frB_G g3
      refine ⟨I1, -1000000, ?_, hG.D, rfl, hW.G hG, h.2.1.cong (hG.2.1 _ (by decide)) (hG.1 _ (by omega)), g2⟩
      clear hb
      simp (disch := first | assumption | omega | exact Nat.le_of_ble_eq_true rfl | decide) only [u_24_0, u_24_1, u_24_4, u_24_6, u_24_7, u_24_8, u_24_9, u_24_12, u_24_13, u_24_15, u_24_18, u_24_19, u_24_22, u_24_23, u_24_26, u_24_27, u_24_30, u_24_31, u_24_32, u_24_33, u_24_36, u_24_39, u_24_40, u_24_43, u_24_44, u_24_47, u_24_48, u_24_51, u_24_52, u_24_53, u_24_54, u_24_57, u_24_58, u_24_59, u_24_62, u_24_63, u_24_66, u_24_67, u_24_68, hh, bnd_some, psh_some, hw, c1, c2, c3, if_false, if_true, h4, h6, l1, rv_some, g1]
    · rw [if_neg h2]
      have c3 : hr t s.2.1 - 65 < (s.2.2.length : Int) := by omega
      have hlt : (hr t s.2.1 - 65).toNat < s.2.2.length := by omega
      have hl := hr_lt (t := t) (a := s.2.1) (by omega)
      have hv := h.2.1.2 _ _ (List.getElem?_eq_getElem hlt)
      rw [show (((hr t s.2.1 - 65).toNat : Nat) : Int) = hr t s.2.1 - 65 by omega] at hv
      rw [getD_at hlt]
      refine ⟨up I 373 6 ((s.2.1 + 1 : Nat) : Int), _, ?_, up6_G.D, rfl, hW.G up6_G, h.G up6_G ups, up6_c⟩
      clear hb
      simp (disch := first | assumption | omega | exact Nat.le_of_ble_eq_true rfl | decide) only [u_24_0, u_24_1, u_24_4, u_24_6, u_24_7, u_24_8, u_24_9, u_24_12, u_24_13, u_24_15, u_24_18, u_24_19, u_24_22, u_24_23, u_24_26, u_24_27, u_24_30, u_24_31, u_24_32, u_24_33, u_24_36, u_24_39, u_24_40, u_24_43, u_24_44, u_24_47, u_24_48, u_24_51, u_24_52, u_24_53, u_24_54, u_24_57, u_24_58, u_24_59, u_24_62, u_24_63, u_24_66, u_24_67, u_24_68, hh, bnd_some, psh_some, hw, c1, c2, c3, if_false, if_true, h4, h6, l3, rv_some, upk, hv, wrN]
  · rw [if_pos h1]
    obtain ⟨I1, g1, g2, g3⟩ := s_bgn (d := d) (I := I) (pl := (s.2.1 : Int)) (why := 1) hR.1
    have hG := frB_G g3
    refine ⟨I1, -1000000, ?_, hG.D, rfl, hW.G hG, h.2.1.cong (hG.2.1 _ (by decide)) (hG.1 _ (by omega)), g2⟩
    clear hb
    by_cases c1 : hr t s.2.1 - 65 < 0
    · simp (disch := first | assumption | omega | exact Nat.le_of_ble_eq_true rfl | decide) only [u_24_0, u_24_1, u_24_4, u_24_6, u_24_7, u_24_8, u_24_9, u_24_12, u_24_13, u_24_15, u_24_18, u_24_19, u_24_22, u_24_23, u_24_26, u_24_27, u_24_30, u_24_31, u_24_32, u_24_33, u_24_36, u_24_39, u_24_40, u_24_43, u_24_44, u_24_47, u_24_48, u_24_51, u_24_52, u_24_53, u_24_54, u_24_57, u_24_58, u_24_59, u_24_62, u_24_63, u_24_66, u_24_67, u_24_68, hh, bnd_some, psh_some, hw, if_pos c1, h6, l1, rv_some, g1]
    · have c2 : ¬ hr t s.2.1 - 65 < 30 := by omega
      simp (disch := first | assumption | omega | exact Nat.le_of_ble_eq_true rfl | decide) only [u_24_0, u_24_1, u_24_4, u_24_6, u_24_7, u_24_8, u_24_9, u_24_12, u_24_13, u_24_15, u_24_18, u_24_19, u_24_22, u_24_23, u_24_26, u_24_27, u_24_30, u_24_31, u_24_32, u_24_33, u_24_36, u_24_39, u_24_40, u_24_43, u_24_44, u_24_47, u_24_48, u_24_51, u_24_52, u_24_53, u_24_54, u_24_57, u_24_58, u_24_59, u_24_62, u_24_63, u_24_66, u_24_67, u_24_68, hh, bnd_some, psh_some, hw, if_neg c1, if_neg c2, h6, l1, rv_some, g1]
theorem rf_loop (hR : LdR sh R q) (ht : okT t) {D n dep : Nat} (hdep : dep < 20) {p : LSt → RRes} (hp : ∀ s, okD t s → rOK t n s (p s)) (hn : 1 ≤ n) (hcall : ∀ (I : IM) (s : LSt), okD t s → isW I 1 s.1 → ldI I t q s.2.1 s.2.2 → ∃ I' v, cl (D + 3) 21 [.inr (.inl 373), .inl ((dep + 1 : Nat) : Int)] (sh, I, R) = some (some (.inl v), (sh, I', R)) ∧ cRes I I' t q (p s) v) {i len : Nat} (hi : i < 30) (hlen : len ≤ 6) : ∀ (k j : Nat) (I : IM) (s : LSt) (a5 a6 : AV), j + k = len → okD t s → isW I 1 s.1 → ldI I t q s.2.1 s.2.2 → (s.1.1 i).1 ≠ 0 → (s.1.1 i).2.2.1.length = len → ∃ I' v, ev S0 (D + 3) 32 12 [.inr (.inl 373), .inl (i : Int), .inl (dep : Int), .inr (.inl (1 + 4 + 5 * i)), .inl (j : Int), a5, a6] [] (sh, I, R) = some (some (.inl v), (sh, I', R)) ∧ cRes2 I I' t q (rfR p i k j s) v := by
  obtain ⟨⟨tl, l0, l1, l2, l3, tf, f0, f1, t5, l5, t6, l6, hF, t8, l8⟩, hS1, r5, hSg, hq⟩ := id hR
  have tw := hS1.1
  obtain ⟨n1_, n2_⟩ := hS1.2.2.2.2.2.2.2.2.2.2.1 i hi
  obtain ⟨tn, rn0, rn1, hFn, tn4, ln4⟩ := id n2_
  intro k
  induction k with
  | zero =>
    intro j I s a5 a6 hj hs hW h hk hl
    have h3 := (hW.1 i hi).2.2.1
    rw [hl] at h3
    have hc : (len : Int) ≤ (j : Int) := by omega
    refine ⟨I, 1, ?_, FrD.rf, rfl, hW, h, Fr3c.rf⟩
    simp (disch := first | assumption | omega | exact Nat.le_of_ble_eq_true rfl | decide) only [u_32_12, u_32_12n, u_32_13, u_32_13n, u_32_16, u_32_18, u_32_18n, u_32_19, u_32_22, u_32_93, u_32_94, h3, if_pos hc]
  | succ k ih =>
    intro j I s a5 a6 hj hs hW h hk hl
    have h3 := (hW.1 i hi).2.2.1
    rw [hl] at h3
    have hc : ¬ (len : Int) ≤ (j : Int) := by omega
    have h6 := h.1
    have hd1 : wr ((dep : Int) + 1) = ((dep + 1 : Nat) : Int) := wrN (by omega)
    obtain ⟨I1, v, c1, c2, c3⟩ := hcall I s hs hW h
    have hok := hp s hs
    unfold rfR
    rw [u_32_12]
    cases hps : p s with
    | inr e =>
      rw [hps] at c3 hok
      obtain ⟨rfl, c4, c5, c6⟩ := c3
      refine ⟨I1, 0, ?_, c2, rfl, c4, c5, c6⟩
      simp (disch := first | assumption | omega | exact Nat.le_of_ble_eq_true rfl | decide) only [u_32_13, u_32_13n, u_32_16, u_32_18, u_32_18n, u_32_19, u_32_22, u_32_25, u_32_26, u_32_29, u_32_31, u_32_32, u_32_33, u_32_34, u_32_35, u_32_38, u_32_40, u_32_42, u_32_44, u_32_47, u_32_48, h3, hc, if_false, h6, hd1, c1, bnd_some, psh_some, not_true]
    | inl x =>
      rw [hps] at c3 hok
      obtain ⟨rfl, c4, c5, c6⟩ := c3
      obtain ⟨o1, o2, o3⟩ := hok
      dsimp only
      have hsame : x.2.1.1 i = s.1.1 i := o2.2.2.1 i hk
      have hkx : (x.2.1.1 i).1 ≠ 0 := by rw [hsame]; exact hk
      have hlx : (x.2.1.1 i).2.2.1.length = len := by rw [hsame]; exact hl
      have hvne : ¬ x.1 = -1000000 := by
        rcases o3 with z | z
        · omega
        · have := z.1; omega
      have hto : ∀ r : Option Res, ev S0 (D + 3) 32 49 [.inr (.inl 373), .inl (i : Int), .inl (dep : Int), .inr (.inl (1 + 4 + 5 * i)), .inl (j : Int), .inl (s.2.1 : Int), .inl x.1] [] (sh, I1, R) = r → ev S0 (D + 3) 32 13 [.inr (.inl 373), .inl (i : Int), .inl (dep : Int), .inr (.inl (1 + 4 + 5 * i)), .inl (j : Int), a5, a6] [.inr (.inl (1 + 4 + 5 * i))] (sh, I, R) = r := by
        intro r hr'
        simp (disch := first | assumption | omega | exact Nat.le_of_ble_eq_true rfl | decide) only [u_32_13, u_32_13n, u_32_16, u_32_18, u_32_18n, u_32_19, u_32_22, u_32_25, u_32_26, u_32_29, u_32_31, u_32_32, u_32_33, u_32_34, u_32_35, u_32_38, u_32_40, u_32_42, u_32_44, u_32_47, h3, hc, if_false, h6, hd1, c1, bnd_some, psh_some, hvne, not_false_eq_true, if_true]
        exact hr'
      have hjl : j < (x.2.1.1 i).2.2.1.length := by omega
      have hokk : ¬ (¬ x.1 = -1 ∧ mayH (x.2.1.1 i).1 (x.2.1.1 i).2.1 (x.2.1.1 x.1.toNat).1 = 0) → (∀ r : Option Res, ev S0 (D + 3) 32 78 [.inr (.inl 373), .inl (i : Int), .inl (dep : Int), .inr (.inl (1 + 4 + 5 * i)), .inl (j : Int), .inl (s.2.1 : Int), .inl x.1] [] (sh, I1, R) = r → ev S0 (D + 3) 32 49 [.inr (.inl 373), .inl (i : Int), .inl (dep : Int), .inr (.inl (1 + 4 + 5 * i)), .inl (j : Int), .inl (s.2.1 : Int), .inl x.1] [] (sh, I1, R) = r) := by
        intro hm r hr'
        by_cases hx1 : x.1 = -1
        · have hnl : ¬ live x.2.1 x.1 := fun z => by have := z.1; omega
          simp (disch := first | assumption | omega | exact Nat.le_of_ble_eq_true rfl | decide) only [u_32_49, u_32_49n, u_32_50, u_32_51, u_32_54, u_32_56, u_32_59, u_32_59n, u_32_62, l0, rv_some, s_atN hS1 c4 hnl, bnd_some, psh_some, s_mayN n2_, Int.reduceEq, not_false_eq_true, if_true]
          exact hr'
        · have hlx := o3.resolve_left hx1
          obtain ⟨b, eb, hb, hbk⟩ := liv_nat hlx
          obtain ⟨p1, p2⟩ := hS1.2.2.2.2.2.2.2.2.2.2.1 b hb
          have nt := p2.1
          have hat := fun dd => s_atL (d := dd) hS1 c4 hb hbk
          rw [← eb] at hat
          have hmm := fun dd => s_may (d := dd) (I := I1) (sh := sh) (R := R) n2_ p2
          have hmay : mayH (x.2.1.1 i).1 (x.2.1.1 i).2.1 (x.2.1.1 b).1 = 1 := by
            refine (mayH_01 _ _ _).resolve_left (fun z => hm ⟨hx1, ?_⟩)
            rw [eb, Int.toNat_natCast]; exact z
          simp only [(c4.1 i hi).1, (c4.1 i hi).2.1, (c4.1 b hb).1, hmay] at hmm
          simp (disch := first | assumption | omega | exact Nat.le_of_ble_eq_true rfl | decide) only [u_32_49, u_32_49n, u_32_50, u_32_51, u_32_54, u_32_56, u_32_59, u_32_59n, u_32_62, l0, rv_some, hat, bnd_some, psh_some, hmm, Int.reduceEq, not_false_eq_true, if_true]
          exact hr'
      by_cases hm : ¬ x.1 = -1 ∧ mayH (x.2.1.1 i).1 (x.2.1.1 i).2.1 (x.2.1.1 x.1.toNat).1 = 0
      · rw [if_pos hm]
        have hlx := o3.resolve_left hm.1
        obtain ⟨b, eb, hb, hbk⟩ := liv_nat hlx
        obtain ⟨p1, p2⟩ := hS1.2.2.2.2.2.2.2.2.2.2.1 b hb
        have nt := p2.1
        have hat := fun dd => s_atL (d := dd) hS1 c4 hb hbk
        rw [← eb] at hat
        have hmm := fun dd => s_may (d := dd) (I := I1) (sh := sh) (R := R) n2_ p2
        have hm2 := hm.2
        rw [eb, Int.toNat_natCast] at hm2
        simp only [(c4.1 i hi).1, (c4.1 i hi).2.1, (c4.1 b hb).1, hm2] at hmm
        obtain ⟨I2, g1, g2, g3⟩ := s_bgn (d := D + 2) (I := I1) (pl := (s.2.1 : Int)) (why := 3) hR.1
        have hG := frB_G g3
        refine ⟨I2, 0, hto _ ?_, c2.tr hG.D, rfl, c4.G hG, c5.2.1.cong (hG.2.1 _ (by decide)) (hG.1 _ (by omega)), g2⟩
        simp (disch := first | assumption | omega | exact Nat.le_of_ble_eq_true rfl | decide) only [u_32_49, u_32_49n, u_32_50, u_32_51, u_32_54, u_32_56, u_32_59, u_32_59n, u_32_62, u_32_65, u_32_66, u_32_69, u_32_71, u_32_72, u_32_75, u_32_76, u_32_77, l0, l1, rv_some, hat, bnd_some, psh_some, hmm, not_true, if_false, g1]
      · rw [if_neg hm]
        obtain ⟨y1, y2⟩ := isN_setR (r := x.1) (c4.1 i hi) hjl
        have hW2 := isW_setN c4 hi y1 y2
        have hfr2 : FrW 1 I1 (up I1 (1 + 4 + 5 * i + 4) (j : Int) x.1) := y2.W hi
        have hs2 : okD t (setN x.2.1 i (setR (x.2.1.1 i) ((x.2.1.1 i).2.2.1.set j x.1)), x.2.2) := ⟨okW_ref o1.1 hi hkx o3, zW_ref o1.2.1 hkx, o1.2.2.1, ⟨o1.2.2.2.1, fun y hy => by
          obtain ⟨b, rfl, hb, hbk⟩ := liv_nat (o1.2.2.2.2 y hy)
          refine liv_of hb ?_
          by_cases hbi : b = i
          · subst hbi; rw [setN_at]; exact hbk
          · simp only [setN, if_neg hbi]; exact hbk⟩⟩
        obtain ⟨I3, v3, e1, e2⟩ := ih (j + 1) (up I1 (1 + 4 + 5 * i + 4) (j : Int) x.1) _ (.inl (s.2.1 : Int)) (.inl x.1) (by omega) hs2 hW2 (c5.W hfr2) (by rw [setN_at]; exact hkx) (by rw [setN_at]; simp only [setR, List.length_set]; exact hlx)
        refine ⟨I3, v3, hto _ (hokk hm _ ?_), ?_⟩
        · simp (disch := first | assumption | omega | exact Nat.le_of_ble_eq_true rfl | decide) only [u_32_78, u_32_78n, u_32_79, u_32_82, u_32_84, u_32_86, u_32_87, u_32_90, rn1, rv_some, wrN, e1]
        · obtain ⟨e3, e4⟩ := e2
          refine ⟨(c2.tr hfr2.D).tr e3, ?_⟩
          cases hrr : rfR p i k (j + 1) (setN x.2.1 i (setR (x.2.1.1 i) ((x.2.1.1 i).2.2.1.set j x.1)), x.2.2) with
          | inl s' =>
            rw [hrr] at e4
            exact ⟨e4.1, e4.2.1, e4.2.2.1, (c6.tr hfr2.c).tr e4.2.2.2⟩
          | inr e =>
            rw [hrr] at e4
            exact e4
end CLP
