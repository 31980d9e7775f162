/-! ALIKE -/
section ALK
variable {sh : Shp} {R : RM} {I : IM} {d : Nat} {s : ST} {w : WD} {L : PL} {a b o p : Int}
def cP (I : IM) (L : PL) : Prop := I 369 4 = (L.length : Int) ∧ isPr I 370 371 372 L
def FrP (I I' : IM) : Prop := ∀ k, k < 369 ∨ 372 < k → I' k = I k
theorem FrP.tr {I I1 I2 : IM} (h1 : FrP I I1) (h2 : FrP I1 I2) : FrP I I2 := fun k h => (h2 k h).trans (h1 k h)
theorem lk_if (w : WD) (i j : Nat) : (if (w.1 i).1 = (w.1 j).1 ∧ (w.1 i).2.1 = (w.1 j).2.1 ∧ (w.1 i).2.2.1.length = (w.1 j).2.2.1.length ∧ (w.1 i).2.2.2 = (w.1 j).2.2.2 then (1 : Int) else 0) = bI (lkB w (i : Int) (j : Int)) := by
  unfold bI lkB
  rw [Int.toNat_natCast, Int.toNat_natCast]
  by_cases h : (w.1 i).1 = (w.1 j).1 ∧ (w.1 i).2.1 = (w.1 j).2.1 ∧ (w.1 i).2.2.1.length = (w.1 j).2.2.1.length ∧ (w.1 i).2.2.2 = (w.1 j).2.2.2
  · rw [if_pos h, if_pos (decide_eq_true h)]
  · rw [if_neg h, if_neg (by rw [decide_eq_false h]; decide)]
theorem s_bind (hP : PS sh R) (hS1 : WS sh R 1) (hw : okW w) (hW : isW I 1 w) (hL : okL w L) (h : cP I L) (ha : livN w a) (hb : livN w b) : ∃ I', cl (d + 3) 43 [.inr (.inl 369), .inl a, .inl b] (sh, I, R) = some (some (.inl (bI (bdp true w L a b).1)), (sh, I', R)) ∧ cP I' (bdp true w L a b).2 ∧ FrP I I' := by
  obtain ⟨tp, p0, p1, p2, p3, t1, l1, t2, l2, t3, l3⟩ := id hP
  have tw := hS1.1
  rw [c_43]
  unfold bdp
  by_cases h1 : a = -1 ∨ b = -1
  · rw [if_pos h1]
    refine ⟨I, ?_, h, fun _ _ => rfl⟩
    by_cases ha1 : a = -1
    · have hna : ¬ live w a := fun q => by have := q.1; omega
      have hata := fun dd => s_atN (d := dd) hS1 hW hna
      by_cases hb1 : b = -1
      · have hnb : ¬ live w b := fun q => by have := q.1; omega
        rw [show decide (a = -1 ∧ b = -1) = true from decide_eq_true ⟨ha1, hb1⟩]
        simp (disch := first | assumption | omega | exact Nat.le_of_ble_eq_true rfl | decide) only [u_43_0, u_43_1, u_43_4, u_43_5, u_43_8, u_43_8n, u_43_9, u_43_10, u_43_13, u_43_14, u_43_17, u_43_17n, u_43_19, u_43_19n, u_43_20, u_43_20n, u_43_23, u_43_23n, u_43_25, u_43_25n, u_43_28, u_43_28n, u_43_29, u_43_29n, u_43_32, u_43_32n, u_43_34, u_43_34n, u_43_37, u_43_38, u_43_41, u_43_42, p0, rv_some, hata, s_atN hS1 hW hnb, bnd_some, psh_some]
        rfl
      · obtain ⟨j, rfl, hj, hj0⟩ := liv_nat (hb.resolve_left hb1)
        obtain ⟨n1_, n2⟩ := hS1.2.2.2.2.2.2.2.2.2.2.1 j hj
        have nt := n2.1
        rw [show decide (a = -1 ∧ (j : Int) = -1) = false from decide_eq_false (fun q => hb1 q.2)]
        simp (disch := first | assumption | omega | exact Nat.le_of_ble_eq_true rfl | decide) only [u_43_0, u_43_1, u_43_4, u_43_5, u_43_8, u_43_8n, u_43_9, u_43_10, u_43_13, u_43_14, u_43_17, u_43_17n, u_43_19, u_43_19n, u_43_20, u_43_20n, u_43_23, u_43_23n, u_43_25, u_43_25n, u_43_28, u_43_28n, u_43_29, u_43_29n, u_43_32, u_43_32n, u_43_34, u_43_34n, u_43_37, u_43_38, u_43_41, u_43_42, p0, rv_some, hata, s_atL hS1 hW hj hj0, bnd_some, psh_some]
        rfl
    · have hb1 := h1.resolve_left ha1
      have hnb : ¬ live w b := fun q => by have := q.1; omega
      obtain ⟨i, rfl, hi, hi0⟩ := liv_nat (ha.resolve_left ha1)
      obtain ⟨n1_, n2⟩ := hS1.2.2.2.2.2.2.2.2.2.2.1 i hi
      have nt := n2.1
      rw [show decide ((i : Int) = -1 ∧ b = -1) = false from decide_eq_false (fun q => ha1 q.1)]
      simp (disch := first | assumption | omega | exact Nat.le_of_ble_eq_true rfl | decide) only [u_43_0, u_43_1, u_43_4, u_43_5, u_43_8, u_43_8n, u_43_9, u_43_10, u_43_13, u_43_14, u_43_17, u_43_17n, u_43_19, u_43_19n, u_43_20, u_43_20n, u_43_23, u_43_23n, u_43_25, u_43_25n, u_43_28, u_43_28n, u_43_29, u_43_29n, u_43_32, u_43_32n, u_43_34, u_43_34n, u_43_37, u_43_38, u_43_41, u_43_42, p0, rv_some, s_atL hS1 hW hi hi0, s_atN hS1 hW hnb, bnd_some, psh_some]
      rfl
  · rw [if_neg h1]
    rw [not_or] at h1
    have hla := ha.resolve_left h1.1
    have hlb := hb.resolve_left h1.2
    obtain ⟨i, rfl, hi, hi0⟩ := liv_nat hla
    obtain ⟨j, rfl, hj, hj0⟩ := liv_nat hlb
    obtain ⟨n1_, n2⟩ := hS1.2.2.2.2.2.2.2.2.2.2.1 i hi
    obtain ⟨n1_', n2'⟩ := hS1.2.2.2.2.2.2.2.2.2.2.1 j hj
    have nt := n2.1
    have nt' := n2'.1
    have hati := fun dd => s_atL (d := dd) hS1 hW hi hi0
    have hatj := fun dd => s_atL (d := dd) hS1 hW hj hj0
    have v1 := h.2.1 i hi
    have v2 := h.2.2.1 j hj
    have hcnt := h.1
    by_cases h2 : sfL L (i : Int) = -1 ∧ sbL L (j : Int) = -1
    · rw [if_pos h2]
      obtain ⟨hok', hlt⟩ := hL.app hla hlb h2.1 h2.2
      rw [h2.1] at v1
      rw [h2.2] at v2
      have hlk := fun dd => s_looks (d := dd) n2 n2' (hW.1 i hi) (hW.1 j hj) ((hw.1 i hi).2.2.2.2.2.2.2.2.1)
      simp only [lk_if] at hlk
      cases hk : lkB w (i : Int) (j : Int) with
      | false =>
        rw [if_pos (by decide)]
        simp only [hk] at hlk
        have hlk : ∀ dd, cl (dd + 2) 38 [.inr (.inl (1 + 4 + 5 * i)), .inr (.inl (1 + 4 + 5 * j))] (sh, I, R) = some (some (.inl 0), (sh, I, R)) := hlk
        refine ⟨I, ?_, h, fun _ _ => rfl⟩
        simp (disch := first | assumption | omega | exact Nat.le_of_ble_eq_true rfl | decide) only [u_43_0, u_43_1, u_43_4, u_43_5, u_43_8, u_43_8n, u_43_9, u_43_10, u_43_13, u_43_14, u_43_17, u_43_17n, u_43_19, u_43_19n, u_43_20, u_43_20n, u_43_23, u_43_23n, u_43_25, u_43_25n, u_43_28, u_43_28n, u_43_29, u_43_29n, u_43_32, u_43_32n, u_43_34, u_43_34n, u_43_37, u_43_38, u_43_41, u_43_42, u_43_43, u_43_44, u_43_47, u_43_48, u_43_49, u_43_50, u_43_53, u_43_54, u_43_57, u_43_58, u_43_59, u_43_60, u_43_63, u_43_64, u_43_67, u_43_68, u_43_69, u_43_70, u_43_73, u_43_74, u_43_77, u_43_78, u_43_79, u_43_79n, u_43_80, u_43_80n, u_43_82, u_43_82n, u_43_85, u_43_88, u_43_89, u_43_92, u_43_94, u_43_97, u_43_98, p0, p1, p2, rv_some, hati, hatj, bnd_some, psh_some, v1, v2, not_true, if_false, if_true, hlk]
        rfl
      | true =>
        rw [if_neg (by decide)]
        simp only [hk] at hlk
        have hlk : ∀ dd, cl (dd + 2) 38 [.inr (.inl (1 + 4 + 5 * i)), .inr (.inl (1 + 4 + 5 * j))] (sh, I, R) = some (some (.inl 1), (sh, I, R)) := hlk
        have hlt2 : (L.length : Int) < 30 := by omega
        refine ⟨up (up (up (up I 370 (i : Int) (j : Int)) 371 (j : Int) (i : Int)) 372 (L.length : Int) (i : Int)) 369 4 ((L.length + 1 : Nat) : Int), ?_, ⟨?_, (isPr_app h.2 hL (by decide) (by decide) (by decide) h2.1 h2.2).cong (upf (by decide)) (upf (by decide)) (upf (by decide))⟩, fun k hk => by rw [upf (by omega), upf (by omega), upf (by omega), upf (by omega)]⟩
        · simp (disch := first | assumption | omega | exact Nat.le_of_ble_eq_true rfl | decide) only [u_43_0, u_43_1, u_43_4, u_43_5, u_43_8, u_43_8n, u_43_9, u_43_10, u_43_13, u_43_14, u_43_17, u_43_17n, u_43_19, u_43_19n, u_43_20, u_43_20n, u_43_23, u_43_23n, u_43_25, u_43_25n, u_43_28, u_43_28n, u_43_29, u_43_29n, u_43_32, u_43_32n, u_43_34, u_43_34n, u_43_37, u_43_38, u_43_41, u_43_42, u_43_43, u_43_44, u_43_47, u_43_48, u_43_49, u_43_50, u_43_53, u_43_54, u_43_57, u_43_58, u_43_59, u_43_60, u_43_63, u_43_64, u_43_67, u_43_68, u_43_69, u_43_70, u_43_73, u_43_74, u_43_77, u_43_78, u_43_79, u_43_79n, u_43_80, u_43_80n, u_43_82, u_43_82n, u_43_85, u_43_88, u_43_89, u_43_92, u_43_94, u_43_97, u_43_98, u_43_99, u_43_100, u_43_103, u_43_104, u_43_105, u_43_106, u_43_107, u_43_110, u_43_111, u_43_112, u_43_113, u_43_114, u_43_117, u_43_118, u_43_121, u_43_122, u_43_123, u_43_124, u_43_125, u_43_128, u_43_129, u_43_130, u_43_133, u_43_134, p0, p1, p2, p3, rv_some, hati, hatj, bnd_some, psh_some, v1, v2, not_true, if_false, if_true, hlk, Int.reduceEq, hcnt, hlt2, upk, wrN]
          rfl
        · rw [ups, List.length_append]; rfl
    · rw [if_neg h2]
      refine ⟨I, ?_, h, fun _ _ => rfl⟩
      have hcase : ∀ r : Option Res, ev S0 (d + 2) 43 63 [.inr (.inl 369), .inl (i : Int), .inl (j : Int), .inr (.inl (1 + 4 + 5 * i)), .inr (.inl (1 + 4 + 5 * j))] [] (sh, I, R) = r → ev S0 (d + 2) 43 0 [.inr (.inl 369), .inl (i : Int), .inl (j : Int), .inr (.inr 1), .inr (.inr 1)] [] (sh, I, R) = r := by
        intro r hr
        by_cases hf : sfL L (i : Int) = -1
        · have hg : ¬ sbL L (j : Int) = -1 := fun q => h2 ⟨hf, q⟩
          rw [hf] at v1
          simp (disch := first | assumption | omega | exact Nat.le_of_ble_eq_true rfl | decide) only [u_43_0, u_43_1, u_43_4, u_43_5, u_43_8, u_43_8n, u_43_9, u_43_10, u_43_13, u_43_14, u_43_17, u_43_17n, u_43_19, u_43_19n, u_43_20, u_43_20n, u_43_23, u_43_23n, u_43_25, u_43_25n, u_43_28, u_43_28n, u_43_29, u_43_29n, u_43_32, u_43_32n, u_43_34, u_43_34n, u_43_37, u_43_38, u_43_41, u_43_42, u_43_43, u_43_44, u_43_47, u_43_48, u_43_49, u_43_50, u_43_53, u_43_54, u_43_57, u_43_58, u_43_59, u_43_60, p0, p1, p2, rv_some, hati, hatj, bnd_some, psh_some, v1, v2, not_true, if_false, hg]
          exact hr
        · simp (disch := first | assumption | omega | exact Nat.le_of_ble_eq_true rfl | decide) only [u_43_0, u_43_1, u_43_4, u_43_5, u_43_8, u_43_8n, u_43_9, u_43_10, u_43_13, u_43_14, u_43_17, u_43_17n, u_43_19, u_43_19n, u_43_20, u_43_20n, u_43_23, u_43_23n, u_43_25, u_43_25n, u_43_28, u_43_28n, u_43_29, u_43_29n, u_43_32, u_43_32n, u_43_34, u_43_34n, u_43_37, u_43_38, u_43_41, u_43_42, u_43_43, u_43_44, u_43_47, u_43_48, u_43_49, u_43_50, u_43_53, u_43_54, u_43_57, u_43_58, u_43_59, u_43_60, p0, p1, p2, rv_some, hati, hatj, bnd_some, psh_some, v1, hf, not_false_eq_true, if_true]
          exact hr
      refine hcase _ ?_
      by_cases he : sfL L (i : Int) = (j : Int)
      · rw [decide_eq_true he]
        rw [he] at v1
        simp (disch := first | assumption | omega | exact Nat.le_of_ble_eq_true rfl | decide) only [u_43_63, u_43_64, u_43_67, u_43_68, u_43_69, u_43_70, u_43_73, u_43_74, u_43_77, u_43_78, p1, rv_some, v1, not_true, if_false]
        rfl
      · rw [decide_eq_false he]
        simp (disch := first | assumption | omega | exact Nat.le_of_ble_eq_true rfl | decide) only [u_43_63, u_43_64, u_43_67, u_43_68, u_43_69, u_43_70, u_43_73, u_43_74, u_43_77, u_43_78, p1, rv_some, v1, he, not_false_eq_true, if_true]
        rfl
theorem br_loop (hP : PS sh R) (hS1 : WS sh R 1) (hw : okW w) {i j : Nat} (hi : i < 30) (hj : j < 30) (hlen : (w.1 i).2.2.1.length = (w.1 j).2.2.1.length) : ∀ (k q : Nat) (I : IM) (L : PL), q + k = (w.1 i).2.2.1.length → isW I 1 w → okL w L → cP I L → ∃ I', ev S0 (d + 3) 42 17 [.inr (.inl 369), .inr (.inl (1 + 4 + 5 * i)), .inr (.inl (1 + 4 + 5 * j)), .inl 1, .inl (q : Int)] [] (sh, I, R) = some (some (.inl (bI (prs true w ((w.1 i).2.2.1.drop q) ((w.1 j).2.2.1.drop q) L).1)), (sh, I', R)) ∧ cP I' (prs true w ((w.1 i).2.2.1.drop q) ((w.1 j).2.2.1.drop q) L).2 ∧ FrP I I' := by
  obtain ⟨tp, p0, p1, p2, p3, t1, l1, t2, l2, t3, l3⟩ := id hP
  obtain ⟨n1_, n2⟩ := hS1.2.2.2.2.2.2.2.2.2.2.1 i hi
  obtain ⟨n1_', n2'⟩ := hS1.2.2.2.2.2.2.2.2.2.2.1 j hj
  obtain ⟨tn, rn0, rn1, hF, tn4, ln4⟩ := id n2
  obtain ⟨tn', rn0', rn1', hF', tn4', ln4'⟩ := id n2'
  have h6 := (hw.1 i hi).2.2.2.2.2.2.2.1
  have hrs : ∀ (o : Nat) (ho : o < 30), ∀ r ∈ (w.1 o).2.2.1, livN w r := fun o ho r hr => by
    rcases (hw.1 o ho).2.2.2.2.2.2.2.2.2.2.2.1 r hr with q | ⟨b, rfl, hb, hbk⟩
    · exact Or.inl q
    · exact Or.inr (liv_of hb hbk)
  intro k
  induction k with
  | zero =>
    intro q I L hq hW hL h
    obtain rfl : q = (w.1 i).2.2.1.length := by omega
    have h3 := (hW.1 i hi).2.2.1
    have hc : ((w.1 i).2.2.1.length : Int) ≤ ((w.1 i).2.2.1.length : Int) := by omega
    rw [List.drop_length]
    refine ⟨I, ?_, h, fun _ _ => rfl⟩
    simp (disch := first | assumption | omega | exact Nat.le_of_ble_eq_true rfl | decide) only [u_42_17, u_42_18, u_42_21, u_42_23, u_42_23n, u_42_24, u_42_27, u_42_55, u_42_56, Int.reduceEq, if_false, h3, if_pos hc]
    rfl
  | succ k ih =>
    intro q I L hq hW hL h
    have hql : q < (w.1 i).2.2.1.length := by omega
    have hql' : q < (w.1 j).2.2.1.length := by omega
    have h3 := (hW.1 i hi).2.2.1
    have hv := (hW.1 i hi).2.2.2.1.at hql
    have hv' := (hW.1 j hj).2.2.2.1.at hql'
    have hc : ¬ ((w.1 i).2.2.1.length : Int) ≤ (q : Int) := by omega
    obtain ⟨I1, e1, e2, e3⟩ := s_bind (d := d) hP hS1 hw hW hL h (hrs i hi _ (List.getElem_mem hql)) (hrs j hj _ (List.getElem_mem hql'))
    rw [List.drop_eq_getElem_cons hql, List.drop_eq_getElem_cons hql']
    have hpr : prs true w ((w.1 i).2.2.1[q] :: (w.1 i).2.2.1.drop (q + 1)) ((w.1 j).2.2.1[q] :: (w.1 j).2.2.1.drop (q + 1)) L = if (bdp true w L (w.1 i).2.2.1[q] (w.1 j).2.2.1[q]).1 = true then prs true w ((w.1 i).2.2.1.drop (q + 1)) ((w.1 j).2.2.1.drop (q + 1)) (bdp true w L (w.1 i).2.2.1[q] (w.1 j).2.2.1[q]).2 else (false, (bdp true w L (w.1 i).2.2.1[q] (w.1 j).2.2.1[q]).2) := rfl
    rw [hpr]
    have hok1 := bdp_ok (c := true) hL (hrs i hi _ (List.getElem_mem hql)) (hrs j hj _ (List.getElem_mem hql'))
    clear hpr
    generalize bdp true w L (w.1 i).2.2.1[q] (w.1 j).2.2.1[q] = bb at e1 e2 hok1 ⊢
    rw [u_42_17]
    cases hb : bb.1 with
    | true =>
      rw [if_pos rfl]
      rw [hb] at e1
      have e1 : cl (d + 3) 43 [.inr (.inl 369), .inl (w.1 i).2.2.1[q], .inl (w.1 j).2.2.1[q]] (sh, I, R) = some (some (.inl 1), (sh, I1, R)) := e1
      obtain ⟨I', f1, f2, f3⟩ := ih (q + 1) I1 bb.2 (by omega) (hW.cong (fun k _ b => e3 k (by omega))) hok1 e2
      refine ⟨I', ?_, f2, e3.tr f3⟩
      simp (disch := first | assumption | omega | exact Nat.le_of_ble_eq_true rfl | decide) only [u_42_18, u_42_21, u_42_23, u_42_23n, u_42_24, u_42_27, u_42_30, u_42_31, u_42_31n, u_42_32, u_42_35, u_42_37, u_42_38, u_42_38n, u_42_39, u_42_42, u_42_44, u_42_45, u_42_48, u_42_49, u_42_52, Int.reduceEq, if_false, h3, hc, rn1, rn1', rv_some, hv, hv', e1, bnd_some, psh_some, wrN, f1]
    | false =>
      rw [if_neg (by decide)]
      rw [hb] at e1
      have e1 : cl (d + 3) 43 [.inr (.inl 369), .inl (w.1 i).2.2.1[q], .inl (w.1 j).2.2.1[q]] (sh, I, R) = some (some (.inl 0), (sh, I1, R)) := e1
      refine ⟨I1, ?_, e2, e3⟩
      simp (disch := first | assumption | omega | exact Nat.le_of_ble_eq_true rfl | decide) only [u_42_18, u_42_21, u_42_23, u_42_23n, u_42_24, u_42_27, u_42_30, u_42_31, u_42_31n, u_42_32, u_42_35, u_42_37, u_42_38, u_42_38n, u_42_39, u_42_42, u_42_44, u_42_45, u_42_48, u_42_49, u_42_52, Int.reduceEq, if_false, h3, hc, rn1, rn1', rv_some, hv, hv', e1, bnd_some, psh_some, wrN]
      simp (disch := first | assumption | omega | exact Nat.le_of_ble_eq_true rfl | decide) only [u_42_17, u_42_18, u_42_55, u_42_56, if_true]
      rfl
theorem ft_loop (hP : PS sh R) (hS1 : WS sh R 1) (hw : okW w) {a1 a2 : AV} : ∀ (f k : Nat) (I : IM) (L : PL), k + f = 31 → k ≤ L.length → isW I 1 w → okL w L → (∀ p ∈ L, lkB w p.1 p.2 = true) → cP I L → ∃ I', ev S0 (d + 4) 41 43 [.inr (.inl 369), a1, a2, .inl 1, .inl (k : Int)] [] (sh, I, R) = some (some (.inl (bI (alG true w f L k))), (sh, I', R)) ∧ FrP I I' := by
  obtain ⟨tp, p0, p1, p2, p3, t1, l1, t2, l2, t3, l3⟩ := id hP
  have tw := hS1.1
  intro f
  induction f with
  | zero =>
    intro k I L hk hkl hW hL hlk h
    have := hL.len
    omega
  | succ f ih =>
    intro k I L hk hkl hW hL hlk h
    have h30 := hL.len
    have hcnt := h.1
    by_cases hkL : k < L.length
    · have hc : ¬ (L.length : Int) ≤ (k : Int) := by omega
      have hc2 : ¬ (30 : Int) ≤ (k : Int) := by omega
      have hgt : L[k]? = some L[k] := List.getElem?_eq_getElem hkL
      have hbd := h.2.2.2 k _ hgt
      have hpl := hL.2.2 _ (List.getElem_mem hkL)
      have hsf : sfL L L[k].1 = L[k].2 := sfL_mem hL.1 (List.getElem_mem hkL)
      have hlkk := hlk _ (List.getElem_mem hkL)
      obtain ⟨i, ei, hi, hi0⟩ := liv_nat hpl.1
      obtain ⟨j, ej, hj, hj0⟩ := liv_nat hpl.2
      obtain ⟨n1_, n2⟩ := hS1.2.2.2.2.2.2.2.2.2.2.1 i hi
      obtain ⟨n1_', n2'⟩ := hS1.2.2.2.2.2.2.2.2.2.2.1 j hj
      have nt := n2.1
      have nt' := n2'.1
      have hati := fun dd => s_atL (d := dd) hS1 hW hi hi0
      have hatj := fun dd => s_atL (d := dd) hS1 hW hj hj0
      have v1 := h.2.1 i hi
      rw [ei, ej] at hlkk
      rw [ei] at hbd
      rw [ei, ej] at hsf
      rw [hsf] at v1
      have hlen : (w.1 i).2.2.1.length = (w.1 j).2.2.1.length := by
        have := of_decide_eq_true hlkk
        rw [Int.toNat_natCast, Int.toNat_natCast] at this
        exact this.2.2.1
      obtain ⟨I1, e1, e2, e3⟩ := br_loop (d := d) hP hS1 hw hi hj hlen (w.1 i).2.2.1.length 0 I L (by omega) hW hL h
      rw [List.drop_zero, List.drop_zero] at e1 e2
      have hal : alG true w (f + 1) L k = if (prs true w (w.1 i).2.2.1 (w.1 j).2.2.1 L).1 = true then alG true w f (prs true w (w.1 i).2.2.1 (w.1 j).2.2.1 L).2 (k + 1) else false := by
        show (match L[k]? with
          | none => true
          | some p => if (!true && !lkB w p.1 p.2) = true then false else if (prs true w (w.1 p.1.toNat).2.2.1 (w.1 p.2.toNat).2.2.1 L).1 = true then alG true w f (prs true w (w.1 p.1.toNat).2.2.1 (w.1 p.2.toNat).2.2.1 L).2 (k + 1) else false) = _
        rw [hgt]
        dsimp only
        rw [ei, ej, Int.toNat_natCast, Int.toNat_natCast, if_neg (show ¬ (!true && !lkB w (i : Int) (j : Int)) = true by simp)]
      rw [hal]
      have hbr : cl (d + 4) 42 [.inr (.inl 369), .inr (.inl (1 + 4 + 5 * i)), .inr (.inl (1 + 4 + 5 * j))] (sh, I, R) = some (some (.inl (bI (prs true w (w.1 i).2.2.1 (w.1 j).2.2.1 L).1)), (sh, I1, R)) := by
        have e1 : ev S0 (d + 3) 42 17 [.inr (.inl 369), .inr (.inl (1 + 4 + 5 * i)), .inr (.inl (1 + 4 + 5 * j)), .inl 1, .inl 0] [] (sh, I, R) = _ := e1
        rw [c_42]
        simp (disch := first | assumption | omega | exact Nat.le_of_ble_eq_true rfl | decide) only [u_42_0, u_42_0n, u_42_1, u_42_1n, u_42_4, u_42_4n, u_42_5, u_42_5n, u_42_8, u_42_9, u_42_12, u_42_13, u_42_14, u_42_15, e1]
      have hrs : ∀ (o : Nat) (ho : o < 30), ∀ r ∈ (w.1 o).2.2.1, livN w r := fun o ho r hr => by
        rcases (hw.1 o ho).2.2.2.2.2.2.2.2.2.2.2.1 r hr with q | ⟨b, rfl, hb, hbk⟩
        · exact Or.inl q
        · exact Or.inr (liv_of hb hbk)
      have hok1 := prs_ok (c := true) (w.1 i).2.2.1 (w.1 j).2.2.1 L hL (hrs i hi) (hrs j hj)
      have hcmp := prs_cmp (w.1 i).2.2.1 (w.1 j).2.2.1 L hlk
      have hpre := (prs_pre true w (w.1 i).2.2.1 (w.1 j).2.2.1 L).length_le
      clear hal e1
      rw [u_41_43]
      cases hb : (prs true w (w.1 i).2.2.1 (w.1 j).2.2.1 L).1 with
      | true =>
        rw [if_pos rfl]
        rw [hb] at hbr
        have hbr : cl (d + 4) 42 [.inr (.inl 369), .inr (.inl (1 + 4 + 5 * i)), .inr (.inl (1 + 4 + 5 * j))] (sh, I, R) = some (some (.inl 1), (sh, I1, R)) := hbr
        have hlk1 : ∀ p ∈ (prs true w (w.1 i).2.2.1 (w.1 j).2.2.1 L).2, lkB w p.1 p.2 = true := by
          rcases hcmp with ⟨-, q⟩ | ⟨q, -⟩
          · exact q
          · rw [hb] at q; cases q
        obtain ⟨I', f1, f2⟩ := ih (k + 1) I1 _ (by omega) (by omega) (hW.cong (fun k _ b => e3 k (by omega))) hok1 hlk1 e2
        refine ⟨I', ?_, e3.tr f2⟩
        simp (disch := first | assumption | omega | exact Nat.le_of_ble_eq_true rfl | decide) only [u_41_44, u_41_47, u_41_49, u_41_50, u_41_53, u_41_56, u_41_58, u_41_60, u_41_63, u_41_64, u_41_65, u_41_68, u_41_69, u_41_72, u_41_74, u_41_75, u_41_78, u_41_79, u_41_82, u_41_83, u_41_86, u_41_87, u_41_90, u_41_92, u_41_93, u_41_94, u_41_97, u_41_97kn, u_41_97nk, u_41_97nn, u_41_100, u_41_101, u_41_104, Int.reduceEq, if_false, hcnt, hc, hc2, p0, p1, p3, rv_some, hbd, v1, hati, hatj, bnd_some, psh_some, hbr, wrN, f1]
      | false =>
        rw [if_neg (by decide)]
        rw [hb] at hbr
        have hbr : cl (d + 4) 42 [.inr (.inl 369), .inr (.inl (1 + 4 + 5 * i)), .inr (.inl (1 + 4 + 5 * j))] (sh, I, R) = some (some (.inl 0), (sh, I1, R)) := hbr
        refine ⟨I1, ?_, e3⟩
        simp (disch := first | assumption | omega | exact Nat.le_of_ble_eq_true rfl | decide) only [u_41_44, u_41_47, u_41_49, u_41_50, u_41_53, u_41_56, u_41_58, u_41_60, u_41_63, u_41_64, u_41_65, u_41_68, u_41_69, u_41_72, u_41_74, u_41_75, u_41_78, u_41_79, u_41_82, u_41_83, u_41_86, u_41_87, u_41_90, u_41_92, u_41_93, u_41_94, u_41_97, u_41_97kn, u_41_97nk, u_41_97nn, u_41_100, u_41_101, u_41_104, Int.reduceEq, if_false, hcnt, hc, hc2, p0, p1, p3, rv_some, hbd, v1, hati, hatj, bnd_some, psh_some, hbr, wrN]
        simp (disch := first | assumption | omega | exact Nat.le_of_ble_eq_true rfl | decide) only [u_41_43, u_41_44, u_41_107, u_41_108, if_true]
        rfl
    · have hc : (L.length : Int) ≤ (k : Int) := by omega
      have hal : alG true w (f + 1) L k = true := by
        show (match L[k]? with
          | none => true
          | some p => if (!true && !lkB w p.1 p.2) = true then false else if (prs true w (w.1 p.1.toNat).2.2.1 (w.1 p.2.toNat).2.2.1 L).1 = true then alG true w f (prs true w (w.1 p.1.toNat).2.2.1 (w.1 p.2.toNat).2.2.1 L).2 (k + 1) else false) = _
        rw [List.getElem?_eq_none (by omega)]
      rw [hal]
      refine ⟨I, ?_, fun _ _ => rfl⟩
      simp (disch := first | assumption | omega | exact Nat.le_of_ble_eq_true rfl | decide) only [u_41_43, u_41_44, u_41_47, u_41_49, u_41_50, u_41_53, u_41_107, u_41_108, Int.reduceEq, if_false, hcnt, if_pos hc]
      rfl
theorem fcl_loop (hP : PS sh R) {a1 a2 a4 : AV} : ∀ (k j : Nat) (I : IM), j + k = 30 → (∀ i : Nat, i < j → I 370 (i : Int) = -1 ∧ I 371 (i : Int) = -1) → ∃ I', ev S0 d 41 7 [.inr (.inl 369), a1, a2, .inl (j : Int), a4] [] (sh, I, R) = ev S0 d 41 33 [.inr (.inl 369), a1, a2, .inl 30, a4] [] (sh, I', R) ∧ (∀ i : Nat, i < 30 → I' 370 (i : Int) = -1 ∧ I' 371 (i : Int) = -1) ∧ ∀ k, k ≠ 370 → k ≠ 371 → I' k = I k := by
  obtain ⟨tp, p0, p1, p2, p3, t1, l1, t2, l2, t3, l3⟩ := id hP
  intro k
  induction k with
  | zero =>
    intro j I hj h
    obtain rfl : j = 30 := by omega
    have hc : (30 : Int) ≤ 30 := by omega
    refine ⟨I, ?_, h, fun _ _ _ => rfl⟩
    simp (disch := first | assumption | omega | exact Nat.le_of_ble_eq_true rfl | decide) only [u_41_7, u_41_8, u_41_10, Int.cast_ofNat_Int, if_pos hc]
  | succ k ih =>
    intro j I hj h
    have hc : ¬ (30 : Int) ≤ (j : Int) := by omega
    obtain ⟨I', e1, e2, e3⟩ := ih (j + 1) (up (up I 370 (j : Int) (-1)) 371 (j : Int) (-1)) (by omega) (fun i hi => by
      by_cases hij : i = j
      · subst hij
        exact ⟨by rw [upk (by decide)]; exact ups, ups⟩
      · rw [upk (by decide), upj (by omega), upj (by omega), upk (by decide)]; exact h i (by omega))
    refine ⟨I', ?_, e2, fun k a b => by rw [e3 k a b, upf b, upf a]⟩
    rw [u_41_7]
    simp (disch := first | assumption | omega | exact Nat.le_of_ble_eq_true rfl | decide) only [u_41_8, u_41_10, u_41_13, u_41_14, u_41_17, u_41_18, u_41_19, u_41_20, u_41_21, u_41_24, u_41_25, u_41_26, u_41_27, u_41_30, hc, if_false, p1, p2, rv_some, wrN, e1]
theorem CC_alike (hC : CS sh R) (hc : cR I s) (hs : okS s) : CE sh R I (d + 6) 109 [.inl o, .inl p] (b_alike s o p, s) := by
  obtain ⟨hH, -, -, ⟨r3, hP⟩, -⟩ := id hC
  have tc := hH.1
  have rc := hH.2.1
  have tw := hH.2.2.1
  have tp := hP.1
  unfold b_alike
  by_cases hl : liv s.1 o
  · rw [if_neg (Classical.not_not.mpr hl)]
    by_cases hp : liv s.1 p
    · rw [if_neg (Classical.not_not.mpr hp)]
      obtain ⟨I1, e1, e2, e3⟩ := fcl_loop (d := d + 4) (a1 := .inl o) (a2 := .inl p) (a4 := .inr (.inr 1)) hP 30 0 (up I 369 4 0) (by omega) (fun i hi => by omega)
      have hf1 : FrP I I1 := fun k hk => by rw [e3 k (by omega) (by omega), upf (by omega)]
      have hW1 : isW I1 1 s.1 := hc.1.cong (fun k _ b => hf1 k (by omega))
      have hcP : cP I1 [] := ⟨by rw [e3 _ (by decide) (by decide), ups]; rfl, fun i hi => (e2 i hi).1, fun i hi => (e2 i hi).2, fun j p hp => by cases hp⟩
      have hokn : okL s.1 [] := ⟨List.nodup_nil, List.nodup_nil, fun p hp => by cases hp⟩
      obtain ⟨I2, f1, f2, f3⟩ := s_bind (d := d + 1) hP hH.2.2 hs.1 hW1 hokn hcP (Or.inr hl) (Or.inr hp)
      have e1 : ev S0 (d + 4) 41 7 [.inr (.inl 369), .inl o, .inl p, .inl 0, .inr (.inr 1)] [] (sh, up I 369 4 0, R) = _ := e1
      have ho1 : ¬ o = -1 := by have := hl.1; omega
      have hp1 : ¬ p = -1 := by have := hp.1; omega
      have hbd : bdp true s.1 [] o p = if (true && !lkB s.1 o p) = true then (false, []) else (true, [(o, p)]) := by
        unfold bdp
        rw [if_neg (by rw [not_or]; exact ⟨ho1, hp1⟩), if_pos ⟨rfl, rfl⟩]
        rfl
      obtain ⟨i, ei, hi, hk0⟩ := liv_nat hl
      obtain ⟨j, ej, hj, hj0⟩ := liv_nat hp
      have hati := fun dd => s_atL (d := dd) hH.2.2 hc.1 hi hk0
      have hatj := fun dd => s_atL (d := dd) hH.2.2 hc.1 hj hj0
      rw [← ei] at hati
      rw [← ej] at hatj
      have key : ∃ I', cl (d + 5) 41 [.inr (.inl 369), .inl o, .inl p] (sh, I, R) = some (some (.inl (bI (alG false s.1 31 [(o, p)] 0))), (sh, I', R)) ∧ FrP I I' := by
        cases hk : lkB s.1 o p with
        | true =>
          rw [if_neg (by rw [hk]; decide)] at hbd
          rw [hbd] at f1 f2
          have f1 : cl (d + 4) 43 [.inr (.inl 369), .inl o, .inl p] (sh, I1, R) = some (some (.inl 1), (sh, I2, R)) := f1
          have hlk : ∀ q ∈ [(o, p)], lkB s.1 q.1 q.2 = true := fun q hq => by
            rw [List.mem_singleton] at hq
            rw [hq]; exact hk
          have hok1 : okL s.1 [(o, p)] := ⟨by simp, by simp, fun q hq => by
            rw [List.mem_singleton] at hq
            rw [hq]; exact ⟨hl, hp⟩⟩
          obtain ⟨I3, g1, g2⟩ := ft_loop (d := d) (a1 := .inl o) (a2 := .inl p) hP hH.2.2 hs.1 31 0 I2 [(o, p)] (by omega) (Nat.zero_le _) (hW1.cong (fun k _ b => f3 k (by omega))) hok1 hlk f2
          rw [al_same 31 _ 0 hlk] at g1
          have g1 : ev S0 (d + 4) 41 43 [.inr (.inl 369), .inl o, .inl p, .inl 1, .inl 0] [] (sh, I2, R) = _ := g1
          refine ⟨I3, ?_, (hf1.tr f3).tr g2⟩
          rw [c_41]
          simp (disch := first | assumption | omega | exact Nat.le_of_ble_eq_true rfl | decide) only [u_41_0, u_41_1, u_41_2, u_41_5, u_41_6]
          rw [e1]
          simp (disch := first | assumption | omega | exact Nat.le_of_ble_eq_true rfl | decide) only [u_41_33, u_41_34, u_41_35, u_41_36, u_41_39, u_41_40, u_41_41, f1, bnd_some, psh_some]
          rw [g1]
        | false =>
          rw [if_pos (by rw [hk]; decide)] at hbd
          rw [hbd] at f1
          have f1 : cl (d + 4) 43 [.inr (.inl 369), .inl o, .inl p] (sh, I1, R) = some (some (.inl 0), (sh, I2, R)) := f1
          rw [al_bad 31 [(o, p)] 0 0 (o, p) (Nat.le_refl _) rfl hk]
          refine ⟨I2, ?_, hf1.tr f3⟩
          rw [c_41]
          simp (disch := first | assumption | omega | exact Nat.le_of_ble_eq_true rfl | decide) only [u_41_0, u_41_1, u_41_2, u_41_5, u_41_6]
          rw [e1]
          simp (disch := first | assumption | omega | exact Nat.le_of_ble_eq_true rfl | decide) only [u_41_33, u_41_34, u_41_35, u_41_36, u_41_39, u_41_40, u_41_41, u_41_43, u_41_44, u_41_107, u_41_108, f1, bnd_some, psh_some, if_true]
          rfl
      obtain ⟨I', k1, k2⟩ := key
      refine ⟨I', ?_, hc.cong (fun k hk => k2 k (by unfold scr at hk; omega)) (by rw [k2 _ (by omega)]), fun k hk => k2 k (by omega)⟩
      rw [c_109]
      cases hb : alG false s.1 31 [(o, p)] 0 with
      | true =>
        rw [hb] at k1
        have k1 : cl (d + 5) 41 [.inr (.inl 369), .inl o, .inl p] (sh, I, R) = some (some (.inl 1), (sh, I', R)) := k1
        simp (disch := first | assumption | omega | exact Nat.le_of_ble_eq_true rfl | decide) only [u_109_0, u_109_1, u_109_4, u_109_5, u_109_8, u_109_8n, u_109_11, u_109_12, u_109_15, u_109_16, u_109_19, u_109_19n, u_109_22, u_109_23, u_109_24, u_109_25, u_109_28, u_109_29, u_109_30, u_109_33, u_109_36, u_109_37, u_109_40, u_109_41, rc, r3, rv_some, hati, hatj, bnd_some, psh_some, k1, Int.reduceEq, if_false]
        rfl
      | false =>
        rw [hb] at k1
        have k1 : cl (d + 5) 41 [.inr (.inl 369), .inl o, .inl p] (sh, I, R) = some (some (.inl 0), (sh, I', R)) := k1
        simp (disch := first | assumption | omega | exact Nat.le_of_ble_eq_true rfl | decide) only [u_109_0, u_109_1, u_109_4, u_109_5, u_109_8, u_109_8n, u_109_11, u_109_12, u_109_15, u_109_16, u_109_19, u_109_19n, u_109_22, u_109_23, u_109_24, u_109_25, u_109_28, u_109_29, u_109_30, u_109_33, u_109_36, u_109_37, u_109_40, u_109_41, rc, r3, rv_some, hati, hatj, bnd_some, psh_some, k1, if_true]
        rfl
    · rw [if_pos hp]
      obtain ⟨i, ei, hi, hk0⟩ := liv_nat hl
      have hati := fun dd => s_atL (d := dd) hH.2.2 hc.1 hi hk0
      rw [← ei] at hati
      refine CE.same hc ?_
      rw [c_109]
      simp (disch := first | assumption | omega | exact Nat.le_of_ble_eq_true rfl | decide) only [u_109_0, u_109_1, u_109_4, u_109_5, u_109_8, u_109_8n, u_109_11, u_109_12, u_109_15, u_109_16, u_109_19, u_109_19n, u_109_22, u_109_23, u_109_24, u_109_25, u_109_28, u_109_29, u_109_30, u_109_33, u_109_36, u_109_37, u_109_40, u_109_41, rc, rv_some, hati, s_atN hH.2.2 hc.1 (not_live hp), bnd_some, psh_some]
  · rw [if_pos hl]
    refine CE.same hc ?_
    rw [c_109]
    simp (disch := first | assumption | omega | exact Nat.le_of_ble_eq_true rfl | decide) only [u_109_0, u_109_1, u_109_4, u_109_5, u_109_8, u_109_8n, u_109_11, u_109_12, u_109_15, u_109_16, u_109_19, u_109_19n, u_109_22, u_109_23, u_109_24, u_109_25, u_109_28, u_109_29, u_109_30, u_109_33, u_109_36, u_109_37, u_109_40, u_109_41, rc, rv_some, s_atN hH.2.2 hc.1 (not_live hl), bnd_some, psh_some]
end ALK
