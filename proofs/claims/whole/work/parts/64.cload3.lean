/-! THE CLASS: load, whole -/
section CLW
variable {sh : Shp} {R : RM} {I : IM} {d q a : Nat} {s : ST} {w : WD} {t m : List Int}
theorem s_kindOf {c : Int} : cl (d + 1) 22 [.inl c] (sh, I, R) = some (some (.inl (kOf c)), (sh, I, R)) := by
  rw [c_22]
  unfold kOf
  by_cases h1 : c = 66
  · simp (disch := first | assumption | omega | exact Nat.le_of_ble_eq_true rfl | decide) only [u_22_0, u_22_1, u_22_44, u_22_45, u_22_46, u_22_47, u_22_48, u_22_49, u_22_50, u_22_51, u_22_52, u_22_53, if_pos h1]
  · by_cases h2 : c = 67
    · simp (disch := first | assumption | omega | exact Nat.le_of_ble_eq_true rfl | decide) only [u_22_0, u_22_1, u_22_44, u_22_45, u_22_46, u_22_47, u_22_48, u_22_49, u_22_50, u_22_51, u_22_52, u_22_53, if_neg h1, if_pos h2]
    · by_cases h3 : c = 76
      · simp (disch := first | assumption | omega | exact Nat.le_of_ble_eq_true rfl | decide) only [u_22_0, u_22_1, u_22_44, u_22_45, u_22_46, u_22_47, u_22_48, u_22_49, u_22_50, u_22_51, u_22_52, u_22_53, if_neg h1, if_neg h2, if_pos h3]
      · by_cases h4 : c = 82
        · simp (disch := first | assumption | omega | exact Nat.le_of_ble_eq_true rfl | decide) only [u_22_0, u_22_1, u_22_44, u_22_45, u_22_46, u_22_47, u_22_48, u_22_49, u_22_50, u_22_51, u_22_52, u_22_53, if_neg h1, if_neg h2, if_neg h3, if_pos h4]
        · simp (disch := first | assumption | omega | exact Nat.le_of_ble_eq_true rfl | decide) only [u_22_0, u_22_1, u_22_44, u_22_45, u_22_46, u_22_47, u_22_48, u_22_49, u_22_50, u_22_51, u_22_52, u_22_53, if_neg h1, if_neg h2, if_neg h3, if_neg h4]
theorem s_part (hR : LdR sh R q) (ht : okT t) : ∀ (n dep : Nat) (I : IM) (s : LSt), n + dep = 12 → okD t s → isW I 1 s.1 → ldI I t q s.2.1 s.2.2 → ∃ I' v, cl (d + 2 * n + 7) 21 [.inr (.inl 373), .inl (dep : Int)] (sh, I, R) = some (some (.inl v), (sh, I', R)) ∧ cRes I I' t q (paR t n s) v := by
  obtain ⟨⟨tl, l0, l1, l2, l3, tf, f0, f1, t5, l5, t6, l6, hF, t8, l8⟩, hS1, r5, hSg, hq⟩ := id hR
  have tw := hS1.1
  have ht2 := ht.1
  have body : ∀ (D n dep : Nat) (deep : Bool) (p : LSt → RRes) (I : IM) (s : LSt), dep ≤ 12 → (deep = true ↔ 12 ≤ dep) → (deep = false → 1 ≤ n ∧ n ≤ 12 ∧ (∀ s, okD t s → rOK t n s (p s)) ∧ ∀ (I : IM) (s : LSt), okD t s → isW I 1 s.1 → ldI I t q s.2.1 s.2.2 → ∃ I' v, cl (D + 5) 21 [.inr (.inl 373), .inl ((dep + 1 : Nat) : Int)] (sh, I, R) = some (some (.inl v), (sh, I', R)) ∧ cRes I I' t q (p s) v) → okD t s → isW I 1 s.1 → ldI I t q s.2.1 s.2.2 → ∃ I' v, cl (D + 7) 21 [.inr (.inl 373), .inl (dep : Int)] (sh, I, R) = some (some (.inl v), (sh, I', R)) ∧ cRes I I' t q (paB t deep p s) v := by
    intro D n dep deep p I s hdep hdeep hrec hs hW h
    have hh := fun dd => s_here (d := dd) hR ht h
    have h6 := h.1
    have ha := hs.2.2.1
    have g2 : ldI (up I 373 6 ((s.2.1 + 1 : Nat) : Int)) t q (s.2.1 + 1) s.2.2 := h.G up6_G ups
    have hW2 := hW.G (up6_G (I := I) (v := ((s.2.1 + 1 : Nat) : Int)))
    unfold paB
    rw [c_21]
    by_cases h1 : hr t s.2.1 = 45
    · rw [if_pos h1]
      simp only [h1] at hh
      refine ⟨up I 373 6 ((s.2.1 + 1 : Nat) : Int), -1, ?_, up6_G.D, rfl, hW2, g2, up6_c⟩
      simp (disch := first | assumption | omega | exact Nat.le_of_ble_eq_true rfl | decide) only [u_21_0, u_21_1, u_21_4, u_21_5, u_21_6, u_21_9, u_21_10, u_21_11, u_21_13, u_21_16, u_21_17, u_21_18, u_21_21, u_21_22, u_21_23, u_21_26, u_21_27, h6, hh, bnd_some, psh_some, not_true, if_false, wrN]
    · rw [if_neg h1]
      by_cases h2 : hr t s.2.1 = 35
      · rw [if_pos h2]
        simp only [h2] at hh
        have hl := hr_lt (t := t) (a := s.2.1) (by omega)
        obtain ⟨I1, v, c1, c2, c3⟩ := s_met (d := D + 4) (I := up I 373 6 ((s.2.1 + 1 : Nat) : Int)) (s := (s.1, s.2.1 + 1, s.2.2)) hR ht ⟨hs.1, hs.2.1, by dsimp only; omega, hs.2.2.2⟩ hW2 g2
        refine ⟨I1, v, ?_, (up6_G (I := I)).D.tr c2, ?_⟩
        · simp (disch := first | assumption | omega | exact Nat.le_of_ble_eq_true rfl | decide) only [u_21_0, u_21_1, u_21_4, u_21_5, u_21_6, u_21_9, u_21_10, u_21_11, u_21_13, u_21_16, u_21_17, u_21_18, u_21_21, u_21_22, u_21_23, u_21_26, u_21_27, u_21_28, u_21_29, u_21_31, u_21_34, u_21_35, u_21_36, u_21_39, u_21_40, u_21_41, u_21_44, u_21_45, u_21_48, h6, hh, bnd_some, psh_some, Int.reduceEq, not_false_eq_true, not_true, if_true, if_false, wrN, c1]
        · cases hm : mtR t (s.1, s.2.1 + 1, s.2.2) with
          | inl x =>
            rw [hm] at c3
            exact ⟨c3.1, c3.2.1, c3.2.2.1, up6_c.tr c3.2.2.2⟩
          | inr e =>
            rw [hm] at c3
            exact c3
      · rw [if_neg h2]
        have hwhy : ∀ (y : Int) (hy : ¬ y = 0), (∀ dd, cl (dd + 4) 23 [.inr (.inl 373), .inl (kOf (hr t s.2.1)), .inl (dep : Int)] (sh, I, R) = some (some (.inl y), (sh, I, R))) → ∃ I' v, ev S0 (D + 6) 21 0 (ini 21 [.inr (.inl 373), .inl (dep : Int)]) [] (sh, I, R) = some (some (.inl v), (sh, I', R)) ∧ cRes I I' t q (.inr ([(y, (s.2.1 : Int))], s.1, s.2.2)) v := by
          intro y hy hcall
          obtain ⟨I1, b1, b2, b3⟩ := s_bgn (d := D + 5) (I := I) (pl := (s.2.1 : Int)) (why := y) hR.1
          have hG := frB_G b3
          refine ⟨I1, -1000000, ?_, hG.D, rfl, hW.G hG, h.2.1.cong (hG.2.1 _ (by decide)) (hG.1 _ (by omega)), b2⟩
          have e0 : ini 21 [.inr (.inl 373), .inl (dep : Int)] = [.inr (.inl 373), .inl (dep : Int), .inr (.inr 1), .inr (.inr 1), .inr (.inr 1), .inr (.inr 1), .inr (.inr 1)] := rfl
          rw [e0]
          simp (disch := first | assumption | omega | exact Nat.le_of_ble_eq_true rfl | decide) only [u_21_0, u_21_1, u_21_4, u_21_5, u_21_6, u_21_9, u_21_10, u_21_11, u_21_13, u_21_16, u_21_17, u_21_18, u_21_21, u_21_22, u_21_23, u_21_26, u_21_27, u_21_28, u_21_29, u_21_31, u_21_34, u_21_35, u_21_36, u_21_39, u_21_40, u_21_41, u_21_44, u_21_45, u_21_48, u_21_49, u_21_50, u_21_53, u_21_55, u_21_56, u_21_58, u_21_59, u_21_62, u_21_64, u_21_66, u_21_69, u_21_70, u_21_73, u_21_74, u_21_76, u_21_79, h6, hh, bnd_some, psh_some, h1, h2, not_false_eq_true, if_true, s_kindOf, hcall, hy, if_false, l1, rv_some, b1]
        have hfullc := fun dd => s_isFullW (d := dd) hS1 hW
        by_cases h3 : kOf (hr t s.2.1) = 0
        · rw [if_pos h3]
          refine hwhy 1 (by decide) (fun dd => ?_)
          rw [h3, c_23]
          simp (disch := first | assumption | omega | exact Nat.le_of_ble_eq_true rfl | decide) only [u_23_0, u_23_1, u_23_4, u_23_5, u_23_6, u_23_7, u_23_9, u_23_12, u_23_13, u_23_14, u_23_15, u_23_18, u_23_21, u_23_24, u_23_25, u_23_28, u_23_29, not_true, if_false]
        · rw [if_neg h3]
          have hkk := (kOf_cases (hr t s.2.1)).resolve_left h3
          cases deep with
          | true =>
            rw [if_pos rfl]
            have hd12 : ¬ (dep : Int) < 12 := by have := hdeep.mp rfl; omega
            refine hwhy 5 (by decide) (fun dd => ?_)
            rw [c_23]
            simp (disch := first | assumption | omega | exact Nat.le_of_ble_eq_true rfl | decide) only [u_23_0, u_23_1, u_23_4, u_23_5, u_23_6, u_23_7, u_23_9, u_23_12, u_23_13, u_23_14, u_23_15, u_23_18, u_23_21, u_23_24, u_23_25, u_23_28, u_23_29, h3, not_false_eq_true, if_true, hd12, if_false]
          | false =>
            rw [if_neg (by decide)]
            have hd12 : (dep : Int) < 12 := Classical.byContradiction (fun z => by
              have := hdeep.mpr (by omega)
              cases this)
            by_cases h4 : freeW s.1 = -1
            · rw [if_pos h4]
              simp only [if_pos h4] at hfullc
              refine hwhy 4 (by decide) (fun dd => ?_)
              rw [c_23]
              simp (disch := first | assumption | omega | exact Nat.le_of_ble_eq_true rfl | decide) only [u_23_0, u_23_1, u_23_4, u_23_5, u_23_6, u_23_7, u_23_9, u_23_12, u_23_13, u_23_14, u_23_15, u_23_18, u_23_21, u_23_24, u_23_25, u_23_28, u_23_29, h3, not_false_eq_true, if_true, if_pos hd12, l0, rv_some, hfullc, bnd_some, psh_some, Int.reduceEq, if_false]
            · rw [if_neg h4]
              simp only [if_neg h4] at hfullc
              obtain ⟨hn1, hn12, hp, hcall⟩ := hrec rfl
              have hw0 : ∀ dd, cl (dd + 4) 23 [.inr (.inl 373), .inl (kOf (hr t s.2.1)), .inl (dep : Int)] (sh, I, R) = some (some (.inl 0), (sh, I, R)) := fun dd => by
                rw [c_23]
                simp (disch := first | assumption | omega | exact Nat.le_of_ble_eq_true rfl | decide) only [u_23_0, u_23_1, u_23_4, u_23_5, u_23_6, u_23_7, u_23_9, u_23_12, u_23_13, u_23_14, u_23_15, u_23_18, u_23_21, u_23_24, u_23_25, u_23_28, u_23_29, h3, not_false_eq_true, if_true, if_pos hd12, l0, rv_some, hfullc, bnd_some, psh_some]
              have hl : s.2.1 < t.length := hr_lt (t := t) (a := s.2.1) (fun z => h3 (by rw [z]; rfl))
              have hs1 : okD t (s.1, s.2.1 + 1, s.2.2) := ⟨hs.1, hs.2.1, by dsimp only; omega, hs.2.2.2⟩
              have hhead : ∃ I1 v, cRes (up I 373 6 ((s.2.1 + 1 : Nat) : Int)) I1 t q (hdR t (kOf (hr t s.2.1)) (s.1, s.2.1 + 1, s.2.2)) v ∧ ∀ r : Option Res, ev S0 (D + 6) 21 111 [.inr (.inl 373), .inl (dep : Int), .inl (s.2.1 : Int), .inl (hr t s.2.1), .inl (kOf (hr t s.2.1)), .inl 0, .inl v] [] (sh, I1, R) = r → ev S0 (D + 6) 21 0 (ini 21 [.inr (.inl 373), .inl (dep : Int)]) [] (sh, I, R) = r := by
                have e0 : ini 21 [.inr (.inl 373), .inl (dep : Int)] = [.inr (.inl 373), .inl (dep : Int), .inr (.inr 1), .inr (.inr 1), .inr (.inr 1), .inr (.inr 1), .inr (.inr 1)] := rfl
                rw [e0]
                by_cases hk4 : kOf (hr t s.2.1) = 4
                · obtain ⟨I1, v, c1, c2⟩ := s_rowHd (d := D + 1) (s := (s.1, s.2.1 + 1, s.2.2)) hR ht hs1 h4 hW2 g2
                  refine ⟨I1, v, by rw [hk4]; exact c2, fun r hr' => ?_⟩
                  rw [hk4] at hr' hw0
                  have hk4' : kOf (hr t s.2.1) = 4 := hk4
                  simp (disch := first | assumption | omega | exact Nat.le_of_ble_eq_true rfl | decide) only [u_21_0, u_21_1, u_21_4, u_21_5, u_21_6, u_21_9, u_21_10, u_21_11, u_21_13, u_21_16, u_21_17, u_21_18, u_21_21, u_21_22, u_21_23, u_21_26, u_21_27, u_21_28, u_21_29, u_21_31, u_21_34, u_21_35, u_21_36, u_21_39, u_21_40, u_21_41, u_21_44, u_21_45, u_21_48, u_21_49, u_21_50, u_21_53, u_21_55, u_21_56, u_21_58, u_21_59, u_21_62, u_21_64, u_21_66, u_21_69, u_21_70, u_21_73, u_21_74, u_21_76, u_21_79, u_21_80, u_21_81, u_21_82, u_21_85, u_21_86, u_21_87, u_21_90, u_21_92, u_21_93, u_21_96, u_21_97, u_21_100, u_21_103, u_21_104, u_21_106, u_21_109, h6, hh, bnd_some, psh_some, h1, h2, not_false_eq_true, if_true, s_kindOf, hk4', hw0, wrN, not_true, if_false, c1]
                  exact hr'
                · obtain ⟨I1, v, c1, c2⟩ := s_hd (d := D) (s := (s.1, s.2.1 + 1, s.2.2)) hR ht hs1 h4 (kd := kOf (hr t s.2.1)) (by omega) hW2 g2
                  refine ⟨I1, v, c2, fun r hr' => ?_⟩
                  simp (disch := first | assumption | omega | exact Nat.le_of_ble_eq_true rfl | decide) only [u_21_0, u_21_1, u_21_4, u_21_5, u_21_6, u_21_9, u_21_10, u_21_11, u_21_13, u_21_16, u_21_17, u_21_18, u_21_21, u_21_22, u_21_23, u_21_26, u_21_27, u_21_28, u_21_29, u_21_31, u_21_34, u_21_35, u_21_36, u_21_39, u_21_40, u_21_41, u_21_44, u_21_45, u_21_48, u_21_49, u_21_50, u_21_53, u_21_55, u_21_56, u_21_58, u_21_59, u_21_62, u_21_64, u_21_66, u_21_69, u_21_70, u_21_73, u_21_74, u_21_76, u_21_79, u_21_80, u_21_81, u_21_82, u_21_85, u_21_86, u_21_87, u_21_90, u_21_92, u_21_93, u_21_96, u_21_97, u_21_100, u_21_103, u_21_104, u_21_106, u_21_109, h6, hh, bnd_some, psh_some, h1, h2, not_false_eq_true, if_true, s_kindOf, hw0, wrN, hk4, c1]
                  exact hr'
              obtain ⟨I1, v, ⟨c2, c3⟩, hgo⟩ := hhead
              have hdok := hdR_ok (t := t) (kd := kOf (hr t s.2.1)) (s := (s.1, s.2.1 + 1, s.2.2)) hs1 hkk h4
              cases hd : hdR t (kOf (hr t s.2.1)) (s.1, s.2.1 + 1, s.2.2) with
              | inr e =>
                rw [hd] at c3 hdok
                obtain ⟨rfl, c4, c5, c6⟩ := c3
                obtain ⟨I2, b1, b2, b3⟩ := s_pass (d := D + 5) (pl := (s.2.1 : Int)) hR.1 c6 (by rw [hdok.2]; decide)
                have hG := frB_G b3
                refine ⟨I2, -1000000, hgo _ ?_, ((up6_G (I := I)).D.tr c2).tr hG.D, rfl, c4.G hG, c5.cong (hG.2.1 _ (by decide)) (hG.1 _ (by omega)), b2⟩
                simp (disch := first | assumption | omega | exact Nat.le_of_ble_eq_true rfl | decide) only [u_21_111, u_21_113, u_21_115, u_21_118, u_21_119, u_21_121, u_21_122, u_21_125, u_21_128, u_21_129, u_21_132, u_21_133, u_21_136, if_true, l1, rv_some, b1, bnd_some, psh_some]
              | inl x =>
                rw [hd] at c3 hdok
                obtain ⟨rfl, c4, c5, c6⟩ := c3
                obtain ⟨o1, o2, i, oi, oi30, oi0, oim, ok⟩ := hdok
                dsimp only
                have hki : (x.2.1.1 i).1 ≠ 0 := by rw [ok]; exact h3
                rw [oi, Int.toNat_natCast]
                rw [oi] at hgo
                have hlen := (o1.1.1 i oi30).2.2.2.2.2.2.2.1
                obtain ⟨I2, v2, e1, e2⟩ := rf_loop (D := D + 2) (dep := dep) hR ht (by omega) hp hn1 hcall oi30 hlen (x.2.1.1 i).2.2.1.length 0 I1 x.2 (.inr (.inr 1)) (.inr (.inr 1)) (by omega) o1 c4 c5 hki rfl
                have e1 : ev S0 (D + 5) 32 12 [.inr (.inl 373), .inl (i : Int), .inl (dep : Int), .inr (.inl (1 + 4 + 5 * i)), .inl 0, .inr (.inr 1), .inr (.inr 1)] [] (sh, I1, R) = some (some (.inl v2), (sh, I2, R)) := e1
                obtain ⟨n1_, n2_⟩ := hS1.2.2.2.2.2.2.2.2.2.2.1 i oi30
                have nt := n2_.1
                have hat := fun dd => s_atL (d := dd) hS1 c4 oi30 hki
                have hrefs : cl (D + 6) 32 [.inr (.inl 373), .inl (i : Int), .inl (dep : Int)] (sh, I1, R) = some (some (.inl v2), (sh, I2, R)) := by
                  rw [c_32]
                  simp (disch := first | assumption | omega | exact Nat.le_of_ble_eq_true rfl | decide) only [u_32_0, u_32_1, u_32_4, u_32_5, u_32_8, u_32_8n, u_32_9, u_32_10, l0, rv_some, hat, bnd_some, psh_some]
                  exact e1
                have hine : ¬ (i : Int) = -1000000 := by omega
                have hrok := rfR_ok hp hn1 oi30 oi0 (x.2.1.1 i).2.2.1.length 0 x.2 o1 o2 oim
                obtain ⟨e3, e4⟩ := e2
                cases hrr : rfR p i (x.2.1.1 i).2.2.1.length 0 x.2 with
                | inl s2 =>
                  rw [hrr] at e4
                  obtain ⟨rfl, e5, e6, e7⟩ := e4
                  refine ⟨I2, (i : Int), hgo _ ?_, ((up6_G (I := I)).D.tr c2).tr e3, rfl, e5, e6, (up6_c.tr c6).tr e7⟩
                  simp (disch := first | assumption | omega | exact Nat.le_of_ble_eq_true rfl | decide) only [u_21_111, u_21_113, u_21_115, u_21_118, u_21_119, u_21_121, u_21_122, u_21_125, u_21_128, u_21_129, u_21_132, u_21_133, u_21_136, u_21_137, u_21_139, hine, if_false, hrefs, bnd_some, psh_some, Int.reduceEq, not_false_eq_true, if_true]
                | inr e =>
                  rw [hrr] at e4 hrok
                  obtain ⟨rfl, e5, e6, e7⟩ := e4
                  obtain ⟨I3, b1, b2, b3⟩ := s_pass (d := D + 5) (pl := (s.2.1 : Int)) hR.1 e7 (by have := hrok.2.2; omega)
                  have hG := frB_G b3
                  refine ⟨I3, -1000000, hgo _ ?_, (((up6_G (I := I)).D.tr c2).tr e3).tr hG.D, rfl, e5.G hG, e6.cong (hG.2.1 _ (by decide)) (hG.1 _ (by omega)), b2⟩
                  simp (disch := first | assumption | omega | exact Nat.le_of_ble_eq_true rfl | decide) only [u_21_111, u_21_113, u_21_115, u_21_118, u_21_119, u_21_121, u_21_122, u_21_125, u_21_128, u_21_129, u_21_132, u_21_133, u_21_136, hine, if_false, hrefs, bnd_some, psh_some, not_true, l1, rv_some, b1]
  intro n
  induction n with
  | zero =>
    intro dep I s hdep hs hW h
    exact body (d + 2 * 0) 0 dep true _ I s (by omega) ⟨fun _ => by omega, fun _ => rfl⟩ (fun z => by cases z) hs hW h
  | succ n ih =>
    intro dep I s hdep hs hW h
    have := body (d + 2 * n + 2) (n + 1) dep false (paR t n) I s (by omega) ⟨(fun z => by cases z), (fun z => by omega)⟩ (fun _ => ⟨by omega, by omega, fun s hs => paR_ok n s hs, fun I s hs hW h => ih (dep + 1) I s (by omega) hs hW h⟩) hs hW h
    rw [show d + 2 * n + 2 + 7 = d + 2 * (n + 1) + 7 by omega] at this
    exact this
theorem dm_loop (hR : LdR sh R q) {m' : List Int} (hm : ∀ x ∈ m', ∃ i : Nat, x = (i : Int) ∧ i < 30) (h30 : m'.length ≤ 30) : ∀ (k j : Nat) (I : IM) (w : WD), j + k = m'.length → isW I 1 w → ldM I m' → ∃ I', ev S0 (d + 3) 19 2 [.inr (.inl 373), .inl (j : Int)] [] (sh, I, R) = some (none, (sh, I', R)) ∧ isW I' 1 (drp w (m'.drop j)) ∧ FrW 1 I I' := by
  obtain ⟨⟨tl, l0, l1, l2, l3, tf, f0, f1, t5, l5, t6, l6, hF, t8, l8⟩, hS1, r5, hSg, hq⟩ := id hR
  have tw := hS1.1
  intro k
  induction k with
  | zero =>
    intro j I w hj hW h
    have h4 := h.1
    have hc : (m'.length : Int) ≤ (j : Int) := by omega
    rw [List.drop_eq_nil_of_le (by omega)]
    refine ⟨I, ?_, hW, fun _ _ => rfl⟩
    simp (disch := first | assumption | omega | exact Nat.le_of_ble_eq_true rfl | decide) only [u_19_2, u_19_3, u_19_4, u_19_7, u_19_29, h4, if_pos hc]
  | succ k ih =>
    intro j I w hj hW h
    have h4 := h.1
    have hjl : j < m'.length := by omega
    have hc : ¬ (m'.length : Int) ≤ (j : Int) := by omega
    have hv := h.2 j _ (List.getElem?_eq_getElem hjl)
    obtain ⟨i, ei, hi⟩ := hm m'[j] (List.getElem_mem hjl)
    rw [ei] at hv
    obtain ⟨I1, g1, g2, g3⟩ := s_drop (d := d) hS1 hW hi
    obtain ⟨I2, e1, e2, e3⟩ := ih (j + 1) I1 _ (by omega) g2 (h.cong (by rw [g3 _ (by omega)]) (g3 _ (by omega)))
    rw [List.drop_eq_getElem_cons hjl]
    refine ⟨I2, ?_, ?_, g3.tr e3⟩
    · rw [u_19_2]
      simp (disch := first | assumption | omega | exact Nat.le_of_ble_eq_true rfl | decide) only [u_19_3, u_19_4, u_19_7, u_19_10, u_19_11, u_19_14, u_19_15, u_19_18, u_19_19, u_19_20, u_19_23, u_19_26, h4, hc, if_false, l0, l3, rv_some, hv, g1, bnd_some, psh_none, wrN, e1]
    · show isW I2 1 (drp (setN w (m'[j]).toNat (0, 0, [], [])) _)
      rw [ei, Int.toNat_natCast]
      exact e2
/-- the same, but for where the loader's row is -/
def CL (sh : Shp) (R : RM) (I : IM) (d mid : Nat) (args : List AV) (r : Int × ST) : Prop := ∃ I' v, cl d mid (.inr (.inl 0) :: args) (sh, I, R) = some (some (.inl r.1), (sh, I', up R 373 5 v)) ∧ cR I' r.2 ∧ ∀ k, 392 ≤ k → I' k = I k
theorem up_same {R : RM} {k : Nat} {z : Int} : up R k z (R k z) = R := by
  funext a b
  show (if _ then _ else _) = _
  split
  · rename_i h
    rw [h.1, h.2]
  · rfl
theorem CC_load {x : Int} (hC : CS sh R) (hc : cR I s) (hs : okS s) : CL sh R I (d + 34) 104 [.inl x] (b_load s x) := by
  obtain ⟨hH, -, -, -, ⟨r4, hL⟩, ⟨r5, t5, l5, hq5⟩, -⟩ := id hC
  have tc := hH.1
  have hT : 200 ≤ tg sh 381 ∧ tg sh 381 < 210 := by rw [t5]; decide
  have tl := hL.1
  have l1 := hL.2.2.1
  unfold b_load
  by_cases hx : isq x
  · rw [if_neg (Classical.not_not.mpr hx)]
    obtain ⟨q, rfl⟩ : ∃ q' : Nat, x = (q' : Int) := ⟨x.toNat, by have := hx.1; omega⟩
    have hq4 : q < 4 := by have := hx.2; omega
    rw [Int.toNat_natCast]
    obtain ⟨e1, e2⟩ := hq5 q hq4
    have te := e2.1
    have hsh := hc.2.2.2.1 q hq4
    have hot := hs.2.2.2.2.2.1 q hq4
    generalize hgv : s.2.2.2.1 q = sv at hsh hot ⊢
    cases sv with
    | none =>
      have hsh : I (384 + 2 * q) 1 = -1 := hsh
      refine ⟨I, R 373 5, ?_, hc, fun _ _ => rfl⟩
      rw [up_same, c_104]
      simp (disch := first | assumption | omega | exact Nat.le_of_ble_eq_true rfl | decide) only [u_104_0, u_104_1, u_104_4, u_104_7, u_104_8, u_104_9, u_104_10, u_104_13, u_104_14, u_104_15, u_104_18, u_104_21, u_104_23, u_104_24, u_104_25, u_104_28, u_104_29, u_104_32, u_104_33, u_104_34, u_104_34n, u_104_37, u_104_38, u_104_39, u_104_41, u_104_44, u_104_46, u_104_49, u_104_50, u_104_53, s_isShelf, if_pos hx, bnd_some, psh_some, Int.reduceEq, not_false_eq_true, if_true, if_false, r5, rv_some, e1, s_isNothing te, hsh]
    | some t =>
      have hsh : isSg I (384 + 2 * q) t := hsh
      have ht := hot t rfl
      have h0 := hsh.1
      have hn1 : ¬ ((t.length : Int) = -1) := by omega
      dsimp only
      have hR : LdR sh (up R 373 5 (some (384 + 2 * q))) q := by
        have k1 : ∀ k, k ≠ 373 → up R 373 5 (some (384 + 2 * q)) k = R k := fun k hk => upf hk
        have k2 : ∀ z, z ≠ 5 → up R 373 5 (some (384 + 2 * q)) 373 z = R 373 z := fun z hz => upj hz
        obtain ⟨a1, a2, a3, a4, a5, a6, a7, a8, a9, a10, a11, a12, a13, a14, a15⟩ := hL
        refine ⟨⟨a1, by rw [k2 _ (by decide)]; exact a2, by rw [k2 _ (by decide)]; exact a3, by rw [k2 _ (by decide)]; exact a4, by rw [k2 _ (by decide)]; exact a5, a6, by rw [k1 _ (by decide)]; exact a7, by rw [k1 _ (by decide)]; exact a8, a9, a10, a11, a12, ?_, a14, a15⟩, ?_, ups, ?_, hq4⟩
        · obtain ⟨z1, z2, z3, z4, z5, z6, z7⟩ := a13
          exact ⟨z1, z2, z3, z4, z5, by rw [k1 _ (by decide)]; exact z6, by rw [k1 _ (by decide)]; exact z7⟩
        · obtain ⟨b1, b2, b3, b4, b5, b6, b7, b8, b9, b10, b11, b12⟩ := hH.2.2
          refine ⟨b1, by rw [k1 _ (by decide)]; exact b2, by rw [k1 _ (by decide)]; exact b3, by rw [k1 _ (by decide)]; exact b4, b5, b6, b7, b8, b9, b10, fun i hi => ?_, fun j hj => ?_⟩
          · obtain ⟨c1, c2, c3, c4, ⟨z1, z2, z3, z4, z5, z6, z7⟩, c6, c7⟩ := b11 i hi
            exact ⟨by rw [k1 _ (by decide)]; exact c1, c2, by rw [k1 _ (by omega)]; exact c3, by rw [k1 _ (by omega)]; exact c4, ⟨z1, z2, z3, z4, z5, by rw [k1 _ (by omega)]; exact z6, by rw [k1 _ (by omega)]; exact z7⟩, c6, c7⟩
          · obtain ⟨c1, ⟨z1, z2, z3, z4, z5, z6, z7⟩⟩ := b12 j hj
            exact ⟨by rw [k1 _ (by decide)]; exact c1, z1, z2, z3, z4, z5, by rw [k1 _ (by omega)]; exact z6, by rw [k1 _ (by omega)]; exact z7⟩
        · obtain ⟨z1, z2, z3, z4⟩ := e2
          exact ⟨z1, by rw [k1 _ (by omega)]; exact z2, z3, z4⟩
      generalize hR' : up R 373 5 (some (384 + 2 * q)) = R' at hR
      have hW0 : isW (up (up I 373 6 0) 373 4 0) 1 s.1 := hc.1.cong (fun k _ b => by rw [upf (by omega), upf (by omega)])
      have hI0 : ldI (up (up I 373 6 0) 373 4 0) t q 0 [] := ⟨by rw [upj (by decide), ups]; rfl, ⟨by rw [ups]; rfl, fun j y hy => by cases hy⟩, hsh.cong (by rw [upf (by omega), upf (by omega)]) (by rw [upf (by omega), upf (by omega)]), by rw [upk (by decide), upk (by decide)]; exact hc.2.2.2.2.2.2⟩
      have hok0 : okD t (s.1, 0, []) := ⟨hs.1, hs.2.1, Nat.zero_le _, okm_nil _⟩
      obtain ⟨I1, v, c1, c2, c3⟩ := s_part (d := d + 1) hR ht 12 0 (up (up I 373 6 0) 373 4 0) (s.1, 0, []) (by omega) hok0 hW0 hI0
      have c1 : cl (d + 32) 21 [.inr (.inl 373), .inl 0] (sh, up (up I 373 6 0) 373 4 0, R') = some (some (.inl v), (sh, I1, R')) := c1
      have hD0 : FrD I (up (up I 373 6 0) 373 4 0) := ⟨fun k hk => by rw [upf (by omega), upf (by omega)], by rw [upk (by decide), upk (by decide)]⟩
      have hfr0 : Fr3c I (up (up I 373 6 0) 373 4 0) := ⟨by rw [upf (by decide), upf (by decide)], by rw [upf (by decide), upf (by decide)], by rw [upf (by decide), upf (by decide)]⟩
      have hpok := paR_ok (t := t) 12 (s.1, 0, []) hok0
      have hld := ldW_ok (t := t) hs.1 hs.2.1
      have hfail : ∀ (I2 : IM) (e : LFl), isW I2 1 e.2.1 → ldM I2 e.2.2 → cFl I2 e.1 → FrD I I2 → chg s.1 [] e.2.1 e.2.2 → (∀ r : Option Res, ev S0 (d + 32) 18 49 [.inr (.inl 373), .inr (.inl (384 + 2 * q)), .inl (-1000000)] [] (sh, I2, R') = r → cl (d + 33) 18 [.inr (.inl 373), .inr (.inl (384 + 2 * q))] (sh, I, R) = r) → CL sh R I (d + 34) 104 [.inl (q : Int)] (-5, stF s e.1) := by
        intro I2 e hW2 hm2 hf2 hD2 hch hgo
        have hnat : ∀ y ∈ e.2.2, ∃ i : Nat, y = (i : Int) ∧ i < 30 := okm_nat hch.2.2.2.2.2
        obtain ⟨I3, g1, g2, g3⟩ := dm_loop (d := d + 28) hR hnat (okm_len hch.2.2.2.2.2) e.2.2.length 0 I2 e.2.1 (by omega) hW2 hm2
        rw [List.drop_zero, drp_back hch hs.2.1] at g2
        have g1 : ev S0 (d + 31) 19 2 [.inr (.inl 373), .inl 0] [] (sh, I2, R') = some (none, (sh, I3, R')) := g1
        have hdm : cl (d + 32) 19 [.inr (.inl 373)] (sh, I2, R') = some (none, (sh, I3, R')) := by
          rw [c_19]
          simp (disch := first | assumption | omega | exact Nat.le_of_ble_eq_true rfl | decide) only [u_19_0, u_19_1, g1]
        have hD3 := hD2.tr g3.D
        obtain ⟨a1, a2, a3, a4, a5, a6, a7⟩ := hc
        refine ⟨I3, some (384 + 2 * q), ?_, ⟨g2, a2.cong (fun k _ _ => hD3.1 k (by omega)), by rw [hD3.1 _ (by omega)]; exact a3, fun p hp => (a4 p hp).cong (hD3.1 _ (by omega)) (hD3.1 _ (by omega)), fun p hp => by rw [hD3.1 _ (by omega)]; exact a5 p hp, hf2.cong (g3.c.1) (g3.c.2.1) (g3.c.2.2), by rw [hD3.2]; exact a7⟩, fun k hk => hD3.1 k (by omega)⟩
        have hwhole := hgo (some (some (.inl (-1000000)), (sh, I3, R'))) (by
          simp (disch := first | assumption | omega | exact Nat.le_of_ble_eq_true rfl | decide) only [u_18_49, u_18_50, u_18_52, u_18_55, u_18_56, u_18_59, u_18_60, not_true, if_false, hdm, bnd_some, psh_none])
        rw [hR', c_104]
        simp (disch := first | assumption | omega | exact Nat.le_of_ble_eq_true rfl | decide) only [u_104_0, u_104_1, u_104_4, u_104_7, u_104_8, u_104_9, u_104_10, u_104_13, u_104_14, u_104_15, u_104_18, u_104_21, u_104_23, u_104_24, u_104_25, u_104_28, u_104_29, u_104_32, u_104_33, u_104_34, u_104_34n, u_104_37, u_104_38, u_104_39, u_104_41, u_104_44, u_104_46, u_104_49, u_104_50, u_104_53, s_isShelf, if_pos hx, bnd_some, psh_some, Int.reduceEq, not_false_eq_true, not_true, if_true, if_false, r4, r5, rv_some, e1, s_isNothing te, h0, hn1, hwhole]
      have hbegin : ∀ r : Option Res, ev S0 (d + 32) 18 21 [.inr (.inl 373), .inr (.inl (384 + 2 * q)), .inl v] [] (sh, I1, R') = r → cl (d + 33) 18 [.inr (.inl 373), .inr (.inl (384 + 2 * q))] (sh, I, R) = r := by
        intro r hr'
        rw [c_18]
        simp (disch := first | assumption | omega | exact Nat.le_of_ble_eq_true rfl | decide) only [u_18_0, u_18_1, u_18_1n, u_18_2, u_18_5, u_18_6, u_18_7, u_18_10, u_18_11, u_18_12, u_18_15, u_18_16, u_18_17, u_18_20]
        rw [hR']
        simp (disch := first | assumption | omega | exact Nat.le_of_ble_eq_true rfl | decide) only [u_18_0, u_18_1, u_18_1n, u_18_2, u_18_5, u_18_6, u_18_7, u_18_10, u_18_11, u_18_12, u_18_15, u_18_16, u_18_17, u_18_20, c1, bnd_some, psh_some]
        exact hr'
      have hlw : ldW t s.1 = (match paR t 12 (s.1, 0, []) with
        | .inr e => .inr e
        | .inl x => if x.2.2.1 < t.length then .inr ([(7, (x.2.2.1 : Int))], x.2.1, x.2.2.2) else .inl x) := rfl
      rw [hlw] at hld ⊢
      cases hp : paR t 12 (s.1, 0, []) with
      | inr e =>
        rw [hp] at c3 hld
        obtain ⟨rfl, c4, c5, c6⟩ := c3
        dsimp only at hld ⊢
        refine hfail I1 e c4 c5 c6 (hD0.tr c2) hld.1 (fun r hr' => hbegin r ?_)
        simp (disch := first | assumption | omega | exact Nat.le_of_ble_eq_true rfl | decide) only [u_18_21, u_18_22, u_18_24, if_true]
        exact hr'
      | inl y =>
        rw [hp] at c3 hld hpok
        obtain ⟨rfl, c4, c5, c6⟩ := c3
        dsimp only at hld ⊢
        have hyne : ¬ y.1 = -1000000 := by
          rcases hpok.2.2 with z | z
          · omega
          · have := z.1; omega
        have hh := fun dd => s_here (d := dd) hR ht c5
        have h6 := c5.1
        have tf := hL.2.2.2.2.2.1
        have l1' := hR.1.2.2.1
        by_cases hend : y.2.2.1 < t.length
        · rw [if_pos hend] at hld ⊢
          have hne : ¬ hr t y.2.2.1 = -1 := by
            unfold hr
            rw [if_pos hend, getD_at hend]
            have := ht.2 _ (List.getElem_mem hend)
            omega
          obtain ⟨I2, b1, b2, b3⟩ := s_bgn (d := d + 31) (I := I1) (pl := (y.2.2.1 : Int)) (why := 7) hR.1
          have hG := frB_G b3
          refine hfail I2 ([(7, (y.2.2.1 : Int))], y.2.1, y.2.2.2) (c4.G hG) (c5.2.1.cong (hG.2.1 _ (by decide)) (hG.1 _ (by omega))) b2 ((hD0.tr c2).tr hG.D) hld.1 (fun r hr' => hbegin r ?_)
          simp (disch := first | assumption | omega | exact Nat.le_of_ble_eq_true rfl | decide) only [u_18_21, u_18_22, u_18_24, u_18_27, u_18_28, u_18_31, u_18_32, u_18_35, u_18_36, u_18_39, u_18_40, u_18_43, u_18_45, u_18_48, hyne, if_false, hh, bnd_some, psh_some, hne, l1', rv_some, h6, b1]
          exact hr'
        · rw [if_neg hend]
          have he : hr t y.2.2.1 = -1 := by unfold hr; rw [if_neg hend]
          have hD1 := hD0.tr c2
          have hc1 := hfr0.tr c6
          obtain ⟨a1, a2, a3, a4, a5, a6, a7⟩ := hc
          refine ⟨I1, some (384 + 2 * q), ?_, ⟨c4, a2.cong (fun k _ _ => hD1.1 k (by omega)), by rw [hD1.1 _ (by omega)]; exact a3, fun p hp => (a4 p hp).cong (hD1.1 _ (by omega)) (hD1.1 _ (by omega)), fun p hp => by rw [hD1.1 _ (by omega)]; exact a5 p hp, a6.cong hc1.1 hc1.2.1 hc1.2.2, by rw [hD1.2]; exact a7⟩, fun k hk => hD1.1 k (by omega)⟩
          simp only [he] at hh
          have hwhole := hbegin (some (some (.inl y.1), (sh, I1, R'))) (by
            simp (disch := first | assumption | omega | exact Nat.le_of_ble_eq_true rfl | decide) only [u_18_21, u_18_22, u_18_24, u_18_27, u_18_28, u_18_31, u_18_32, u_18_49, u_18_50, u_18_52, u_18_55, u_18_56, u_18_59, u_18_60, hyne, if_false, hh, bnd_some, psh_some, if_true, not_false_eq_true])
          rw [hR', c_104]
          have hon : (if y.1 = -1 then -2 else y.1) = nT y.1 := rfl
          simp (disch := first | assumption | omega | exact Nat.le_of_ble_eq_true rfl | decide) only [u_104_0, u_104_1, u_104_4, u_104_7, u_104_8, u_104_9, u_104_10, u_104_13, u_104_14, u_104_15, u_104_18, u_104_21, u_104_23, u_104_24, u_104_25, u_104_28, u_104_29, u_104_32, u_104_33, u_104_34, u_104_34n, u_104_37, u_104_38, u_104_39, u_104_41, u_104_44, u_104_46, u_104_49, u_104_50, u_104_53, s_isShelf, if_pos hx, bnd_some, psh_some, Int.reduceEq, not_false_eq_true, not_true, if_true, if_false, r4, r5, rv_some, e1, s_isNothing te, h0, hn1, hwhole, hyne, s_orNot, hon]
  · rw [if_pos hx]
    refine ⟨I, R 373 5, ?_, hc, fun _ _ => rfl⟩
    rw [up_same, c_104]
    simp (disch := first | assumption | omega | exact Nat.le_of_ble_eq_true rfl | decide) only [u_104_0, u_104_1, u_104_4, u_104_7, u_104_8, u_104_9, u_104_10, u_104_13, u_104_14, u_104_15, u_104_18, u_104_21, u_104_23, u_104_24, u_104_25, u_104_28, u_104_29, u_104_32, u_104_33, u_104_34, u_104_34n, u_104_37, u_104_38, u_104_39, u_104_41, u_104_44, u_104_46, u_104_49, u_104_50, u_104_53, s_isShelf, if_neg hx, bnd_some, psh_some, not_true, if_false]
end CLW
