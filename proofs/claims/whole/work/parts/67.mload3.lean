/-! THE MODEL: load, whole -/
section MLZ
variable {sh : Shp} {R : RM} {I : IM} {d q a : Nat} {s : ST} {w : WD} {t m : List Int}
theorem m_kindBy (hX : MX sh R) {c : Int} : cl (d + 1) 181 [.inr (.inl 392), .inl c] (sh, I, R) = some (some (.inl (kOf c)), (sh, I, R)) := by
  rw [c_181]
  unfold kOf
  by_cases h1 : c = 66
  · simp (disch := first | assumption | omega | exact Nat.le_of_ble_eq_true rfl | decide) only [u_181_0, u_181_1, u_181_44, u_181_45, u_181_46, u_181_47, u_181_48, u_181_49, u_181_50, u_181_51, u_181_52, u_181_53, if_pos h1]
  · by_cases h2 : c = 67
    · simp (disch := first | assumption | omega | exact Nat.le_of_ble_eq_true rfl | decide) only [u_181_0, u_181_1, u_181_44, u_181_45, u_181_46, u_181_47, u_181_48, u_181_49, u_181_50, u_181_51, u_181_52, u_181_53, if_neg h1, if_pos h2]
    · by_cases h3 : c = 76
      · simp (disch := first | assumption | omega | exact Nat.le_of_ble_eq_true rfl | decide) only [u_181_0, u_181_1, u_181_44, u_181_45, u_181_46, u_181_47, u_181_48, u_181_49, u_181_50, u_181_51, u_181_52, u_181_53, if_neg h1, if_neg h2, if_pos h3]
      · by_cases h4 : c = 82
        · simp (disch := first | assumption | omega | exact Nat.le_of_ble_eq_true rfl | decide) only [u_181_0, u_181_1, u_181_44, u_181_45, u_181_46, u_181_47, u_181_48, u_181_49, u_181_50, u_181_51, u_181_52, u_181_53, if_neg h1, if_neg h2, if_neg h3, if_pos h4]
        · simp (disch := first | assumption | omega | exact Nat.le_of_ble_eq_true rfl | decide) only [u_181_0, u_181_1, u_181_44, u_181_45, u_181_46, u_181_47, u_181_48, u_181_49, u_181_50, u_181_51, u_181_52, u_181_53, if_neg h1, if_neg h2, if_neg h3, if_neg h4]
theorem m_part (hX : MX sh R) (hq : q < 4) (ht : okT t) : ∀ (n dep : Nat) (I : IM) (s : LSt), n + dep = 12 → okD t s → isM I 393 s.1 → mdI I t q s.2.1 s.2.2 → ∃ I' v, cl (d + n + 5) 186 [.inr (.inl 392), .inl (dep : Int)] (sh, I, R) = some (some (.inl v), (sh, I', R)) ∧ mRes I I' t q (paR t n s) v := by
  have t9 := hX.1.1
  obtain ⟨r20, t20, l20⟩ := hX.g 20 405 30 (by decide)
  have ht2 := ht.1
  have body : ∀ (D n dep : Nat) (deep : Bool) (p : LSt → RRes) (I : IM) (s : LSt), dep ≤ 12 → (deep = true ↔ 12 ≤ dep) → (deep = false → 1 ≤ n ∧ n ≤ 12 ∧ (∀ s, okD t s → rOK t n s (p s)) ∧ ∀ (I : IM) (s : LSt), okD t s → isM I 393 s.1 → mdI I t q s.2.1 s.2.2 → ∃ I' v, cl (D + 4) 186 [.inr (.inl 392), .inl ((dep + 1 : Nat) : Int)] (sh, I, R) = some (some (.inl v), (sh, I', R)) ∧ mRes I I' t q (p s) v) → okD t s → isM I 393 s.1 → mdI I t q s.2.1 s.2.2 → ∃ I' v, cl (D + 5) 186 [.inr (.inl 392), .inl (dep : Int)] (sh, I, R) = some (some (.inl v), (sh, I', R)) ∧ mRes I I' t q (paB t deep p s) v := by
    intro D n dep deep p I s hdep hdeep hrec hs hW h
    have hh := fun dd => m_here (d := dd) hX hq ht h
    have h6 := h.1
    have ha := hs.2.2.1
    have g2 : mdI (up I 392 18 ((s.2.1 + 1 : Nat) : Int)) t q (s.2.1 + 1) s.2.2 := h.H up18_H ups
    have hW2 := hW.H (up18_H (I := I) (v := ((s.2.1 + 1 : Nat) : Int)))
    have e0 : ini 186 [.inr (.inl 392), .inl (dep : Int)] = [.inr (.inl 392), .inl (dep : Int), .inr (.inr 1), .inr (.inr 1), .inr (.inr 1), .inr (.inr 1), .inr (.inr 1), .inr (.inr 1), .inr (.inr 1)] := rfl
    unfold paB
    rw [c_186]
    by_cases h1 : hr t s.2.1 = 45
    · rw [if_pos h1]
      simp only [h1] at hh
      refine ⟨up I 392 18 ((s.2.1 + 1 : Nat) : Int), -1, ?_, up18_H.Z, rfl, hW2, g2, up18_m⟩
      simp (disch := first | assumption | omega | exact Nat.le_of_ble_eq_true rfl | decide) only [u_186_0, u_186_1, u_186_4, u_186_5, u_186_6, u_186_9, u_186_10, u_186_11, u_186_13, u_186_16, u_186_17, u_186_18, u_186_21, u_186_22, u_186_23, u_186_26, u_186_27, h6, hh, bnd_some, psh_some, not_true, if_false, wrI, n1]
    · rw [if_neg h1]
      by_cases h2 : hr t s.2.1 = 35
      · rw [if_pos h2]
        simp only [h2] at hh
        have hl := hr_lt (t := t) (a := s.2.1) (by omega)
        obtain ⟨I1, v, c1, c2, c3⟩ := m_met (d := D + 2) (I := up I 392 18 ((s.2.1 + 1 : Nat) : Int)) (s := (s.1, s.2.1 + 1, s.2.2)) hX hq ht ⟨hs.1, hs.2.1, by dsimp only; omega, hs.2.2.2⟩ hW2 g2
        refine ⟨I1, v, ?_, (up18_H (I := I)).Z.tr c2, ?_⟩
        · simp (disch := first | assumption | omega | exact Nat.le_of_ble_eq_true rfl | decide) only [u_186_0, u_186_1, u_186_4, u_186_5, u_186_6, u_186_9, u_186_10, u_186_11, u_186_13, u_186_16, u_186_17, u_186_18, u_186_21, u_186_22, u_186_23, u_186_26, u_186_27, u_186_28, u_186_29, u_186_31, u_186_34, u_186_35, u_186_36, u_186_39, u_186_40, u_186_41, u_186_44, u_186_45, u_186_48, h6, hh, bnd_some, psh_some, Int.reduceEq, not_false_eq_true, not_true, if_true, if_false, wrI, n1, c1]
        · cases hm : mtR t (s.1, s.2.1 + 1, s.2.2) with
          | inl x =>
            rw [hm] at c3
            exact ⟨c3.1, c3.2.1, c3.2.2.1, up18_m.tr c3.2.2.2⟩
          | inr e =>
            rw [hm] at c3
            exact c3
      · rw [if_neg h2]
        by_cases h3 : kOf (hr t s.2.1) = 0
        · rw [if_pos h3]
          obtain ⟨I1, b1, b2, b3, b4⟩ := m_fails (d := D + 3) (I := I) (pl := (s.2.1 : Int)) (why := 1) hX
          refine ⟨I1, -9, ?_, (frA_H b3 b4).Z, rfl, b2⟩
          simp (disch := first | assumption | omega | exact Nat.le_of_ble_eq_true rfl | decide) only [u_186_0, u_186_1, u_186_4, u_186_5, u_186_6, u_186_9, u_186_10, u_186_11, u_186_13, u_186_16, u_186_17, u_186_18, u_186_21, u_186_22, u_186_23, u_186_26, u_186_27, u_186_28, u_186_29, u_186_31, u_186_34, u_186_35, u_186_36, u_186_39, u_186_40, u_186_41, u_186_44, u_186_45, u_186_48, u_186_49, u_186_50, u_186_51, u_186_54, u_186_56, u_186_58, u_186_61, u_186_62, u_186_63, u_186_64, u_186_67, u_186_70, h6, hh, bnd_some, psh_some, h1, h2, not_false_eq_true, if_true, m_kindBy hX, h3, not_true, if_false, b1]
        · rw [if_neg h3]
          have hkk := (kOf_cases (hr t s.2.1)).resolve_left h3
          cases deep with
          | true =>
            rw [if_pos rfl]
            have hd12 : (dep : Int) = 12 := by have := hdeep.mp rfl; omega
            obtain ⟨I1, b1, b2, b3, b4⟩ := m_fails (d := D + 3) (I := I) (pl := (s.2.1 : Int)) (why := 5) hX
            refine ⟨I1, -9, ?_, (frA_H b3 b4).Z, rfl, b2⟩
            simp (disch := first | assumption | omega | exact Nat.le_of_ble_eq_true rfl | decide) only [u_186_0, u_186_1, u_186_4, u_186_5, u_186_6, u_186_9, u_186_10, u_186_11, u_186_13, u_186_16, u_186_17, u_186_18, u_186_21, u_186_22, u_186_23, u_186_26, u_186_27, u_186_28, u_186_29, u_186_31, u_186_34, u_186_35, u_186_36, u_186_39, u_186_40, u_186_41, u_186_44, u_186_45, u_186_48, u_186_49, u_186_50, u_186_51, u_186_54, u_186_56, u_186_58, u_186_61, u_186_62, u_186_63, u_186_64, u_186_67, u_186_70, u_186_71, u_186_72, u_186_74, u_186_77, u_186_78, u_186_79, u_186_80, u_186_83, u_186_86, h6, hh, bnd_some, psh_some, h1, h2, not_false_eq_true, if_true, m_kindBy hX, h3, hd12, not_true, if_false, b1]
          | false =>
            rw [if_neg (by decide)]
            have hd12 : ¬ (dep : Int) = 12 := fun z => by
              have := hdeep.mpr (by omega)
              cases this
            by_cases h4 : freeW s.1 = -1
            · rw [if_pos h4]
              obtain ⟨I1, b1, b2, b3, b4⟩ := m_fails (d := D + 3) (I := I) (pl := (s.2.1 : Int)) (why := 4) hX
              refine ⟨I1, -9, ?_, (frA_H b3 b4).Z, rfl, b2⟩
              simp (disch := first | assumption | omega | exact Nat.le_of_ble_eq_true rfl | decide) only [u_186_0, u_186_1, u_186_4, u_186_5, u_186_6, u_186_9, u_186_10, u_186_11, u_186_13, u_186_16, u_186_17, u_186_18, u_186_21, u_186_22, u_186_23, u_186_26, u_186_27, u_186_28, u_186_29, u_186_31, u_186_34, u_186_35, u_186_36, u_186_39, u_186_40, u_186_41, u_186_44, u_186_45, u_186_48, u_186_49, u_186_50, u_186_51, u_186_54, u_186_56, u_186_58, u_186_61, u_186_62, u_186_63, u_186_64, u_186_67, u_186_70, u_186_71, u_186_72, u_186_74, u_186_77, u_186_78, u_186_79, u_186_80, u_186_83, u_186_86, u_186_87, u_186_88, u_186_91, u_186_93, u_186_96, u_186_97, u_186_98, u_186_99, u_186_102, u_186_105, h6, hh, bnd_some, psh_some, h1, h2, not_false_eq_true, if_true, m_kindBy hX, h3, hd12, m_many hX.1 hW, (manyI s.1).mpr h4, not_true, if_false, b1]
            · rw [if_neg h4]
              have hnm : ¬ ((manyW s.1 : Nat) : Int) = 30 := fun z => h4 ((manyI s.1).mp z)
              obtain ⟨hn1, hn12, hp, hcall⟩ := hrec rfl
              have hl : s.2.1 < t.length := hr_lt (t := t) (a := s.2.1) (fun z => h3 (by rw [z]; rfl))
              have hs1 : okD t (s.1, s.2.1 + 1, s.2.2) := ⟨hs.1, hs.2.1, by dsimp only; omega, hs.2.2.2⟩
              have hhead : ∃ I1 v, mHd (up I 392 18 ((s.2.1 + 1 : Nat) : Int)) I1 t q s.2.2 (hdR t (kOf (hr t s.2.1)) (s.1, s.2.1 + 1, s.2.2)) v ∧ ∀ r : Option Res, ev S0 (D + 4) 186 137 [.inr (.inl 392), .inl (dep : Int), .inl (s.2.1 : Int), .inl (hr t s.2.1), .inl (kOf (hr t s.2.1)), .inl v, .inr (.inr 1), .inr (.inr 1), .inr (.inr 1)] [] (sh, I1, R) = r → ev S0 (D + 4) 186 0 (ini 186 [.inr (.inl 392), .inl (dep : Int)]) [] (sh, I, R) = r := by
                rw [e0]
                have hgo : ∀ r : Option Res, ev S0 (D + 4) 186 116 [.inr (.inl 392), .inl (dep : Int), .inl (s.2.1 : Int), .inl (hr t s.2.1), .inl (kOf (hr t s.2.1)), .inr (.inr 1), .inr (.inr 1), .inr (.inr 1), .inr (.inr 1)] [] (sh, up I 392 18 ((s.2.1 + 1 : Nat) : Int), R) = r → ev S0 (D + 4) 186 0 [.inr (.inl 392), .inl (dep : Int), .inr (.inr 1), .inr (.inr 1), .inr (.inr 1), .inr (.inr 1), .inr (.inr 1), .inr (.inr 1), .inr (.inr 1)] [] (sh, I, R) = r := by
                  intro r hr'
                  simp (disch := first | assumption | omega | exact Nat.le_of_ble_eq_true rfl | decide) only [u_186_0, u_186_1, u_186_4, u_186_5, u_186_6, u_186_9, u_186_10, u_186_11, u_186_13, u_186_16, u_186_17, u_186_18, u_186_21, u_186_22, u_186_23, u_186_26, u_186_27, u_186_28, u_186_29, u_186_31, u_186_34, u_186_35, u_186_36, u_186_39, u_186_40, u_186_41, u_186_44, u_186_45, u_186_48, u_186_49, u_186_50, u_186_51, u_186_54, u_186_56, u_186_58, u_186_61, u_186_62, u_186_63, u_186_64, u_186_67, u_186_70, u_186_71, u_186_72, u_186_74, u_186_77, u_186_78, u_186_79, u_186_80, u_186_83, u_186_86, u_186_87, u_186_88, u_186_91, u_186_93, u_186_96, u_186_97, u_186_98, u_186_99, u_186_102, u_186_105, u_186_106, u_186_107, u_186_108, u_186_111, u_186_112, u_186_113, h6, hh, bnd_some, psh_some, h1, h2, not_false_eq_true, if_true, m_kindBy hX, h3, hd12, m_many hX.1 hW, hnm, wrI, n1]
                  exact hr'
                by_cases hk4 : kOf (hr t s.2.1) = 4
                · obtain ⟨I1, v, c1, c2⟩ := m_rowHd (d := D + 1) (s := (s.1, s.2.1 + 1, s.2.2)) hX hq ht hs1 h4 hW2 g2
                  refine ⟨I1, v, by rw [hk4]; exact c2, fun r hr' => hgo r ?_⟩
                  rw [hk4] at hr' ⊢
                  simp (disch := first | assumption | omega | exact Nat.le_of_ble_eq_true rfl | decide) only [u_186_116, u_186_118, u_186_119, u_186_122, u_186_123, u_186_126, u_186_129, u_186_130, u_186_132, u_186_135, not_true, if_false, c1, bnd_some, psh_some]
                  exact hr'
                · obtain ⟨I1, v, c1, c2⟩ := m_hd (d := D) (s := (s.1, s.2.1 + 1, s.2.2)) hX hq ht hs1 h4 (kd := kOf (hr t s.2.1)) (by omega) hW2 g2
                  refine ⟨I1, v, c2, fun r hr' => hgo r ?_⟩
                  simp (disch := first | assumption | omega | exact Nat.le_of_ble_eq_true rfl | decide) only [u_186_116, u_186_118, u_186_119, u_186_122, u_186_123, u_186_126, u_186_129, u_186_130, u_186_132, u_186_135, hk4, not_false_eq_true, if_true, c1, bnd_some, psh_some]
                  exact hr'
              obtain ⟨I1, v, ⟨c2, c3⟩, hgo⟩ := hhead
              have hdok := hdR_ok (t := t) (kd := kOf (hr t s.2.1)) (s := (s.1, s.2.1 + 1, s.2.2)) hs1 hkk h4
              have hmade : ∀ x, hdR t (kOf (hr t s.2.1)) (s.1, s.2.1 + 1, s.2.2) = .inl x → x.2.2.2 = s.2.2 ++ [x.1] := by
                intro x hx
                unfold hdR at hx
                by_cases hk4 : kOf (hr t s.2.1) = 4
                · rw [if_pos hk4] at hx
                  cases z1 : dgR t 0 3 (s.2.1 + 1) with
                  | none => rw [z1] at hx; cases hx
                  | some k =>
                    rw [z1] at hx
                    dsimp only at hx
                    cases z2 : dgR t 0 6 (s.2.1 + 1 + 1) with
                    | none => rw [z2] at hx; cases hx
                    | some k2 => rw [z2] at hx; cases hx; rfl
                · rw [if_neg hk4] at hx
                  cases z1 : dgR t 1 3 (s.2.1 + 1) with
                  | none => rw [z1] at hx; cases hx
                  | some k =>
                    rw [z1] at hx
                    dsimp only at hx
                    cases z2 : flR t 7 (s.2.1 + 1 + 1) [] with
                    | inr e => rw [z2] at hx; cases hx
                    | inl e => rw [z2] at hx; cases hx; rfl
              cases hd : hdR t (kOf (hr t s.2.1)) (s.1, s.2.1 + 1, s.2.2) with
              | inr e =>
                rw [hd] at c3 hdok
                obtain ⟨rfl, c6⟩ := c3
                obtain ⟨I2, b1, b2, b3, b4⟩ := m_passes (d := D + 3) (pl := (s.2.1 : Int)) hX c6 (by rw [hdok.2]; decide)
                refine ⟨I2, -9, hgo _ ?_, ((up18_H (I := I)).Z.tr c2).tr (frA_H b3 b4).Z, rfl, b2⟩
                simp (disch := first | assumption | omega | exact Nat.le_of_ble_eq_true rfl | decide) only [u_186_137, u_186_139, u_186_141, u_186_144, u_186_145, u_186_146, u_186_149, not_true, if_false, b1, bnd_some, psh_some]
              | inl x =>
                rw [hd] at c3 hdok
                obtain ⟨rfl, c4, c5, c6⟩ := c3
                obtain ⟨o1, o2, i, oi, oi30, oi0, oim, ok⟩ := hdok
                have hmx := hmade x hd
                dsimp only
                have hlen := (o1.1.1 i oi30).2.2.2.2.2.2.2.1
                have h30 := okm_len o1.2.2.2
                rw [hmx, List.length_append] at h30
                simp only [List.length_cons, List.length_nil] at h30
                rw [oi] at hgo hmx
                have c19 := c5.2.2.2.1.1
                have hI2 : mdI (up (up I1 405 (s.2.2.length : Int) (i : Int)) 392 19 ((s.2.2.length + 1 : Nat) : Int)) t q x.2.2.1 x.2.2.2 := by
                  rw [hmx]
                  refine ⟨by rw [upj (by decide), upk (by decide)]; exact c5.1, by rw [upj (by decide), upk (by decide)]; exact c5.2.1, by rw [upj (by decide), upk (by decide)]; exact c5.2.2.1, ⟨by rw [ups, List.length_append]; rfl, fun j y hy => ?_⟩, fun j c hc => by rw [upk (by decide), upk (by decide)]; exact c5.2.2.2.2 j c hc⟩
                  rw [upk (by decide)]
                  have := lenOf hy
                  rw [List.length_append] at this
                  simp only [List.length_cons, List.length_nil] at this
                  by_cases hj : j < s.2.2.length
                  · rw [List.getElem?_append_left hj] at hy
                    rw [upj (by omega)]
                    exact c5.2.2.2.1.2 j y hy
                  · obtain rfl : j = s.2.2.length := by omega
                    rw [List.getElem?_append_right (Nat.le_refl _), Nat.sub_self] at hy
                    cases hy
                    exact ups
                have hZ2 : FrZ I1 (up (up I1 405 (s.2.2.length : Int) (i : Int)) 392 19 ((s.2.2.length + 1 : Nat) : Int)) := ⟨fun k a _ _ _ b _ _ => by rw [upf a, upf b], fun z _ _ b => by rw [upj b, upk (by decide)]⟩
                have hm2 : Fr3m I1 (up (up I1 405 (s.2.2.length : Int) (i : Int)) 392 19 ((s.2.2.length + 1 : Nat) : Int)) := ⟨by rw [upj (by decide), upk (by decide)], by rw [upf (by decide), upf (by decide)], by rw [upf (by decide), upf (by decide)]⟩
                have hW3 : isM (up (up I1 405 (s.2.2.length : Int) (i : Int)) 392 19 ((s.2.2.length + 1 : Nat) : Int)) 393 x.2.1 := c4.cong (by rw [upf (by decide), upf (by decide)])
                obtain ⟨I2, v2, e1, e3, e4⟩ := mrf_loop (D := D + 1) (dep := dep) (bg := s.2.1) (a3 := .inl (hr t s.2.1)) hX hq ht (by omega) hp hn1 hn12 hcall oi30 hlen (x.2.1.1 i).2.2.1.length 0 _ x.2 (.inr (.inr 1)) (.inr (.inr 1)) (by omega) o1 hW3 hI2 ok h3 rfl
                have e1 : ev S0 (D + 4) 186 174 [.inr (.inl 392), .inl (dep : Int), .inl (s.2.1 : Int), .inl (hr t s.2.1), .inl (kOf (hr t s.2.1)), .inl (i : Int), .inl 0, .inr (.inr 1), .inr (.inr 1)] [] _ = some (some (.inl v2), (sh, I2, R)) := e1
                have hine : ¬ (i : Int) = -9 := by omega
                rw [oi, Int.toNat_natCast]
                refine ⟨I2, v2, hgo _ ?_, (((up18_H (I := I)).Z.tr c2).tr hZ2).tr e3, ?_⟩
                · simp (disch := first | assumption | omega | exact Nat.le_of_ble_eq_true rfl | decide) only [u_186_137, u_186_139, u_186_141, u_186_144, u_186_145, u_186_146, u_186_149, u_186_150, u_186_151, u_186_154, u_186_155, u_186_158, u_186_160, u_186_161, u_186_162, u_186_163, u_186_166, u_186_167, u_186_168, u_186_171, u_186_172, hine, not_false_eq_true, if_true, r20, rv_some, c19, upk, wrI, n1]
                  exact e1
                · cases hrr : rfR p i (x.2.1.1 i).2.2.1.length 0 x.2 with
                  | inl s2 =>
                    rw [hrr] at e4
                    exact ⟨e4.1, e4.2.1, e4.2.2.1, ((up18_m.tr c6).tr hm2).tr e4.2.2.2⟩
                  | inr e =>
                    rw [hrr] at e4
                    exact e4
  intro n
  induction n with
  | zero =>
    intro dep I s hdep hs hW h
    exact body (d + 0) 0 dep true _ I s (by omega) ⟨fun _ => by omega, fun _ => rfl⟩ (fun z => by cases z) hs hW h
  | succ n ih =>
    intro dep I s hdep hs hW h
    have := body (d + n + 1) (n + 1) dep false (paR t n) I s (by omega) ⟨(fun z => by cases z), (fun z => by omega)⟩ (fun _ => ⟨by omega, by omega, fun s hs => paR_ok n s hs, fun I s hs hW h => ih (dep + 1) I s (by omega) hs hW h⟩) hs hW h
    rw [show d + n + 1 + 5 = d + (n + 1) + 5 by omega] at this
    exact this
theorem nT2_nT {x : Int} (h : x = -1 ∨ 0 ≤ x) : nT2 x = nT x := by
  unfold nT2 nT
  rcases h with h | h
  · rw [if_pos (by omega), if_pos h]
  · rw [if_neg (by omega), if_neg (by omega)]
theorem MM_load {x : Int} (hX : MX sh R) (hm : mR I s) (hs : okS s) : ME sh R I (d + 18) 187 [.inl x] (b_load s x) := by
  obtain ⟨t9, r9, tg_, lg⟩ := hX.1
  obtain ⟨r1, ta, la⟩ := hX.g 1 394 744 (by decide)
  obtain ⟨r5, t5, l5⟩ := hX.g 5 397 4 (by decide)
  unfold b_load
  by_cases hx : isq x
  · rw [if_neg (Classical.not_not.mpr hx)]
    obtain ⟨q, rfl⟩ : ∃ q' : Nat, x = (q' : Int) := ⟨x.toNat, by have := hx.1; omega⟩
    have hq4 : q < 4 := by have := hx.2; omega
    rw [Int.toNat_natCast]
    have hsh := hm.2.2.2.1 q hq4
    have hot := hs.2.2.2.2.2.1 q hq4
    generalize hgv : s.2.2.2.1 q = sv at hsh hot ⊢
    cases sv with
    | none =>
      have hsh : I 397 (q : Int) = -1 := hsh
      refine ME.same hm ?_
      have hge : ¬ (0 : Int) ≤ -1 := by decide
      rw [c_187]
      simp (disch := first | assumption | omega | exact Nat.le_of_ble_eq_true rfl | decide) only [u_187_0, u_187_1, u_187_4, u_187_7, u_187_8, u_187_9, u_187_10, u_187_13, u_187_14, u_187_15, u_187_18, u_187_20, u_187_21, u_187_22, u_187_25, u_187_26, u_187_29, u_187_29kn, u_187_29nk, u_187_29nn, u_187_32, u_187_33, u_187_36, u_187_37, u_187_38, u_187_41, u_187_42, u_187_43, u_187_46, u_187_47, u_187_48, u_187_51, u_187_52, u_187_53, u_187_56, u_187_57, u_187_58, u_187_61, u_187_62, u_187_63, u_187_66, u_187_67, u_187_68, u_187_70, u_187_73, u_187_74, u_187_77, u_187_78, u_187_81, u_187_84, u_187_85, u_187_87, u_187_88, u_187_91, u_187_94, u_187_95, u_187_96, u_187_98, u_187_101, u_187_102, u_187_105, u_187_106, u_187_109, u_187_109kn, u_187_109nk, u_187_109nn, u_187_112, u_187_114, u_187_115, u_187_116, u_187_119, m_isShelf, if_pos hx, bnd_some, psh_some, Int.reduceEq, not_false_eq_true, if_true, r5, rv_some, hsh, if_neg hge]
    | some t =>
      have hsh : I 397 (q : Int) = (t.length : Int) ∧ ∀ (j : Nat) (c : Int), t[j]? = some c → I 398 (200 * (q : Int) + (j : Int)) = c := hsh
      obtain ⟨hs0, hs1⟩ := hsh
      have ht := hot t rfl
      have ht2 := ht.1
      have hge : (0 : Int) ≤ (t.length : Int) := by omega
      dsimp only
      obtain ⟨I0, b1, b2, b3⟩ := m_lays (d := d + 16) (I := I) (R := R) tg_ lg ta la (by decide)
      have hU : ∀ k, k ≠ 392 → k ≠ 394 → (up (up (up (up I0 392 16 (200 * (q : Int))) 392 17 (t.length : Int)) 392 18 0) 392 19 0) k = I k := fun k a b => by rw [upf a, upf a, upf a, upf a, b3 k b]
      have hU2 : ∀ z, z ≠ 16 → z ≠ 17 → z ≠ 18 → z ≠ 19 → (up (up (up (up I0 392 16 (200 * (q : Int))) 392 17 (t.length : Int)) 392 18 0) 392 19 0) 392 z = I 392 z := fun z a b c e => by rw [upj e, upj c, upj b, upj a, b3 _ (by decide)]
      have hU4 : ∀ i : Nat, i < 744 → (up (up (up (up I0 392 16 (200 * (q : Int))) 392 17 (t.length : Int)) 392 18 0) 392 19 0) 394 (i : Int) = I 393 (i : Int) := fun i hi => by rw [upk (by decide), upk (by decide), upk (by decide), upk (by decide)]; exact b2 i hi
      have v397 : I0 397 (q : Int) = (t.length : Int) := by rw [b3 _ (by decide)]; exact hs0
      have hI0 : mdI (up (up (up (up I0 392 16 (200 * (q : Int))) 392 17 (t.length : Int)) 392 18 0) 392 19 0) t q 0 [] := ⟨by rw [upj (by decide), ups]; rfl, by rw [upj (by decide), upj (by decide), ups], by rw [upj (by decide), upj (by decide), upj (by decide), ups], ⟨by rw [ups]; rfl, fun j y hy => by cases hy⟩, fun j c hc => by rw [hU _ (by decide) (by decide)]; exact hs1 j c hc⟩
      have hgo : ∀ r : Option Res, ev S0 (d + 17) 187 63 [.inr (.inl 392), .inl (q : Int), .inr (.inr 1)] [.inl 0, .inr (.inl 392)] (sh, up (up (up (up I0 392 16 (200 * (q : Int))) 392 17 (t.length : Int)) 392 18 0) 392 19 0, R) = r → cl (d + 18) 187 [.inr (.inl 392), .inl (q : Int)] (sh, I, R) = r := by
        intro r hr'
        rw [c_187]
        simp (disch := first | assumption | omega | exact Nat.le_of_ble_eq_true rfl | decide) only [u_187_0, u_187_1, u_187_4, u_187_7, u_187_8, u_187_9, u_187_10, u_187_13, u_187_14, u_187_15, u_187_18, u_187_20, u_187_21, u_187_22, u_187_25, u_187_26, u_187_29, u_187_29kn, u_187_29nk, u_187_29nn, u_187_32, u_187_33, u_187_36, u_187_37, u_187_38, u_187_41, u_187_42, u_187_43, u_187_46, u_187_47, u_187_48, u_187_51, u_187_52, u_187_53, u_187_56, u_187_57, u_187_58, u_187_61, u_187_62, m_isShelf, if_pos hx, bnd_some, psh_some, psh_none, Int.reduceEq, not_false_eq_true, if_true, r5, rv_some, hs0, if_pos hge, r9, r1, b1, wrI, upk, v397]
        exact hr'
      generalize hJ : (up (up (up (up I0 392 16 (200 * (q : Int))) 392 17 (t.length : Int)) 392 18 0) 392 19 0) = J at hU hU2 hU4 hI0 hgo
      have hW0 : isM J 393 s.1 := hm.1.cong (hU _ (by decide) (by decide))
      have hok0 : okD t (s.1, 0, []) := ⟨hs.1, hs.2.1, Nat.zero_le _, okm_nil _⟩
      obtain ⟨I1, v, c1, c2, c3⟩ := m_part (d := d) hX hq4 ht 12 0 J (s.1, 0, []) (by omega) hok0 hW0 hI0
      have c1 : cl (d + 17) 186 [.inr (.inl 392), .inl 0] (sh, J, R) = some (some (.inl v), (sh, I1, R)) := c1
      have hpok := paR_ok (t := t) 12 (s.1, 0, []) hok0
      have hld := ldW_ok (t := t) hs.1 hs.2.1
      have hbegin : ∀ r : Option Res, ev S0 (d + 17) 187 67 [.inr (.inl 392), .inl (q : Int), .inl v] [] (sh, I1, R) = r → cl (d + 18) 187 [.inr (.inl 392), .inl (q : Int)] (sh, I, R) = r := fun r hr' => hgo r (by
        simp (disch := first | assumption | omega | exact Nat.le_of_ble_eq_true rfl | decide) only [u_187_63, u_187_66, c1, bnd_some, psh_some]
        exact hr')
      have hfail : ∀ (I2 : IM) (fl : FL), mFlm I2 fl → FrZ J I2 → (∀ r : Option Res, ev S0 (d + 17) 187 95 [.inr (.inl 392), .inl (q : Int), .inl (-9)] [] (sh, I2, R) = r → cl (d + 18) 187 [.inr (.inl 392), .inl (q : Int)] (sh, I, R) = r) → ME sh R I (d + 18) 187 [.inl (q : Int)] (-5, stF s fl) := by
        intro I2 fl hf2 hZ hgo2
        obtain ⟨I3, k1, k2, k3⟩ := m_lays (d := d + 16) (I := I2) (R := R) ta la tg_ lg (by decide)
        have hk : ∀ k, k ≠ 392 → k ≠ 393 → k ≠ 394 → k ≠ 403 → k ≠ 404 → k ≠ 405 → k ≠ 406 → k ≠ 407 → I3 k = I k := fun k a b c e f g h i => by rw [k3 k b, hZ.1 k a b e f g h i, hU k a c]
        have hz : ∀ z, z ≠ 15 → z ≠ 18 → z ≠ 19 → z ≠ 16 → z ≠ 17 → I3 392 z = I 392 z := fun z a b c e f => by rw [k3 _ (by decide), hZ.2 z a b c, hU2 z e f b c]
        obtain ⟨a1, a2, a3, a4, a5, a6⟩ := hm
        refine ⟨I3, hgo2 _ ?_, ⟨isM_same hs.1 a1 (fun i hi => ?_), by rw [hz _ (by decide) (by decide) (by decide) (by decide) (by decide)]; exact a2, fun z => isMc.cong (a3 z) (hk _ (by decide) (by decide) (by decide) (by decide) (by decide) (by decide) (by decide) (by decide)), fun p hp => (a4 p hp).cong (hk _ (by decide) (by decide) (by decide) (by decide) (by decide) (by decide) (by decide) (by decide)) (hk _ (by decide) (by decide) (by decide) (by decide) (by decide) (by decide) (by decide) (by decide)), fun p hp => by rw [hk _ (by decide) (by decide) (by decide) (by decide) (by decide) (by decide) (by decide) (by decide)]; exact a5 p hp, hf2.cong (by rw [k3 _ (by decide)]) (k3 _ (by decide)) (k3 _ (by decide))⟩, fun k hk' => hk k (by omega) (by omega) (by omega) (by omega) (by omega) (by omega) (by omega) (by omega)⟩
        · simp (disch := first | assumption | omega | exact Nat.le_of_ble_eq_true rfl | decide) only [u_187_95, u_187_96, u_187_98, u_187_101, u_187_102, u_187_105, u_187_106, u_187_109, u_187_109kn, u_187_109nk, u_187_109nn, u_187_112, u_187_114, not_true, if_false, r9, r1, rv_some, k1, bnd_some, psh_none]
        · rw [k2 i hi, hZ.1 _ (by decide) (by decide) (by decide) (by decide) (by decide) (by decide) (by decide)]
          exact hU4 i hi
      have hlw : ldW t s.1 = (match paR t 12 (s.1, 0, []) with
        | .inr e => .inr e
        | .inl x => if x.2.2.1 < t.length then .inr ([(7, (x.2.2.1 : Int))], x.2.1, x.2.2.2) else .inl x) := rfl
      rw [hlw]
      cases hp : paR t 12 (s.1, 0, []) with
      | inr e =>
        rw [hp] at c3
        obtain ⟨rfl, c6⟩ := c3
        dsimp only
        refine hfail I1 e.1 c6 c2 (fun r hr' => hbegin r ?_)
        simp (disch := first | assumption | omega | exact Nat.le_of_ble_eq_true rfl | decide) only [u_187_67, u_187_68, u_187_70, if_true]
        exact hr'
      | inl y =>
        rw [hp] at c3 hpok
        obtain ⟨rfl, c4, c5, c6⟩ := c3
        dsimp only
        have hyne : ¬ y.1 = -9 := by
          rcases hpok.2.2 with z | z
          · omega
          · have := z.1; omega
        have h18 := c5.1
        have h17 := c5.2.1
        by_cases hend : y.2.2.1 < t.length
        · rw [if_pos hend]
          have hc : ¬ (t.length : Int) ≤ (y.2.2.1 : Int) := by omega
          obtain ⟨I2, f1, f2, f3, f4⟩ := m_fails (d := d + 16) (I := I1) (pl := (y.2.2.1 : Int)) (why := 7) hX
          refine hfail I2 [(7, (y.2.2.1 : Int))] f2 (c2.tr (frA_H f3 f4).Z) (fun r hr' => hbegin r ?_)
          simp (disch := first | assumption | omega | exact Nat.le_of_ble_eq_true rfl | decide) only [u_187_67, u_187_68, u_187_70, u_187_73, u_187_74, u_187_77, u_187_78, u_187_81, u_187_84, u_187_85, u_187_87, u_187_88, u_187_91, u_187_94, hyne, if_false, h18, h17, hc, f1, bnd_some, psh_some]
          exact hr'
        · rw [if_neg hend]
          have hc : (t.length : Int) ≤ (y.2.2.1 : Int) := by omega
          obtain ⟨a1, a2, a3, a4, a5, a6⟩ := hm
          have hk : ∀ k, k ≠ 392 → k ≠ 393 → k ≠ 394 → k ≠ 403 → k ≠ 404 → k ≠ 405 → k ≠ 406 → k ≠ 407 → I1 k = I k := fun k a b c e f g h i => by rw [c2.1 k a b e f g h i, hU k a c]
          have hz : ∀ z, z ≠ 15 → z ≠ 18 → z ≠ 19 → z ≠ 16 → z ≠ 17 → I1 392 z = I 392 z := fun z a b c e f => by rw [c2.2 z a b c, hU2 z e f b c]
          refine ⟨I1, hbegin _ ?_, ⟨c4, by rw [hz _ (by decide) (by decide) (by decide) (by decide) (by decide)]; exact a2, fun z => isMc.cong (a3 z) (hk _ (by decide) (by decide) (by decide) (by decide) (by decide) (by decide) (by decide) (by decide)), fun p hp => (a4 p hp).cong (hk _ (by decide) (by decide) (by decide) (by decide) (by decide) (by decide) (by decide) (by decide)) (hk _ (by decide) (by decide) (by decide) (by decide) (by decide) (by decide) (by decide) (by decide)), fun p hp => by rw [hk _ (by decide) (by decide) (by decide) (by decide) (by decide) (by decide) (by decide) (by decide)]; exact a5 p hp, a6.cong (by rw [c6.1, hU2 _ (by decide) (by decide) (by decide) (by decide)]) (by rw [c6.2.1, hU _ (by decide) (by decide)]) (by rw [c6.2.2, hU _ (by decide) (by decide)])⟩, fun k hk' => hk k (by omega) (by omega) (by omega) (by omega) (by omega) (by omega) (by omega) (by omega)⟩
          have hnt : nT2 y.1 = nT y.1 := nT2_nT (hpok.2.2.imp id (fun z => z.1))
          simp (disch := first | assumption | omega | exact Nat.le_of_ble_eq_true rfl | decide) only [u_187_67, u_187_68, u_187_70, u_187_73, u_187_74, u_187_77, u_187_78, u_187_81, u_187_95, u_187_96, u_187_98, u_187_115, u_187_116, u_187_119, hyne, if_false, h18, h17, if_pos hc, not_false_eq_true, if_true, m_told, hnt, bnd_some, psh_some]
  · rw [if_pos hx]
    refine ME.same hm ?_
    rw [c_187]
    simp (disch := first | assumption | omega | exact Nat.le_of_ble_eq_true rfl | decide) only [u_187_0, u_187_1, u_187_4, u_187_7, u_187_8, u_187_9, u_187_10, u_187_13, u_187_14, u_187_15, u_187_18, u_187_20, u_187_21, u_187_22, u_187_25, u_187_26, u_187_29, u_187_29kn, u_187_29nk, u_187_29nn, u_187_32, u_187_33, u_187_36, u_187_37, u_187_38, u_187_41, u_187_42, u_187_43, u_187_46, u_187_47, u_187_48, u_187_51, u_187_52, u_187_53, u_187_56, u_187_57, u_187_58, u_187_61, u_187_62, u_187_63, u_187_66, u_187_67, u_187_68, u_187_70, u_187_73, u_187_74, u_187_77, u_187_78, u_187_81, u_187_84, u_187_85, u_187_87, u_187_88, u_187_91, u_187_94, u_187_95, u_187_96, u_187_98, u_187_101, u_187_102, u_187_105, u_187_106, u_187_109, u_187_109kn, u_187_109nk, u_187_109nn, u_187_112, u_187_114, u_187_115, u_187_116, u_187_119, m_isShelf, if_neg hx, bnd_some, psh_some, not_true, if_false]
end MLZ
