/-! THE MODEL: load, parts and whole -/
def mHd (I I' : IM) (t : List Int) (q : Nat) (m : List Int) (r : RRes) (v : Int) : Prop := FrZ I I' ∧ (match r with
  | .inl x => v = x.1 ∧ isM I' 393 x.2.1 ∧ mdI I' t q x.2.2.1 m ∧ Fr3m I I'
  | .inr e => v = -9 ∧ mFlm I' e.1)
def mRes (I I' : IM) (t : List Int) (q : Nat) (r : RRes) (v : Int) : Prop := FrZ I I' ∧ (match r with
  | .inl x => v = x.1 ∧ isM I' 393 x.2.1 ∧ mdI I' t q x.2.2.1 x.2.2.2 ∧ Fr3m I I'
  | .inr e => v = -9 ∧ mFlm I' e.1)
section MLW
variable {sh : Shp} {R : RM} {I : IM} {d q a : Nat} {s : ST} {w : WD} {t m : List Int}
theorem ma_loop (hX : MX sh R) {i : Nat} (hi : i < 30) {L : FL} (hL : L.length ≤ 6) {a1 a5 : AV} : ∀ (k j : Nat) (I : IM), j + k = L.length → isNN I L → mFl I 393 i (L.take j) → ∃ I', ev S0 (d + 1) 183 192 [.inr (.inl 392), a1, .inl (L.length : Int), .inl (i : Int), .inl (j : Int), a5] [] (sh, I, R) = ev S0 (d + 1) 183 223 [.inr (.inl 392), a1, .inl (L.length : Int), .inl (i : Int), .inl (L.length : Int), a5] [] (sh, I', R) ∧ mFl I' 393 i L ∧ FrL i I I' := by
  have t9 := hX.1.1
  obtain ⟨r21, t21, l21⟩ := hX.g 21 406 6 (by decide)
  obtain ⟨r22, t22, l22⟩ := hX.g 22 407 6 (by decide)
  intro k
  induction k with
  | zero =>
    intro j I hj hN h2
    obtain rfl : j = L.length := by omega
    have hc : (L.length : Int) ≤ (L.length : Int) := by omega
    rw [List.take_length] at h2
    refine ⟨I, ?_, h2, FrL.rf⟩
    simp (disch := first | assumption | omega | exact Nat.le_of_ble_eq_true rfl | decide) only [u_183_192, u_183_194, u_183_195, if_pos hc]
  | succ k ih =>
    intro j I hj hN h2
    have hjl : j < L.length := by omega
    have hc : ¬ (L.length : Int) ≤ (j : Int) := by omega
    obtain ⟨v1, v2⟩ := hN j _ (List.getElem?_eq_getElem hjl)
    obtain ⟨I1, f1, f2, f3⟩ := m_adds (d := d) (n := L[j].1) (v := L[j].2) hX.1 hi h2 (by rw [List.length_take]; omega)
    have e : L.take j ++ [(L[j].1, L[j].2)] = L.take (j + 1) := by rw [List.take_succ_eq_append_getElem hjl]
    rw [e] at f2
    obtain ⟨I', g1, g2, g3⟩ := ih (j + 1) I1 (by omega) (fun x p hp => by rw [f3.1 _ (by decide), f3.1 _ (by decide)]; exact hN x p hp) f2
    refine ⟨I', ?_, g2, f3.tr g3⟩
    rw [u_183_192]
    simp (disch := first | assumption | omega | exact Nat.le_of_ble_eq_true rfl | decide) only [u_183_194, u_183_195, u_183_198, u_183_199, u_183_200, u_183_201, u_183_204, u_183_206, u_183_207, u_183_208, u_183_211, u_183_213, u_183_214, u_183_217, u_183_220, hc, if_false, r21, r22, rv_some, v1, v2, f1, bnd_some, psh_none, wrI, n1, g1]
theorem FrL.f3 {i : Nat} {I I' : IM} (h : FrL i I I') : Fr3 I I' := h.1
theorem m_hd (hX : MX sh R) (hq : q < 4) (ht : okT t) {s : LSt} (hs : okD t s) (hf : ¬ freeW s.1 = -1) {kd : Int} (hk : 1 ≤ kd ∧ kd ≤ 3) (hW : isM I 393 s.1) (h : mdI I t q s.2.1 s.2.2) : ∃ I' v, cl (d + 4) 183 [.inr (.inl 392), .inl kd] (sh, I, R) = some (some (.inl v), (sh, I', R)) ∧ mHd I I' t q s.2.2 (hdR t kd s) v := by
  have t9 := hX.1.1
  obtain ⟨i, hi, hi30, hi0⟩ := free_nat hf
  have hh := fun dd => m_here (d := dd) hX hq ht h
  have h6 := h.1
  have ht2 := ht.1
  have ha := hs.2.2.1
  unfold hdR
  rw [if_neg (by omega), c_183]
  cases h1 : dgR t 1 3 s.2.1 with
  | none =>
    have hno : ¬ (49 ≤ hr t s.2.1 ∧ hr t s.2.1 ≤ 51) := fun z => by
      obtain ⟨v, hv⟩ := dg_in.mp (show 48 + 1 ≤ hr t s.2.1 ∧ hr t s.2.1 ≤ 48 + 3 from z)
      rw [h1] at hv; cases hv
    obtain ⟨I1, f1, f2, f3, f4⟩ := m_fails (d := d + 2) (I := I) (pl := (s.2.1 : Int)) (why := 1) hX
    refine ⟨I1, -9, ?_, (frA_H f3 f4).Z, rfl, f2⟩
    simp (disch := first | assumption | omega | exact Nat.le_of_ble_eq_true rfl | decide) only [u_183_0, u_183_1, u_183_4, u_183_6, u_183_8, u_183_11, u_183_14, u_183_15, u_183_16, u_183_17, u_183_20, u_183_23, hh, m_in, if_neg hno, bnd_some, psh_some, not_true, if_false, h6, f1]
  | some k =>
    have hyes : 49 ≤ hr t s.2.1 ∧ hr t s.2.1 ≤ 51 := (dg_in (lo := 1) (hi := 3)).mpr ⟨k, h1⟩
    have hlt := hr_lt (t := t) (a := s.2.1) (by omega)
    have g2 : mdI (up I 392 18 ((s.2.1 + 1 : Nat) : Int)) t q (s.2.1 + 1) s.2.2 := h.H up18_H ups
    obtain ⟨I2, hfl⟩ := mfl_loop (d := d + 1) (kd := .inl kd) hX hq ht 7 (s.2.1 + 1) 0 (up I 392 18 ((s.2.1 + 1 : Nat) : Int)) [] (.inr (.inr 1)) (.inr (.inr 1)) (.inr (.inr 1)) (by omega) rfl (by omega) (by omega) ⟨Nat.zero_le _, fun p hp => by cases hp⟩ g2 (fun j p hp => by cases hp)
    have hflok := flR_ok (t := t) 7 (s.2.1 + 1) [] (by omega) ⟨Nat.zero_le _, fun p hp => by cases hp⟩ (by simp)
    have hgo : ∀ r : Option Res, ev S0 (d + 3) 183 36 [.inr (.inl 392), .inl kd, .inl ((0 : Nat) : Int), .inr (.inr 1), .inr (.inr 1), .inr (.inr 1)] [] (sh, up I 392 18 ((s.2.1 + 1 : Nat) : Int), R) = r → ev S0 (d + 3) 183 0 (ini 183 [.inr (.inl 392), .inl kd]) [] (sh, I, R) = r := by
      intro r hr'
      have e0 : ini 183 [.inr (.inl 392), .inl kd] = [.inr (.inl 392), .inl kd, .inr (.inr 1), .inr (.inr 1), .inr (.inr 1), .inr (.inr 1)] := rfl
      rw [e0]
      simp (disch := first | assumption | omega | exact Nat.le_of_ble_eq_true rfl | decide) only [u_183_0, u_183_1, u_183_4, u_183_6, u_183_8, u_183_11, u_183_14, u_183_15, u_183_16, u_183_17, u_183_20, u_183_23, u_183_24, u_183_25, u_183_26, u_183_29, u_183_30, u_183_31, u_183_34, u_183_35, hh, m_in, if_pos hyes, bnd_some, psh_some, Int.reduceEq, not_false_eq_true, if_true, h6, wrI, n1]
      exact hr'
    dsimp only
    cases h2 : flR t 7 (s.2.1 + 1) [] with
    | inr fl =>
      rw [h2] at hfl
      obtain ⟨b1, b2, b3⟩ := hfl
      exact ⟨I2, -9, hgo _ b1, (up18_H.tr b3).Z, rfl, b2⟩
    | inl p =>
      rw [h2] at hfl hflok
      obtain ⟨⟨x3, x4, x5, b1⟩, b2, b3, b4, b5⟩ := hfl
      dsimp only at hflok
      have hH := (up18_H (I := I) (v := ((s.2.1 + 1 : Nat) : Int))).tr b4
      have hW2 := hW.H hH
      have g3 := g2.H b4 b3
      obtain ⟨I3, k1, k2, k3⟩ := m_makes (d := d + 1) (kd := kd) (hd := 0) (len := rOf kd) hX.1 hW2 hs.1 (rOf_le hk) hi
      have hni := k2.1 i hi30
      rw [setN_at] at hni
      obtain ⟨y1, y2, y3⟩ := hni.2 (by dsimp only; omega)
      have hNN3 : isNN I3 p.1 := fun j x hx => by rw [k3.1 _ (by decide), k3.1 _ (by decide)]; exact b2 j x hx
      obtain ⟨I4, c1, c2, c3⟩ := ma_loop (d := d + 2) (a1 := .inl kd) (a5 := x5) hX hi30 hflok.1.1 p.1.length 0 I3 (by omega) hNN3 y3
      have c1 : ev S0 (d + 3) 183 192 [.inr (.inl 392), .inl kd, .inl (p.1.length : Int), .inl (i : Int), .inl 0, x5] [] (sh, I3, R) = _ := c1
      have hW4 : isM I4 393 (setN s.1 i (kd, 0, List.replicate (rOf kd) (-1), p.1)) := by
        refine isM_setN hW2 hs.1 hi30 ⟨?_, fun _ => ⟨?_, ⟨?_, fun x y hy => ?_⟩, c2⟩⟩ (fun z hz => by rw [c3.O.2 z hz, k3.2 z hz])
        · rw [c3.2 _ (by unfold fSlot; omega)]; exact hni.1
        · rw [c3.2 _ (by unfold fSlot; omega)]; exact y1
        · rw [c3.2 _ (by unfold fSlot; omega)]; exact y2.1
        · have := lenOf hy
          have : x < (List.replicate (rOf kd) (-1 : Int)).length := this
          rw [List.length_replicate] at this
          have hr6 := rOf_le hk
          rw [c3.2 _ (by unfold fSlot; omega)]; exact y2.2 x y hy
      have hokx : okN (setN s.1 i (kd, 0, List.replicate (rOf kd) (-1), p.1)) (kd, 0, List.replicate (rOf kd) (-1), p.1) := by
        obtain ⟨z1, z2, z3, z4, z5, z6, z7, z8, z9, z10, z11, z12, z13⟩ := okN_new (setN s.1 i (kd, 0, List.replicate (rOf kd) (-1), p.1)) hk
        exact ⟨z1, z2, fun z => by dsimp only at z; omega, z4, z5, z6, fun z => by dsimp only at z; omega, z8, hflok.1.1, z10, z11, z12, hflok.1.2⟩
      have hok4 := okW_setN hs.1 hokx (by dsimp only; omega)
      have hkk : ((setN s.1 i (kd, 0, List.replicate (rOf kd) (-1), p.1)).1 i).1 = ((kd.toNat : Nat) : Int) := by rw [setN_at]; dsimp only; omega
      obtain ⟨I5, m1, m2, m3⟩ := m_gives (d := d) hX.1 hW4 hok4 hi30 hkk (by omega) (by omega)
      rw [setN_at, setN_setN, defs_setN] at m2
      dsimp only
      rw [hi, Int.toNat_natCast]
      have hk3 : Fr3 I2 I3 := k3.1
      refine ⟨I5, (i : Int), hgo _ (b1.trans ?_), ((hH.Z.tr hk3.Z).tr c3.f3.Z).tr m3.f3.Z, rfl, m2, ((g3.g hk3).g c3.f3).g m3.f3, (((up18_m.tr b5).tr hk3.m).tr c3.f3.m).tr m3.f3.m⟩
      simp (disch := first | assumption | omega | exact Nat.le_of_ble_eq_true rfl | decide) only [u_183_178, u_183_179, u_183_180, u_183_181, u_183_182, u_183_185, u_183_188, u_183_189, u_183_190, m_refsOf hk, bnd_some, psh_some, k1]
      rw [c1]
      simp (disch := first | assumption | omega | exact Nat.le_of_ble_eq_true rfl | decide) only [u_183_223, u_183_224, u_183_225, u_183_228, u_183_229, m1, bnd_some, psh_none]
theorem m_rowHd (hX : MX sh R) (hq : q < 4) (ht : okT t) {s : LSt} (hs : okD t s) (hf : ¬ freeW s.1 = -1) (hW : isM I 393 s.1) (h : mdI I t q s.2.1 s.2.2) : ∃ I' v, cl (d + 3) 184 [.inr (.inl 392)] (sh, I, R) = some (some (.inl v), (sh, I', R)) ∧ mHd I I' t q s.2.2 (hdR t 4 s) v := by
  have t9 := hX.1.1
  obtain ⟨i, hi, hi30, hi0⟩ := free_nat hf
  have hh := fun dd => m_here (d := dd) hX hq ht h
  have h6 := h.1
  have ht2 := ht.1
  have ha := hs.2.2.1
  unfold hdR
  rw [if_pos rfl, c_184]
  cases h1 : dgR t 0 3 s.2.1 with
  | none =>
    have hno : ¬ (48 ≤ hr t s.2.1 ∧ hr t s.2.1 ≤ 51) := fun z => by
      obtain ⟨v, hv⟩ := dg_in.mp (show 48 + 0 ≤ hr t s.2.1 ∧ hr t s.2.1 ≤ 48 + 3 from z)
      rw [h1] at hv; cases hv
    obtain ⟨I1, f1, f2, f3, f4⟩ := m_fails (d := d + 1) (I := I) (pl := (s.2.1 : Int)) (why := 1) hX
    refine ⟨I1, -9, ?_, (frA_H f3 f4).Z, rfl, f2⟩
    simp (disch := first | assumption | omega | exact Nat.le_of_ble_eq_true rfl | decide) only [u_184_0, u_184_1, u_184_4, u_184_6, u_184_8, u_184_11, u_184_14, u_184_15, u_184_16, u_184_17, u_184_20, u_184_23, hh, m_in, if_neg hno, bnd_some, psh_some, not_true, if_false, h6, f1]
  | some k =>
    have hyes : 48 ≤ hr t s.2.1 ∧ hr t s.2.1 ≤ 51 := (dg_in (lo := 0) (hi := 3)).mpr ⟨k, h1⟩
    obtain ⟨e1, e2, e3⟩ := dgR_some h1
    have hw1 : wr (hr t s.2.1 - 48) = k := by rw [← e1]; exact wrI (by omega) (by omega)
    have hlt := hr_lt (t := t) (a := s.2.1) (by omega)
    have g2 : mdI (up I 392 18 ((s.2.1 + 1 : Nat) : Int)) t q (s.2.1 + 1) s.2.2 := h.H up18_H ups
    have hh2 := fun dd => m_here (d := dd) hX hq ht g2
    have g26 := g2.1
    dsimp only
    cases h2 : dgR t 0 6 (s.2.1 + 1) with
    | none =>
      have hno : ¬ (48 ≤ hr t (s.2.1 + 1) ∧ hr t (s.2.1 + 1) ≤ 54) := fun z => by
        obtain ⟨v, hv⟩ := dg_in.mp (show 48 + 0 ≤ hr t (s.2.1 + 1) ∧ hr t (s.2.1 + 1) ≤ 48 + 6 from z)
        rw [h2] at hv; cases hv
      obtain ⟨I1, f1, f2, f3, f4⟩ := m_fails (d := d + 1) (I := up I 392 18 ((s.2.1 + 1 : Nat) : Int)) (pl := ((s.2.1 + 1 : Nat) : Int)) (why := 1) hX
      refine ⟨I1, -9, ?_, (up18_H.tr (frA_H f3 f4)).Z, rfl, f2⟩
      clear e1
      simp (disch := first | assumption | omega | exact Nat.le_of_ble_eq_true rfl | decide) only [u_184_0, u_184_1, u_184_4, u_184_6, u_184_8, u_184_11, u_184_14, u_184_15, u_184_16, u_184_17, u_184_20, u_184_23, u_184_24, u_184_25, u_184_28, u_184_30, u_184_31, u_184_32, u_184_33, u_184_34, u_184_37, u_184_38, u_184_39, u_184_42, u_184_43, u_184_46, u_184_48, u_184_50, u_184_53, u_184_56, u_184_57, u_184_58, u_184_59, u_184_62, u_184_65, hh, m_in, if_pos hyes, bnd_some, psh_some, Int.reduceEq, not_false_eq_true, if_true, hw1, h6, wrI, n1, hh2, if_neg hno, not_true, if_false, g26, f1]
    | some n =>
      have hyes2 : 48 ≤ hr t (s.2.1 + 1) ∧ hr t (s.2.1 + 1) ≤ 54 := (dg_in (lo := 0) (hi := 6)).mpr ⟨n, h2⟩
      obtain ⟨c1, c2, c3⟩ := dgR_some h2
      have hw2 : wr (hr t (s.2.1 + 1) - 48) = n := by rw [← c1]; exact wrI (by omega) (by omega)
      have hlt2 := hr_lt (t := t) (a := s.2.1 + 1) (by omega)
      obtain ⟨len, rfl⟩ : ∃ len : Nat, n = (len : Int) := ⟨n.toNat, by omega⟩
      have hH := (up18_H (I := I) (v := ((s.2.1 + 1 : Nat) : Int))).tr (up18_H (v := ((s.2.1 + 1 + 1 : Nat) : Int)))
      have g3 : mdI (up (up I 392 18 ((s.2.1 + 1 : Nat) : Int)) 392 18 ((s.2.1 + 1 + 1 : Nat) : Int)) t q (s.2.1 + 1 + 1) s.2.2 := g2.H up18_H ups
      obtain ⟨I3, k1, k2, k3⟩ := m_makes (d := d) (kd := 4) (hd := k) (len := len) hX.1 (hW.H hH) hs.1 (by omega) hi
      have hk3 : Fr3 _ I3 := k3.1
      dsimp only
      rw [hi, Int.toNat_natCast, Int.toNat_natCast]
      refine ⟨I3, (i : Int), ?_, hH.Z.tr hk3.Z, rfl, k2, g3.g hk3, (up18_m.tr up18_m).tr hk3.m⟩
      have c1' := c1.symm
      clear e1 c1 hw2
      simp (disch := first | assumption | omega | exact Nat.le_of_ble_eq_true rfl | decide) only [u_184_0, u_184_1, u_184_4, u_184_6, u_184_8, u_184_11, u_184_14, u_184_15, u_184_16, u_184_17, u_184_20, u_184_23, u_184_24, u_184_25, u_184_28, u_184_30, u_184_31, u_184_32, u_184_33, u_184_34, u_184_37, u_184_38, u_184_39, u_184_42, u_184_43, u_184_46, u_184_48, u_184_50, u_184_53, u_184_56, u_184_57, u_184_58, u_184_59, u_184_62, u_184_65, u_184_66, u_184_67, u_184_70, u_184_72, u_184_73, u_184_74, u_184_75, u_184_76, u_184_79, u_184_80, u_184_81, u_184_84, u_184_85, u_184_86, u_184_87, u_184_88, u_184_91, c1', hh, m_in, if_pos hyes, bnd_some, psh_some, Int.reduceEq, not_false_eq_true, if_true, hw1, h6, wrI, n1, hh2, if_pos hyes2, g26, k1]
theorem m_met (hX : MX sh R) (hq : q < 4) (ht : okT t) {s : LSt} (hs : okD t s) (hW : isM I 393 s.1) (h : mdI I t q s.2.1 s.2.2) : ∃ I' v, cl (d + 2) 185 [.inr (.inl 392)] (sh, I, R) = some (some (.inl v), (sh, I', R)) ∧ mRes I I' t q (mtR t s) v := by
  have t9 := hX.1.1
  obtain ⟨r20, t20, l20⟩ := hX.g 20 405 30 (by decide)
  have hh := fun dd => m_here (d := dd) hX hq ht h
  have h6 := h.1
  have h19 := h.2.2.2.1.1
  have hb := hr_bd ht s.2.1
  have ht2 := ht.1
  have hw : wr (hr t s.2.1 - 65) = hr t s.2.1 - 65 := wrI (by omega) (by omega)
  have h30 := okm_len hs.2.2.2
  unfold mtR
  rw [c_185]
  by_cases h1 : 0 ≤ hr t s.2.1 - 65 ∧ hr t s.2.1 - 65 ≤ 29
  · rw [if_neg (Classical.not_not.mpr h1)]
    by_cases h2 : (s.2.2.length : Int) ≤ hr t s.2.1 - 65
    · rw [if_pos h2]
      have c3 : ¬ hr t s.2.1 - 65 < (s.2.2.length : Int) := by omega
      obtain ⟨I1, g1, g2, g3, g4⟩ := m_fails (d := d) (I := I) (pl := (s.2.1 : Int)) (why := 2) hX
      refine ⟨I1, -9, ?_, (frA_H g3 g4).Z, rfl, g2⟩
      clear hb
      simp (disch := first | assumption | omega | exact Nat.le_of_ble_eq_true rfl | decide) only [u_185_0, u_185_1, u_185_4, u_185_6, u_185_7, u_185_8, u_185_9, u_185_10, u_185_12, u_185_15, u_185_18, u_185_19, u_185_20, u_185_21, u_185_24, u_185_27, u_185_28, u_185_29, u_185_30, u_185_33, u_185_36, u_185_37, u_185_38, u_185_39, u_185_42, u_185_45, u_185_46, u_185_47, u_185_48, u_185_51, u_185_52, u_185_53, u_185_56, u_185_57, u_185_60, u_185_61, u_185_62, hh, bnd_some, psh_some, hw, m_in, if_pos h1, Int.reduceEq, not_false_eq_true, if_true, h19, if_neg c3, h6, g1]
    · rw [if_neg h2]
      have c3 : hr t s.2.1 - 65 < (s.2.2.length : Int) := by omega
      have hlt : (hr t s.2.1 - 65).toNat < s.2.2.length := by omega
      have hl := hr_lt (t := t) (a := s.2.1) (by omega)
      have hv := h.2.2.2.1.2 _ _ (List.getElem?_eq_getElem hlt)
      rw [show (((hr t s.2.1 - 65).toNat : Nat) : Int) = hr t s.2.1 - 65 by omega] at hv
      rw [getD_at hlt]
      refine ⟨up I 392 18 ((s.2.1 + 1 : Nat) : Int), _, ?_, up18_H.Z, rfl, hW.H up18_H, h.H up18_H ups, up18_m⟩
      clear hb
      simp (disch := first | assumption | omega | exact Nat.le_of_ble_eq_true rfl | decide) only [u_185_0, u_185_1, u_185_4, u_185_6, u_185_7, u_185_8, u_185_9, u_185_10, u_185_12, u_185_15, u_185_18, u_185_19, u_185_20, u_185_21, u_185_24, u_185_27, u_185_28, u_185_29, u_185_30, u_185_33, u_185_36, u_185_37, u_185_38, u_185_39, u_185_42, u_185_45, u_185_46, u_185_47, u_185_48, u_185_51, u_185_52, u_185_53, u_185_56, u_185_57, u_185_60, u_185_61, u_185_62, hh, bnd_some, psh_some, hw, m_in, if_pos h1, Int.reduceEq, not_false_eq_true, if_true, h19, if_pos c3, h6, r20, rv_some, upk, hv, wrI, n1]
  · rw [if_pos h1]
    obtain ⟨I1, g1, g2, g3, g4⟩ := m_fails (d := d) (I := I) (pl := (s.2.1 : Int)) (why := 1) hX
    refine ⟨I1, -9, ?_, (frA_H g3 g4).Z, rfl, g2⟩
    clear hb
    simp (disch := first | assumption | omega | exact Nat.le_of_ble_eq_true rfl | decide) only [u_185_0, u_185_1, u_185_4, u_185_6, u_185_7, u_185_8, u_185_9, u_185_10, u_185_12, u_185_15, u_185_18, u_185_19, u_185_20, u_185_21, u_185_24, u_185_27, u_185_28, u_185_29, u_185_30, u_185_33, u_185_36, u_185_37, u_185_38, u_185_39, u_185_42, u_185_45, u_185_46, u_185_47, u_185_48, u_185_51, u_185_52, u_185_53, u_185_56, u_185_57, u_185_60, u_185_61, u_185_62, hh, bnd_some, psh_some, hw, m_in, if_neg h1, not_true, if_false, h6, g1]
theorem mrf_loop (hX : MX sh R) (hq : q < 4) (ht : okT t) {D n dep : Nat} (hdep : dep < 20) {p : LSt → RRes} (hp : ∀ s, okD t s → rOK t n s (p s)) (hn : 1 ≤ n) (hn12 : n ≤ 12) (hcall : ∀ (I : IM) (s : LSt), okD t s → isM I 393 s.1 → mdI I t q s.2.1 s.2.2 → ∃ I' v, cl (D + 3) 186 [.inr (.inl 392), .inl ((dep + 1 : Nat) : Int)] (sh, I, R) = some (some (.inl v), (sh, I', R)) ∧ mRes I I' t q (p s) v) {i len bg : Nat} (hi : i < 30) (hlen : len ≤ 6) {kd : Int} {a3 : AV} : ∀ (k j : Nat) (I : IM) (s : LSt) (a7 a8 : AV), j + k = len → okD t s → isM I 393 s.1 → mdI I t q s.2.1 s.2.2 → (s.1.1 i).1 = kd → kd ≠ 0 → (s.1.1 i).2.2.1.length = len → ∃ I' v, ev S0 (D + 3) 186 174 [.inr (.inl 392), .inl (dep : Int), .inl (bg : Int), a3, .inl kd, .inl (i : Int), .inl (j : Int), a7, a8] [] (sh, I, R) = some (some (.inl v), (sh, I', R)) ∧ FrZ I I' ∧ (match rfR p i k j s with
    | .inl s' => v = (i : Int) ∧ isM I' 393 s'.1 ∧ mdI I' t q s'.2.1 s'.2.2 ∧ Fr3m I I'
    | .inr e => v = -9 ∧ mFlm I' (e.1 ++ [(8, (bg : Int))])) := by
  obtain ⟨t9, r9, tg_, lg⟩ := hX.1
  intro k
  induction k with
  | zero =>
    intro j I s a7 a8 hj hs hW h hk hk0 hl
    have n20 := ((hW.1 i hi).2 (by rw [hk]; exact hk0)).2.1.1
    rw [hl] at n20
    have hc : (len : Int) ≤ (j : Int) := by omega
    refine ⟨I, (i : Int), ?_, FrZ.rf, rfl, hW, h, Fr3m.rf⟩
    simp (disch := first | assumption | omega | exact Nat.le_of_ble_eq_true rfl | decide) only [u_186_174, u_186_176, u_186_177, u_186_180, u_186_182, u_186_184, u_186_185, u_186_186, u_186_273, u_186_275, r9, rv_some, wrI, n20, if_pos hc]
  | succ k ih =>
    intro j I s a7 a8 hj hs hW h hk hk0 hl
    have n20 := ((hW.1 i hi).2 (by rw [hk]; exact hk0)).2.1.1
    rw [hl] at n20
    have hc : ¬ (len : Int) ≤ (j : Int) := by omega
    have h6 := h.1
    have hd2 : wr ((dep + 1 : Nat) : Int) = ((dep + 1 : Nat) : Int) := wrI (by omega) (by omega)
    obtain ⟨I1, v, c1, c2, c3⟩ := hcall I s hs hW h
    have hok := hp s hs
    have hto : ∀ r : Option Res, ev S0 (D + 3) 186 204 [.inr (.inl 392), .inl (dep : Int), .inl (bg : Int), a3, .inl kd, .inl (i : Int), .inl (j : Int), .inl (s.2.1 : Int), .inl v] [] (sh, I1, R) = r → ev S0 (D + 3) 186 174 [.inr (.inl 392), .inl (dep : Int), .inl (bg : Int), a3, .inl kd, .inl (i : Int), .inl (j : Int), a7, a8] [] (sh, I, R) = r := by
      intro r hr'
      rw [u_186_174]
      simp (disch := first | assumption | omega | exact Nat.le_of_ble_eq_true rfl | decide) only [u_186_176, u_186_177, u_186_180, u_186_182, u_186_184, u_186_185, u_186_186, u_186_189, u_186_190, u_186_193, u_186_195, u_186_196, u_186_197, u_186_198, u_186_199, u_186_202, r9, rv_some, wrI, n20, hc, if_false, h6, n1, hd2, c1, bnd_some, psh_some]
      exact hr'
    unfold rfR
    cases hps : p s with
    | inr e =>
      rw [hps] at c3 hok
      obtain ⟨rfl, c6⟩ := c3
      obtain ⟨I2, b1, b2, b3, b4⟩ := m_passes (d := D + 2) (pl := (bg : Int)) hX c6 (by have := hok.2.2; omega)
      refine ⟨I2, -9, hto _ ?_, c2.tr (frA_H b3 b4).Z, rfl, b2⟩
      have hlt : (-9 : Int) < 0 := by decide
      simp (disch := first | assumption | omega | exact Nat.le_of_ble_eq_true rfl | decide) only [u_186_204, u_186_206, u_186_235, u_186_237, u_186_239, u_186_242, u_186_243, u_186_244, u_186_247, if_pos hlt, not_true, if_false, b1, bnd_some, psh_some]
    | inl x =>
      rw [hps] at c3 hok
      obtain ⟨rfl, c4, c5, c6⟩ := c3
      obtain ⟨o1, o2, o3⟩ := hok
      dsimp only
      have hsame : x.2.1.1 i = s.1.1 i := o2.2.2.1 i (by rw [hk]; exact hk0)
      have hkx : (x.2.1.1 i).1 = kd := by rw [hsame]; exact hk
      have hkx0 : (x.2.1.1 i).1 ≠ 0 := by rw [hkx]; exact hk0
      have hlx : (x.2.1.1 i).2.2.1.length = len := by rw [hsame]; exact hl
      have hvne : ¬ x.1 = -9 := by
        rcases o3 with z | z
        · omega
        · have := z.1; omega
      have hjl : j < (x.2.1.1 i).2.2.1.length := by omega
      have hstore : ¬ (¬ x.1 = -1 ∧ mayH (x.2.1.1 i).1 (x.2.1.1 i).2.1 (x.2.1.1 x.1.toNat).1 = 0) → (∀ r : Option Res, ev S0 (D + 3) 186 235 [.inr (.inl 392), .inl (dep : Int), .inl (bg : Int), a3, .inl kd, .inl (i : Int), .inl (j : Int), .inl (s.2.1 : Int), .inl x.1] [] (sh, I1, R) = r → ev S0 (D + 3) 186 204 [.inr (.inl 392), .inl (dep : Int), .inl (bg : Int), a3, .inl kd, .inl (i : Int), .inl (j : Int), .inl (s.2.1 : Int), .inl x.1] [] (sh, I1, R) = r) := by
        intro hm r hr'
        by_cases hx1 : x.1 = -1
        · have hlt : x.1 < 0 := by omega
          simp (disch := first | assumption | omega | exact Nat.le_of_ble_eq_true rfl | decide) only [u_186_204, u_186_206, if_pos hlt]
          exact hr'
        · have hlv := o3.resolve_left hx1
          obtain ⟨b, eb, hb, hbk⟩ := liv_nat hlv
          have hge : ¬ x.1 < 0 := by omega
          by_cases hk4 : kd = 4
          · have hho := fun dd => m_holds (d := dd) (I := I1) (sh := sh) (R := R) hX.1 hi hb
            have f1 := ((c4.1 i hi).2 hkx0).1
            have f2 := (c4.1 b hb).1
            have hr3 := (o1.1.1 i hi).2.2.2.2.2.2.2.2.2
            have hmay : mayH (x.2.1.1 i).1 (x.2.1.1 i).2.1 (x.2.1.1 b).1 = 1 := by
              refine (mayH_01 _ _ _).resolve_left (fun z => hm ⟨hx1, ?_⟩)
              rw [eb, Int.toNat_natCast]; exact z
            rw [hkx, hk4] at hmay
            simp only [f1, f2, holds_may ⟨hr3.1, hr3.2.1⟩, hmay] at hho
            simp only [← eb] at hho
            rw [hk4] at hr' ⊢
            simp (disch := first | assumption | omega | exact Nat.le_of_ble_eq_true rfl | decide) only [u_186_204, u_186_206, u_186_209, u_186_211, u_186_212, u_186_215, u_186_216, u_186_218, u_186_220, u_186_223, if_neg hge, not_true, if_false, hho, bnd_some, psh_some, Int.reduceEq, not_false_eq_true, if_true]
            exact hr'
          · simp (disch := first | assumption | omega | exact Nat.le_of_ble_eq_true rfl | decide) only [u_186_204, u_186_206, u_186_209, u_186_211, u_186_212, if_neg hge, hk4, not_false_eq_true, if_true]
            exact hr'
      by_cases hm : ¬ x.1 = -1 ∧ mayH (x.2.1.1 i).1 (x.2.1.1 i).2.1 (x.2.1.1 x.1.toNat).1 = 0
      · rw [if_pos hm]
        have hlv := o3.resolve_left hm.1
        obtain ⟨b, eb, hb, hbk⟩ := liv_nat hlv
        have hge : ¬ x.1 < 0 := by omega
        have hk4 : kd = 4 := Classical.byContradiction (fun z => by
          have := hm.2
          unfold mayH at this
          rw [if_pos (by rw [hkx]; exact z)] at this
          exact absurd this (by decide))
        have hho := fun dd => m_holds (d := dd) (I := I1) (sh := sh) (R := R) hX.1 hi hb
        have f1 := ((c4.1 i hi).2 hkx0).1
        have f2 := (c4.1 b hb).1
        have hr3 := (o1.1.1 i hi).2.2.2.2.2.2.2.2.2
        have hm2 := hm.2
        rw [eb, Int.toNat_natCast, hkx, hk4] at hm2
        simp only [f1, f2, holds_may ⟨hr3.1, hr3.2.1⟩, hm2] at hho
        simp only [← eb] at hho
        obtain ⟨I2, g1, g2, g3, g4⟩ := m_fails (d := D + 2) (I := I1) (pl := (s.2.1 : Int)) (why := 3) hX
        obtain ⟨I3, b1, b2, b3, b4⟩ := m_passes (d := D + 2) (pl := (bg : Int)) hX g2 (by simp)
        refine ⟨I3, -9, hto _ ?_, (c2.tr (frA_H g3 g4).Z).tr (frA_H b3 b4).Z, rfl, b2⟩
        rw [hk4]
        simp (disch := first | assumption | omega | exact Nat.le_of_ble_eq_true rfl | decide) only [u_186_204, u_186_206, u_186_209, u_186_211, u_186_212, u_186_215, u_186_216, u_186_218, u_186_220, u_186_223, u_186_226, u_186_227, u_186_228, u_186_230, u_186_233, u_186_235, u_186_237, u_186_239, u_186_242, u_186_243, u_186_244, u_186_247, if_neg hge, not_true, if_false, hho, bnd_some, psh_some, g1, b1]
      · rw [if_neg hm]
        have hW2 := isM_setR (r := x.1) c4 o1.1 hi hkx0 hjl
        have hfr2 : Fr3 I1 (up I1 393 (480 + 6 * (i : Int) + (j : Int)) x.1) := fun k hk => upf hk
        have hs2 : okD t (setN x.2.1 i (setR (x.2.1.1 i) ((x.2.1.1 i).2.2.1.set j x.1)), x.2.2) := ⟨okW_ref o1.1 hi hkx0 o3, zW_ref o1.2.1 hkx0, o1.2.2.1, ⟨o1.2.2.2.1, fun y hy => by
          obtain ⟨b, rfl, hb, hbk⟩ := liv_nat (o1.2.2.2.2 y hy)
          refine liv_of hb ?_
          by_cases hbi : b = i
          · subst hbi; rw [setN_at]; exact hbk
          · simp only [setN, if_neg hbi]; exact hbk⟩⟩
        obtain ⟨I3, v3, e1, e3, e4⟩ := ih (j + 1) (up I1 393 (480 + 6 * (i : Int) + (j : Int)) x.1) _ (.inl (s.2.1 : Int)) (.inl x.1) (by omega) hs2 hW2 (c5.g hfr2) (by rw [setN_at]; exact hkx) hk0 (by rw [setN_at]; simp only [setR, List.length_set]; exact hlx)
        refine ⟨I3, v3, hto _ (hstore hm _ ?_), (c2.tr hfr2.Z).tr e3, ?_⟩
        · simp (disch := first | assumption | omega | exact Nat.le_of_ble_eq_true rfl | decide) only [u_186_235, u_186_237, u_186_239, u_186_248, u_186_249, u_186_252, u_186_255, u_186_257, u_186_259, u_186_260, u_186_261, u_186_263, u_186_264, u_186_266, u_186_267, u_186_270, hvne, not_false_eq_true, if_true, r9, rv_some, wrI, n1, e1]
        · cases hrr : rfR p i k (j + 1) (setN x.2.1 i (setR (x.2.1.1 i) ((x.2.1.1 i).2.2.1.set j x.1)), x.2.2) with
          | inl s' =>
            rw [hrr] at e4
            exact ⟨e4.1, e4.2.1, e4.2.2.1, (c6.tr hfr2.m).tr e4.2.2.2⟩
          | inr e =>
            rw [hrr] at e4
            exact e4
end MLW
