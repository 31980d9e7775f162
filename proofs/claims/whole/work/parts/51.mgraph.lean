/-! THE MODEL: graph -/
theorem nwl_next {w : WD} {n j : Nat} {i : Int} (hj : j < n) (h : (nwl w n)[j]? = some i) : nwl w (j + 1) = nwl w j ++ [i] ∧ freeW (mark w (nwl w j)) = i := by
  have e : nwl w (j + 1) = nwl w j ++ [freeW (mark w (nwl w j))] := rfl
  have e2 := nwl_take w (j + 1) n (by omega)
  have e3 : (nwl w (j + 1))[j]? = some i := by
    rw [← e2, List.getElem?_take, if_pos (by omega)]; exact h
  rw [e, List.getElem?_append_right (by rw [nwl_len]; exact Nat.le_refl _), nwl_len, Nat.sub_self] at e3
  have e4 : freeW (mark w (nwl w j)) = i := Option.some.inj e3
  exact ⟨by rw [e, e4], e4⟩
theorem gr_free {w : WD} {m : List Int} (hg : gOK w m (nwl w m.length)) (hn : m.length ≤ cntK w 0) {g : Nat → ND → ND} (hk : ∀ k x, (g k x).1 = x.1) {j : Nat} (hj : j ≤ m.length) : freeW (putG w m (nwl w j) g) = freeW (mark w (nwl w j)) := by
  refine freeW_congr (fun b hb => ?_)
  by_cases hm1 : (b : Int) ∈ nwl w j
  · obtain ⟨k2, hk2, e6⟩ := List.mem_iff_getElem.mp hm1
    rw [putG_new (k := k2) (nwl_ok w j (by omega)).1 (by rw [List.getElem?_eq_getElem hk2, e6])]
    rw [nwl_len] at hk2
    obtain ⟨ob2, i2, b1, b2, b3, b4, -⟩ := hg.at (k := k2) (by omega)
    rw [b2, Int.toNat_natCast, hk]
    simp only [mark, if_pos hm1]
    exact ⟨fun q => absurd q b4, fun q => absurd q (by decide)⟩
  · rw [putG_old hm1]
    simp only [mark, if_neg hm1]
section M7
variable {sh : Shp} {R : RM} {I : IM} {d a : Nat} {s : ST} {w : WD} {m nw : List Int}
theorem mFl.frL {o i : Nat} {I I' : IM} {L : FL} (h : mFl I 393 o L) (hL : L.length ≤ 6) (ho : o < 30) (hi : i < 30) (hoi : o ≠ i) (hf : FrL i I I') : mFl I' 393 o L := ⟨by rw [hf.2 _ (by unfold fSlot; omega)]; exact h.1, fun j p hp => by have := lenOf hp; rw [hf.2 _ (by unfold fSlot; omega), hf.2 _ (by unfold fSlot; omega)]; exact h.2 j p hp⟩
theorem gadds_loop (hX : MX sh R) {o i : Nat} (ho : o < 30) (hi : i < 30) (hoi : o ≠ i) {L : FL} (hL : L.length ≤ 6) {a1 a2 : AV} : ∀ (k j : Nat) (I : IM), j + k = L.length → mFl I 393 o L → mFl I 393 i (L.take j) → ∃ I', ev S0 (d + 1) 167 88 [.inr (.inl 392), a1, a2, .inl (o : Int), .inl (i : Int), .inl (j : Int)] [] (sh, I, R) = ev S0 (d + 1) 167 145 [.inr (.inl 392), a1, a2, .inl (o : Int), .inl (i : Int), .inl (L.length : Int)] [] (sh, I', R) ∧ mFl I' 393 i L ∧ FrL i I I' := by
  obtain ⟨t9, r9, tg_, lg⟩ := hX.1
  intro k
  induction k with
  | zero =>
    intro j I hj h1 h2
    obtain rfl : j = L.length := by omega
    have h10 := h1.1
    have hc : (L.length : Int) ≤ (L.length : Int) := by omega
    rw [List.take_length] at h2
    refine ⟨I, ?_, h2, FrL.rf⟩
    simp (disch := first | assumption | omega | exact Nat.le_of_ble_eq_true rfl | decide) only [u_167_88, u_167_90, u_167_91, u_167_94, u_167_96, u_167_97, u_167_98, u_167_99, r9, rv_some, wrI, h10, if_pos hc]
  | succ k ih =>
    intro j I hj h1 h2
    have hjl : j < L.length := by omega
    have h10 := h1.1
    have hc : ¬ (L.length : Int) ≤ (j : Int) := by omega
    obtain ⟨v1, v2⟩ := h1.at hjl
    obtain ⟨I1, f1, f2, f3⟩ := m_adds (d := d) (n := L[j].1) (v := L[j].2) hX.1 hi h2 (by rw [List.length_take]; omega)
    have e : L.take j ++ [(L[j].1, L[j].2)] = L.take (j + 1) := by rw [List.take_succ_eq_append_getElem hjl]
    rw [e] at f2
    obtain ⟨I', g1, g2, g3⟩ := ih (j + 1) I1 (by omega) (h1.frL hL ho hi hoi f3) f2
    refine ⟨I', ?_, g2, f3.tr g3⟩
    rw [u_167_88]
    simp (disch := first | assumption | omega | exact Nat.le_of_ble_eq_true rfl | decide) only [u_167_90, u_167_91, u_167_94, u_167_96, u_167_97, u_167_98, u_167_99, u_167_102, u_167_103, u_167_105, u_167_106, u_167_109, u_167_111, u_167_113, u_167_114, u_167_115, u_167_116, u_167_118, u_167_119, u_167_120, u_167_121, u_167_124, u_167_127, u_167_129, u_167_130, u_167_131, u_167_132, u_167_134, u_167_135, u_167_136, u_167_139, u_167_142, r9, rv_some, wrI, h10, hc, if_false, v1, v2, f1, bnd_some, psh_none, n1, g1]
theorem mg_loop1 (hX : MX sh R) (hg : gOK w m (nwl w m.length)) (hn : m.length ≤ cntK w 0) {a1 : AV} : ∀ (k j : Nat) (I : IM) (a3 a4 a5 : AV), j + k = m.length → isM I 393 (putG w m (nwl w j) (fun _ x => blnk x)) → isMm I m → (∀ (i : Nat) (v : Int), (nwl w j)[i]? = some v → I 401 (i : Int) = v) → ∃ I' a3' a4' a5', ev S0 (d + 2) 167 38 [.inr (.inl 392), a1, .inl (j : Int), a3, a4, a5] [] (sh, I, R) = ev S0 (d + 2) 167 159 [.inr (.inl 392), a1, .inl (m.length : Int), a3', a4', a5'] [] (sh, I', R) ∧ isM I' 393 (putG w m (nwl w m.length) (fun _ x => blnk x)) ∧ (∀ (i : Nat) (v : Int), (nwl w m.length)[i]? = some v → I' 401 (i : Int) = v) ∧ ∀ k, k ≠ 393 → k ≠ 401 → I' k = I k := by
  obtain ⟨t9, r9, tg_, lg⟩ := hX.1
  obtain ⟨r7, t7, l7⟩ := hX.g 7 399 30 (by decide)
  obtain ⟨rn, tn, ln_⟩ := hX.g 9 401 30 (by decide)
  have h30 := okm_len hg.2.1
  intro k
  induction k with
  | zero =>
    intro j I a3 a4 a5 hj hW hm hcp
    obtain rfl : j = m.length := by omega
    have hc : (m.length : Int) ≤ (m.length : Int) := by omega
    have hm0 := hm.1
    refine ⟨I, a3, a4, a5, ?_, hW, hcp, fun _ _ _ => rfl⟩
    simp (disch := first | assumption | omega | exact Nat.le_of_ble_eq_true rfl | decide) only [u_167_38, u_167_39, u_167_40, u_167_43, hm0, if_pos hc]
  | succ k ih =>
    intro j I a3 a4 a5 hj hW hm hcp
    have hjl : j < m.length := by omega
    have hc : ¬ (m.length : Int) ≤ (j : Int) := by omega
    have hm0 := hm.1
    obtain ⟨o, i, b1, b2, b3, b4, b5, b6, b7, b8⟩ := hg.at hjl
    have hpre : nwl w j <+: nwl w m.length := by
      rw [← nwl_take w j m.length (by omega)]; exact List.take_prefix _ _
    obtain ⟨hpre1, hfr⟩ := nwl_next hjl b5
    have hnd := (nwl_ok w (j + 1) (by omega)).1
    rw [hpre1, List.nodup_append] at hnd
    have hni : (i : Int) ∉ nwl w j := fun q => hnd.2.2 _ q _ List.mem_cons_self rfl
    have hokw := okW_putG hg hpre (g := fun _ x => blnk x) (fun k x => Or.inr (Or.inl rfl))
    have hold : (putG w m (nwl w j) (fun _ x => blnk x)).1 o = w.1 o := putG_old (fun q => hg.old b4 (hpre.subset q))
    have hfree : freeW (putG w m (nwl w j) (fun _ x => blnk x)) = (i : Int) := by
      rw [gr_free hg hn (g := fun _ x => blnk x) (j := j) (fun k x => rfl) (by omega), hfr]
    have hoi : o ≠ i := fun q => by subst q; exact b4 b8
    have hok := hg.1.1 o b3
    have h6 := hok.2.2.2.2.2.2.2.1
    have h6' := hok.2.2.2.2.2.2.2.2.1
    have hN := hW.1 o b3
    rw [hold] at hN
    obtain ⟨n1_, n2, n3⟩ := hN.2 b4
    have n0 := hN.1
    have n20 := n2.1
    obtain ⟨I1, f1, f2, f3⟩ := m_makes (d := d) (kd := (w.1 o).1) (hd := (w.1 o).2.1) (len := (w.1 o).2.2.1.length) hX.1 hW hokw h6 hfree
    have hni2 := f2.1 i b7
    rw [setN_at] at hni2
    obtain ⟨e1, e2, e3⟩ := hni2.2 b4
    have n3' : mFl I1 393 o (w.1 o).2.2.2 := ⟨by rw [f3.2 _ (by unfold nSlot; omega)]; exact n3.1, fun x y hy => by have := lenOf hy; rw [f3.2 _ (by unfold nSlot; omega), f3.2 _ (by unfold nSlot; omega)]; exact n3.2 x y hy⟩
    obtain ⟨I2, g1, g2, g3⟩ := gadds_loop (d := d + 1) (a1 := a1) (a2 := .inl (j : Int)) hX b3 b7 hoi h6' (w.1 o).2.2.2.length 0 I1 (by omega) n3' e3
    have hW2 : isM I2 393 (setN (putG w m (nwl w j) (fun _ x => blnk x)) i (blnk (w.1 o))) := by
      refine isM_setN hW hokw b7 ⟨?_, fun _ => ⟨?_, ⟨?_, fun x y hy => ?_⟩, g2⟩⟩ (fun z hz => by rw [g3.O.2 z hz, f3.2 z hz])
      · rw [g3.2 _ (by unfold fSlot; omega)]; exact hni2.1
      · rw [g3.2 _ (by unfold fSlot; omega)]; exact e1
      · rw [g3.2 _ (by unfold fSlot; omega)]; exact e2.1
      · have := lenOf hy
        have : x < (List.replicate (w.1 o).2.2.1.length (-1 : Int)).length := this
        rw [List.length_replicate] at this
        rw [g3.2 _ (by unfold fSlot; omega)]; exact e2.2 x y hy
    have hstep : setN (putG w m (nwl w j) (fun _ x => blnk x)) i (blnk (w.1 o)) = putG w m (nwl w (j + 1)) (fun _ x => blnk x) := by
      have := putG_step (w := w) (m := m) (l := nwl w j) (g := fun _ x => blnk x) hni
      rw [nwl_len, b2, Int.toNat_natCast] at this
      rw [hpre1]
      exact this
    rw [hstep] at hW2
    have hfr2 : ∀ k, k ≠ 393 → I2 k = I k := fun k hk => by rw [g3.1 k hk, f3.1 k hk]
    obtain ⟨I', a3', a4', a5', p1, p2, p3, p4⟩ := ih (j + 1) (up I2 401 (j : Int) (i : Int)) (.inl (o : Int)) (.inl (i : Int)) (.inl ((w.1 o).2.2.2.length : Int)) (by omega) (hW2.cong (upf (by decide))) (hm.cong (by rw [upf (by decide), hfr2 _ (by decide)]) (by rw [upf (by decide), hfr2 _ (by decide)]) (by rw [upf (by decide), hfr2 _ (by decide)])) (fun i' v hv => by
      rw [hpre1] at hv
      by_cases hij : i' = j
      · subst hij
        rw [List.getElem?_append_right (by rw [nwl_len]; exact Nat.le_refl _), nwl_len, Nat.sub_self] at hv
        cases hv
        exact ups
      · have := lenOf hv
        rw [List.length_append, nwl_len] at this
        simp only [List.length_cons, List.length_nil] at this
        rw [List.getElem?_append_left (by rw [nwl_len]; omega)] at hv
        rw [upj (by omega), hfr2 _ (by decide)]
        exact hcp i' v hv)
    refine ⟨I', a3', a4', a5', ?_, p2, p3, fun k hk hk2 => by rw [p4 k hk hk2, upf hk2, hfr2 k hk]⟩
    have hord := hm.2.2 j _ b1
    have g1 : ev S0 (d + 2) 167 88 [.inr (.inl 392), a1, .inl (j : Int), .inl (o : Int), .inl (i : Int), .inl 0] [] (sh, I1, R) = ev S0 (d + 2) 167 145 [.inr (.inl 392), a1, .inl (j : Int), .inl (o : Int), .inl (i : Int), .inl ((w.1 o).2.2.2.length : Int)] [] (sh, I2, R) := g1
    rw [u_167_38]
    simp (disch := first | assumption | omega | exact Nat.le_of_ble_eq_true rfl | decide) only [u_167_39, u_167_40, u_167_43, u_167_46, u_167_47, u_167_50, u_167_51, u_167_52, u_167_53, u_167_54, u_167_55, u_167_58, u_167_59, u_167_60, u_167_61, u_167_62, u_167_63, u_167_66, u_167_68, u_167_69, u_167_70, u_167_71, u_167_72, u_167_75, u_167_77, u_167_78, u_167_79, u_167_80, u_167_83, u_167_85, u_167_86, r9, r7, rv_some, hm0, hc, if_false, hord, wrI, Int.zero_add, n0, n1_, n20, f1, bnd_some, psh_some]
    rw [g1]
    simp (disch := first | assumption | omega | exact Nat.le_of_ble_eq_true rfl | decide) only [u_167_145, u_167_146, u_167_149, u_167_150, u_167_152, u_167_153, u_167_156, rn, rv_some, wrI, n1, p1]
/-- the references of one -/
theorem mg_in (hX : MX sh R) (hok : okm w m) (hlen : nw.length = m.length) {o c q : Nat} (ho : o < 30) (hc30 : c < 30) (hoc : o ≠ c) (hq : m[q]? = some (o : Int)) (hqc : nw[q]? = some (c : Int)) {rs : List Int} (h6 : rs.length ≤ 6) (hrs : ∀ r ∈ rs, r = -1 ∨ r ∈ m) {a1 a5 : AV} : ∀ (k j : Nat) (I : IM) (a4 : AV), j + k = rs.length → mRf I 393 o rs → isMm I m → (∀ (i : Nat) (v : Int), nw[i]? = some v → I 401 (i : Int) = v) → (∀ (x : Nat) (y : Int), x < j → rs[x]? = some y → I 393 (480 + 6 * (c : Int) + (x : Int)) = rmF m nw y) → ∃ I' a4', ev S0 (d + 1) 167 171 [.inr (.inl 392), a1, .inl (q : Int), .inl (j : Int), a4, a5] [] (sh, I, R) = ev S0 (d + 1) 167 249 [.inr (.inl 392), a1, .inl (q : Int), .inl (rs.length : Int), a4', a5] [] (sh, I', R) ∧ (∀ (x : Nat) (y : Int), rs[x]? = some y → I' 393 (480 + 6 * (c : Int) + (x : Int)) = rmF m nw y) ∧ (∀ k, k ≠ 393 → I' k = I k) ∧ ∀ z, ¬ (480 + 6 * (c : Int) ≤ z ∧ z < 486 + 6 * (c : Int)) → I' 393 z = I 393 z := by
  obtain ⟨t9, r9, tg_, lg⟩ := hX.1
  obtain ⟨r7, t7, l7⟩ := hX.g 7 399 30 (by decide)
  obtain ⟨r8, t8, l8⟩ := hX.g 8 400 30 (by decide)
  obtain ⟨rn, tn, ln_⟩ := hX.g 9 401 30 (by decide)
  have h30 := okm_len hok
  have hq30 := lenOf hq
  intro k
  induction k with
  | zero =>
    intro j I a4 hj h1 hm hcp hd
    obtain rfl : j = rs.length := by omega
    have hc : (rs.length : Int) ≤ (rs.length : Int) := by omega
    have hord := hm.2.2 q _ hq
    have h10 := h1.1
    refine ⟨I, a4, ?_, fun x y hy => hd x y (lenOf hy) hy, fun _ _ => rfl, fun _ _ => rfl⟩
    simp (disch := first | assumption | omega | exact Nat.le_of_ble_eq_true rfl | decide) only [u_167_171, u_167_172, u_167_173, u_167_176, u_167_178, u_167_179, u_167_182, u_167_183, u_167_184, u_167_185, u_167_186, r9, r7, rv_some, hord, wrI, h10, if_pos hc]
  | succ k ih =>
    intro j I a4 hj h1 hm hcp hd
    have hjl : j < rs.length := by omega
    have hc : ¬ (rs.length : Int) ≤ (j : Int) := by omega
    have hord := hm.2.2 q _ hq
    have hnew := hcp q _ hqc
    have h10 := h1.1
    have hro := m_refOf (I := I) (d := d) (i := j) hX.1 ho (by omega)
    rw [h1.at hjl] at hro
    obtain ⟨I', a4', e1, e2, e3, e4⟩ := ih (j + 1) (up I 393 (480 + 6 * (c : Int) + (j : Int)) (rmF m nw rs[j])) (.inl rs[j]) (by omega) ⟨by rw [upj (by omega)]; exact h1.1, fun x y hy => by have := lenOf hy; rw [upj (by omega)]; exact h1.2 x y hy⟩ (hm.cong (by rw [upf (by decide)]) (upf (by decide)) (upf (by decide))) (fun i v hv => by rw [upf (by decide)]; exact hcp i v hv) (fun x y hx hy => by
      by_cases hxj : x = j
      · subst hxj
        rw [List.getElem?_eq_getElem hjl] at hy
        cases hy
        exact ups
      · rw [upj (by omega)]; exact hd x y (by omega) hy)
    refine ⟨I', a4', ?_, e2, fun k hk => by rw [e3 k hk, upf hk], fun z hz => by rw [e4 z hz, upj (by omega)]⟩
    rw [u_167_171]
    rcases hrs _ (List.getElem_mem hjl) with z | z
    · have hlt : ¬ (0 : Int) ≤ rs[j] := by omega
      have hrm : rmF m nw rs[j] = -1 := by unfold rmF; rw [if_pos z]
      rw [hrm] at e1
      simp (disch := first | assumption | omega | exact Nat.le_of_ble_eq_true rfl | decide) only [u_167_172, u_167_173, u_167_176, u_167_178, u_167_179, u_167_182, u_167_183, u_167_184, u_167_185, u_167_186, u_167_189, u_167_190, u_167_191, u_167_194, u_167_195, u_167_196, u_167_197, u_167_200, u_167_202, u_167_203, u_167_206, u_167_209, u_167_211, u_167_212, u_167_215, u_167_216, u_167_217, u_167_218, u_167_219, u_167_220, u_167_221, u_167_223, u_167_226, u_167_227, u_167_230, u_167_231, u_167_234, u_167_235, u_167_238, u_167_240, u_167_241, u_167_242, u_167_243, u_167_246, r9, r7, rn, rv_some, hord, hnew, wrI, h10, hc, if_false, hro, bnd_some, psh_some, hlt, n1, e1]
    · obtain ⟨b, hb, hb30, hbk⟩ := liv_nat (hok.2 _ z)
      rcases idm_spec m rs[j] with ⟨-, q2⟩ | ⟨i, q1, q2, q3, q4⟩
      · exact absurd z q2
      have hge : (0 : Int) ≤ rs[j] := by omega
      have hne : ¬ rs[j] = -1 := by omega
      have hin : i < nw.length := by omega
      have hrm : rmF m nw rs[j] = nw[i] := by
        unfold rmF
        rw [if_neg hne, q1, Int.toNat_natCast, getD_at hin]
      rw [hrm] at e1
      have hid : I 400 rs[j] = (i : Int) := by
        have := hm.2.1 b hb30
        rw [hb, this, ← hb, q1]
      have hcv := hcp i _ (List.getElem?_eq_getElem hin)
      simp (disch := first | assumption | omega | exact Nat.le_of_ble_eq_true rfl | decide) only [u_167_172, u_167_173, u_167_176, u_167_178, u_167_179, u_167_182, u_167_183, u_167_184, u_167_185, u_167_186, u_167_189, u_167_190, u_167_191, u_167_194, u_167_195, u_167_196, u_167_197, u_167_200, u_167_202, u_167_203, u_167_206, u_167_209, u_167_211, u_167_212, u_167_215, u_167_216, u_167_217, u_167_218, u_167_219, u_167_220, u_167_221, u_167_223, u_167_226, u_167_227, u_167_230, u_167_231, u_167_234, u_167_235, u_167_238, u_167_240, u_167_241, u_167_242, u_167_243, u_167_246, r9, r7, r8, rn, rv_some, hord, hnew, wrI, h10, hc, if_false, hro, bnd_some, psh_some, if_pos hge, hid, hcv, n1, e1]
theorem mg_loop2 (hX : MX sh R) (hg : gOK w m nw) {a1 : AV} : ∀ (k j : Nat) (I : IM) (a3 a4 a5 : AV), j + k = m.length → isM I 393 (putG w m nw (mixG m nw blnk j)) → isMm I m → (∀ (i : Nat) (v : Int), nw[i]? = some v → I 401 (i : Int) = v) → ∃ I' a3' a4' a5', ev S0 (d + 2) 167 161 [.inr (.inl 392), a1, .inl (j : Int), a3, a4, a5] [] (sh, I, R) = ev S0 (d + 2) 167 255 [.inr (.inl 392), a1, .inl (m.length : Int), a3', a4', a5'] [] (sh, I', R) ∧ isM I' 393 (putG w m nw (mixG m nw blnk m.length)) ∧ ∀ k, k ≠ 393 → I' k = I k := by
  have h30 := okm_len hg.2.1
  have t9 := hX.1.1
  intro k
  induction k with
  | zero =>
    intro j I a3 a4 a5 hj hW hm hcp
    obtain rfl : j = m.length := by omega
    have hc : (m.length : Int) ≤ (m.length : Int) := by omega
    have hm0 := hm.1
    refine ⟨I, a3, a4, a5, ?_, hW, fun _ _ => rfl⟩
    simp (disch := first | assumption | omega | exact Nat.le_of_ble_eq_true rfl | decide) only [u_167_161, u_167_162, u_167_163, u_167_166, hm0, if_pos hc]
  | succ k ih =>
    intro j I a3 a4 a5 hj hW hm hcp
    have hjl : j < m.length := by omega
    have hc : ¬ (m.length : Int) ≤ (j : Int) := by omega
    have hm0 := hm.1
    obtain ⟨o, i, b1, b2, b3, b4, b5, b6, b7, b8⟩ := hg.at hjl
    have hoi : o ≠ i := fun q => by subst q; exact b4 b8
    have hokw := okW_putG hg (List.prefix_refl nw) (g := mixG m nw blnk j) (fun k x => by
      unfold mixG
      by_cases hk : k < j
      · rw [if_pos hk]; exact Or.inr (Or.inr ⟨rfl, rfl⟩)
      · rw [if_neg hk]; exact Or.inr (Or.inl rfl))
    have hold : (putG w m nw (mixG m nw blnk j)).1 o = w.1 o := putG_old (fun q => hg.old b4 q)
    have hnode : (putG w m nw (mixG m nw blnk j)).1 i = blnk (w.1 o) := by
      rw [putG_new hg.2.2.2.1 b5, b2, Int.toNat_natCast]
      simp only [mixG]
      rw [if_neg (by omega)]
    have hok := hg.1.1 o b3
    have h6 := hok.2.2.2.2.2.2.2.1
    have hN := hW.1 o b3
    rw [hold] at hN
    obtain ⟨n1_, n2, n3⟩ := hN.2 b4
    have hNi := hW.1 i b7
    rw [hnode] at hNi
    obtain ⟨y1, y2, y3⟩ := hNi.2 b4
    obtain ⟨I1, a4', f1, f2, f3, f4⟩ := mg_in (d := d + 1) (a1 := a1) (a5 := a5) hX hg.2.1 hg.2.2.1 b3 b7 hoi b1 b5 h6 (fun r hr => hg.2.2.2.2.2 (o : Int) (List.mem_of_getElem? b1) r (by rw [Int.toNat_natCast]; exact hr)) (w.1 o).2.2.1.length 0 I a4 (by omega) n2 hm hcp (fun x y hx => by omega)
    have hW1 : isM I1 393 (setN (putG w m nw (mixG m nw blnk j)) i (remap m nw (w.1 o))) := by
      refine isM_setN hW hokw b7 ⟨?_, fun _ => ⟨?_, ⟨?_, fun x y hy => ?_⟩, ⟨?_, fun x y hy => ?_⟩⟩⟩ (fun z hz => by unfold nSlot at hz; rw [f4 z (by omega)])
      · rw [f4 _ (by omega)]; exact hNi.1
      · rw [f4 _ (by omega)]; exact y1
      · rw [f4 _ (by omega), y2.1]
        show ((List.replicate (w.1 o).2.2.1.length (-1 : Int)).length : Int) = ((List.map _ (w.1 o).2.2.1).length : Int)
        rw [List.length_replicate, List.length_map]
      · have hy : ((w.1 o).2.2.1.map (rmF m nw))[x]? = some y := hy
        rw [List.getElem?_map] at hy
        cases hx : (w.1 o).2.2.1[x]? with
        | none => rw [hx] at hy; cases hy
        | some v =>
          rw [hx] at hy
          cases hy
          exact f2 x v hx
      · rw [f4 _ (by omega)]; exact y3.1
      · have := lenOf hy
        have h7 := hok.2.2.2.2.2.2.2.2.1
        have : x < (w.1 o).2.2.2.length := this
        rw [f4 _ (by omega), f4 _ (by omega)]; exact y3.2 x y hy
    have hst := putG_mix hg (g := blnk) b5
    rw [b2, Int.toNat_natCast] at hst
    rw [hst] at hW1
    obtain ⟨I', a3', a4'', a5', e1, e2, e3⟩ := ih (j + 1) I1 (.inl ((w.1 o).2.2.1.length : Int)) a4' a5 (by omega) hW1 (hm.cong (by rw [f3 _ (by decide)]) (f3 _ (by decide)) (f3 _ (by decide))) (fun i' v hv => by rw [f3 _ (by decide)]; exact hcp i' v hv)
    refine ⟨I', a3', a4'', a5', ?_, e2, fun k hk => by rw [e3 k hk, f3 k hk]⟩
    have f1 : ev S0 (d + 2) 167 171 [.inr (.inl 392), a1, .inl (j : Int), .inl 0, a4, a5] [] (sh, I, R) = ev S0 (d + 2) 167 249 [.inr (.inl 392), a1, .inl (j : Int), .inl ((w.1 o).2.2.1.length : Int), a4', a5] [] (sh, I1, R) := f1
    rw [u_167_161]
    simp (disch := first | assumption | omega | exact Nat.le_of_ble_eq_true rfl | decide) only [u_167_162, u_167_163, u_167_166, u_167_169, u_167_170, hm0, hc, if_false]
    rw [f1]
    simp (disch := first | assumption | omega | exact Nat.le_of_ble_eq_true rfl | decide) only [u_167_249, u_167_252, wrI, n1, e1]
theorem mR.wr2 {I' : IM} (h : mR I s) (hw : isM I' 393 w) (hf : ∀ k, k ≠ 392 → k ≠ 393 → ¬ mscr k → I' k = I k) (h3 : I' 392 3 = I 392 3) (h15 : I' 392 15 = I 392 15) : mR I' (stW s w) := by
  obtain ⟨a1, a2, a3, a4, a5, a6⟩ := h
  refine ⟨hw, by rw [h3]; exact a2, fun q => isMc.cong (a3 q) (hf _ (by decide) (by decide) (by unfold mscr; omega)), fun q hq => (a4 q hq).cong (hf _ (by decide) (by decide) (by unfold mscr; omega)) (hf _ (by decide) (by decide) (by unfold mscr; omega)), fun q hq => by rw [hf _ (by decide) (by decide) (by unfold mscr; omega)]; exact a5 q hq, a6.cong h15 (hf _ (by decide) (by decide) (by unfold mscr; omega)) (hf _ (by decide) (by decide) (by unfold mscr; omega))⟩
theorem MM_graph {o : Int} (hX : MX sh R) (hm : mR I s) (hs : okS s) : ME sh R I (d + 34) 167 [.inl o] (b_graph s o) := by
  obtain ⟨t9, r9, tg_, lg⟩ := hX.1
  obtain ⟨rn, tn, ln_⟩ := hX.g 9 401 30 (by decide)
  unfold b_graph
  by_cases hl : liv s.1 o
  · rw [if_neg (Classical.not_not.mpr hl)]
    obtain ⟨I0, h1, h2, h3⟩ := m_none (I := I) (d := d + 32) hX
    have W0 : isM I0 393 s.1 := hm.1.cong (h3.1 _ (by decide) (by decide) (by decide) (by decide))
    obtain ⟨I1, g1, g2, g3⟩ := m_all (d := d) hX hs.1 31 I0 ([], []) o W0 h2 (okm_nil _) (by simp) hl rfl
    have g2 : isMm I1 (thr s.1 o).1 := g2
    have hm1 := (hm.frT h3).frT g3
    have hmem := (thr_grow hs.1 (Or.inr hl)).2
    have hoo : ¬ o = -1 := by have := hl.1; omega
    have hpos : 0 < (thr s.1 o).1.length := List.length_pos_of_mem (hmem.resolve_left hoo)
    have hc30 := cntK_le s.1 0
    have h30 := okm_len (thr_grow hs.1 (Or.inr hl)).1.1
    have g20 := g2.1
    have hmany := manyW_eq s.1
    by_cases hn : cntK s.1 0 < (thr s.1 o).1.length
    · rw [if_pos hn]
      have hn2 : ¬ ((manyW s.1 : Nat) : Int) + ((thr s.1 o).1.length : Int) ≤ 30 := by omega
      refine ⟨I1, ?_, hm1, fun k hk => by rw [g3.1 k (by omega) (by omega) (by omega) (by omega), h3.1 k (by omega) (by omega) (by omega) (by omega)]⟩
      rw [c_167]
      simp (disch := first | assumption | omega | exact Nat.le_of_ble_eq_true rfl | decide) only [u_167_0, u_167_1, u_167_2, u_167_5, u_167_8, u_167_9, u_167_10, u_167_11, u_167_14, u_167_15, u_167_16, u_167_19, u_167_20, u_167_23, u_167_24, u_167_27, u_167_28, u_167_30, u_167_33, u_167_35, m_isObject hX.1 hm.1, if_pos hl, bnd_some, psh_some, psh_none, Int.reduceEq, not_false_eq_true, if_true, h1, g1, g20, m_many hX.1 hm1.1, wrI, hn2, if_false]
    · rw [if_neg hn]
      have hn2 : ((manyW s.1 : Nat) : Int) + ((thr s.1 o).1.length : Int) ≤ 30 := by omega
      have hg := gOK_thr hs.1 hl (by omega)
      obtain ⟨I2, a3, a4, a5, e1, e2, e3, e4⟩ := mg_loop1 (d := d + 31) (a1 := .inl o) hX hg (by omega) (thr s.1 o).1.length 0 I1 (.inr (.inr 1)) (.inr (.inr 1)) (.inr (.inr 1)) (by omega) (by show isM I1 393 (putG _ _ [] _); rw [putG_nil]; exact hm1.1) g2 (fun i v hv => by cases hv)
      have g2' : isMm I2 (thr s.1 o).1 := g2.cong (by rw [e4 _ (by decide) (by decide)]) (e4 _ (by decide) (by decide)) (e4 _ (by decide) (by decide))
      obtain ⟨I3, b3, b4, b5, f1, f2, f3⟩ := mg_loop2 (d := d + 31) (a1 := .inl o) hX hg (thr s.1 o).1.length 0 I2 a3 a4 a5 (by omega) (by rw [mixG_zero]; exact e2) g2' e3
      rw [mixG_all hg] at f2
      refine ⟨I3, ?_, hm1.wr2 f2 (fun k hk hk2 hs => by rw [f3 k hk2, e4 k hk2 (fun q => hs (by unfold mscr; omega))]) (by rw [f3 _ (by decide), e4 _ (by decide) (by decide)]) (by rw [f3 _ (by decide), e4 _ (by decide) (by decide)]), fun k hk => by rw [f3 k (by omega), e4 k (by omega) (by omega), g3.1 k (by omega) (by omega) (by omega) (by omega), h3.1 k (by omega) (by omega) (by omega) (by omega)]⟩
      have e1 : ev S0 (d + 33) 167 38 [.inr (.inl 392), .inl o, .inl 0, .inr (.inr 1), .inr (.inr 1), .inr (.inr 1)] [] (sh, I1, R) = ev S0 (d + 33) 167 159 [.inr (.inl 392), .inl o, .inl ((thr s.1 o).1.length : Int), a3, a4, a5] [] (sh, I2, R) := e1
      have f1 : ev S0 (d + 33) 167 161 [.inr (.inl 392), .inl o, .inl 0, a3, a4, a5] [] (sh, I2, R) = ev S0 (d + 33) 167 255 [.inr (.inl 392), .inl o, .inl ((thr s.1 o).1.length : Int), b3, b4, b5] [] (sh, I3, R) := f1
      obtain ⟨ob, ic, q1, q2, q3, q4, q5, q6, q7, q8⟩ := hg.at hpos
      have hres : I3 401 0 = (nwl s.1 (thr s.1 o).1.length).getD 0 0 := by
        rw [f3 _ (by decide), q6]
        exact e3 0 _ q5
      rw [c_167]
      simp (disch := first | assumption | omega | exact Nat.le_of_ble_eq_true rfl | decide) only [u_167_0, u_167_1, u_167_2, u_167_5, u_167_8, u_167_9, u_167_10, u_167_11, u_167_14, u_167_15, u_167_16, u_167_19, u_167_20, u_167_23, u_167_24, u_167_27, u_167_28, u_167_30, u_167_33, u_167_35, u_167_36, u_167_37, m_isObject hX.1 hm.1, if_pos hl, bnd_some, psh_some, psh_none, Int.reduceEq, not_false_eq_true, if_true, h1, g1, g20, m_many hX.1 hm1.1, wrI, if_pos hn2]
      rw [e1]
      simp (disch := first | assumption | omega | exact Nat.le_of_ble_eq_true rfl | decide) only [u_167_159, u_167_160]
      rw [f1]
      simp (disch := first | assumption | omega | exact Nat.le_of_ble_eq_true rfl | decide) only [u_167_255, u_167_256, u_167_259, u_167_260, u_167_261, rn, rv_some, hres]
  · rw [if_pos hl]
    refine ME.same hm ?_
    rw [c_167]
    simp (disch := first | assumption | omega | exact Nat.le_of_ble_eq_true rfl | decide) only [u_167_0, u_167_1, u_167_2, u_167_5, u_167_8, u_167_9, m_isObject hX.1 hm.1, if_neg hl, bnd_some, psh_some, not_true, if_false]
end M7
