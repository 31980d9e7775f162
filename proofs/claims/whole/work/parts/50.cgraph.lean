/-! THE CLASS: graph -/
def mixL (F : Int → Int) (l : List Int) (j : Nat) : List Int := (l.map F).take j ++ l.drop j
theorem mixL_len (F : Int → Int) (l : List Int) (j : Nat) : (mixL F l j).length = l.length := by
  unfold mixL
  rw [List.length_append, List.length_take, List.length_drop, List.length_map]
  omega
theorem mixL_get {F : Int → Int} {l : List Int} {j : Nat} (hj : j < l.length) : (mixL F l j)[j]? = some l[j] := by
  unfold mixL
  rw [List.getElem?_append_right (by rw [List.length_take]; omega), List.length_take, List.length_map, Nat.min_eq_left (by omega), Nat.sub_self, List.getElem?_drop, Nat.add_zero, List.getElem?_eq_getElem hj]
theorem mixL_step {F : Int → Int} {l : List Int} {j : Nat} (hj : j < l.length) : (mixL F l j).set j (F l[j]) = mixL F l (j + 1) := by
  unfold mixL
  have h1 : ((l.map F).take j).length = j := by rw [List.length_take, List.length_map]; omega
  rw [List.set_append_right _ _ (by omega), h1, Nat.sub_self, List.drop_eq_getElem_cons hj, List.set_cons_zero, List.take_succ_eq_append_getElem (by rw [List.length_map]; exact hj), List.getElem_map, List.append_assoc]
  rfl
theorem mixL_all {F : Int → Int} {l : List Int} : mixL F l l.length = l.map F := by
  unfold mixL
  rw [List.take_of_length_le (by rw [List.length_map]; exact Nat.le_refl _), List.drop_length, List.append_nil]
def rmF (m nw : List Int) (r : Int) : Int := if r = -1 then -1 else nw.getD (idm m r).toNat 0
theorem remap_eq (m nw : List Int) (x : ND) : remap m nw x = setR x (x.2.2.1.map (rmF m nw)) := rfl
theorem putG_mix {w : WD} {m nw : List Int} (h : gOK w m nw) {g : ND → ND} {k c : Nat} (hk : nw[k]? = some (c : Int)) : setN (putG w m nw (mixG m nw g k)) c (remap m nw (w.1 (m.getD k 0).toNat)) = putG w m nw (mixG m nw g (k + 1)) := by
  refine wd_ext (fun j => ?_) rfl
  by_cases hj : j = c
  · subst hj
    rw [setN_at, putG_new h.2.2.2.1 hk]
    simp only [mixG]
    rw [if_pos (by omega)]
  · have e : (setN (putG w m nw (mixG m nw g k)) c (remap m nw (w.1 (m.getD k 0).toNat))).1 j = (putG w m nw (mixG m nw g k)).1 j := by simp [setN, hj]
    rw [e]
    by_cases hm : (j : Int) ∈ nw
    · obtain ⟨k2, hk2, e2⟩ := List.mem_iff_getElem.mp hm
      have hk3 : nw[k2]? = some (j : Int) := by rw [List.getElem?_eq_getElem hk2, e2]
      rw [putG_new h.2.2.2.1 hk3, putG_new h.2.2.2.1 hk3]
      have hne : k2 ≠ k := fun q => by
        subst q
        rw [hk3] at hk
        have := Option.some.inj hk
        omega
      simp only [mixG]
      by_cases hlt : k2 < k
      · rw [if_pos hlt, if_pos (by omega)]
      · rw [if_neg hlt, if_neg (by omega)]
    · rw [putG_old hm, putG_old hm]
section C7
variable {sh : Shp} {R : RM} {I : IM} {d a : Nat} {s : ST} {w : WD} {m nw : List Int} {o : Int}
theorem pac_loop (hC : CS sh R) (hok : okm w m) (hlen : nw.length = m.length) {n : Nat} (hN : NS sh R n) (hn : n + 4 < 363) {x : ND} (hx6 : x.2.2.1.length ≤ 6) (hx : ∀ r ∈ x.2.2.1, r = -1 ∨ r ∈ m) : ∀ (k j : Nat) (I : IM), j + k = x.2.2.1.length → isN I n (setR x (mixL (rmF m nw) x.2.2.1 j)) → isMt I m → (∀ (i : Nat) (v : Int), nw[i]? = some v → I 383 (i : Int) = v) → ∃ I', ev S0 (d + 1) 119 7 [.inr (.inl 0), .inr (.inl n), .inl (j : Int)] [] (sh, I, R) = some (none, (sh, I', R)) ∧ isN I' n (setR x (x.2.2.1.map (rmF m nw))) ∧ ∀ k, k ≠ n + 4 → I' k = I k := by
  obtain ⟨hH, -, ⟨r2, hK⟩, -, -, -, -, ⟨r7, t7, l7⟩⟩ := id hC
  obtain ⟨tk, k0, k1, k2, k3, k4, hSk, t6, l6, -⟩ := id hK
  have tc := hH.1
  obtain ⟨tn, rn0, rn1, hF, tn4, ln4⟩ := id hN
  have h30 := okm_len hok
  intro k
  induction k with
  | zero =>
    intro j I hj hI hm hcp
    obtain rfl : j = x.2.2.1.length := by omega
    rw [mixL_all] at hI
    have h3 := hI.2.2.1
    simp only [setR, List.length_map] at h3
    have hc : (x.2.2.1.length : Int) ≤ (x.2.2.1.length : Int) := by omega
    refine ⟨I, ?_, hI, fun _ _ => rfl⟩
    simp (disch := first | assumption | omega | exact Nat.le_of_ble_eq_true rfl | decide) only [u_119_7, u_119_8, u_119_8n, u_119_9, u_119_12, u_119_62, h3, if_pos hc]
  | succ k ih =>
    intro j I hj hI hm hcp
    have hjl : j < x.2.2.1.length := by omega
    have h3 := hI.2.2.1
    simp only [setR, mixL_len] at h3
    have hc : ¬ (x.2.2.1.length : Int) ≤ (j : Int) := by omega
    have hv : I (n + 4) (j : Int) = x.2.2.1[j] := hI.2.2.2.1 j _ (mixL_get hjl)
    have hst := mixL_step (F := rmF m nw) hjl
    rw [u_119_7]
    rcases hx _ (List.getElem_mem hjl) with q | q
    · have hm1 : rmF m nw x.2.2.1[j] = x.2.2.1[j] := by unfold rmF; rw [if_pos q, q]
      rw [hm1] at hst
      have hst2 : mixL (rmF m nw) x.2.2.1 (j + 1) = mixL (rmF m nw) x.2.2.1 j := by
        rw [← hst]
        refine List.ext_getElem? (fun i => ?_)
        by_cases hij : i = j
        · subst hij
          rw [List.getElem?_set_self (by rw [mixL_len]; exact hjl), mixL_get hjl]
        · rw [List.getElem?_set_ne (Ne.symm hij)]
      obtain ⟨I', e1, e2, e3⟩ := ih (j + 1) I (by omega) (by rw [hst2]; exact hI) hm hcp
      refine ⟨I', ?_, e2, e3⟩
      have hhm : ¬ (0 ≤ x.2.2.1[j] ∧ x.2.2.1[j] < 30 ∧ ¬ idm m x.2.2.1[j] = -1) := fun z => by omega
      have hm0 := fun dd => s_hasMet (d := dd) hK hm (z := x.2.2.1[j])
      simp only [if_neg hhm] at hm0
      simp (disch := first | assumption | omega | exact Nat.le_of_ble_eq_true rfl | decide) only [u_119_8, u_119_8n, u_119_9, u_119_12, u_119_15, u_119_16, u_119_19, u_119_19n, u_119_20, u_119_23, u_119_24, u_119_25, u_119_28, u_119_31, u_119_31n, u_119_32, u_119_35, u_119_36, u_119_37, u_119_40, u_119_41, u_119_44, u_119_47, u_119_47n, u_119_48, u_119_51, u_119_52, u_119_53, u_119_54, u_119_55, u_119_56, u_119_59, h3, hc, if_false, if_true, r2, rv_some, rn1, hv, hm0, bnd_some, psh_some, wrN, e1]
    · obtain ⟨b, hb, hb30, hbk⟩ := liv_nat (hok.2 _ q)
      rcases idm_spec m x.2.2.1[j] with ⟨-, q2⟩ | ⟨i, q1, q2, q3, q4⟩
      · exact absurd q q2
      have hne : ¬ x.2.2.1[j] = -1 := by omega
      have hin : i < nw.length := by omega
      have hm1 : rmF m nw x.2.2.1[j] = nw[i] := by
        unfold rmF
        rw [if_neg hne, q1, Int.toNat_natCast, getD_at hin]
      rw [hm1] at hst
      have hg := isN_setR (r := nw[i]) hI (j := j) (by simp only [setR, mixL_len]; exact hjl)
      have hg1 : isN (up I (n + 4) (j : Int) nw[i]) n (setR x (mixL (rmF m nw) x.2.2.1 (j + 1))) := by
        rw [← hst]; exact hg.1
      obtain ⟨I', e1, e2, e3⟩ := ih (j + 1) (up I (n + 4) (j : Int) nw[i]) (by omega) hg1 (hm.cong (upf (by omega)) (upf (by omega)) (upf (by omega))) (fun i' v hv' => by rw [upk (by omega)]; exact hcp i' v hv')
      refine ⟨I', ?_, e2, fun k hk => by rw [e3 k hk, upf hk]⟩
      have hhm : (0 ≤ x.2.2.1[j] ∧ x.2.2.1[j] < 30 ∧ ¬ idm m x.2.2.1[j] = -1) := ⟨by omega, by omega, by omega⟩
      have hm0 := fun dd => s_hasMet (d := dd) hK hm (z := x.2.2.1[j])
      simp only [if_pos hhm] at hm0
      have hid : I 366 x.2.2.1[j] = (i : Int) := by
        have := hm.2.1 b hb30
        rw [hb, this, ← hb, q1]
      have hcv := hcp i _ (List.getElem?_eq_getElem hin)
      simp (disch := first | assumption | omega | exact Nat.le_of_ble_eq_true rfl | decide) only [u_119_8, u_119_8n, u_119_9, u_119_12, u_119_15, u_119_16, u_119_19, u_119_19n, u_119_20, u_119_23, u_119_24, u_119_25, u_119_28, u_119_31, u_119_31n, u_119_32, u_119_35, u_119_36, u_119_37, u_119_40, u_119_41, u_119_44, u_119_47, u_119_47n, u_119_48, u_119_51, u_119_52, u_119_53, u_119_54, u_119_55, u_119_56, u_119_59, h3, hc, if_false, r2, r7, rv_some, rn1, k2, hv, hm0, bnd_some, psh_some, Int.reduceEq, hid, hcv, wrN, e1]
theorem gr_loop1 (hC : CS sh R) (hg : gOK w m (nwl w m.length)) (hn : m.length ≤ cntK w 0) : ∀ (k j : Nat) (I : IM), j + k = m.length → isW I 1 (putG w m (nwl w j) (fun _ x => x)) → isMt I m → (∀ (i : Nat) (v : Int), (nwl w j)[i]? = some v → I 383 (i : Int) = v) → ∃ I', ev S0 (d + 5) 98 46 [.inr (.inl 0), .inl o, .inl (j : Int)] [] (sh, I, R) = ev S0 (d + 5) 98 92 [.inr (.inl 0), .inl o, .inl (m.length : Int)] [] (sh, I', R) ∧ isW I' 1 (putG w m (nwl w m.length) (fun _ x => x)) ∧ (∀ (i : Nat) (v : Int), (nwl w m.length)[i]? = some v → I' 383 (i : Int) = v) ∧ ∀ k, k < 1 ∨ 181 < k → k ≠ 383 → I' k = I k := by
  obtain ⟨hH, -, ⟨r2, hK⟩, -, -, -, -, ⟨r7, t7, l7⟩⟩ := id hC
  obtain ⟨tk, k0, k1, k2, k3, k4, hSk, t6, l6, tr7, l7', -⟩ := id hK
  have tc := hH.1
  have rc := hH.2.1
  have tw := hH.2.2.1
  have h30 := okm_len hg.2.1
  intro k
  induction k with
  | zero =>
    intro j I hj hW hm hcp
    obtain rfl : j = m.length := by omega
    have hc : (m.length : Int) ≤ (m.length : Int) := by omega
    have hm0 := hm.1
    refine ⟨I, ?_, hW, hcp, fun _ _ _ => rfl⟩
    simp (disch := first | assumption | omega | exact Nat.le_of_ble_eq_true rfl | decide) only [u_98_46, u_98_47, u_98_48, u_98_51, u_98_54, r2, rv_some, hm0, if_pos hc]
  | succ k ih =>
    intro j I hj hW hm hcp
    have hjl : j < m.length := by omega
    have hc : ¬ (m.length : Int) ≤ (j : Int) := by omega
    have hm0 := hm.1
    obtain ⟨ob, i, a1, a2, a3, a4, a5, a6, a7, a8⟩ := hg.at hjl
    have hpre : nwl w j <+: nwl w m.length := by
      rw [← nwl_take w j m.length (by omega)]; exact List.take_prefix _ _
    have hpre1 : nwl w (j + 1) = nwl w j ++ [(i : Int)] := by
      have e : nwl w (j + 1) = nwl w j ++ [freeW (mark w (nwl w j))] := rfl
      have e2 := nwl_take w (j + 1) m.length (by omega)
      have e3 : (nwl w (j + 1))[j]? = some (i : Int) := by
        rw [← e2, List.getElem?_take, if_pos (by omega)]; exact a5
      rw [e, List.getElem?_append_right (by rw [nwl_len]; exact Nat.le_refl _), nwl_len, Nat.sub_self] at e3
      have e4 : freeW (mark w (nwl w j)) = (i : Int) := Option.some.inj e3
      rw [e, e4]
    have hnd := (nwl_ok w (j + 1) (by omega)).1
    rw [hpre1, List.nodup_append] at hnd
    have hni : (i : Int) ∉ nwl w j := fun q => hnd.2.2 _ q _ List.mem_cons_self rfl
    have hokw := okW_putG hg hpre (g := fun _ x => x) (fun k x => Or.inl rfl)
    have hold : (putG w m (nwl w j) (fun _ x => x)).1 ob = w.1 ob := putG_old (fun q => hg.old a4 (hpre.subset q))
    have hfree : freeW (putG w m (nwl w j) (fun _ x => x)) = (i : Int) := by
      have e : nwl w (j + 1) = nwl w j ++ [freeW (mark w (nwl w j))] := rfl
      rw [hpre1] at e
      have e4 := List.append_cancel_left e
      have e5 : (i : Int) = freeW (mark w (nwl w j)) := by
        have := List.cons.inj e4
        exact this.1
      rw [e5]
      refine freeW_congr (fun b hb => ?_)
      by_cases hm1 : (b : Int) ∈ nwl w j
      · obtain ⟨k2, hk2, e6⟩ := List.mem_iff_getElem.mp hm1
        rw [putG_new (k := k2) (nwl_ok w j (by omega)).1 (by rw [List.getElem?_eq_getElem hk2, e6])]
        rw [nwl_len] at hk2
        obtain ⟨ob2, i2, b1, b2, b3, b4, -⟩ := hg.at (k := k2) (by omega)
        rw [b2, Int.toNat_natCast]
        simp only [mark, if_pos hm1]
        exact ⟨fun q => absurd q b4, fun q => absurd q (by decide)⟩
      · rw [putG_old hm1]
        simp only [mark, if_neg hm1]
    obtain ⟨I1, f1, f2, f3⟩ := s_makeSame (d := d) hH.2.2 hW hokw hfree a7 a3 (by rw [hold]; exact a4)
    have hstep : setN (putG w m (nwl w j) (fun _ x => x)) i ((putG w m (nwl w j) (fun _ x => x)).1 ob) = putG w m (nwl w (j + 1)) (fun _ x => x) := by
      have := putG_step (w := w) (m := m) (l := nwl w j) (g := fun _ x => x) hni
      rw [nwl_len, a2, Int.toNat_natCast] at this
      rw [hold, hpre1]
      exact this
    rw [hstep] at f2
    obtain ⟨I', e1, e2, e3, e4⟩ := ih (j + 1) (up I1 383 (j : Int) (i : Int)) (by omega) (f2.cong (fun k _ b => upf (by omega))) ((hm.cong (f3 _ (by omega)) (f3 _ (by omega)) (f3 _ (by omega))).cong (upf (by decide)) (upf (by decide)) (upf (by decide))) (fun i' v hv => by
      rw [hpre1] at hv
      by_cases hij : i' = j
      · subst hij
        rw [List.getElem?_append_right (by rw [nwl_len]; exact Nat.le_refl _), nwl_len, Nat.sub_self] at hv
        cases hv
        exact ups
      · have := lenOf hv
        rw [List.length_append, nwl_len] at this
        simp only [List.length_cons, List.length_nil] at this
        rw [List.getElem?_append_left (by rw [nwl_len]; omega)] at hv
        rw [upj (by omega), f3 _ (by omega)]
        exact hcp i' v hv)
    refine ⟨I', ?_, e2, e3, fun k hk hk2 => by rw [e4 k hk hk2, upf hk2, f3 k hk]⟩
    have hord := hm.2.2 j _ a1
    have hat := fun dd => s_atL (d := dd) hH.2.2 hW a3 (by rw [hold]; exact a4)
    rw [u_98_46]
    simp (disch := first | assumption | omega | exact Nat.le_of_ble_eq_true rfl | decide) only [u_98_47, u_98_48, u_98_51, u_98_54, u_98_57, u_98_58, u_98_61, u_98_62, u_98_63, u_98_66, u_98_67, u_98_70, u_98_71, u_98_74, u_98_77, u_98_78, u_98_79, u_98_82, u_98_82n, u_98_85, u_98_86, u_98_89, r2, r7, rc, k3, rv_some, hm0, hc, if_false, hord, hat, bnd_some, psh_some, f1, wrN, e1]
theorem gr_loop2 (hC : CS sh R) (hg : gOK w m nw) : ∀ (k j : Nat) (I : IM), j + k = m.length → isW I 1 (putG w m nw (mixG m nw (fun x => x) j)) → isMt I m → (∀ (i : Nat) (v : Int), nw[i]? = some v → I 383 (i : Int) = v) → ∃ I', ev S0 (d + 3) 98 94 [.inr (.inl 0), .inl o, .inl (j : Int)] [] (sh, I, R) = ev S0 (d + 3) 98 128 [.inr (.inl 0), .inl o, .inl (m.length : Int)] [] (sh, I', R) ∧ isW I' 1 (putG w m nw (mixG m nw (fun x => x) m.length)) ∧ ∀ k, k < 1 ∨ 181 < k → I' k = I k := by
  obtain ⟨hH, -, ⟨r2, hK⟩, -, -, -, -, ⟨r7, t7, l7⟩⟩ := id hC
  obtain ⟨tk, k0, k1, k2, k3, k4, hSk, t6, l6, tr7, l7', -⟩ := id hK
  have tc := hH.1
  have rc := hH.2.1
  have tw := hH.2.2.1
  have h30 := okm_len hg.2.1
  intro k
  induction k with
  | zero =>
    intro j I hj hW hm hcp
    obtain rfl : j = m.length := by omega
    have hc : (m.length : Int) ≤ (m.length : Int) := by omega
    have hm0 := hm.1
    refine ⟨I, ?_, hW, fun _ _ => rfl⟩
    simp (disch := first | assumption | omega | exact Nat.le_of_ble_eq_true rfl | decide) only [u_98_94, u_98_95, u_98_96, u_98_99, u_98_102, r2, rv_some, hm0, if_pos hc]
  | succ k ih =>
    intro j I hj hW hm hcp
    have hjl : j < m.length := by omega
    have hc : ¬ (m.length : Int) ≤ (j : Int) := by omega
    have hm0 := hm.1
    obtain ⟨ob, i, a1, a2, a3, a4, a5, a6, a7, a8⟩ := hg.at hjl
    have hnode : (putG w m nw (mixG m nw (fun x => x) j)).1 i = w.1 ob := by
      rw [putG_new hg.2.2.2.1 a5, a2, Int.toNat_natCast]
      simp only [mixG]
      rw [if_neg (by omega)]
    obtain ⟨n1, n2⟩ := hH.2.2.2.2.2.2.2.2.2.2.2.2.1 i a7
    have hI := hW.1 i a7
    rw [hnode] at hI
    have hself : setR (w.1 ob) (mixL (rmF m nw) (w.1 ob).2.2.1 0) = w.1 ob := by
      simp [setR, mixL]
    obtain ⟨I1, f1, f2, f3⟩ := pac_loop (d := d + 1) (n := 1 + 4 + 5 * i) (x := w.1 ob) hC hg.2.1 hg.2.2.1 n2 (by omega) ((hg.1.1 ob a3).2.2.2.2.2.2.2.1) (fun r hr => hg.2.2.2.2.2 (ob : Int) (List.mem_of_getElem? a1) r (by rw [Int.toNat_natCast]; exact hr)) (w.1 ob).2.2.1.length 0 I (by omega) (by rw [hself]; exact hI) hm hcp
    have hfr : FrN (1 + 4 + 5 * i) I I1 := fun k hk => f3 k (by omega)
    have hW1 := isW_setN hW a7 f2 hfr
    have hst := putG_mix hg (g := fun x => x) a5
    rw [a2, Int.toNat_natCast, remap_eq] at hst
    rw [hst] at hW1
    obtain ⟨I', e1, e2, e3⟩ := ih (j + 1) I1 (by omega) hW1 (hm.cong (f3 _ (by omega)) (f3 _ (by omega)) (f3 _ (by omega))) (fun i' v hv => by rw [f3 _ (by omega)]; exact hcp i' v hv)
    refine ⟨I', ?_, e2, fun k hk => by rw [e3 k hk, f3 k (by omega)]⟩
    have hcv := hcp j _ a5
    have hat := fun dd => s_atL (d := dd) hH.2.2 hW a7 (by rw [hnode]; exact a4)
    have f1 : cl (d + 3) 119 [.inr (.inl 0), .inr (.inl (1 + 4 + 5 * i))] (sh, I, R) = some (none, (sh, I1, R)) := by
      rw [c_119]
      have f1 : ev S0 (d + 2) 119 7 [.inr (.inl 0), .inr (.inl (1 + 4 + 5 * i)), .inl 0] [] (sh, I, R) = some (none, (sh, I1, R)) := f1
      simp (disch := first | assumption | omega | exact Nat.le_of_ble_eq_true rfl | decide) only [u_119_0, u_119_0n, u_119_1, u_119_1n, u_119_4, u_119_5, u_119_6, f1]
    rw [u_98_94]
    simp (disch := first | assumption | omega | exact Nat.le_of_ble_eq_true rfl | decide) only [u_98_95, u_98_96, u_98_99, u_98_102, u_98_105, u_98_106, u_98_107, u_98_110, u_98_111, u_98_114, u_98_115, u_98_116, u_98_119, u_98_119n, u_98_122, u_98_125, r2, r7, rc, rv_some, hm0, hc, if_false, hcv, hat, bnd_some, psh_some, psh_none, f1, wrN, e1]
theorem cR.wr2 {I' : IM} (h : cR I s) (hw : isW I' 1 w) (hf : ∀ k, k < 1 ∨ 181 < k → ¬ scr k → I' k = I k) (h7 : I' 377 0 = I 377 0) : cR I' (stW s w) := by
  obtain ⟨a1, a2, a3, a4, a5, a6, a7⟩ := h
  refine ⟨hw, a2.cong (fun k a b => hf k (by omega) (by unfold scr; omega)), by rw [hf _ (by omega) (by unfold scr; omega)]; exact a3, fun q hq => (a4 q hq).cong (hf _ (by omega) (by unfold scr; omega)) (hf _ (by omega) (by unfold scr; omega)), fun q hq => by rw [hf _ (by omega) (by unfold scr; omega)]; exact a5 q hq, a6.cong (hf _ (by omega) (by unfold scr; omega)) (hf _ (by omega) (by unfold scr; omega)) (hf _ (by omega) (by unfold scr; omega)), by rw [h7]; exact a7⟩
theorem mixG_all {w : WD} {m nw : List Int} (h : gOK w m nw) {g : ND → ND} : putG w m nw (mixG m nw g m.length) = putG w m nw (fun _ x => remap m nw x) := by
  refine wd_ext (fun j => ?_) rfl
  by_cases hm : (j : Int) ∈ nw
  · obtain ⟨k2, hk2, e2⟩ := List.mem_iff_getElem.mp hm
    have hk3 : nw[k2]? = some (j : Int) := by rw [List.getElem?_eq_getElem hk2, e2]
    rw [putG_new h.2.2.2.1 hk3, putG_new h.2.2.2.1 hk3]
    simp only [mixG]
    rw [if_pos (by rw [← h.2.2.1]; exact hk2)]
  · rw [putG_old hm, putG_old hm]
theorem putG_nil {w : WD} {m : List Int} {g : Nat → ND → ND} : putG w m [] g = w := by
  refine wd_ext (fun j => ?_) rfl
  exact putG_old (fun q => by cases q)
theorem mixG_zero {w : WD} {m nw : List Int} {g : ND → ND} : putG w m nw (mixG m nw g 0) = putG w m nw (fun _ x => g x) := by
  have : mixG m nw g 0 = fun _ x => g x := by
    funext k x
    simp only [mixG]
    rw [if_neg (by omega)]
  rw [this]
theorem CC_graph (hC : CS sh R) (hc : cR I s) (hs : okS s) : CE sh R I (d + 42) 98 [.inl o] (b_graph s o) := by
  obtain ⟨hH, -, ⟨r2, hK⟩, -, -, -, -, ⟨r7, t7, l7⟩⟩ := id hC
  obtain ⟨tk, k0, k1, k2, k3, k4, hSk, t6, l6, tr7, l7', -⟩ := id hK
  have tc := hH.1
  have rc := hH.2.1
  have tw := hH.2.2.1
  unfold b_graph
  by_cases hl : liv s.1 o
  · rw [if_neg (Classical.not_not.mpr hl)]
    obtain ⟨I1, g1, g2, g3, g4⟩ := s_goThrough (d := d) hK hH.2.2 hs.1 hc.1 (Or.inr hl)
    have hmem := (thr_grow hs.1 (Or.inr hl)).2
    have hoo : ¬ o = -1 := by have := hl.1; omega
    have hpos : 0 < (thr s.1 o).1.length := List.length_pos_of_mem (hmem.resolve_left hoo)
    obtain ⟨i, ei, hi, hk0⟩ := liv_nat hl
    have hat := fun dd => s_atL (d := dd) hH.2.2 hc.1 hi hk0
    rw [← ei] at hat
    have hc1 := hc.frK g4
    have hc30 := cntK_le s.1 0
    have hsub : (30 : Int) - ((30 - cntK s.1 0 : Nat) : Int) = ((cntK s.1 0 : Nat) : Int) := by omega
    have g20 := g2.1
    by_cases hn : cntK s.1 0 < (thr s.1 o).1.length
    · rw [if_pos hn]
      have hn2 : ¬ ((thr s.1 o).1.length : Int) ≤ ((cntK s.1 0 : Nat) : Int) := by omega
      refine ⟨I1, ?_, hc1, fun k hk => g4 k (by omega)⟩
      rw [c_98]
      simp (disch := first | assumption | omega | exact Nat.le_of_ble_eq_true rfl | decide) only [u_98_0, u_98_1, u_98_4, u_98_5, u_98_8, u_98_8n, u_98_11, u_98_12, u_98_13, u_98_14, u_98_17, u_98_18, u_98_21, u_98_22, u_98_25, u_98_28, u_98_30, u_98_31, u_98_34, u_98_37, u_98_38, u_98_41, u_98_43, rc, r2, rv_some, hat, bnd_some, psh_some, psh_none, g1, g20, s_howMany hH.2.2 hc1.1, wrI, hsub, hn2, if_false]
    · rw [if_neg hn]
      have hn2 : ((thr s.1 o).1.length : Int) ≤ ((cntK s.1 0 : Nat) : Int) := by omega
      have hg := gOK_thr hs.1 hl (by omega)
      obtain ⟨I2, e1, e2, e3, e4⟩ := gr_loop1 (d := d + 36) (o := o) hC hg (by omega) (thr s.1 o).1.length 0 I1 (by omega) (by show isW I1 1 (putG _ _ [] _); rw [putG_nil]; exact hc1.1) g2 (fun i v hv => by cases hv)
      have g2' : isMt I2 (thr s.1 o).1 := g2.cong (e4 _ (by omega) (by decide)) (e4 _ (by omega) (by decide)) (e4 _ (by omega) (by decide))
      obtain ⟨I3, f1, f2, f3⟩ := gr_loop2 (d := d + 38) (o := o) hC hg (thr s.1 o).1.length 0 I2 (by omega) (by rw [mixG_zero]; exact e2) g2' e3
      rw [mixG_all hg] at f2
      refine ⟨I3, ?_, hc1.wr2 f2 (fun k hk hs => by rw [f3 k hk, e4 k hk (fun q => hs (by unfold scr; omega))]) (by rw [f3 _ (by omega), e4 _ (by omega) (by decide)]), fun k hk => by rw [f3 k (by omega), e4 k (by omega) (by omega), g4 k (by omega)]⟩
      have e1 : ev S0 (d + 41) 98 46 [.inr (.inl 0), .inl o, .inl 0] [] (sh, I1, R) = ev S0 (d + 41) 98 92 [.inr (.inl 0), .inl o, .inl ((thr s.1 o).1.length : Int)] [] (sh, I2, R) := e1
      have f1 : ev S0 (d + 41) 98 94 [.inr (.inl 0), .inl o, .inl 0] [] (sh, I2, R) = ev S0 (d + 41) 98 128 [.inr (.inl 0), .inl o, .inl ((thr s.1 o).1.length : Int)] [] (sh, I3, R) := f1
      obtain ⟨ob, ic, a1, a2, a3, a4, a5, a6, a7, a8⟩ := hg.at hpos
      have hres : I3 383 0 = (nwl s.1 (thr s.1 o).1.length).getD 0 0 := by
        rw [f3 _ (by omega), a6]
        exact e3 0 _ a5
      rw [c_98]
      simp (disch := first | assumption | omega | exact Nat.le_of_ble_eq_true rfl | decide) only [u_98_0, u_98_1, u_98_4, u_98_5, u_98_8, u_98_8n, u_98_11, u_98_12, u_98_13, u_98_14, u_98_17, u_98_18, u_98_21, u_98_22, u_98_25, u_98_28, u_98_30, u_98_31, u_98_34, u_98_37, u_98_38, u_98_41, u_98_43, u_98_44, u_98_45, rc, r2, rv_some, hat, bnd_some, psh_some, psh_none, g1, g20, s_howMany hH.2.2 hc1.1, wrI, hsub, hn2, if_true]
      rw [e1]
      simp (disch := first | assumption | omega | exact Nat.le_of_ble_eq_true rfl | decide) only [u_98_92, u_98_93]
      rw [f1]
      simp (disch := first | assumption | omega | exact Nat.le_of_ble_eq_true rfl | decide) only [u_98_128, u_98_129, u_98_132, u_98_133, u_98_134, r7, rv_some, hres]
  · rw [if_pos hl]
    refine CE.same hc ?_
    rw [c_98]
    simp (disch := first | assumption | omega | exact Nat.le_of_ble_eq_true rfl | decide) only [u_98_0, u_98_1, u_98_4, u_98_5, u_98_8, u_98_8n, u_98_11, u_98_12, rc, rv_some, s_atN hH.2.2 hc.1 (not_live hl), bnd_some, psh_some]
end C7
