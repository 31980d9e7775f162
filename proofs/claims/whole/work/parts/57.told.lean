/-! TOLD -/
theorem mxI (a b : Nat) : (if (a : Int) < (b : Int) then (b : Int) else (a : Int)) = ((max a b : Nat) : Int) := by
  by_cases h : a < b
  · rw [if_pos (by omega), Nat.max_eq_right (by omega)]
  · rw [if_neg (by omega), Nat.max_eq_left (by omega)]
def isNu8 (I : IM) (N : Nat → Nat) : Prop := ∀ i : Nat, i < 30 → I 368 (i : Int) = ((N i : Nat) : Int)
def bI (g : Bool) : Int := if g then 1 else 0
theorem bI_01 (g : Bool) : bI g = 0 ∨ bI g = 1 := by cases g <;> simp [bI]
theorem rnd_bd {w : WD} {m : List Int} : ∀ (j : Nat) (N : Nat → Nat) (g : Bool) (c : Nat), (∀ v, N v ≤ c) → ∀ v, (rnd w m j (N, g)).1 v ≤ c + j
  | 0, N, g, c, h, v => h v
  | j + 1, N, g, c, h, v => by
    have hmc : mx N (w.1 (vOf m j)).2.2.1 ≤ c := by
      rcases mx_eq N (w.1 (vOf m j)).2.2.1 with q | ⟨r', a, b, e⟩
      · omega
      · rw [e]; exact h _
    unfold rnd
    dsimp only
    split
    · have := rnd_bd (w := w) (m := m) j (upN N (vOf m j) (1 + mx N (w.1 (vOf m j)).2.2.1)) true (c + 1) (fun v => by
        unfold upN
        split
        · omega
        · have := h v; omega) v
      omega
    · have := rnd_bd (w := w) (m := m) j N g c h v
      omega
section TLD
variable {sh : Shp} {R : RM} {I : IM} {d : Nat} {s : ST} {w : WD} {m : List Int} {N : Nat → Nat} {o q : Int}
theorem dr_loop (hK : KS sh R) (hok : okm w m) {n : Nat} (hN : NS sh R n) {x : ND} (hx6 : x.2.2.1.length ≤ 6) (hx : ∀ r ∈ x.2.2.1, r = -1 ∨ r ∈ m) (hI : isN I n x) (hm : isMt I m) (hv : isNu8 I N) : ∀ (k j : Nat), j + k = x.2.2.1.length → ev S0 (d + 1) 66 4 [.inr (.inl 363), .inr (.inl n), .inl ((mx N (x.2.2.1.take j) : Nat) : Int), .inl (j : Int)] [] (sh, I, R) = some (some (.inl ((mx N x.2.2.1 : Nat) : Int)), (sh, I, R)) := by
  obtain ⟨tk, k0, k1, k2, k3, k4, hSk, t6, l6, t7, l7, t8, l8⟩ := id hK
  obtain ⟨tn, rn0, rn1, hF, tn4, ln4⟩ := id hN
  have h3 := hI.2.2.1
  intro k
  induction k with
  | zero =>
    intro j hj
    obtain rfl : j = x.2.2.1.length := by omega
    have hc : (x.2.2.1.length : Int) ≤ (x.2.2.1.length : Int) := by omega
    rw [List.take_length]
    simp (disch := first | assumption | omega | exact Nat.le_of_ble_eq_true rfl | decide) only [u_66_4, u_66_4n, u_66_5, u_66_5n, u_66_8, u_66_9, u_66_9n, u_66_10, u_66_13, u_66_51, u_66_52, h3, if_pos hc]
  | succ k ih =>
    intro j hj
    have hjl : j < x.2.2.1.length := by omega
    have hc : ¬ (x.2.2.1.length : Int) ≤ (j : Int) := by omega
    have hr : I (n + 4) (j : Int) = x.2.2.1[j] := hI.2.2.2.1.at hjl
    have hm0 := fun dd => s_hasMet (d := dd) hK hm (z := x.2.2.1[j])
    have ih' := ih (j + 1) (by omega)
    rw [List.take_succ_eq_append_getElem hjl, mx_app] at ih'
    clear ih
    rcases hx _ (List.getElem_mem hjl) with q | q
    · have hhm : ¬ (0 ≤ x.2.2.1[j] ∧ x.2.2.1[j] < 30 ∧ ¬ idm m x.2.2.1[j] = -1) := fun z => by omega
      simp only [if_neg hhm] at hm0
      rw [if_pos q, Nat.max_zero] at ih'
      rw [u_66_4]
      simp (disch := first | assumption | omega | exact Nat.le_of_ble_eq_true rfl | decide) only [u_66_5, u_66_5n, u_66_8, u_66_9, u_66_9n, u_66_10, u_66_13, u_66_16, u_66_17, u_66_17n, u_66_18, u_66_21, u_66_22, u_66_23, u_66_26, u_66_29, u_66_30, u_66_31, u_66_34, u_66_34n, u_66_35, u_66_38, u_66_39, u_66_40, u_66_41, u_66_44, u_66_45, u_66_48, h3, hc, if_false, if_true, rv_some, rn1, hr, hm0, bnd_some, psh_some, wrN, ih']
    · obtain ⟨b, hb1, hb30, hbk⟩ := liv_nat (hok.2 _ q)
      have hhm : (0 ≤ x.2.2.1[j] ∧ x.2.2.1[j] < 30 ∧ ¬ idm m x.2.2.1[j] = -1) := ⟨by omega, by omega, fun z => idm_not.mp z q⟩
      simp only [if_pos hhm] at hm0
      rw [if_neg (by omega), hb1, Int.toNat_natCast] at ih'
      have hvb := hv b hb30
      rw [hb1] at hr hm0
      have hmx := mxI (mx N (x.2.2.1.take j)) (N b)
      rw [u_66_4]
      simp (disch := first | assumption | omega | exact Nat.le_of_ble_eq_true rfl | decide) only [u_66_5, u_66_5n, u_66_8, u_66_9, u_66_9n, u_66_10, u_66_13, u_66_16, u_66_17, u_66_17n, u_66_18, u_66_21, u_66_22, u_66_23, u_66_26, u_66_29, u_66_30, u_66_31, u_66_34, u_66_34n, u_66_35, u_66_38, u_66_39, u_66_40, u_66_41, u_66_44, u_66_45, u_66_48, h3, hc, if_false, rv_some, rn1, k4, hr, hm0, bnd_some, psh_some, Int.reduceEq, hvb, hmx, wrN, ih']
theorem da_loop (hK : KS sh R) (hS1 : WS sh R 1) (hw : okW w) (hok : okm w m) (hcl : clo w m) : ∀ (j : Nat) (I : IM) (N : Nat → Nat) (g : Bool) (c : Nat) (a3 : AV), j ≤ m.length → isW I 1 w → isMt I m → isNu8 I N → (∀ v, N v ≤ c) → c + j ≤ 5000 → ∃ I', ev S0 (d + 2) 65 9 [.inr (.inl 363), .inl (bI g), .inl ((j : Int) - 1), a3] [] (sh, I, R) = some (some (.inl (bI (rnd w m j (N, g)).2)), (sh, I', R)) ∧ isNu8 I' (rnd w m j (N, g)).1 ∧ ∀ k, k ≠ 368 → I' k = I k := by
  obtain ⟨tk, k0, k1, k2, k3, k4, hSk, t6, l6, t7, l7, t8, l8⟩ := id hK
  have tw := hS1.1
  have h30 := okm_len hok
  intro j
  induction j with
  | zero =>
    intro I N g c a3 hj hW hm hv hc hcj
    have hlt : ((0 : Nat) : Int) - 1 < 0 := by omega
    refine ⟨I, ?_, hv, fun _ _ => rfl⟩
    have hg := bI_01 g
    simp (disch := first | assumption | omega | exact Nat.le_of_ble_eq_true rfl | decide) only [u_65_9, u_65_10, u_65_68, if_pos hlt]
    rw [u_65_69 hg]
    rfl
  | succ j ih =>
    intro I N g c a3 hj hW hm hv hc hcj
    have hjl : j < m.length := by omega
    obtain ⟨e1, e2, e3, e4⟩ := vOf_at hok hjl
    have hord := hm.2.2 j _ (List.getElem?_eq_getElem hjl)
    rw [← e1] at hord
    obtain ⟨n1_, n2⟩ := hS1.2.2.2.2.2.2.2.2.2.2.1 (vOf m j) e2
    have nt := n2.1
    have hat := fun dd => s_atL (d := dd) hS1 hW e2 e3
    have hx6 := (hw.1 (vOf m j) e2).2.2.2.2.2.2.2.1
    have hdr := dr_loop (d := d) (n := 1 + 4 + 5 * vOf m j) (x := w.1 (vOf m j)) hK hok n2 hx6 (fun r hr => hcl _ e4 r (by rw [Int.toNat_natCast]; exact hr)) (hW.1 _ e2) hm hv (w.1 (vOf m j)).2.2.1.length 0 (by omega)
    have hdr : cl (d + 2) 66 [.inr (.inl 363), .inr (.inl (1 + 4 + 5 * vOf m j))] (sh, I, R) = some (some (.inl ((mx N (w.1 (vOf m j)).2.2.1 : Nat) : Int)), (sh, I, R)) := by
      have hdr : ev S0 (d + 1) 66 4 [.inr (.inl 363), .inr (.inl (1 + 4 + 5 * vOf m j)), .inl 0, .inl 0] [] (sh, I, R) = _ := hdr
      rw [c_66]
      simp (disch := first | assumption | omega | exact Nat.le_of_ble_eq_true rfl | decide) only [u_66_0, u_66_1, u_66_2, u_66_3, hdr]
    have hmc : mx N (w.1 (vOf m j)).2.2.1 ≤ c := by
      rcases mx_eq N (w.1 (vOf m j)).2.2.1 with q | ⟨r', a, b, e⟩
      · omega
      · rw [e]; exact hc _
    have hadd : wr (1 + ((mx N (w.1 (vOf m j)).2.2.1 : Nat) : Int)) = ((1 + mx N (w.1 (vOf m j)).2.2.1 : Nat) : Int) := by
      rw [wrI (by omega) (by omega)]; omega
    have hvv := hv _ e2
    have hid : ((j + 1 : Nat) : Int) - 1 = (j : Int) := by omega
    have hge : ¬ (j : Int) < 0 := by omega
    have hdec : wr ((j : Int) + -1) = (j : Int) - 1 := by rw [wrI (by omega) (by omega)]; omega
    have hr : rnd w m (j + 1) (N, g) = if N (vOf m j) < 1 + mx N (w.1 (vOf m j)).2.2.1 then rnd w m j (upN N (vOf m j) (1 + mx N (w.1 (vOf m j)).2.2.1), true) else rnd w m j (N, g) := rfl
    rw [hr, hid]
    clear hr
    generalize hxx : 1 + mx N (w.1 (vOf m j)).2.2.1 = x at hadd ⊢
    by_cases hlt : N (vOf m j) < x
    · rw [if_pos hlt]
      have hle : ¬ ((x : Nat) : Int) ≤ ((N (vOf m j) : Nat) : Int) := by clear hadd hdec; omega
      obtain ⟨I', f1, f2, f3⟩ := ih (up I 368 ((vOf m j : Nat) : Int) (x : Int)) (upN N (vOf m j) x) true (c + 1) (.inl (x : Int)) (by omega) (hW.cong (fun k _ b => upf (by omega))) (hm.cong (upf (by decide)) (upf (by decide)) (upf (by decide))) (fun i hi => by
        unfold upN
        by_cases hiv : i = vOf m j
        · rw [if_pos hiv, hiv]; exact ups
        · rw [if_neg hiv, upj (by omega)]; exact hv i hi) (fun v => by
        unfold upN
        clear hadd hdec
        split
        · omega
        · have := hc v; omega) (by omega)
      refine ⟨I', ?_, f2, fun k hk => by rw [f3 k hk, upf hk]⟩
      have f1 : ev S0 (d + 2) 65 9 [.inr (.inl 363), .inl 1, .inl ((j : Int) - 1), .inl (x : Int)] [] (sh, up I 368 ((vOf m j : Nat) : Int) (x : Int), R) = _ := f1
      rw [u_65_9]
      simp (disch := first | assumption | omega | exact Nat.le_of_ble_eq_true rfl | decide) only [u_65_10, u_65_13, u_65_14, u_65_15, u_65_16, u_65_19, u_65_20, u_65_23, u_65_24, u_65_25, u_65_28, u_65_28n, u_65_31, u_65_32, u_65_33, u_65_34, u_65_35, u_65_38, u_65_39, u_65_42, u_65_43, u_65_44, u_65_45, u_65_48, u_65_49, u_65_52, u_65_53, u_65_56, u_65_57, u_65_58, u_65_59, u_65_60, u_65_61, u_65_62, u_65_65, hge, if_false, k0, k3, k4, rv_some, hord, hat, bnd_some, psh_some, hdr, hadd, hvv, hle, hdec, f1]
    · rw [if_neg hlt]
      have hle : ((x : Nat) : Int) ≤ ((N (vOf m j) : Nat) : Int) := by clear hadd hdec; omega
      obtain ⟨I', f1, f2, f3⟩ := ih I N g c (.inl (x : Int)) (by omega) hW hm hv hc (by omega)
      refine ⟨I', ?_, f2, f3⟩
      rw [u_65_9]
      simp (disch := first | assumption | omega | exact Nat.le_of_ble_eq_true rfl | decide) only [u_65_10, u_65_13, u_65_14, u_65_15, u_65_16, u_65_19, u_65_20, u_65_23, u_65_24, u_65_25, u_65_28, u_65_28n, u_65_31, u_65_32, u_65_33, u_65_34, u_65_35, u_65_38, u_65_39, u_65_42, u_65_43, u_65_44, u_65_45, u_65_48, u_65_49, u_65_52, u_65_53, u_65_56, u_65_57, u_65_58, u_65_59, u_65_60, u_65_61, u_65_62, u_65_65, hge, if_false, k0, k3, k4, rv_some, hord, hat, bnd_some, psh_some, hdr, hadd, hvv, if_pos hle, hdec, f1]
theorem md_loop (hK : KS sh R) (hS1 : WS sh R 1) (hw : okW w) (hok : okm w m) (hcl : clo w m) (hne : 0 < m.length) : ∀ (f r : Nat) (I : IM) (N : Nat → Nat), r + f = 31 → isW I 1 w → isMt I m → isNu8 I N → (∀ v, N v ≤ 31 * r) → ∃ I', ev S0 (d + 3) 64 6 [.inr (.inl 363), .inl (r : Int)] [] (sh, I, R) = some (some (.inl (mdF w m f N)), (sh, I', R)) ∧ ∀ k, k ≠ 368 → I' k = I k := by
  obtain ⟨tk, k0, k1, k2, k3, k4, hSk, t6, l6, t7, l7, t8, l8⟩ := id hK
  have h30 := okm_len hok
  intro f
  induction f with
  | zero =>
    intro r I N hr hW hm hv hb
    have hgt : (30 : Int) < (r : Int) := by omega
    refine ⟨I, ?_, fun _ _ => rfl⟩
    simp (disch := first | assumption | omega | exact Nat.le_of_ble_eq_true rfl | decide) only [u_64_6, u_64_7, u_64_9, u_64_48, u_64_50, hgt, if_true]
    rfl
  | succ f ih =>
    intro r I N hr hW hm hv hb
    have hgt : ¬ (30 : Int) < (r : Int) := by omega
    obtain ⟨I1, e1, e2, e3⟩ := da_loop (d := d) hK hS1 hw hok hcl m.length I N false (31 * r) (.inr (.inr 1)) (Nat.le_refl _) hW hm hv hb (by omega)
    have hm10 := hm.1
    have hsub : wr ((m.length : Int) - 1) = (m.length : Int) - 1 := wrI (by omega) (by omega)
    have hda : cl (d + 3) 65 [.inr (.inl 363)] (sh, I, R) = some (some (.inl (bI (rnd w m m.length (N, false)).2)), (sh, I1, R)) := by
      have e1 : ev S0 (d + 2) 65 9 [.inr (.inl 363), .inl 0, .inl ((m.length : Int) - 1), .inr (.inr 1)] [] (sh, I, R) = _ := e1
      rw [c_65]
      simp (disch := first | assumption | omega | exact Nat.le_of_ble_eq_true rfl | decide) only [u_65_0, u_65_1, u_65_2, u_65_3, u_65_6, u_65_7, u_65_8, hm10, hsub, e1]
    have hm1 : isMt I1 m := hm.cong (e3 _ (by decide)) (e3 _ (by decide)) (e3 _ (by decide))
    have hbd := rnd_bd (w := w) (m := m) m.length N false (31 * r) hb
    have hmd : mdF w m (f + 1) N = if (rnd w m m.length (N, false)).2 = false then (((rnd w m m.length (N, false)).1 (vOf m 0) : Nat) : Int) else mdF w m f (rnd w m m.length (N, false)).1 := rfl
    rw [hmd]
    clear hmd e1
    generalize rnd w m m.length (N, false) = rr at e2 hda hbd ⊢
    rw [u_64_6]
    cases hg : rr.2 with
    | false =>
      rw [hg] at hda
      have hda : cl (d + 3) 65 [.inr (.inl 363)] (sh, I, R) = some (some (.inl 0), (sh, I1, R)) := hda
      rw [if_pos rfl]
      refine ⟨I1, ?_, e3⟩
      obtain ⟨v1, v2, v3, v4⟩ := vOf_at hok hne
      have hord := hm1.2.2 0 _ (List.getElem?_eq_getElem hne)
      rw [← v1] at hord
      have hord : I1 367 0 = ((vOf m 0 : Nat) : Int) := hord
      have hvv := e2 _ v2
      have hm11 := hm1.1
      have hpos : ¬ (m.length : Int) ≤ 0 := by omega
      simp (disch := first | assumption | omega | exact Nat.le_of_ble_eq_true rfl | decide) only [u_64_7, u_64_9, u_64_12, u_64_13, u_64_16, u_64_19, u_64_20, u_64_23, u_64_26, u_64_27, u_64_30, u_64_31, u_64_34, u_64_35, u_64_36, u_64_37, u_64_40, u_64_41, hgt, if_false, hda, bnd_some, psh_some, not_true, hm11, hpos, k3, k4, rv_some, hord, hvv]
    | true =>
      rw [hg] at hda
      have hda : cl (d + 3) 65 [.inr (.inl 363)] (sh, I, R) = some (some (.inl 1), (sh, I1, R)) := hda
      rw [if_neg (by decide)]
      obtain ⟨I2, f1, f2⟩ := ih (r + 1) I1 rr.1 (by omega) (hW.cong (fun k _ b => e3 k (by omega))) hm1 e2 (fun v => by have := hbd v; omega)
      refine ⟨I2, ?_, fun k hk => by rw [f2 k hk, e3 k hk]⟩
      simp (disch := first | assumption | omega | exact Nat.le_of_ble_eq_true rfl | decide) only [u_64_7, u_64_9, u_64_12, u_64_13, u_64_16, u_64_19, u_64_20, u_64_23, u_64_26, u_64_27, u_64_30, u_64_31, u_64_34, u_64_35, u_64_36, u_64_37, u_64_40, u_64_41, u_64_42, u_64_45, hgt, if_false, hda, bnd_some, psh_some, Int.reduceEq, not_false_eq_true, if_true, wrN, f1]
theorem s_depth (hK : KS sh R) (hS1 : WS sh R 1) (hw : okW w) (hok : okm w m) (hcl : clo w m) (hne : 0 < m.length) (hR : ∀ x ∈ m, Rch w (m.getD 0 0) x) (hW : isW I 1 w) (hm : isMt I m) : ∃ I', cl (d + 4) 64 [.inr (.inl 363)] (sh, I, R) = some (some (.inl (dep w m)), (sh, I', R)) ∧ ∀ k, k ≠ 368 → I' k = I k := by
  have tk := hK.1
  obtain ⟨I1, f1, f2, f3⟩ := s_clr (d := d + 2) (I := I) hK
  obtain ⟨I2, e1, e2⟩ := md_loop (d := d) hK hS1 hw hok hcl hne 31 0 I1 (fun _ => 0) (by omega) (hW.cong (fun k _ b => f3 k (by omega))) (hm.cong (f3 _ (by decide)) (f3 _ (by decide)) (f3 _ (by decide))) (fun i hi => f2 i hi) (fun _ => Nat.zero_le _)
  rw [mdF_dep hw hok hcl hne hR] at e1
  have e1 : ev S0 (d + 3) 64 6 [.inr (.inl 363), .inl 0] [] (sh, I1, R) = _ := e1
  refine ⟨I2, ?_, fun k hk => by rw [e2 k hk, f3 k hk]⟩
  rw [c_64]
  simp (disch := first | assumption | omega | exact Nat.le_of_ble_eq_true rfl | decide) only [u_64_0, u_64_1, u_64_4, u_64_5, f1, bnd_some, psh_none, e1]
def b_told (s : ST) (o q : Int) : Int := if ¬ liv s.1 o then -1 else if q = 0 then ((thr s.1 o).1.length : Int) else if q = 1 then ((b_shared s.1 (thr s.1 o).1 : Nat) : Int) else if q = 2 then (if dep s.1 (thr s.1 o).1 = -2 then 1 else 0) else if q = 3 then dep s.1 (thr s.1 o).1 else if q = 4 then (if ¬ (thr s.1 o).2.length ≤ 200 then -3 else ((thr s.1 o).2.length : Int)) else -1
theorem thr_first {w : WD} {o : Int} (ho : ¬ o = -1) : (thr w o).1.getD 0 0 = o ∧ 0 < (thr w o).1.length := by
  have key : ∀ (f : Nat) (r : Int) (s : List Int × List Int), s.1 <+: (walk w f r s).1 := by
    intro f
    induction f with
    | zero => intro r s; exact List.prefix_refl _
    | succ f ih =>
      intro r s
      unfold walk
      split
      · exact List.prefix_refl _
      · split
        · exact List.prefix_refl _
        · have hfold : ∀ (rs : List Int) (s : List Int × List Int), s.1 <+: (rs.foldl (fun s r => walk w f r s) s).1 := by
            intro rs
            induction rs with
            | nil => intro s; exact List.prefix_refl _
            | cons a rs ih2 => intro s; exact (ih a s).trans (ih2 _)
          exact (List.prefix_append s.1 [r]).trans (hfold _ (s.1 ++ [r], s.2 ++ hdN w (w.1 r.toNat)))
  have e : (thr w o) = ((w.1 o.toNat).2.2.1.foldl (fun s r => walk w 30 r s) ([o], hdN w (w.1 o.toNat))) := by
    show walk w (30 + 1) o ([], []) = _
    unfold walk
    rw [if_neg ho, if_neg (fun q => q rfl)]
    rfl
  have hfold : ∀ (rs : List Int) (s : List Int × List Int), s.1 <+: (rs.foldl (fun s r => walk w 30 r s) s).1 := by
    intro rs
    induction rs with
    | nil => intro s; exact List.prefix_refl _
    | cons a rs ih2 => intro s; exact (key 30 a s).trans (ih2 _)
  have h1 : [o] <+: (thr w o).1 := by rw [e]; exact hfold _ ([o], hdN w (w.1 o.toNat))
  obtain ⟨t, ht⟩ := h1
  rw [← ht]
  exact ⟨rfl, by simp⟩
theorem CC_told (hC : CS sh R) (hc : cR I s) (hs : okS s) : CE sh R I (d + 42) 107 [.inl o, .inl q] (b_told s o q, s) := by
  obtain ⟨hH, -, ⟨r2, hK⟩, -⟩ := id hC
  have tc := hH.1
  have rc := hH.2.1
  have tw := hH.2.2.1
  have tk := hK.1
  have rk1 := hK.2.2.1
  have hSk := hK.2.2.2.2.2.2.1
  have ts := hSk.1
  unfold b_told
  by_cases hl : liv s.1 o
  · rw [if_neg (Classical.not_not.mpr hl)]
    obtain ⟨h1, h2, h3, h4⟩ := thr_set hs.1 hl
    have hoo : ¬ o = -1 := by have := hl.1; omega
    obtain ⟨p1, p2⟩ := thr_first (w := s.1) hoo
    obtain ⟨I1, g1, g2, g3, g4⟩ := s_goThrough (d := d) hK hH.2.2 hs.1 hc.1 (Or.inr hl)
    have hc1 := hc.frK g4
    have g20 := g2.1
    have g30 := g3.1
    obtain ⟨i, ei, hi, hk0⟩ := liv_nat hl
    have hat := fun dd => s_atL (d := dd) hH.2.2 hc.1 hi hk0
    rw [← ei] at hat
    have hfr : ∀ I2 : IM, (∀ k, k ≠ 368 → I2 k = I1 k) → cR I2 s ∧ ∀ k, 392 ≤ k → I2 k = I k := fun I2 hf => ⟨hc1.cong (fun k hk => hf k (fun z => hk (by unfold scr; omega))) (by rw [hf _ (by decide)]), fun k hk => by rw [hf k (by omega), g4 k (by omega)]⟩
    have hstart : ∀ r : Option Res, ev S0 (d + 41) 107 22 [.inr (.inl 0), .inl o, .inl q] [.inl q] (sh, I1, R) = r → cl (d + 42) 107 [.inr (.inl 0), .inl o, .inl q] (sh, I, R) = r := by
      intro r hr
      rw [c_107]
      simp (disch := first | assumption | omega | exact Nat.le_of_ble_eq_true rfl | decide) only [u_107_0, u_107_1, u_107_4, u_107_5, u_107_8, u_107_8n, u_107_11, u_107_12, u_107_13, u_107_14, u_107_17, u_107_18, u_107_21, rc, r2, rv_some, hat, bnd_some, psh_some, psh_none, g1]
      exact hr
    by_cases q0 : q = 0
    · rw [if_pos q0]
      refine ⟨I1, hstart _ ?_, hc1, fun k hk => g4 k (by omega)⟩
      rw [q0]
      simp (disch := first | assumption | omega | exact Nat.le_of_ble_eq_true rfl | decide) only [u_107_22, u_107_56, u_107_57, u_107_60, u_107_63, u_107_64, u_107_65, u_107_68, u_107_71, u_107_72, u_107_73, u_107_76, u_107_79, u_107_81, u_107_84, u_107_85, u_107_88, u_107_89, u_107_90, u_107_91, u_107_94, u_107_97, u_107_98, u_107_99, u_107_102, u_107_105, u_107_108, u_107_111, u_107_113, u_107_116, u_107_117, u_107_120, u_107_123, u_107_126, u_107_127, u_107_128, ev_sw, ev_sw0, Int.natCast_zero, Int.cast_ofNat_Int, Int.reduceEq, if_true, if_false, r2, rv_some, g20]
    · rw [if_neg q0]
      by_cases q1 : q = 1
      · rw [if_pos q1]
        obtain ⟨I2, f1, f2⟩ := s_shared (d := d + 38) hK hH.2.2 hs.1 h1 h2 hc1.1 g2
        obtain ⟨b1, b2⟩ := hfr I2 f2
        refine ⟨I2, hstart _ ?_, b1, b2⟩
        rw [q1]
        simp (disch := first | assumption | omega | exact Nat.le_of_ble_eq_true rfl | decide) only [u_107_22, u_107_56, u_107_57, u_107_60, u_107_63, u_107_64, u_107_65, u_107_68, u_107_71, u_107_72, u_107_73, u_107_76, u_107_79, u_107_81, u_107_84, u_107_85, u_107_88, u_107_89, u_107_90, u_107_91, u_107_94, u_107_97, u_107_98, u_107_99, u_107_102, u_107_105, u_107_108, u_107_111, u_107_113, u_107_116, u_107_117, u_107_120, u_107_123, u_107_126, u_107_127, u_107_128, ev_sw, ev_sw0, Int.natCast_zero, Int.cast_ofNat_Int, Int.reduceEq, if_true, if_false, r2, rv_some, f1, bnd_some, psh_some]
      · rw [if_neg q1]
        obtain ⟨I2, f1, f2⟩ := s_depth (d := d + 37) hK hH.2.2 hs.1 h1 h2 p2 (by rw [p1]; exact h4) hc1.1 g2
        obtain ⟨b1, b2⟩ := hfr I2 f2
        by_cases q2 : q = 2
        · rw [if_pos q2]
          refine ⟨I2, hstart _ ?_, b1, b2⟩
          rw [q2]
          by_cases hd : dep s.1 (thr s.1 o).1 = -2
          · rw [if_pos hd]
            rw [hd] at f1
            simp (disch := first | assumption | omega | exact Nat.le_of_ble_eq_true rfl | decide) only [u_107_22, u_107_56, u_107_57, u_107_60, u_107_63, u_107_64, u_107_65, u_107_68, u_107_71, u_107_72, u_107_73, u_107_76, u_107_79, u_107_81, u_107_84, u_107_85, u_107_88, u_107_89, u_107_90, u_107_91, u_107_94, u_107_97, u_107_98, u_107_99, u_107_102, u_107_105, u_107_108, u_107_111, u_107_113, u_107_116, u_107_117, u_107_120, u_107_123, u_107_126, u_107_127, u_107_128, ev_sw, ev_sw0, Int.natCast_zero, Int.cast_ofNat_Int, Int.reduceEq, if_true, if_false, r2, rv_some, f1, bnd_some, psh_some, not_true]
          · rw [if_neg hd]
            simp (disch := first | assumption | omega | exact Nat.le_of_ble_eq_true rfl | decide) only [u_107_22, u_107_56, u_107_57, u_107_60, u_107_63, u_107_64, u_107_65, u_107_68, u_107_71, u_107_72, u_107_73, u_107_76, u_107_79, u_107_81, u_107_84, u_107_85, u_107_88, u_107_89, u_107_90, u_107_91, u_107_94, u_107_97, u_107_98, u_107_99, u_107_102, u_107_105, u_107_108, u_107_111, u_107_113, u_107_116, u_107_117, u_107_120, u_107_123, u_107_126, u_107_127, u_107_128, ev_sw, ev_sw0, Int.natCast_zero, Int.cast_ofNat_Int, Int.reduceEq, if_true, if_false, r2, rv_some, f1, bnd_some, psh_some, hd, not_false_eq_true]
        · rw [if_neg q2]
          by_cases q3 : q = 3
          · rw [if_pos q3]
            refine ⟨I2, hstart _ ?_, b1, b2⟩
            rw [q3]
            simp (disch := first | assumption | omega | exact Nat.le_of_ble_eq_true rfl | decide) only [u_107_22, u_107_56, u_107_57, u_107_60, u_107_63, u_107_64, u_107_65, u_107_68, u_107_71, u_107_72, u_107_73, u_107_76, u_107_79, u_107_81, u_107_84, u_107_85, u_107_88, u_107_89, u_107_90, u_107_91, u_107_94, u_107_97, u_107_98, u_107_99, u_107_102, u_107_105, u_107_108, u_107_111, u_107_113, u_107_116, u_107_117, u_107_120, u_107_123, u_107_126, u_107_127, u_107_128, ev_sw, ev_sw0, Int.natCast_zero, Int.cast_ofNat_Int, Int.reduceEq, if_true, if_false, r2, rv_some, f1, bnd_some, psh_some]
          · rw [if_neg q3]
            by_cases q4 : q = 4
            · rw [if_pos q4]
              refine ⟨I1, hstart _ ?_, hc1, fun k hk => g4 k (by omega)⟩
              rw [q4]
              by_cases hn : (thr s.1 o).2.length ≤ 200
              · rw [if_neg (Classical.not_not.mpr hn)]
                have hn2 : ((thr s.1 o).2.length : Int) ≤ 200 := by omega
                simp (disch := first | assumption | omega | exact Nat.le_of_ble_eq_true rfl | decide) only [u_107_22, u_107_56, u_107_57, u_107_60, u_107_63, u_107_64, u_107_65, u_107_68, u_107_71, u_107_72, u_107_73, u_107_76, u_107_79, u_107_81, u_107_84, u_107_85, u_107_88, u_107_89, u_107_90, u_107_91, u_107_94, u_107_97, u_107_98, u_107_99, u_107_102, u_107_105, u_107_108, u_107_111, u_107_113, u_107_116, u_107_117, u_107_120, u_107_123, u_107_126, u_107_127, u_107_128, ev_sw, ev_sw0, Int.natCast_zero, Int.cast_ofNat_Int, Int.reduceEq, if_true, if_false, r2, rk1, rv_some, s_tooLong ts, g30, if_pos hn2, bnd_some, psh_some]
              · rw [if_pos hn]
                have hn2 : ¬ ((thr s.1 o).2.length : Int) ≤ 200 := by omega
                simp (disch := first | assumption | omega | exact Nat.le_of_ble_eq_true rfl | decide) only [u_107_22, u_107_56, u_107_57, u_107_60, u_107_63, u_107_64, u_107_65, u_107_68, u_107_71, u_107_72, u_107_73, u_107_76, u_107_79, u_107_81, u_107_84, u_107_85, u_107_88, u_107_89, u_107_90, u_107_91, u_107_94, u_107_97, u_107_98, u_107_99, u_107_102, u_107_105, u_107_108, u_107_111, u_107_113, u_107_116, u_107_117, u_107_120, u_107_123, u_107_126, u_107_127, u_107_128, ev_sw, ev_sw0, Int.natCast_zero, Int.cast_ofNat_Int, Int.reduceEq, if_true, if_false, r2, rk1, rv_some, s_tooLong ts, g30, if_neg hn2, bnd_some, psh_some]
            · rw [if_neg q4]
              refine ⟨I1, hstart _ ?_, hc1, fun k hk => g4 k (by omega)⟩
              simp (disch := first | assumption | omega | exact Nat.le_of_ble_eq_true rfl | decide) only [u_107_22, u_107_127, u_107_128, ev_sw, ev_sw0, Int.natCast_zero, Int.cast_ofNat_Int, q0, q1, q2, q3, q4, if_false]
  · rw [if_pos hl]
    refine CE.same hc ?_
    rw [c_107]
    simp (disch := first | assumption | omega | exact Nat.le_of_ble_eq_true rfl | decide) only [u_107_0, u_107_1, u_107_4, u_107_5, u_107_8, u_107_8n, u_107_11, u_107_12, rc, rv_some, s_atN hH.2.2 hc.1 (not_live hl), bnd_some, psh_some]
/-! the model's -/
theorem ly_loop (hX : MX sh R) (hW : isM I 393 w) (hw : okW w) (hok : okm w m) {k : Nat} {a1 : AV} : ∀ (f j : Nat), j + f = 30 → ev S0 (d + 2) 193 14 [.inr (.inl 392), a1, .inl ((bs (layB w m k) : Nat) : Int), .inl (k : Int), .inl ((bs (fun i => decide (i < j) && layB w m (k + 1) i) : Nat) : Int), .inl (j : Int)] [] (sh, I, R) = ev S0 (d + 2) 193 61 [.inr (.inl 392), a1, .inl ((bs (layB w m k) : Nat) : Int), .inl (k : Int), .inl ((bs (layB w m (k + 1)) : Nat) : Int), .inl 30] [] (sh, I, R) := by
  have t := hX.1.1
  intro f
  induction f with
  | zero =>
    intro j hj
    obtain rfl : j = 30 := by omega
    have hc : (30 : Int) ≤ 30 := by omega
    have e : bs (fun i => decide (i < 30) && layB w m (k + 1) i) = bs (layB w m (k + 1)) := bs_congr (fun i hi => by rw [decide_eq_true hi, Bool.true_and])
    rw [e]
    simp (disch := first | assumption | omega | exact Nat.le_of_ble_eq_true rfl | decide) only [u_193_14, u_193_16, u_193_18, Int.cast_ofNat_Int, if_pos hc]
  | succ f ih =>
    intro j hj
    have hc : ¬ (30 : Int) ≤ (j : Int) := by omega
    have ih' := ih (j + 1) (by omega)
    clear ih
    have hsr := bs_shr (layB w m k) (k := j) (by omega)
    have hno : layB w m (k + 1) j = false → bs (fun i => decide (i < j + 1) && layB w m (k + 1) i) = bs (fun i => decide (i < j) && layB w m (k + 1) i) := fun h => bs_congr (fun i hi => by
      by_cases hij : i = j
      · subst hij
        rw [h, Bool.and_false, Bool.and_false]
      · have : (i < j + 1) ↔ (i < j) := by omega
        simp only [this])
    rw [u_193_14]
    by_cases hk : layB w m k j = true
    · rw [if_pos hk] at hsr
      have hlv := (hok.2 _ (layB_mem hk)).2.2
      rw [Int.toNat_natCast] at hlv
      have hnx := m_next (d := d) hX.1 hW hw (show j < 30 by omega) hlv
      have hand := bs_and (nx w j) (layB w m k)
      by_cases hs : layB w m (k + 1) j = true
      · obtain ⟨r, hr, hrm, hrl⟩ := (layB_s.mp hs).2
        have hne : ¬ ((bs (fun i => nx w j i && layB w m k i) : Nat) : Int) = 0 := fun z => by
          have := bs_nil.mp z r hr
          rw [hrl, Bool.and_true] at this
          have h2 : nx w j r = true := decide_eq_true hrm
          rw [h2] at this
          cases this
        have hor := bs_or (fun i => decide (i < j) && layB w m (k + 1) i) (fun i => decide (i = j))
        have e : bs (fun i => (decide (i < j) && layB w m (k + 1) i) || decide (i = j)) = bs (fun i => decide (i < j + 1) && layB w m (k + 1) i) := bs_congr (fun i hi => by
          by_cases hij : i = j
          · subst hij
            rw [hs]
            simp
          · have : (i < j + 1) ↔ (i < j) := by omega
            simp only [this, hij, decide_false, Bool.or_false])
        rw [e] at hor
        have hsh := bs_shl (k := j) (by omega)
        simp (disch := first | assumption | omega | exact Nat.le_of_ble_eq_true rfl | decide) only [u_193_16, u_193_18, u_193_21, u_193_23, u_193_24, u_193_26, u_193_27, u_193_28, u_193_29, u_193_30, u_193_33, u_193_34, u_193_36, u_193_39, u_193_40, u_193_41, u_193_44, u_193_45, u_193_47, u_193_48, u_193_51, u_193_52, u_193_53, u_193_55, u_193_58, hc, if_false, hsr, not_true, hnx, bnd_some, psh_some, hand, hne, hsh, hor, wrI, n1, ih']
      · have hs0 : layB w m (k + 1) j = false := by simpa using hs
        have hz : ((bs (fun i => nx w j i && layB w m k i) : Nat) : Int) = 0 := bs_nil.mpr (fun i hi => by
          have : ¬ (nx w j i && layB w m k i) = true := fun z => by
            rw [Bool.and_eq_true] at z
            exact hs (layB_s.mpr ⟨hk, i, hi, of_decide_eq_true z.1, z.2⟩)
          simpa using this)
        rw [hno hs0] at ih'
        simp (disch := first | assumption | omega | exact Nat.le_of_ble_eq_true rfl | decide) only [u_193_16, u_193_18, u_193_21, u_193_23, u_193_24, u_193_26, u_193_27, u_193_28, u_193_29, u_193_30, u_193_33, u_193_34, u_193_36, u_193_39, u_193_40, u_193_41, u_193_44, u_193_45, u_193_47, u_193_48, u_193_51, u_193_52, u_193_53, u_193_55, u_193_58, hc, if_false, if_true, hsr, not_true, hnx, bnd_some, psh_some, hand, hz, bs_or0, wrI, n1, ih']
    · rw [if_neg hk] at hsr
      have hs0 : layB w m (k + 1) j = false := by
        have : ¬ layB w m (k + 1) j = true := fun z => hk (layB_s.mp z).1
        simpa using this
      rw [hno hs0] at ih'
      simp (disch := first | assumption | omega | exact Nat.le_of_ble_eq_true rfl | decide) only [u_193_16, u_193_18, u_193_21, u_193_23, u_193_24, u_193_26, u_193_27, u_193_28, u_193_29, u_193_30, u_193_33, u_193_34, u_193_36, u_193_39, u_193_40, u_193_41, u_193_44, u_193_45, u_193_47, u_193_48, u_193_51, u_193_52, u_193_53, u_193_55, u_193_58, hc, if_false, if_true, hsr, Int.reduceEq, not_false_eq_true, bs_or0, wrI, n1, ih']
theorem m_layers (hX : MX sh R) (hW : isM I 393 w) (hw : okW w) (hok : okm w m) : cl (d + 3) 193 [.inr (.inl 392), .inl ((bs (mb m) : Nat) : Int)] (sh, I, R) = some (some (.inl (dep w m)), (sh, I, R)) := by
  have main : ∀ (f k : Nat) (a1 a4 a5 : AV), k + f = 31 → cnt (layB w m k) < f → ev S0 (d + 2) 193 4 [.inr (.inl 392), a1, .inl ((bs (layB w m k) : Nat) : Int), .inl (k : Int), a4, a5] [] (sh, I, R) = some (some (.inl (lays w m f k)), (sh, I, R)) := by
    intro f
    induction f with
    | zero => intro k a1 a4 a5 _ h; omega
    | succ f ih =>
      intro k a1 a4 a5 hk hcn
      have hly : lays w m (f + 1) k = if bs (layB w m k) = 0 then (k : Int) else if bs (layB w m (k + 1)) = bs (layB w m k) then -2 else lays w m f (k + 1) := rfl
      rw [hly]
      by_cases h0 : bs (layB w m k) = 0
      · rw [if_pos h0, h0]
        simp (disch := first | assumption | omega | exact Nat.le_of_ble_eq_true rfl | decide) only [u_193_4, u_193_5, u_193_79, u_193_80, Int.natCast_zero, Int.cast_ofNat_Int, if_true]
      · rw [if_neg h0]
        have h0' : ¬ ((bs (layB w m k) : Nat) : Int) = 0 := by omega
        have hin := ly_loop (d := d) (k := k) (a1 := a1) hX hW hw hok 30 0 (by omega)
        have z0 : bs (fun i => decide (i < 0) && layB w m (k + 1) i) = 0 := by
          have := bs_congr (f := fun i => decide (i < 0) && layB w m (k + 1) i) (g := fun _ => false) (fun i _ => by simp)
          rw [this]; rfl
        rw [z0] at hin
        have hin : ev S0 (d + 2) 193 14 [.inr (.inl 392), a1, .inl ((bs (layB w m k) : Nat) : Int), .inl (k : Int), .inl 0, .inl 0] [] (sh, I, R) = _ := hin
        by_cases h1 : bs (layB w m (k + 1)) = bs (layB w m k)
        · rw [if_pos h1]
          rw [u_193_4]
          simp (disch := first | assumption | omega | exact Nat.le_of_ble_eq_true rfl | decide) only [u_193_5, u_193_8, u_193_9, u_193_11, u_193_12, h0', if_false, hin]
          have h1' : ((bs (layB w m (k + 1)) : Nat) : Int) = ((bs (layB w m k) : Nat) : Int) := by rw [h1]
          simp (disch := first | assumption | omega | exact Nat.le_of_ble_eq_true rfl | decide) only [u_193_61, u_193_63, u_193_64, u_193_67, u_193_69, h1', not_true, if_false]
        · rw [if_neg h1]
          have h1' : ¬ ((bs (layB w m (k + 1)) : Nat) : Int) = ((bs (layB w m k) : Nat) : Int) := by omega
          have hlt := lay_cnt h1
          have ih' := ih (k + 1) a1 (.inl ((bs (layB w m (k + 1)) : Nat) : Int)) (.inl 30) (by omega) (by omega)
          rw [u_193_4]
          simp (disch := first | assumption | omega | exact Nat.le_of_ble_eq_true rfl | decide) only [u_193_5, u_193_8, u_193_9, u_193_11, u_193_12, h0', if_false, hin]
          simp (disch := first | assumption | omega | exact Nat.le_of_ble_eq_true rfl | decide) only [u_193_61, u_193_63, u_193_64, u_193_67, u_193_69, u_193_70, u_193_72, u_193_73, u_193_76, h1', not_false_eq_true, if_true, wrI, n1, ih']
  have hc := cnt_le (layB w m 0)
  have e := main 31 0 (.inl ((bs (mb m) : Nat) : Int)) (.inr (.inr 1)) (.inr (.inr 1)) (by omega) (by omega)
  have e : ev S0 (d + 2) 193 4 [.inr (.inl 392), .inl ((bs (mb m) : Nat) : Int), .inl ((bs (mb m) : Nat) : Int), .inl 0, .inr (.inr 1), .inr (.inr 1)] [] (sh, I, R) = _ := e
  rw [c_193]
  simp (disch := first | assumption | omega | exact Nat.le_of_ble_eq_true rfl | decide) only [u_193_0, u_193_1, u_193_2, u_193_3, e]
  rfl
theorem MM_told (hX : MX sh R) (hm : mR I s) (hs : okS s) : ME sh R I (d + 41) 194 [.inl o, .inl q] (b_told s o q, s) := by
  have t9 := hX.1.1
  unfold b_told
  by_cases hl : liv s.1 o
  · rw [if_neg (Classical.not_not.mpr hl)]
    obtain ⟨h1, h2, h3, h4⟩ := thr_set hs.1 hl
    have ho1 := fun dd => m_isObject (d := dd) (x := o) hX.1 hm.1
    simp only [if_pos hl] at ho1
    by_cases hq : 0 ≤ q ∧ q ≤ 4
    · have hin := fun dd => m_in (d := dd) (sh := sh) (I := I) (R := R) (x := q) (y := 0) (z := 4)
      simp only [if_pos hq] at hin
      obtain ⟨i, ei, hi, hk0⟩ := liv_nat hl
      have hr := m_reach1 (d := d + 37) (j := i) hX.1 hm.1 hs.1 (by rw [← ei]; exact hl)
      rw [← ei] at hr
      have hstart : ∀ r : Option Res, ev S0 (d + 40) 194 28 [.inr (.inl 392), .inl o, .inl q, .inl ((bs (mb (thr s.1 o).1) : Nat) : Int)] [.inl q] (sh, I, R) = r → cl (d + 41) 194 [.inr (.inl 392), .inl o, .inl q] (sh, I, R) = r := by
        intro r hr'
        rw [c_194]
        simp (disch := first | assumption | omega | exact Nat.le_of_ble_eq_true rfl | decide) only [u_194_0, u_194_1, u_194_2, u_194_5, u_194_8, u_194_9, u_194_10, u_194_11, u_194_14, u_194_17, u_194_18, u_194_19, u_194_20, u_194_21, u_194_22, u_194_23, u_194_26, u_194_27, ho1, hin, bnd_some, psh_some, Int.reduceEq, not_false_eq_true, if_true, if_false, hr]
        exact hr'
      by_cases q0 : q = 0
      · rw [if_pos q0]
        refine ME.same hm (hstart _ ?_)
        have hb := fun dd => m_bitCount (d := dd) (sh := sh) (R := R) (I := I) (mb (thr s.1 o).1)
        have hcm := cnt_mem h1
        unfold cnt at hcm
        simp only [hcm] at hb
        rw [q0]
        simp (disch := first | assumption | omega | exact Nat.le_of_ble_eq_true rfl | decide) only [u_194_28, u_194_60, u_194_61, u_194_64, u_194_65, u_194_66, u_194_67, u_194_70, u_194_71, u_194_72, u_194_73, u_194_76, u_194_78, u_194_81, u_194_82, u_194_85, u_194_86, u_194_87, u_194_88, u_194_89, u_194_92, u_194_93, u_194_94, u_194_95, u_194_98, u_194_101, u_194_102, u_194_105, u_194_108, u_194_110, ev_sw, ev_sw0, Int.natCast_zero, Int.cast_ofNat_Int, Int.reduceEq, if_true, if_false, hb, bnd_some, psh_some]
      · rw [if_neg q0]
        by_cases q1 : q = 1
        · rw [if_pos q1]
          refine ME.same hm (hstart _ ?_)
          rw [q1]
          simp (disch := first | assumption | omega | exact Nat.le_of_ble_eq_true rfl | decide) only [u_194_28, u_194_60, u_194_61, u_194_64, u_194_65, u_194_66, u_194_67, u_194_70, u_194_71, u_194_72, u_194_73, u_194_76, u_194_78, u_194_81, u_194_82, u_194_85, u_194_86, u_194_87, u_194_88, u_194_89, u_194_92, u_194_93, u_194_94, u_194_95, u_194_98, u_194_101, u_194_102, u_194_105, u_194_108, u_194_110, ev_sw, ev_sw0, Int.natCast_zero, Int.cast_ofNat_Int, Int.reduceEq, if_true, if_false, m_shared hX hm.1 hs.1 h1, bnd_some, psh_some]
        · rw [if_neg q1]
          by_cases q2 : q = 2
          · rw [if_pos q2]
            refine ME.same hm (hstart _ ?_)
            rw [q2]
            have hly := m_layers (d := d + 37) hX hm.1 hs.1 h1
            by_cases hd : dep s.1 (thr s.1 o).1 = -2
            · rw [if_pos hd]
              rw [hd] at hly
              simp (disch := first | assumption | omega | exact Nat.le_of_ble_eq_true rfl | decide) only [u_194_28, u_194_60, u_194_61, u_194_64, u_194_65, u_194_66, u_194_67, u_194_70, u_194_71, u_194_72, u_194_73, u_194_76, u_194_78, u_194_81, u_194_82, u_194_85, u_194_86, u_194_87, u_194_88, u_194_89, u_194_92, u_194_93, u_194_94, u_194_95, u_194_98, u_194_101, u_194_102, u_194_105, u_194_108, u_194_110, ev_sw, ev_sw0, Int.natCast_zero, Int.cast_ofNat_Int, Int.reduceEq, if_true, if_false, hly, bnd_some, psh_some, not_true]
            · rw [if_neg hd]
              simp (disch := first | assumption | omega | exact Nat.le_of_ble_eq_true rfl | decide) only [u_194_28, u_194_60, u_194_61, u_194_64, u_194_65, u_194_66, u_194_67, u_194_70, u_194_71, u_194_72, u_194_73, u_194_76, u_194_78, u_194_81, u_194_82, u_194_85, u_194_86, u_194_87, u_194_88, u_194_89, u_194_92, u_194_93, u_194_94, u_194_95, u_194_98, u_194_101, u_194_102, u_194_105, u_194_108, u_194_110, ev_sw, ev_sw0, Int.natCast_zero, Int.cast_ofNat_Int, Int.reduceEq, if_true, if_false, hly, bnd_some, psh_some, hd, not_false_eq_true]
          · rw [if_neg q2]
            by_cases q3 : q = 3
            · rw [if_pos q3]
              refine ME.same hm (hstart _ ?_)
              rw [q3]
              simp (disch := first | assumption | omega | exact Nat.le_of_ble_eq_true rfl | decide) only [u_194_28, u_194_60, u_194_61, u_194_64, u_194_65, u_194_66, u_194_67, u_194_70, u_194_71, u_194_72, u_194_73, u_194_76, u_194_78, u_194_81, u_194_82, u_194_85, u_194_86, u_194_87, u_194_88, u_194_89, u_194_92, u_194_93, u_194_94, u_194_95, u_194_98, u_194_101, u_194_102, u_194_105, u_194_108, u_194_110, ev_sw, ev_sw0, Int.natCast_zero, Int.cast_ofNat_Int, Int.reduceEq, if_true, if_false, m_layers hX hm.1 hs.1 h1, bnd_some, psh_some]
            · rw [if_neg q3]
              have q4 : q = 4 := by omega
              rw [if_pos q4]
              obtain ⟨I1, g1, g2, g3⟩ := m_isSaved (d := d) hX hs.1 hm.1 (Or.inr hl)
              have g20 := g2.1
              refine ⟨I1, hstart _ ?_, hm.frT g3, fun k hk => g3.1 k (by omega) (by omega) (by omega) (by omega)⟩
              rw [q4]
              by_cases hn : (thr s.1 o).2.length ≤ 200
              · rw [if_neg (Classical.not_not.mpr hn)]
                rw [if_pos hn] at g1
                simp (disch := first | assumption | omega | exact Nat.le_of_ble_eq_true rfl | decide) only [u_194_28, u_194_60, u_194_61, u_194_64, u_194_65, u_194_66, u_194_67, u_194_70, u_194_71, u_194_72, u_194_73, u_194_76, u_194_78, u_194_81, u_194_82, u_194_85, u_194_86, u_194_87, u_194_88, u_194_89, u_194_92, u_194_93, u_194_94, u_194_95, u_194_98, u_194_101, u_194_102, u_194_105, u_194_108, u_194_110, ev_sw, ev_sw0, Int.natCast_zero, Int.cast_ofNat_Int, Int.reduceEq, if_true, if_false, g1, g20, bnd_some, psh_some]
              · rw [if_pos hn]
                rw [if_neg hn] at g1
                simp (disch := first | assumption | omega | exact Nat.le_of_ble_eq_true rfl | decide) only [u_194_28, u_194_60, u_194_61, u_194_64, u_194_65, u_194_66, u_194_67, u_194_70, u_194_71, u_194_72, u_194_73, u_194_76, u_194_78, u_194_81, u_194_82, u_194_85, u_194_86, u_194_87, u_194_88, u_194_89, u_194_92, u_194_93, u_194_94, u_194_95, u_194_98, u_194_101, u_194_102, u_194_105, u_194_108, u_194_110, ev_sw, ev_sw0, Int.natCast_zero, Int.cast_ofNat_Int, Int.reduceEq, if_true, if_false, g1, bnd_some, psh_some]
    · rw [if_neg (by omega), if_neg (by omega), if_neg (by omega), if_neg (by omega), if_neg (by omega)]
      refine ME.same hm ?_
      rw [c_194]
      simp (disch := first | assumption | omega | exact Nat.le_of_ble_eq_true rfl | decide) only [u_194_0, u_194_1, u_194_2, u_194_5, u_194_8, u_194_9, u_194_10, u_194_11, u_194_14, u_194_17, u_194_18, ho1, m_in, if_neg hq, bnd_some, psh_some, Int.reduceEq, not_true, if_false]
  · rw [if_pos hl]
    refine ME.same hm ?_
    rw [c_194]
    simp (disch := first | assumption | omega | exact Nat.le_of_ble_eq_true rfl | decide) only [u_194_0, u_194_1, u_194_2, u_194_5, u_194_8, u_194_9, u_194_10, u_194_11, u_194_14, u_194_17, u_194_18, m_isObject hX.1 hm.1, if_neg hl, bnd_some, psh_some, if_true]
end TLD
