/-! WHAT IS SHARED -/
theorem sumN_if (i0 c : Nat) : ∀ n, sumN (fun o => if o = i0 then c else 0) n = if i0 < n then c else 0
  | 0 => by rw [if_neg (by omega)]; rfl
  | n + 1 => by
    rw [sumN_step, sumN_if i0 c n]
    by_cases h : n = i0
    · subst h
      rw [if_neg (by omega), if_pos rfl, if_pos (by omega)]
      omega
    · rw [if_neg h]
      by_cases h2 : i0 < n
      · rw [if_pos h2, if_pos (by omega)]; rfl
      · rw [if_neg h2, if_neg (by omega)]
theorem sum_mem (f : Int → Nat) : ∀ m : List Int, m.Nodup → (∀ x ∈ m, ∃ i : Nat, x = (i : Int) ∧ i < 30) → (m.map f).sum = sumN (fun o => if (o : Int) ∈ m then f (o : Int) else 0) 30
  | [], _, _ => by
    have : ∀ n, sumN (fun o => if (o : Int) ∈ ([] : List Int) then f (o : Int) else 0) n = 0 := by
      intro n
      induction n with
      | zero => rfl
      | succ n ih => rw [sumN_step, ih, if_neg (fun q => by cases q)]
    rw [this]; rfl
  | x :: m, hn, hb => by
    rw [List.nodup_cons] at hn
    obtain ⟨i, rfl, hi⟩ := hb x List.mem_cons_self
    have ih := sum_mem f m hn.2 (fun y hy => hb y (List.mem_cons_of_mem _ hy))
    have e := sumN_add (f := fun o => if (o : Int) ∈ m then f (o : Int) else 0) (g := fun o => if o = i then f (i : Int) else 0) (h := fun o => if (o : Int) ∈ (i : Int) :: m then f (o : Int) else 0) 30 (fun o ho => by
      by_cases hoi : o = i
      · subst hoi
        rw [if_pos List.mem_cons_self, if_neg hn.1, if_pos rfl, Nat.zero_add]
      · rw [if_neg hoi]
        by_cases hm : (o : Int) ∈ m
        · rw [if_pos (List.mem_cons_of_mem _ hm), if_pos hm, Nat.add_zero]
        · rw [if_neg hm, if_neg (fun q => by
            rcases List.mem_cons.mp q with q | q
            · omega
            · exact hm q)])
    rw [e, sumN_if, if_pos hi, ← ih, List.map_cons, List.sum_cons, Nat.add_comm]
theorem okm_nat {w : WD} {m : List Int} (h : okm w m) : ∀ x ∈ m, ∃ i : Nat, x = (i : Int) ∧ i < 30 := fun x hx => by
  obtain ⟨i, e, hi, -⟩ := liv_nat (h.2 x hx)
  exact ⟨i, e, hi⟩
theorem cnt_mem {w : WD} {m : List Int} (h : okm w m) : cnt (mb m) = m.length := by
  have := sum_mem (fun _ => 1) m h.1 (okm_nat h)
  have e : (m.map (fun _ => 1)).sum = m.length := by
    clear this h
    induction m with
    | nil => rfl
    | cons a m ih => rw [List.map_cons, List.sum_cons, ih, List.length_cons]; omega
  rw [← e, this]
  refine sumN_congr 30 (fun i _ => ?_)
  unfold mb
  by_cases hm : (i : Int) ∈ m
  · rw [if_pos hm, if_pos (decide_eq_true hm)]
  · rw [if_neg hm, if_neg (by rw [decide_eq_false hm]; decide)]
def crf (w : WD) (m : List Int) (i : Int) : Nat := (m.map (fun x => (w.1 x.toNat).2.2.1.count i)).sum
def b_shared (w : WD) (m : List Int) : Nat := sumN (fun i => if 2 ≤ crf w m (i : Int) then 1 else 0) 30
theorem crf_step {w : WD} {m : List Int} {j : Nat} (hj : j < m.length) (i : Int) : crf w (m.take (j + 1)) i = crf w (m.take j) i + (w.1 (m[j]).toNat).2.2.1.count i := by
  unfold crf
  rw [List.take_succ_eq_append_getElem hj, List.map_append, List.sum_append]
  simp
theorem crf_le {w : WD} (hw : okW w) {m : List Int} (h : okm w m) (i : Int) : ∀ j, j ≤ m.length → crf w (m.take j) i ≤ 6 * j
  | 0, _ => by unfold crf; simp
  | j + 1, hj => by
    have := crf_le hw h i j (by omega)
    rw [crf_step (by omega)]
    obtain ⟨o, e, ho, -⟩ := liv_nat (h.2 m[j] (List.getElem_mem (by omega)))
    rw [e, Int.toNat_natCast]
    have h1 := (hw.1 o ho).2.2.2.2.2.2.2.1
    have h2 : (w.1 o).2.2.1.count i ≤ (w.1 o).2.2.1.length := List.count_le_length
    omega
theorem take_count {l : List Int} {j : Nat} (hj : j < l.length) (i : Int) : (l.take (j + 1)).count i = (l.take j).count i + (if l[j] = i then 1 else 0) := by
  rw [List.take_succ_eq_append_getElem hj, List.count_append, List.count_singleton]
  congr 1
  by_cases h : l[j] = i
  · rw [if_pos h, if_pos (by rw [h]; exact beq_self_eq_true i)]
  · rw [if_neg h, if_neg (fun q => h (eq_of_beq q))]
section SHR
variable {sh : Shp} {R : RM} {I : IM} {d : Nat} {s : ST} {w : WD} {m : List Int}
theorem clr_loop (hK : KS sh R) : ∀ (k j : Nat) (I : IM), j + k = 30 → (∀ i : Nat, i < j → I 368 (i : Int) = 0) → ∃ I', ev S0 d 62 2 [.inr (.inl 363), .inl (j : Int)] [] (sh, I, R) = some (none, (sh, I', R)) ∧ (∀ i : Nat, i < 30 → I' 368 (i : Int) = 0) ∧ ∀ k, k ≠ 368 → I' k = I k := by
  obtain ⟨tk, k0, k1, k2, k3, k4, hSk, t6, l6, t7, l7, t8, l8⟩ := id hK
  intro k
  induction k with
  | zero =>
    intro j I hj h
    obtain rfl : j = 30 := by omega
    have hc : (30 : Int) ≤ 30 := by omega
    refine ⟨I, ?_, h, fun _ _ => rfl⟩
    simp (disch := first | assumption | omega | exact Nat.le_of_ble_eq_true rfl | decide) only [u_62_2, u_62_3, u_62_5, u_62_21, Int.cast_ofNat_Int, if_pos hc]
  | succ k ih =>
    intro j I hj h
    have hc : ¬ (30 : Int) ≤ (j : Int) := by omega
    obtain ⟨I', e1, e2, e3⟩ := ih (j + 1) (up I 368 (j : Int) 0) (by omega) (fun i hi => by
      by_cases hij : i = j
      · subst hij; exact ups
      · rw [upj (by omega)]; exact h i (by omega))
    refine ⟨I', ?_, e2, fun k hk => by rw [e3 k hk, upf hk]⟩
    rw [u_62_2]
    simp (disch := first | assumption | omega | exact Nat.le_of_ble_eq_true rfl | decide) only [u_62_3, u_62_5, u_62_8, u_62_9, u_62_12, u_62_13, u_62_14, u_62_15, u_62_18, hc, if_false, k4, rv_some, wrN, e1]
theorem s_clr (hK : KS sh R) : ∃ I', cl (d + 1) 62 [.inr (.inl 363)] (sh, I, R) = some (none, (sh, I', R)) ∧ (∀ i : Nat, i < 30 → I' 368 (i : Int) = 0) ∧ ∀ k, k ≠ 368 → I' k = I k := by
  obtain ⟨I', e1, e2, e3⟩ := clr_loop (d := d) hK 30 0 I (by omega) (fun i hi => by omega)
  have e1 : ev S0 d 62 2 [.inr (.inl 363), .inl 0] [] (sh, I, R) = some (none, (sh, I', R)) := e1
  refine ⟨I', ?_, e2, e3⟩
  rw [c_62]
  simp (disch := first | assumption | omega | exact Nat.le_of_ble_eq_true rfl | decide) only [u_62_0, u_62_1, e1]
theorem cr_loop (hK : KS sh R) (hok : okm w m) {n : Nat} (hN : NS sh R n) (hn : n + 4 < 363) {x : ND} (hx6 : x.2.2.1.length ≤ 6) (hx : ∀ r ∈ x.2.2.1, r = -1 ∨ r ∈ m) {base : Nat → Nat} (hb : ∀ i, i < 30 → base i ≤ 1000) : ∀ (k j : Nat) (I : IM), j + k = x.2.2.1.length → isN I n x → isMt I m → (∀ i : Nat, i < 30 → I 368 (i : Int) = ((base i + (x.2.2.1.take j).count (i : Int) : Nat) : Int)) → ∃ I', ev S0 (d + 1) 63 7 [.inr (.inl 363), .inr (.inl n), .inl (j : Int)] [] (sh, I, R) = some (none, (sh, I', R)) ∧ (∀ i : Nat, i < 30 → I' 368 (i : Int) = ((base i + x.2.2.1.count (i : Int) : Nat) : Int)) ∧ ∀ k, k ≠ 368 → I' k = I k := by
  obtain ⟨tk, k0, k1, k2, k3, k4, hSk, t6, l6, t7, l7, t8, l8⟩ := id hK
  obtain ⟨tn, rn0, rn1, hF, tn4, ln4⟩ := id hN
  intro k
  induction k with
  | zero =>
    intro j I hj hI hm hv
    obtain rfl : j = x.2.2.1.length := by omega
    have h3 := hI.2.2.1
    have hc : (x.2.2.1.length : Int) ≤ (x.2.2.1.length : Int) := by omega
    rw [List.take_length] at hv
    refine ⟨I, ?_, hv, fun _ _ => rfl⟩
    simp (disch := first | assumption | omega | exact Nat.le_of_ble_eq_true rfl | decide) only [u_63_7, u_63_8, u_63_8n, u_63_9, u_63_12, u_63_49, h3, if_pos hc]
  | succ k ih =>
    intro j I hj hI hm hv
    have hjl : j < x.2.2.1.length := by omega
    have h3 := hI.2.2.1
    have hc : ¬ (x.2.2.1.length : Int) ≤ (j : Int) := by omega
    have hr : I (n + 4) (j : Int) = x.2.2.1[j] := hI.2.2.2.1.at hjl
    have hm0 := fun dd => s_hasMet (d := dd) hK hm (z := x.2.2.1[j])
    rw [u_63_7]
    rcases hx _ (List.getElem_mem hjl) with q | q
    · have hhm : ¬ (0 ≤ x.2.2.1[j] ∧ x.2.2.1[j] < 30 ∧ ¬ idm m x.2.2.1[j] = -1) := fun z => by omega
      simp only [if_neg hhm] at hm0
      obtain ⟨I', e1, e2, e3⟩ := ih (j + 1) I (by omega) hI hm (fun i hi => by
        rw [hv i hi, take_count hjl, if_neg (by omega)]; rfl)
      refine ⟨I', ?_, e2, e3⟩
      clear hv
      simp (disch := first | assumption | omega | exact Nat.le_of_ble_eq_true rfl | decide) only [u_63_8, u_63_8n, u_63_9, u_63_12, u_63_15, u_63_16, u_63_16n, u_63_17, u_63_20, u_63_21, u_63_22, u_63_25, u_63_28, u_63_29, u_63_32, u_63_32n, u_63_33, u_63_36, u_63_37, u_63_38, u_63_39, u_63_40, u_63_41, u_63_42, u_63_43, u_63_46, h3, hc, if_false, if_true, rv_some, rn1, hr, hm0, bnd_some, psh_some, wrN, e1]
    · obtain ⟨b, hb1, hb30, hbk⟩ := liv_nat (hok.2 _ q)
      have hhm : (0 ≤ x.2.2.1[j] ∧ x.2.2.1[j] < 30 ∧ ¬ idm m x.2.2.1[j] = -1) := ⟨by omega, by omega, fun z => idm_not.mp z q⟩
      simp only [if_pos hhm] at hm0
      have hvb := hv b hb30
      have hcl : (x.2.2.1.take j).count (b : Int) ≤ (x.2.2.1.take j).length := List.count_le_length
      rw [List.length_take] at hcl
      have hbb := hb b hb30
      obtain ⟨I', e1, e2, e3⟩ := ih (j + 1) (up I 368 (b : Int) ((base b + (x.2.2.1.take j).count (b : Int) + 1 : Nat) : Int)) (by omega) (hI.cong (fun k _ _ => upf (by omega))) (hm.cong (upf (by decide)) (upf (by decide)) (upf (by decide))) (fun i hi => by
        by_cases hib : i = b
        · subst hib
          rw [ups, take_count hjl, if_pos hb1]
          omega
        · rw [upj (by omega), hv i hi, take_count hjl, if_neg (by omega)]; rfl)
      refine ⟨I', ?_, e2, fun k hk => by rw [e3 k hk, upf hk]⟩
      generalize hg : base b + (x.2.2.1.take j).count (b : Int) = cc at hvb e1
      have hcc : cc < 2000000000 := by omega
      rw [hb1] at hr hm0
      clear hv hg hcl
      simp (disch := first | assumption | omega | exact Nat.le_of_ble_eq_true rfl | decide) only [u_63_8, u_63_8n, u_63_9, u_63_12, u_63_15, u_63_16, u_63_16n, u_63_17, u_63_20, u_63_21, u_63_22, u_63_25, u_63_28, u_63_29, u_63_32, u_63_32n, u_63_33, u_63_36, u_63_37, u_63_38, u_63_39, u_63_40, u_63_41, u_63_42, u_63_43, u_63_46, h3, hc, if_false, rv_some, rn1, k4, hr, hm0, bnd_some, psh_some, Int.reduceEq, hvb, wrN, e1]
theorem sh_loop1 (hK : KS sh R) (hS1 : WS sh R 1) (hw : okW w) (hok : okm w m) (hcl : clo w m) {a2 : AV} : ∀ (k j : Nat) (I : IM), j + k = m.length → isW I 1 w → isMt I m → (∀ i : Nat, i < 30 → I 368 (i : Int) = ((crf w (m.take j) (i : Int) : Nat) : Int)) → ∃ I', ev S0 (d + 2) 61 6 [.inr (.inl 363), .inl (j : Int), a2] [] (sh, I, R) = ev S0 (d + 2) 61 37 [.inr (.inl 363), .inl (m.length : Int), a2] [] (sh, I', R) ∧ (∀ i : Nat, i < 30 → I' 368 (i : Int) = ((crf w m (i : Int) : Nat) : Int)) ∧ ∀ k, k ≠ 368 → I' k = I k := by
  obtain ⟨tk, k0, k1, k2, k3, k4, hSk, t6, l6, t7, l7, t8, l8⟩ := id hK
  have tw := hS1.1
  have h30 := okm_len hok
  intro k
  induction k with
  | zero =>
    intro j I hj hW hm hv
    obtain rfl : j = m.length := by omega
    have hm0 := hm.1
    have hc : (m.length : Int) ≤ (m.length : Int) := by omega
    rw [List.take_length] at hv
    refine ⟨I, ?_, hv, fun _ _ => rfl⟩
    simp (disch := first | assumption | omega | exact Nat.le_of_ble_eq_true rfl | decide) only [u_61_6, u_61_7, u_61_8, u_61_11, hm0, if_pos hc]
  | succ k ih =>
    intro j I hj hW hm hv
    have hjl : j < m.length := by omega
    have hm0 := hm.1
    have hc : ¬ (m.length : Int) ≤ (j : Int) := by omega
    have hord := hm.2.2 j _ (List.getElem?_eq_getElem hjl)
    obtain ⟨o, ho1, ho, hk0⟩ := liv_nat (hok.2 m[j] (List.getElem_mem hjl))
    obtain ⟨n1_, n2⟩ := hS1.2.2.2.2.2.2.2.2.2.2.1 o ho
    have nt := n2.1
    have hat := fun dd => s_atL (d := dd) hS1 hW ho hk0
    obtain ⟨I1, f1, f2, f3⟩ := cr_loop (d := d) (n := 1 + 4 + 5 * o) (x := w.1 o) (base := fun i => crf w (m.take j) (i : Int)) hK hok n2 (by omega) ((hw.1 o ho).2.2.2.2.2.2.2.1) (fun r hr => hcl m[j] (List.getElem_mem hjl) r (by rw [ho1, Int.toNat_natCast]; exact hr)) (fun i _ => by have := crf_le hw hok (i : Int) j (by omega); omega) (w.1 o).2.2.1.length 0 I (by omega) (hW.1 o ho) hm (fun i hi => by rw [hv i hi]; rfl)
    obtain ⟨I', e1, e2, e3⟩ := ih (j + 1) I1 (by omega) (hW.cong (fun k _ b => f3 k (by omega))) (hm.cong (f3 _ (by decide)) (f3 _ (by decide)) (f3 _ (by decide))) (fun i hi => by
      rw [f2 i hi, crf_step hjl, ho1, Int.toNat_natCast])
    refine ⟨I', ?_, e2, fun k hk => by rw [e3 k hk, f3 k hk]⟩
    have f1 : cl (d + 2) 63 [.inr (.inl 363), .inr (.inl (1 + 4 + 5 * o))] (sh, I, R) = some (none, (sh, I1, R)) := by
      have f1 : ev S0 (d + 1) 63 7 [.inr (.inl 363), .inr (.inl (1 + 4 + 5 * o)), .inl 0] [] (sh, I, R) = some (none, (sh, I1, R)) := f1
      rw [c_63]
      simp (disch := first | assumption | omega | exact Nat.le_of_ble_eq_true rfl | decide) only [u_63_0, u_63_0n, u_63_1, u_63_1n, u_63_4, u_63_5, u_63_6, f1]
    rw [ho1] at hord
    clear hv f2
    rw [u_61_6]
    simp (disch := first | assumption | omega | exact Nat.le_of_ble_eq_true rfl | decide) only [u_61_7, u_61_8, u_61_11, u_61_14, u_61_15, u_61_16, u_61_19, u_61_20, u_61_23, u_61_24, u_61_25, u_61_28, u_61_28n, u_61_31, u_61_34, hm0, hc, if_false, k0, k3, rv_some, hord, hat, bnd_some, psh_some, psh_none, f1, wrN, e1]
theorem sh_loop2 (hK : KS sh R) {c : Nat → Nat} (hv : ∀ i : Nat, i < 30 → I 368 (i : Int) = ((c i : Nat) : Int)) : ∀ (k j : Nat), j + k = 30 → ev S0 d 61 41 [.inr (.inl 363), .inl ((sumN (fun i => if 2 ≤ c i then 1 else 0) j : Nat) : Int), .inl (j : Int)] [] (sh, I, R) = some (some (.inl ((sumN (fun i => if 2 ≤ c i then 1 else 0) 30 : Nat) : Int)), (sh, I, R)) := by
  obtain ⟨tk, k0, k1, k2, k3, k4, hSk, t6, l6, t7, l7, t8, l8⟩ := id hK
  intro k
  induction k with
  | zero =>
    intro j hj
    obtain rfl : j = 30 := by omega
    have hc : (30 : Int) ≤ 30 := by omega
    simp (disch := first | assumption | omega | exact Nat.le_of_ble_eq_true rfl | decide) only [u_61_41, u_61_42, u_61_44, u_61_71, u_61_72, Int.cast_ofNat_Int, if_pos hc]
  | succ k ih =>
    intro j hj
    have hc : ¬ (30 : Int) ≤ (j : Int) := by omega
    have hvj := hv j (by omega)
    have hle := sumN_le (f := fun i => if 2 ≤ c i then 1 else 0) (c := 1) j (fun i _ => by split <;> omega)
    have ih' := ih (j + 1) (by omega)
    rw [sumN_step] at ih'
    clear ih hv
    generalize sumN (fun i => if 2 ≤ c i then 1 else 0) j = a at hle ih' ⊢
    generalize sumN (fun i => if 2 ≤ c i then 1 else 0) 30 = b at ih' ⊢
    rw [u_61_41]
    by_cases h2 : 2 ≤ c j
    · rw [if_pos h2] at ih'
      have hlt : ¬ ((c j : Nat) : Int) < 2 := by omega
      simp (disch := first | assumption | omega | exact Nat.le_of_ble_eq_true rfl | decide) only [u_61_42, u_61_44, u_61_47, u_61_48, u_61_49, u_61_52, u_61_53, u_61_54, u_61_55, u_61_58, u_61_59, u_61_62, u_61_63, u_61_64, u_61_65, u_61_68, hc, if_false, k4, rv_some, hvj, hlt, wrN, ih']
    · rw [if_neg h2, Nat.add_zero] at ih'
      have hlt : ((c j : Nat) : Int) < 2 := by omega
      have hz : wr ((a : Int) + 0) = (a : Int) := by rw [Int.add_zero]; exact wrI (by omega) (by omega)
      simp (disch := first | assumption | omega | exact Nat.le_of_ble_eq_true rfl | decide) only [u_61_42, u_61_44, u_61_47, u_61_48, u_61_49, u_61_52, u_61_53, u_61_54, u_61_55, u_61_58, u_61_59, u_61_62, u_61_63, u_61_64, u_61_65, u_61_68, hc, if_false, if_true, k4, rv_some, hvj, hlt, hz, wrN, ih']
theorem s_shared (hK : KS sh R) (hS1 : WS sh R 1) (hw : okW w) (hok : okm w m) (hcl : clo w m) (hW : isW I 1 w) (hm : isMt I m) : ∃ I', cl (d + 3) 61 [.inr (.inl 363)] (sh, I, R) = some (some (.inl ((b_shared w m : Nat) : Int)), (sh, I', R)) ∧ ∀ k, k ≠ 368 → I' k = I k := by
  have tk := hK.1
  obtain ⟨I1, f1, f2, f3⟩ := s_clr (d := d + 1) (I := I) hK
  obtain ⟨I2, e1, e2, e3⟩ := sh_loop1 (d := d) (a2 := .inr (.inr 1)) hK hS1 hw hok hcl m.length 0 I1 (by omega) (hW.cong (fun k _ b => f3 k (by omega))) (hm.cong (f3 _ (by decide)) (f3 _ (by decide)) (f3 _ (by decide))) (fun i hi => by rw [f2 i hi]; rfl)
  have g1 := sh_loop2 (d := d + 2) (R := R) (sh := sh) hK e2 30 0 (by omega)
  have e1 : ev S0 (d + 2) 61 6 [.inr (.inl 363), .inl 0, .inr (.inr 1)] [] (sh, I1, R) = ev S0 (d + 2) 61 37 [.inr (.inl 363), .inl (m.length : Int), .inr (.inr 1)] [] (sh, I2, R) := e1
  have g1 : ev S0 (d + 2) 61 41 [.inr (.inl 363), .inl 0, .inl 0] [] (sh, I2, R) = some (some (.inl ((b_shared w m : Nat) : Int)), (sh, I2, R)) := g1
  refine ⟨I2, ?_, fun k hk => by rw [e3 k hk, f3 k hk]⟩
  rw [c_61]
  simp (disch := first | assumption | omega | exact Nat.le_of_ble_eq_true rfl | decide) only [u_61_0, u_61_1, u_61_4, u_61_5, f1, bnd_some, psh_none]
  rw [e1]
  simp (disch := first | assumption | omega | exact Nat.le_of_ble_eq_true rfl | decide) only [u_61_37, u_61_38, u_61_39, u_61_40, g1]
/-! the model's -/
theorem bs_and0 (f : Nat → Bool) : b32 (fun x y => x &&& y) ((bs f : Nat) : Int) 0 = 0 := by
  have := bs_and f (fun _ => false)
  simp only [Bool.and_false, bs_zero] at this
  exact this
/-- those that come at least so often -/
def atl (n : Nat) (c : Nat → Nat) : Nat → Bool := fun i => decide (n ≤ c i)
theorem msh_in (hX : MX sh R) (hW : isM I 393 w) (hw : okW w) {o : Nat} (ho : o < 30) (hk : (w.1 o).1 ≠ 0) {S : Nat → Bool} (hS : S o = true) {c : Nat → Nat} : ∀ (k j : Nat) (a6 : AV), j + k = (w.1 o).2.2.1.length → ∃ a6', ev S0 (d + 1) 192 17 [.inr (.inl 392), .inl ((bs S : Nat) : Int), .inl ((bs (atl 1 (fun i => c i + ((w.1 o).2.2.1.take j).count (i : Int))) : Nat) : Int), .inl ((bs (atl 2 (fun i => c i + ((w.1 o).2.2.1.take j).count (i : Int))) : Nat) : Int), .inl (o : Int), .inl (j : Int), a6] [] (sh, I, R) = ev S0 (d + 1) 192 87 [.inr (.inl 392), .inl ((bs S : Nat) : Int), .inl ((bs (atl 1 (fun i => c i + (w.1 o).2.2.1.count (i : Int))) : Nat) : Int), .inl ((bs (atl 2 (fun i => c i + (w.1 o).2.2.1.count (i : Int))) : Nat) : Int), .inl (o : Int), .inl ((w.1 o).2.2.1.length : Int), a6'] [] (sh, I, R) := by
  obtain ⟨t, r, tg_, lg⟩ := hX.1
  have hok := hw.1 o ho
  have h6 := hok.2.2.2.2.2.2.2.1
  obtain ⟨n1_, n2, n3⟩ := (hW.1 o ho).2 hk
  have n20 := n2.1
  have hsr := bs_shr S ho
  rw [if_pos hS] at hsr
  intro k
  induction k with
  | zero =>
    intro j a6 hj
    obtain rfl : j = (w.1 o).2.2.1.length := by omega
    have hc : ((w.1 o).2.2.1.length : Int) ≤ ((w.1 o).2.2.1.length : Int) := by omega
    rw [List.take_length]
    refine ⟨a6, ?_⟩
    simp (disch := first | assumption | omega | exact Nat.le_of_ble_eq_true rfl | decide) only [u_192_17, u_192_18, u_192_20, u_192_21, u_192_22, u_192_23, u_192_24, u_192_27, u_192_29, u_192_30, u_192_33, u_192_35, u_192_37, u_192_38, u_192_39, hsr, not_true, if_false, r, rv_some, wrI, n20, if_pos hc]
  | succ k ih =>
    intro j a6 hj
    have hjl : j < (w.1 o).2.2.1.length := by omega
    have hc : ¬ ((w.1 o).2.2.1.length : Int) ≤ (j : Int) := by omega
    have hro := m_refOf (I := I) (d := d) (i := j) hX.1 ho (by omega)
    rw [n2.at hjl] at hro
    have hst : (fun i : Nat => c i + ((w.1 o).2.2.1.take (j + 1)).count (i : Int)) = fun i : Nat => c i + ((w.1 o).2.2.1.take j).count (i : Int) + (if (w.1 o).2.2.1[j] = (i : Int) then 1 else 0) := by
      funext i
      rw [take_count hjl]
      omega
    rcases hok.2.2.2.2.2.2.2.2.2.2.2.1 _ (List.getElem_mem hjl) with q | ⟨b, q, hb, hbk⟩
    · have hlt : ¬ (0 : Int) ≤ (w.1 o).2.2.1[j] := by omega
      obtain ⟨a6', ih'⟩ := ih (j + 1) (.inl 0) (by omega)
      have hst2 : (fun i : Nat => c i + ((w.1 o).2.2.1.take (j + 1)).count (i : Int)) = fun i : Nat => c i + ((w.1 o).2.2.1.take j).count (i : Int) := by
        rw [hst]
        funext i
        rw [if_neg (by omega)]
        rfl
      rw [hst2] at ih'
      refine ⟨a6', ?_⟩
      clear hst hst2 ih
      generalize (fun i : Nat => c i + ((w.1 o).2.2.1.take j).count (i : Int)) = f at ih' ⊢
      rw [u_192_17]
      simp (disch := first | assumption | omega | exact Nat.le_of_ble_eq_true rfl | decide) only [u_192_18, u_192_20, u_192_21, u_192_22, u_192_23, u_192_24, u_192_27, u_192_29, u_192_30, u_192_33, u_192_35, u_192_37, u_192_38, u_192_39, u_192_42, u_192_43, u_192_45, u_192_47, u_192_50, u_192_53, u_192_54, u_192_57, u_192_58, u_192_59, u_192_61, u_192_63, u_192_66, u_192_67, u_192_69, u_192_70, u_192_71, u_192_73, u_192_74, u_192_75, u_192_76, u_192_77, u_192_79, u_192_80, u_192_81, u_192_84, hsr, not_true, if_false, r, rv_some, wrI, n20, hc, hro, bnd_some, psh_some, hlt, bs_and0, bs_or0, n1, ih']
    · have hge : (0 : Int) ≤ (w.1 o).2.2.1[j] := by omega
      obtain ⟨a6', ih'⟩ := ih (j + 1) (.inl ((bs (fun i => decide (i = b)) : Nat) : Int)) (by omega)
      have hsh := bs_shl hb
      rw [← q] at hsh
      obtain ⟨f, hf⟩ : ∃ f : Nat → Nat, f = fun i : Nat => c i + ((w.1 o).2.2.1.take j).count (i : Int) := ⟨_, rfl⟩
      have hst2 : (fun i : Nat => c i + ((w.1 o).2.2.1.take (j + 1)).count (i : Int)) = fun i : Nat => f i + (if i = b then 1 else 0) := by
        rw [hst, hf]
        funext i
        dsimp only
        congr 1
        by_cases hib : i = b
        · rw [if_pos hib, if_pos (by omega)]
        · rw [if_neg hib, if_neg (by omega)]
      rw [hst2] at ih'
      refine ⟨a6', ?_⟩
      clear hst hst2 ih
      rw [← hf]
      have e1 : b32 (fun x y => x ||| y) ((bs (atl 2 f) : Nat) : Int) (b32 (fun x y => x &&& y) ((bs (atl 1 f) : Nat) : Int) ((bs (fun i => decide (i = b)) : Nat) : Int)) = ((bs (atl 2 (fun i => f i + (if i = b then 1 else 0))) : Nat) : Int) := by
        rw [bs_and, bs_or]
        congr 2
        funext i
        unfold atl
        rw [Bool.eq_iff_iff]
        simp only [Bool.or_eq_true, Bool.and_eq_true, decide_eq_true_iff]
        by_cases hib : i = b
        · rw [if_pos hib]; omega
        · rw [if_neg hib]; omega
      have e2 : b32 (fun x y => x ||| y) ((bs (atl 1 f) : Nat) : Int) ((bs (fun i => decide (i = b)) : Nat) : Int) = ((bs (atl 1 (fun i => f i + (if i = b then 1 else 0))) : Nat) : Int) := by
        rw [bs_or]
        congr 2
        funext i
        unfold atl
        rw [Bool.eq_iff_iff]
        simp only [Bool.or_eq_true, Bool.and_eq_true, decide_eq_true_iff]
        by_cases hib : i = b
        · rw [if_pos hib]; omega
        · rw [if_neg hib]; omega
      rw [u_192_17]
      simp (disch := first | assumption | omega | exact Nat.le_of_ble_eq_true rfl | decide) only [u_192_18, u_192_20, u_192_21, u_192_22, u_192_23, u_192_24, u_192_27, u_192_29, u_192_30, u_192_33, u_192_35, u_192_37, u_192_38, u_192_39, u_192_42, u_192_43, u_192_45, u_192_47, u_192_50, u_192_53, u_192_54, u_192_57, u_192_58, u_192_59, u_192_61, u_192_63, u_192_66, u_192_67, u_192_69, u_192_70, u_192_71, u_192_73, u_192_74, u_192_75, u_192_76, u_192_77, u_192_79, u_192_80, u_192_81, u_192_84, hsr, not_true, if_false, r, rv_some, wrI, n20, hc, hro, bnd_some, psh_some, if_pos hge, hsh, e1, e2, n1, ih']
def cfo (w : WD) (m : List Int) (o : Nat) (i : Nat) : Nat := sumN (fun q => if (q : Int) ∈ m then (w.1 q).2.2.1.count (i : Int) else 0) o
theorem cfo_all {w : WD} {m : List Int} (h : okm w m) (i : Nat) : cfo w m 30 i = crf w m (i : Int) := by
  unfold cfo crf
  rw [sum_mem _ m h.1 (okm_nat h)]
  rfl
theorem m_shared (hX : MX sh R) (hW : isM I 393 w) (hw : okW w) (hok : okm w m) : cl (d + 2) 192 [.inr (.inl 392), .inl ((bs (mb m) : Nat) : Int)] (sh, I, R) = some (some (.inl ((b_shared w m : Nat) : Int)), (sh, I, R)) := by
  have t := hX.1.1
  have main : ∀ (k j : Nat) (a5 a6 : AV), j + k = 30 → ev S0 (d + 1) 192 7 [.inr (.inl 392), .inl ((bs (mb m) : Nat) : Int), .inl ((bs (atl 1 (cfo w m j)) : Nat) : Int), .inl ((bs (atl 2 (cfo w m j)) : Nat) : Int), .inl (j : Int), a5, a6] [] (sh, I, R) = some (some (.inl ((b_shared w m : Nat) : Int)), (sh, I, R)) := by
    intro k
    induction k with
    | zero =>
      intro j a5 a6 hj
      obtain rfl : j = 30 := by omega
      have hc : (30 : Int) ≤ 30 := by omega
      have e : b_shared w m = sumN (fun i => if atl 2 (cfo w m 30) i then 1 else 0) 30 := by
        unfold b_shared
        refine sumN_congr 30 (fun i hi => ?_)
        unfold atl
        rw [cfo_all hok]
        by_cases h2 : 2 ≤ crf w m (i : Int)
        · rw [if_pos h2, if_pos (decide_eq_true h2)]
        · rw [if_neg h2, if_neg (by rw [decide_eq_false h2]; decide)]
      rw [e]
      simp (disch := first | assumption | omega | exact Nat.le_of_ble_eq_true rfl | decide) only [u_192_7, u_192_9, u_192_11, u_192_93, u_192_94, u_192_97, Int.cast_ofNat_Int, if_pos hc, m_bitCount, bnd_some, psh_some]
    | succ k ih =>
      intro j a5 a6 hj
      have hc : ¬ (30 : Int) ≤ (j : Int) := by omega
      have hst : ∀ i, cfo w m (j + 1) i = cfo w m j i + (if (j : Int) ∈ m then (w.1 j).2.2.1.count (i : Int) else 0) := fun i => rfl
      rw [u_192_7]
      by_cases hm : (j : Int) ∈ m
      · have hlv := (hok.2 _ hm).2.2
        rw [Int.toNat_natCast] at hlv
        obtain ⟨a6', e1⟩ := msh_in (d := d) (c := cfo w m j) hX hW hw (show j < 30 by omega) hlv (S := mb m) (decide_eq_true hm) (w.1 j).2.2.1.length 0 a6 (by omega)
        have e0 : (fun i : Nat => cfo w m j i + ((w.1 j).2.2.1.take 0).count (i : Int)) = cfo w m j := by
          funext i; rfl
        rw [e0] at e1
        have e1 : ev S0 (d + 1) 192 17 [.inr (.inl 392), .inl ((bs (mb m) : Nat) : Int), .inl ((bs (atl 1 (cfo w m j)) : Nat) : Int), .inl ((bs (atl 2 (cfo w m j)) : Nat) : Int), .inl (j : Int), .inl 0, a6] [] (sh, I, R) = _ := e1
        have e2 := ih (j + 1) (.inl ((w.1 j).2.2.1.length : Int)) a6' (by omega)
        have e3 : cfo w m (j + 1) = fun i => cfo w m j i + (w.1 j).2.2.1.count (i : Int) := by
          funext i
          rw [hst, if_pos hm]
        rw [e3] at e2
        simp (disch := first | assumption | omega | exact Nat.le_of_ble_eq_true rfl | decide) only [u_192_9, u_192_11, u_192_14, u_192_15, hc, if_false, e1]
        simp (disch := first | assumption | omega | exact Nat.le_of_ble_eq_true rfl | decide) only [u_192_87, u_192_90, wrI, n1, e2]
      · have hsr := bs_shr (mb m) (k := j) (by omega)
        rw [if_neg (by unfold mb; rw [decide_eq_false hm]; decide)] at hsr
        have e2 := ih (j + 1) (.inl 0) a6 (by omega)
        have e3 : cfo w m (j + 1) = cfo w m j := by
          funext i
          rw [hst, if_neg hm]
          rfl
        rw [e3] at e2
        simp (disch := first | assumption | omega | exact Nat.le_of_ble_eq_true rfl | decide) only [u_192_9, u_192_11, u_192_14, u_192_15, u_192_17, u_192_18, u_192_20, u_192_21, u_192_22, u_192_23, u_192_24, u_192_87, u_192_90, hc, if_false, if_true, hsr, Int.reduceEq, not_false_eq_true, wrI, n1, e2]
  have e := main 30 0 (.inr (.inr 1)) (.inr (.inr 1)) (by omega)
  have z1 : bs (atl 1 (cfo w m 0)) = 0 := rfl
  have z2 : bs (atl 2 (cfo w m 0)) = 0 := rfl
  rw [z1, z2] at e
  have e : ev S0 (d + 1) 192 7 [.inr (.inl 392), .inl ((bs (mb m) : Nat) : Int), .inl 0, .inl 0, .inl 0, .inr (.inr 1), .inr (.inr 1)] [] (sh, I, R) = _ := e
  rw [c_192]
  simp (disch := first | assumption | omega | exact Nat.le_of_ble_eq_true rfl | decide) only [u_192_0, u_192_1, u_192_2, u_192_3, u_192_4, u_192_5, e]
end SHR
