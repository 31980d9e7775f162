/-! reaches, sweep -/
theorem thr_set {w : WD} (hw : okW w) {o : Int} (ho : liv w o) : okm w (thr w o).1 ∧ clo w (thr w o).1 ∧ o ∈ (thr w o).1 ∧ ∀ x ∈ (thr w o).1, Rch w o x := by
  obtain ⟨g, h⟩ := thr_grow hw (Or.inr ho)
  have hoo : ¬ o = -1 := by have := ho.1; omega
  refine ⟨g.1, fun x hx r hr => g.2.2.2.2.1 x hx (fun q => by cases q) r hr, h.resolve_left hoo, fun x hx => ?_⟩
  rcases g.2.2.2.1 x hx with q | q
  · cases q
  · exact q.2
def b_reaches (s : ST) (o p : Int) : Int := if ¬ liv s.1 o then -1 else if ¬ liv s.1 p then -1 else if o ∈ (thr s.1 p).1 then 1 else 0
/-- what the handles reach -/
def swF (w : WD) (h : Nat → Int) : Nat → List Int × List Int
  | 0 => ([], [])
  | j + 1 => if h j = -1 then swF w h j else walk w 31 (h j) (swF w h j)
theorem swF_ok {w : WD} (hw : okW w) {h : Nat → Int} (hh : ∀ q, q < 8 → livN w (h q)) : ∀ j, j ≤ 8 → okm w (swF w h j).1 ∧ (swF w h j).2.length ≤ 2 * j + 40 * (swF w h j).1.length ∧ clo w (swF w h j).1 ∧ (∀ q, q < j → h q = -1 ∨ h q ∈ (swF w h j).1) ∧ ∀ x ∈ (swF w h j).1, ∃ q, q < j ∧ h q ≠ -1 ∧ Rch w (h q) x
  | 0, _ => ⟨okm_nil w, Nat.zero_le _, (fun x hx => by cases hx), (fun q hq => by omega), (fun x hx => by cases hx)⟩
  | j + 1, hj => by
    obtain ⟨h1, h2, h3, h4, h5⟩ := swF_ok hw hh j (by omega)
    unfold swF
    by_cases hm1 : h j = -1
    · rw [if_pos hm1]
      refine ⟨h1, by omega, h3, fun q hq => ?_, fun x hx => ?_⟩
      · by_cases hqj : q = j
        · subst hqj; exact Or.inl hm1
        · exact h4 q (by omega)
      · obtain ⟨q, a, b⟩ := h5 x hx
        exact ⟨q, by omega, b⟩
    · rw [if_neg hm1]
      have hl : liv w (h j) := (hh j (by omega)).resolve_left hm1
      obtain ⟨⟨g1, g2, g3, g4, g5, -, -⟩, g8⟩ := walk_grow hw 31 (h j) (swF w h j) h1 (by omega) (Or.inr hl)
      refine ⟨g1, by omega, fun x hx r hr => ?_, fun q hq => ?_, fun x hx => ?_⟩
      · by_cases hxo : x ∈ (swF w h j).1
        · exact (h3 x hxo r hr).imp id (fun z => g2.subset z)
        · exact g5 x hx hxo r hr
      · by_cases hqj : q = j
        · subst hqj; exact g8
        · exact (h4 q (by omega)).imp id (fun z => g2.subset z)
      · rcases g4 x hx with z | z
        · obtain ⟨q, a, b⟩ := h5 x z
          exact ⟨q, by omega, b⟩
        · exact ⟨j, by omega, z.1, z.2⟩
def swp (w : WD) (m : List Int) (j : Nat) : WD := (fun i => if i < j ∧ (i : Int) ∉ m then (0, 0, [], []) else w.1 i, w.2)
def gnN (w : WD) (m : List Int) (j : Nat) : Nat := sumN (fun i => if ¬ (w.1 i).1 = 0 ∧ (i : Int) ∉ m then 1 else 0) j
theorem gnN_le (w : WD) (m : List Int) (j : Nat) : gnN w m j ≤ j := by
  have := sumN_le (f := fun i => if ¬ (w.1 i).1 = 0 ∧ (i : Int) ∉ m then 1 else 0) (c := 1) j (fun i _ => by split <;> omega)
  unfold gnN
  omega
def b_sweep (s : ST) : Int × ST := (((gnN s.1 (swF s.1 s.2.2.2.2.1 8).1 30 : Nat) : Int), stW s (swp s.1 (swF s.1 s.2.2.2.2.1 8).1 30))
theorem swp_drop {w : WD} {m : List Int} {j : Nat} (h : (j : Int) ∉ m) : setN (swp w m j) j (0, 0, [], []) = swp w m (j + 1) := by
  refine wd_ext (fun i => ?_) rfl
  by_cases hij : i = j
  · subst hij
    rw [setN_at]
    simp only [swp]
    rw [if_pos ⟨by omega, h⟩]
  · have : (setN (swp w m j) j (0, 0, [], [])).1 i = (swp w m j).1 i := by simp [setN, hij]
    rw [this]
    simp only [swp]
    by_cases hi : i < j ∧ (i : Int) ∉ m
    · rw [if_pos hi, if_pos ⟨by omega, hi.2⟩]
    · rw [if_neg hi, if_neg (fun q => hi ⟨by omega, q.2⟩)]
theorem swp_skip {w : WD} {m : List Int} {j : Nat} (h : (j : Int) ∈ m ∨ w.1 j = (0, 0, [], [])) : swp w m (j + 1) = swp w m j := by
  refine wd_ext (fun i => ?_) rfl
  simp only [swp]
  by_cases hi : i < j ∧ (i : Int) ∉ m
  · rw [if_pos hi, if_pos ⟨by omega, hi.2⟩]
  · rw [if_neg hi]
    by_cases hij : i = j
    · subst hij
      rcases h with q | q
      · rw [if_neg (fun z => z.2 q)]
      · split
        · exact q.symm
        · rfl
    · rw [if_neg (fun q => hi ⟨by omega, q.2⟩)]
theorem swp_at {w : WD} {m : List Int} {j : Nat} : (swp w m j).1 j = w.1 j := by
  simp only [swp]
  rw [if_neg (fun q => by omega)]
theorem swp_zero {w : WD} {m : List Int} : swp w m 0 = w := by
  refine wd_ext (fun i => ?_) rfl
  simp only [swp]
  rw [if_neg (fun q => by omega)]
theorem okW_swp {w : WD} {m : List Int} (hw : okW w) (hm : clo w m) : okW (swp w m 30) := by
  refine ⟨fun i hi => ?_, hw.2.1, hw.2.2⟩
  by_cases him : (i : Int) ∈ m
  · have e : (swp w m 30).1 i = w.1 i := by
      simp only [swp]
      rw [if_neg (fun q => q.2 him)]
    rw [e]
    obtain ⟨b1, b2, b3, b4, b5, b6, b7, b8, b9, b10, b11, b12, b13⟩ := hw.1 i hi
    refine ⟨b1, b2, b3, b4, b5, b6, b7, b8, b9, b10, b11, fun r hr => ?_, b13⟩
    rcases b12 r hr with q | ⟨c, rfl, hc, hck⟩
    · exact Or.inl q
    · refine Or.inr ⟨c, rfl, hc, ?_⟩
      have := (hm (i : Int) him (c : Int) (by rw [Int.toNat_natCast]; exact hr)).resolve_left (by omega)
      simp only [swp]
      rw [if_neg (fun q => q.2 this)]
      exact hck
  · have e : (swp w m 30).1 i = (0, 0, [], []) := by
      simp only [swp]
      rw [if_pos ⟨hi, him⟩]
    rw [e]
    refine ⟨?_, ?_, fun _ => ⟨rfl, rfl⟩, ?_, ?_, ?_, ?_, ?_, ?_, ?_, ?_, ?_, ?_⟩
    · decide
    · decide
    · intro q; exact absurd q (by decide)
    · intro q; exact absurd q (by decide)
    · intro q; exact absurd q (by decide)
    · intro q; exact absurd q (by decide)
    · exact Nat.zero_le _
    · exact Nat.zero_le _
    · decide
    · decide
    · intro r hr; cases hr
    · intro r hr; cases hr
theorem zW_swp {w : WD} {m : List Int} (hz : zW w) : zW (swp w m 30) := by
  intro i hi h0
  by_cases him : (i : Int) ∈ m
  · have e : (swp w m 30).1 i = w.1 i := by
      simp only [swp]
      rw [if_neg (fun q => q.2 him)]
    rw [e] at h0 ⊢
    exact hz i hi h0
  · simp only [swp]
    rw [if_pos ⟨hi, him⟩]
section SW
variable {sh : Shp} {R : RM} {I : IM} {d : Nat} {s : ST} {w : WD} {m : List Int} {o p : Int}
theorem CC_reaches (hC : CS sh R) (hc : cR I s) (hs : okS s) : CE sh R I (d + 42) 108 [.inl o, .inl p] (b_reaches s o p, s) := by
  obtain ⟨hH, -, ⟨r2, hK⟩, -⟩ := id hC
  have tc := hH.1
  have rc := hH.2.1
  have tw := hH.2.2.1
  have tk := hK.1
  unfold b_reaches
  by_cases hl : liv s.1 o
  · rw [if_neg (Classical.not_not.mpr hl)]
    obtain ⟨i, rfl, hi, hk0⟩ := liv_nat hl
    have hat := fun dd => s_atL (d := dd) hH.2.2 hc.1 hi hk0
    by_cases hp : liv s.1 p
    · rw [if_neg (Classical.not_not.mpr hp)]
      obtain ⟨j, rfl, hj, hj0⟩ := liv_nat hp
      have hat2 := fun dd => s_atL (d := dd) hH.2.2 hc.1 hj hj0
      obtain ⟨I1, g1, g2, g3, g4⟩ := s_goThrough (d := d) hK hH.2.2 hs.1 hc.1 (Or.inr hp)
      refine ⟨I1, ?_, hc.frK g4, fun k hk => g4 k (by omega)⟩
      have hm0 := fun dd => s_hasMet (d := dd) hK g2 (z := (i : Int))
      by_cases hm : (i : Int) ∈ (thr s.1 (j : Int)).1
      · rw [if_pos hm]
        have hhm : (0 ≤ (i : Int) ∧ (i : Int) < 30 ∧ ¬ idm (thr s.1 (j : Int)).1 (i : Int) = -1) := ⟨by omega, by omega, fun q => idm_not.mp q hm⟩
        simp only [if_pos hhm] at hm0
        rw [c_108]
        simp (disch := first | assumption | omega | exact Nat.le_of_ble_eq_true rfl | decide) only [u_108_0, u_108_1, u_108_4, u_108_5, u_108_8, u_108_8n, u_108_11, u_108_12, u_108_15, u_108_16, u_108_19, u_108_19n, u_108_22, u_108_23, u_108_24, u_108_25, u_108_28, u_108_29, u_108_32, u_108_33, u_108_36, u_108_37, u_108_40, u_108_43, u_108_44, u_108_47, u_108_48, rc, r2, rv_some, hat, hat2, bnd_some, psh_some, psh_none, g1, hm0, Int.reduceEq, if_false]
      · rw [if_neg hm]
        have hhm : ¬ (0 ≤ (i : Int) ∧ (i : Int) < 30 ∧ ¬ idm (thr s.1 (j : Int)).1 (i : Int) = -1) := fun q => q.2.2 (idm_not.mpr hm)
        simp only [if_neg hhm] at hm0
        rw [c_108]
        simp (disch := first | assumption | omega | exact Nat.le_of_ble_eq_true rfl | decide) only [u_108_0, u_108_1, u_108_4, u_108_5, u_108_8, u_108_8n, u_108_11, u_108_12, u_108_15, u_108_16, u_108_19, u_108_19n, u_108_22, u_108_23, u_108_24, u_108_25, u_108_28, u_108_29, u_108_32, u_108_33, u_108_36, u_108_37, u_108_40, u_108_43, u_108_44, u_108_47, u_108_48, rc, r2, rv_some, hat, hat2, bnd_some, psh_some, psh_none, g1, hm0, if_true]
    · rw [if_pos hp]
      refine CE.same hc ?_
      rw [c_108]
      simp (disch := first | assumption | omega | exact Nat.le_of_ble_eq_true rfl | decide) only [u_108_0, u_108_1, u_108_4, u_108_5, u_108_8, u_108_8n, u_108_11, u_108_12, u_108_15, u_108_16, u_108_19, u_108_19n, u_108_22, u_108_23, u_108_24, u_108_25, u_108_28, u_108_29, u_108_32, u_108_33, u_108_36, u_108_37, u_108_40, u_108_43, u_108_44, u_108_47, u_108_48, rc, rv_some, hat, s_atN hH.2.2 hc.1 (not_live hp), bnd_some, psh_some]
  · rw [if_pos hl]
    refine CE.same hc ?_
    rw [c_108]
    simp (disch := first | assumption | omega | exact Nat.le_of_ble_eq_true rfl | decide) only [u_108_0, u_108_1, u_108_4, u_108_5, u_108_8, u_108_8n, u_108_11, u_108_12, u_108_15, u_108_16, u_108_19, u_108_19n, u_108_22, u_108_23, u_108_24, u_108_25, u_108_28, u_108_29, u_108_32, u_108_33, u_108_36, u_108_37, u_108_40, u_108_43, u_108_44, u_108_47, u_108_48, rc, rv_some, s_atN hH.2.2 hc.1 (not_live hl), bnd_some, psh_some]
theorem m_reach1 (hM : MS sh R) (hW : isM I 393 w) (hw : okW w) {j : Nat} (hj : liv w (j : Int)) : cl (d + 3) 191 [.inr (.inl 392), .inl (b32 (fun x y => x <<< (y &&& 31)) 1 (j : Int))] (sh, I, R) = some (some (.inl ((bs (mb (thr w (j : Int)).1) : Nat) : Int)), (sh, I, R)) := by
  obtain ⟨h1, h2, h3, h4⟩ := thr_set hw hj
  have hj30 : j < 30 := by have := hj.2.1; omega
  rw [bs_shl hj30]
  refine m_reach hM hW hw h1 h2 (fun i hi q => ?_) (fun x hx => ⟨j, hj30, by simp, h4 x hx⟩)
  have : i = j := of_decide_eq_true q
  rw [this]; exact h3
theorem MM_reaches (hX : MX sh R) (hm : mR I s) (hs : okS s) : ME sh R I (d + 4) 195 [.inl o, .inl p] (b_reaches s o p, s) := by
  have t9 := hX.1.1
  unfold b_reaches
  by_cases hl : liv s.1 o
  · rw [if_neg (Classical.not_not.mpr hl)]
    by_cases hp : liv s.1 p
    · rw [if_neg (Classical.not_not.mpr hp)]
      have ho1 := fun dd => m_isObject (d := dd) (x := o) hX.1 hm.1
      have ho2 := fun dd => m_isObject (d := dd) (x := p) hX.1 hm.1
      simp only [if_pos hl] at ho1
      simp only [if_pos hp] at ho2
      obtain ⟨i, rfl, hi, hk0⟩ := liv_nat hl
      obtain ⟨j, rfl, hj, hj0⟩ := liv_nat hp
      have hr := m_reach1 (d := d) hX.1 hm.1 hs.1 hp
      have hsr := bs_shr (mb (thr s.1 (j : Int)).1) hi
      have e : (if mb (thr s.1 (j : Int)).1 i = true then (1 : Int) else 0) = if (i : Int) ∈ (thr s.1 (j : Int)).1 then 1 else 0 := by
        unfold mb
        by_cases hm : (i : Int) ∈ (thr s.1 (j : Int)).1
        · rw [if_pos hm, if_pos (by rw [decide_eq_true hm])]
        · rw [if_neg hm, if_neg (by rw [decide_eq_false hm]; decide)]
      rw [e] at hsr
      refine ME.same hm ?_
      rw [c_195]
      simp (disch := first | assumption | omega | exact Nat.le_of_ble_eq_true rfl | decide) only [u_195_0, u_195_1, u_195_2, u_195_5, u_195_8, u_195_9, u_195_10, u_195_13, u_195_16, u_195_17, u_195_18, u_195_19, u_195_20, u_195_21, u_195_22, u_195_25, u_195_26, u_195_27, u_195_28, u_195_29, ho1, ho2, bnd_some, psh_some, Int.reduceEq, not_false_eq_true, if_true, if_false, hr, hsr]
    · rw [if_pos hp]
      refine ME.same hm ?_
      rw [c_195]
      simp (disch := first | assumption | omega | exact Nat.le_of_ble_eq_true rfl | decide) only [u_195_0, u_195_1, u_195_2, u_195_5, u_195_8, u_195_9, u_195_10, u_195_13, u_195_16, u_195_17, u_195_18, u_195_19, u_195_20, u_195_21, u_195_22, u_195_25, u_195_26, u_195_27, u_195_28, u_195_29, m_isObject hX.1 hm.1, if_pos hl, if_neg hp, bnd_some, psh_some, Int.reduceEq, not_true, if_false]
  · rw [if_pos hl]
    refine ME.same hm ?_
    rw [c_195]
    simp (disch := first | assumption | omega | exact Nat.le_of_ble_eq_true rfl | decide) only [u_195_0, u_195_1, u_195_2, u_195_5, u_195_8, u_195_9, u_195_10, u_195_13, u_195_16, u_195_17, u_195_18, u_195_19, u_195_20, u_195_21, u_195_22, u_195_25, u_195_26, u_195_27, u_195_28, u_195_29, m_isObject hX.1 hm.1, if_neg hl, bnd_some, psh_some, if_true]
theorem sw_loop1 (hC : CS sh R) (hw : okW w) {h : Nat → Int} (hh : ∀ q, q < 8 → livN w (h q)) {a2 : AV} : ∀ (k j : Nat) (I : IM), j + k = 8 → isW I 1 w → isMt I (swF w h j).1 → isSg I 364 (swF w h j).2 → (∀ q : Nat, q < 8 → I 382 (q : Int) = h q) → ∃ I', ev S0 (d + 40) 99 9 [.inr (.inl 0), .inl (j : Int), a2] [] (sh, I, R) = ev S0 (d + 40) 99 44 [.inr (.inl 0), .inl 8, a2] [] (sh, I', R) ∧ isMt I' (swF w h 8).1 ∧ FrK I I' := by
  obtain ⟨hH, -, ⟨r2, hK⟩, -, -, -, ⟨r6, t6, l6⟩, -⟩ := id hC
  have tc := hH.1
  have tk := hK.1
  intro k
  induction k with
  | zero =>
    intro j I hj hW h1 h2 h3
    obtain rfl : j = 8 := by omega
    have hc : (8 : Int) ≤ 8 := by omega
    refine ⟨I, ?_, h1, fun _ _ => rfl⟩
    simp (disch := first | assumption | omega | exact Nat.le_of_ble_eq_true rfl | decide) only [u_99_9, u_99_10, u_99_12, Int.cast_ofNat_Int, if_pos hc]
  | succ k ih =>
    intro j I hj hW h1 h2 h3
    have hc : ¬ (8 : Int) ≤ (j : Int) := by omega
    have hv := h3 j (by omega)
    rw [u_99_9]
    by_cases hm1 : h j = -1
    · have e : swF w h (j + 1) = swF w h j := by
        show (if h j = -1 then _ else _) = _
        rw [if_pos hm1]
      obtain ⟨I', e1, e2, e3⟩ := ih (j + 1) I (by omega) hW (by rw [e]; exact h1) (by rw [e]; exact h2) h3
      refine ⟨I', ?_, e2, e3⟩
      simp (disch := first | assumption | omega | exact Nat.le_of_ble_eq_true rfl | decide) only [u_99_10, u_99_12, u_99_15, u_99_16, u_99_19, u_99_20, u_99_21, u_99_22, u_99_25, u_99_26, u_99_29, u_99_30, u_99_33, u_99_34, u_99_35, u_99_38, u_99_41, hc, if_false, r6, rv_some, hv, hm1, if_true, wrN, e1]
    · have e : swF w h (j + 1) = walk w 31 (h j) (swF w h j) := by
        show (if h j = -1 then _ else _) = _
        rw [if_neg hm1]
      obtain ⟨k1, k2, -⟩ := swF_ok hw hh j (by omega)
      obtain ⟨I1, f1, f2, f3, f4⟩ := s_goOn (d := d) hK hH.2.2 hw hW h1 h2 k1 (by omega) (Or.inr ((hh j (by omega)).resolve_left hm1))
      obtain ⟨I', e1, e2, e3⟩ := ih (j + 1) I1 (by omega) (hW.frK f4) (by rw [e]; exact f2) (by rw [e]; exact f3) (fun q hq => by rw [f4 _ (by omega)]; exact h3 q hq)
      refine ⟨I', ?_, e2, f4.tr e3⟩
      simp (disch := first | assumption | omega | exact Nat.le_of_ble_eq_true rfl | decide) only [u_99_10, u_99_12, u_99_15, u_99_16, u_99_19, u_99_20, u_99_21, u_99_22, u_99_25, u_99_26, u_99_29, u_99_30, u_99_33, u_99_34, u_99_35, u_99_38, u_99_41, hc, if_false, r6, r2, rv_some, hv, hm1, f1, bnd_some, psh_none, wrN, e1]
theorem sw_loop2 (hC : CS sh R) (hz : zW w) : ∀ (k j : Nat) (I : IM), j + k = 30 → isW I 1 (swp w m j) → isMt I m → ∃ I', ev S0 (d + 3) 99 48 [.inr (.inl 0), .inl ((gnN w m j : Nat) : Int), .inl (j : Int)] [] (sh, I, R) = some (some (.inl ((gnN w m 30 : Nat) : Int)), (sh, I', R)) ∧ isW I' 1 (swp w m 30) ∧ FrW 1 I I' := by
  obtain ⟨hH, -, ⟨r2, hK⟩, -⟩ := id hC
  have tc := hH.1
  have rc := hH.2.1
  have tw := hH.2.2.1
  have tk := hK.1
  intro k
  induction k with
  | zero =>
    intro j I hj hW h1
    obtain rfl : j = 30 := by omega
    have hc : (30 : Int) ≤ 30 := by omega
    refine ⟨I, ?_, hW, fun _ _ => rfl⟩
    simp (disch := first | assumption | omega | exact Nat.le_of_ble_eq_true rfl | decide) only [u_99_48, u_99_49, u_99_51, u_99_93, u_99_94, Int.cast_ofNat_Int, if_pos hc]
  | succ k ih =>
    intro j I hj hW h1
    have hc : ¬ (30 : Int) ≤ (j : Int) := by omega
    have hgl := gnN_le w m j
    have hg : gnN w m (j + 1) = gnN w m j + (if ¬ (w.1 j).1 = 0 ∧ (j : Int) ∉ m then 1 else 0) := rfl
    rw [u_99_48]
    by_cases hk0 : (w.1 j).1 = 0
    · have hg1 : gnN w m (j + 1) = gnN w m j := by rw [hg, if_neg (fun q => q.1 hk0)]; rfl
      obtain ⟨I', e1, e2, e3⟩ := ih (j + 1) I (by omega) (by rw [swp_skip (Or.inr (hz j (by omega) hk0))]; exact hW) h1
      rw [hg1] at e1
      refine ⟨I', ?_, e2, e3⟩
      have hnl : ¬ live (swp w m j) (j : Int) := fun q => q.2.2 (by rw [Int.toNat_natCast, swp_at]; exact hk0)
      clear hg hgl
      simp (disch := first | assumption | omega | exact Nat.le_of_ble_eq_true rfl | decide) only [u_99_49, u_99_51, u_99_54, u_99_55, u_99_58, u_99_59, u_99_62, u_99_62n, u_99_65, u_99_66, u_99_69, u_99_70, u_99_73, u_99_76, u_99_77, u_99_80, u_99_81, u_99_84, u_99_87, u_99_90, hc, if_false, rc, rv_some, s_atN hH.2.2 hW hnl, bnd_some, psh_some, wrN, e1]
    · have hat := fun dd => s_atL (d := dd) hH.2.2 hW (i := j) (by omega) (by rw [swp_at]; exact hk0)
      have hm0 := fun dd => s_hasMet (d := dd) hK h1 (z := (j : Int))
      by_cases hm : (j : Int) ∈ m
      · have hhm : (0 ≤ (j : Int) ∧ (j : Int) < 30 ∧ ¬ idm m (j : Int) = -1) := ⟨by omega, by omega, fun q => idm_not.mp q hm⟩
        simp only [if_pos hhm] at hm0
        have hg1 : gnN w m (j + 1) = gnN w m j := by rw [hg, if_neg (fun q => q.2 hm)]; rfl
        obtain ⟨I', e1, e2, e3⟩ := ih (j + 1) I (by omega) (by rw [swp_skip (Or.inl hm)]; exact hW) h1
        rw [hg1] at e1
        refine ⟨I', ?_, e2, e3⟩
        clear hg hgl
        simp (disch := first | assumption | omega | exact Nat.le_of_ble_eq_true rfl | decide) only [u_99_49, u_99_51, u_99_54, u_99_55, u_99_58, u_99_59, u_99_62, u_99_62n, u_99_65, u_99_66, u_99_69, u_99_70, u_99_73, u_99_76, u_99_77, u_99_80, u_99_81, u_99_84, u_99_87, u_99_90, hc, if_false, rc, r2, rv_some, hat, bnd_some, psh_some, hm0, Int.reduceEq, not_false_eq_true, if_true, wrN, e1]
      · have hhm : ¬ (0 ≤ (j : Int) ∧ (j : Int) < 30 ∧ ¬ idm m (j : Int) = -1) := fun q => q.2.2 (idm_not.mpr hm)
        simp only [if_neg hhm] at hm0
        have hg1 : gnN w m (j + 1) = gnN w m j + 1 := by rw [hg, if_pos ⟨hk0, hm⟩]
        obtain ⟨I1, f1, f2, f3⟩ := s_drop (d := d) hH.2.2 hW (i := j) (by omega)
        rw [swp_drop hm] at f2
        obtain ⟨I', e1, e2, e3⟩ := ih (j + 1) I1 (by omega) f2 (h1.cong (f3 _ (by omega)) (f3 _ (by omega)) (f3 _ (by omega)))
        rw [hg1] at e1
        refine ⟨I', ?_, e2, f3.tr e3⟩
        clear hg
        generalize gnN w m j = gn at hgl e1
        simp (disch := first | assumption | omega | exact Nat.le_of_ble_eq_true rfl | decide) only [u_99_49, u_99_51, u_99_54, u_99_55, u_99_58, u_99_59, u_99_62, u_99_62n, u_99_65, u_99_66, u_99_69, u_99_70, u_99_73, u_99_76, u_99_77, u_99_80, u_99_81, u_99_84, u_99_87, u_99_90, hc, if_false, rc, r2, rv_some, hat, bnd_some, psh_some, psh_none, hm0, not_true, f1, wrN, e1]
theorem CC_sweep (hC : CS sh R) (hc : cR I s) (hs : okS s) : CE sh R I (d + 41) 99 [] (b_sweep s) := by
  obtain ⟨hH, -, ⟨r2, hK⟩, -⟩ := id hC
  have tc := hH.1
  have tk := hK.1
  obtain ⟨I0, b1, b2, b3, b4⟩ := s_begin (I := I) (d := d + 39) hK
  have hc0 := hc.frK b4
  obtain ⟨I1, e1, e2, e3⟩ := sw_loop1 (d := d) (w := s.1) (h := s.2.2.2.2.1) (a2 := .inr (.inr 1)) hC hs.1 hs.2.2.2.2.2.2.1 8 0 I0 (by omega) hc0.1 b2 b3 hc0.2.2.2.2.1
  have hc1 := hc0.frK e3
  obtain ⟨I2, f1, f2, f3⟩ := sw_loop2 (d := d + 37) (w := s.1) (m := (swF s.1 s.2.2.2.2.1 8).1) hC hs.2.1 30 0 I1 (by omega) (by rw [swp_zero]; exact hc1.1) e2
  refine ⟨I2, ?_, hc1.wr f2 f3, fun k hk => by rw [f3 k (by omega), e3 k (by omega), b4 k (by omega)]⟩
  have e1 : ev S0 (d + 40) 99 9 [.inr (.inl 0), .inl 0, .inr (.inr 1)] [] (sh, I0, R) = ev S0 (d + 40) 99 44 [.inr (.inl 0), .inl 8, .inr (.inr 1)] [] (sh, I1, R) := e1
  have f1 : ev S0 (d + 40) 99 48 [.inr (.inl 0), .inl 0, .inl 0] [] (sh, I1, R) = some (some (.inl ((gnN s.1 (swF s.1 s.2.2.2.2.1 8).1 30 : Nat) : Int)), (sh, I2, R)) := f1
  rw [c_99]
  simp (disch := first | assumption | omega | exact Nat.le_of_ble_eq_true rfl | decide) only [u_99_0, u_99_1, u_99_4, u_99_7, u_99_8, r2, rv_some, b1, bnd_some, psh_none]
  rw [e1]
  simp (disch := first | assumption | omega | exact Nat.le_of_ble_eq_true rfl | decide) only [u_99_44, u_99_45, u_99_46, u_99_47, f1]
  rfl
/-! the model's sweep -/
def hbF (h : Nat → Int) : Nat → Nat → Bool
  | 0 => fun _ => false
  | j + 1 => fun i => hbF h j i || decide ((i : Int) = h j)
theorem hbF_iff {h : Nat → Int} {i : Nat} : ∀ j, hbF h j i = true ↔ ∃ q, q < j ∧ h q = (i : Int)
  | 0 => ⟨(fun q => by cases q), (fun ⟨q, a, _⟩ => by omega)⟩
  | j + 1 => by
    show (hbF h j i || decide ((i : Int) = h j)) = true ↔ _
    rw [Bool.or_eq_true, hbF_iff j, decide_eq_true_iff]
    constructor
    · rintro (⟨q, a, b⟩ | a)
      · exact ⟨q, by omega, b⟩
      · exact ⟨j, by omega, a.symm⟩
    · rintro ⟨q, a, b⟩
      by_cases hq : q = j
      · subst hq; exact Or.inr b.symm
      · exact Or.inl ⟨q, by omega, b⟩
theorem msw_loop1 (hX : MX sh R) {h : Nat → Int} (hh : ∀ q, q < 8 → livN w (h q)) (h3 : ∀ q : Nat, q < 8 → I 396 (q : Int) = h q) {a3 : AV} : ∀ (k j : Nat), j + k = 8 → ev S0 d 168 4 [.inr (.inl 392), .inl ((bs (hbF h j) : Nat) : Int), .inl (j : Int), a3] [] (sh, I, R) = ev S0 d 168 40 [.inr (.inl 392), .inl ((bs (hbF h 8) : Nat) : Int), .inl 8, a3] [] (sh, I, R) := by
  have t9 := hX.1.1
  obtain ⟨r4, t4, l4⟩ := hX.g 4 396 8 (by decide)
  intro k
  induction k with
  | zero =>
    intro j hj
    obtain rfl : j = 8 := by omega
    have hc : (8 : Int) ≤ 8 := by omega
    simp (disch := first | assumption | omega | exact Nat.le_of_ble_eq_true rfl | decide) only [u_168_4, u_168_5, u_168_7, Int.cast_ofNat_Int, if_pos hc]
  | succ k ih =>
    intro j hj
    have hc : ¬ (8 : Int) ≤ (j : Int) := by omega
    have hv := h3 j (by omega)
    have ih' := ih (j + 1) (by omega)
    rw [u_168_4]
    by_cases hm1 : h j = -1
    · have e : hbF h (j + 1) = hbF h j := by
        funext i
        show (hbF h j i || decide ((i : Int) = h j)) = _
        have : ¬ (i : Int) = h j := by omega
        simp [this]
      rw [e] at ih'
      have hlt : ¬ (0 : Int) ≤ h j := by omega
      simp (disch := first | assumption | omega | exact Nat.le_of_ble_eq_true rfl | decide) only [u_168_5, u_168_7, u_168_10, u_168_11, u_168_12, u_168_15, u_168_16, u_168_17, u_168_20, u_168_21, u_168_24, u_168_25, u_168_26, u_168_29, u_168_30, u_168_31, u_168_32, u_168_33, u_168_34, u_168_37, hc, if_false, r4, rv_some, hv, hlt, bs_or0, wrI, n1, ih']
    · obtain ⟨b, hb, hb30, -⟩ := liv_nat ((hh j (by omega)).resolve_left hm1)
      have e : hbF h (j + 1) = fun i => hbF h j i || decide (i = b) := by
        funext i
        show (hbF h j i || decide ((i : Int) = h j)) = _
        congr 1
        rw [hb]
        have : ((i : Int) = (b : Int)) ↔ i = b := by omega
        simp [this]
      rw [e] at ih'
      have hge : (0 : Int) ≤ h j := by omega
      have hsh := bs_shl hb30
      rw [← hb] at hsh
      have hor := bs_or (hbF h j) (fun i => decide (i = b))
      simp (disch := first | assumption | omega | exact Nat.le_of_ble_eq_true rfl | decide) only [u_168_5, u_168_7, u_168_10, u_168_11, u_168_12, u_168_15, u_168_16, u_168_17, u_168_20, u_168_21, u_168_24, u_168_25, u_168_26, u_168_29, u_168_30, u_168_31, u_168_32, u_168_33, u_168_34, u_168_37, hc, if_false, r4, rv_some, hv, if_pos hge, hsh, hor, wrI, n1, ih']
theorem msw_loop2 (hX : MX sh R) {I0 : IM} (hW : isM I0 393 w) : ∀ (k j : Nat) (I : IM), j + k = 30 → (∀ i : Nat, i < j → (i : Int) ∉ m → I 393 (i : Int) = 0) → (∀ z : Int, ¬ (0 ≤ z ∧ z < (j : Int) ∧ z ∉ m) → I 393 z = I0 393 z) → (∀ k, k ≠ 393 → I k = I0 k) → ∃ I', ev S0 d 168 50 [.inr (.inl 392), .inl ((bs (mb m) : Nat) : Int), .inl ((gnN w m j : Nat) : Int), .inl (j : Int)] [] (sh, I, R) = some (some (.inl ((gnN w m 30 : Nat) : Int)), (sh, I', R)) ∧ (∀ i : Nat, i < 30 → (i : Int) ∉ m → I' 393 (i : Int) = 0) ∧ (∀ z : Int, ¬ (0 ≤ z ∧ z < 30 ∧ z ∉ m) → I' 393 z = I0 393 z) ∧ (∀ k, k ≠ 393 → I' k = I0 k) := by
  obtain ⟨t9, r9, tg_, lg⟩ := hX.1
  intro k
  induction k with
  | zero =>
    intro j I hj h1 h2 h3
    obtain rfl : j = 30 := by omega
    have hc : (30 : Int) ≤ 30 := by omega
    refine ⟨I, ?_, h1, h2, h3⟩
    simp (disch := first | assumption | omega | exact Nat.le_of_ble_eq_true rfl | decide) only [u_168_50, u_168_51, u_168_53, u_168_93, u_168_94, Int.cast_ofNat_Int, if_pos hc]
  | succ k ih =>
    intro j I hj h1 h2 h3
    have hc : ¬ (30 : Int) ≤ (j : Int) := by omega
    have hv : I 393 (j : Int) = (w.1 j).1 := by rw [h2 _ (fun q => by omega)]; exact (hW.1 j (by omega)).1
    have hgl := gnN_le w m j
    have hg : gnN w m (j + 1) = gnN w m j + (if ¬ (w.1 j).1 = 0 ∧ (j : Int) ∉ m then 1 else 0) := rfl
    rw [u_168_50]
    by_cases hk0 : (w.1 j).1 = 0
    · have hg1 : gnN w m (j + 1) = gnN w m j := by rw [hg, if_neg (fun q => q.1 hk0)]; rfl
      obtain ⟨I', e1, e2, e3, e4⟩ := ih (j + 1) I (by omega) (fun i hi hm => by
        by_cases hij : i = j
        · subst hij; rw [hv, hk0]
        · exact h1 i (by omega) hm) (fun z hz => h2 z (fun q => hz ⟨q.1, by omega, q.2.2⟩)) h3
      rw [hg1] at e1
      rw [hk0] at hv
      refine ⟨I', ?_, e2, e3, e4⟩
      clear hg hgl
      simp (disch := first | assumption | omega | exact Nat.le_of_ble_eq_true rfl | decide) only [u_168_51, u_168_53, u_168_56, u_168_57, u_168_60, u_168_61, u_168_62, u_168_63, u_168_64, u_168_67, u_168_68, u_168_69, u_168_70, u_168_71, u_168_72, u_168_75, u_168_76, u_168_79, u_168_80, u_168_81, u_168_82, u_168_83, u_168_84, u_168_87, u_168_90, hc, if_false, r9, rv_some, wrI, Int.zero_add, hv, if_true, n1, e1]
    · have hsr := bs_shr (mb m) (k := j) (by omega)
      by_cases hm : (j : Int) ∈ m
      · rw [if_pos (by unfold mb; exact decide_eq_true hm)] at hsr
        have hg1 : gnN w m (j + 1) = gnN w m j := by rw [hg, if_neg (fun q => q.2 hm)]; rfl
        obtain ⟨I', e1, e2, e3, e4⟩ := ih (j + 1) I (by omega) (fun i hi hn => by
          by_cases hij : i = j
          · subst hij; exact absurd hm hn
          · exact h1 i (by omega) hn) (fun z hz => h2 z (fun q => hz ⟨q.1, by omega, q.2.2⟩)) h3
        rw [hg1] at e1
        refine ⟨I', ?_, e2, e3, e4⟩
        clear hg hgl
        simp (disch := first | assumption | omega | exact Nat.le_of_ble_eq_true rfl | decide) only [u_168_51, u_168_53, u_168_56, u_168_57, u_168_60, u_168_61, u_168_62, u_168_63, u_168_64, u_168_67, u_168_68, u_168_69, u_168_70, u_168_71, u_168_72, u_168_75, u_168_76, u_168_79, u_168_80, u_168_81, u_168_82, u_168_83, u_168_84, u_168_87, u_168_90, hc, if_false, r9, rv_some, wrI, Int.zero_add, hv, hk0, hsr, Int.reduceEq, not_false_eq_true, if_true, n1, e1]
      · rw [if_neg (by unfold mb; rw [decide_eq_false hm]; decide)] at hsr
        have hg1 : gnN w m (j + 1) = gnN w m j + 1 := by rw [hg, if_pos ⟨hk0, hm⟩]
        obtain ⟨I', e1, e2, e3, e4⟩ := ih (j + 1) (up I 393 (j : Int) 0) (by omega) (fun i hi hn => by
          by_cases hij : i = j
          · subst hij; exact ups
          · rw [upj (by omega)]; exact h1 i (by omega) hn) (fun z hz => by
          by_cases hzj : z = (j : Int)
          · subst hzj; exact absurd ⟨by omega, by omega, hm⟩ hz
          · rw [upj hzj]; exact h2 z (fun q => hz ⟨q.1, by omega, q.2.2⟩)) (fun k hk => by rw [upf hk]; exact h3 k hk)
        rw [hg1] at e1
        refine ⟨I', ?_, e2, e3, e4⟩
        clear hg
        generalize gnN w m j = gn at hgl e1
        simp (disch := first | assumption | omega | exact Nat.le_of_ble_eq_true rfl | decide) only [u_168_51, u_168_53, u_168_56, u_168_57, u_168_60, u_168_61, u_168_62, u_168_63, u_168_64, u_168_67, u_168_68, u_168_69, u_168_70, u_168_71, u_168_72, u_168_75, u_168_76, u_168_79, u_168_80, u_168_81, u_168_82, u_168_83, u_168_84, u_168_87, u_168_90, hc, if_false, r9, rv_some, wrI, Int.zero_add, hv, hk0, hsr, not_true, n1, e1]
theorem MM_sweep (hX : MX sh R) (hm : mR I s) (hs : okS s) : ME sh R I (d + 4) 168 [] (b_sweep s) := by
  have t9 := hX.1.1
  have hh := hs.2.2.2.2.2.2.1
  obtain ⟨k1, k2, k3, k4, k5⟩ := swF_ok hs.1 (h := s.2.2.2.2.1) hh 8 (by omega)
  have e1 := msw_loop1 (d := d + 3) (I := I) (R := R) (sh := sh) (a3 := .inr (.inr 1)) hX hh hm.2.2.2.2.1 8 0 (by omega)
  have e1 : ev S0 (d + 3) 168 4 [.inr (.inl 392), .inl 0, .inl 0, .inr (.inr 1)] [] (sh, I, R) = ev S0 (d + 3) 168 40 [.inr (.inl 392), .inl ((bs (hbF s.2.2.2.2.1 8) : Nat) : Int), .inl 8, .inr (.inr 1)] [] (sh, I, R) := e1
  have e2 := m_reach (d := d) (F := hbF s.2.2.2.2.1 8) hX.1 hm.1 hs.1 k1 k3 (fun i hi q => by
    obtain ⟨a, b, c⟩ := (hbF_iff 8).mp q
    have := (k4 a b).resolve_left (by omega)
    rw [← c]; exact this) (fun x hx => by
    obtain ⟨a, b, c, e⟩ := k5 x hx
    obtain ⟨j, hj, hj30, -⟩ := liv_nat ((hh a b).resolve_left c)
    exact ⟨j, hj30, (hbF_iff 8).mpr ⟨a, b, hj⟩, by rw [← hj]; exact e⟩)
  obtain ⟨I', f1, f2, f3, f4⟩ := msw_loop2 (d := d + 3) (m := (swF s.1 s.2.2.2.2.1 8).1) hX hm.1 30 0 I (by omega) (fun i hi => by omega) (fun z _ => rfl) (fun k _ => rfl)
  have f1 : ev S0 (d + 3) 168 50 [.inr (.inl 392), .inl ((bs (mb (swF s.1 s.2.2.2.2.1 8).1) : Nat) : Int), .inl 0, .inl 0] [] (sh, I, R) = some (some (.inl ((gnN s.1 (swF s.1 s.2.2.2.2.1 8).1 30 : Nat) : Int)), (sh, I', R)) := f1
  have hW' : isM I' 393 (swp s.1 (swF s.1 s.2.2.2.2.1 8).1 30) := by
    refine ⟨fun i hi => ?_, fun q hq => ?_, fun k a b => ?_⟩
    · by_cases him : (i : Int) ∈ (swF s.1 s.2.2.2.2.1 8).1
      · have e : (swp s.1 (swF s.1 s.2.2.2.2.1 8).1 30).1 i = s.1.1 i := by
          simp only [swp]
          rw [if_neg (fun q => q.2 him)]
        rw [e]
        have hok := hs.1.1 i hi
        refine (hm.1.1 i hi).cong hok.2.2.2.2.2.2.2.1 hok.2.2.2.2.2.2.2.2.1 (fun z hz => f3 z (fun q => ?_))
        unfold nSlot at hz
        have : z = (i : Int) := by omega
        rw [this] at q
        exact q.2.2 him
      · have e : (swp s.1 (swF s.1 s.2.2.2.2.1 8).1 30).1 i = (0, 0, [], []) := by
          simp only [swp]
          rw [if_pos ⟨hi, him⟩]
        rw [e]
        exact ⟨f2 i hi him, fun q => absurd rfl q⟩
    · have := hm.1.2.1 q hq
      have hl := (hs.1.2.1 q hq).1
      exact ⟨by rw [f3 _ (fun z => by omega)]; exact this.1, fun j p hp => by
        have := lenOf hp
        have hp' : (s.1.2.1 q)[j]? = some p := hp
        rw [f3 _ (fun z => by omega), f3 _ (fun z => by omega)]
        exact (hm.1.2.1 q hq).2 j p hp'⟩
    · rw [f3 _ (fun z => by omega)]; exact hm.1.2.2 k a b
  refine ⟨I', ?_, hm.wr hW' (fun k hk => f4 k hk), fun k hk => f4 k (by omega)⟩
  rw [c_168]
  simp (disch := first | assumption | omega | exact Nat.le_of_ble_eq_true rfl | decide) only [u_168_0, u_168_1, u_168_2, u_168_3]
  rw [e1]
  simp (disch := first | assumption | omega | exact Nat.le_of_ble_eq_true rfl | decide) only [u_168_40, u_168_41, u_168_42, u_168_45, u_168_46, u_168_47, u_168_48, u_168_49, e2, bnd_some, psh_some, f1]
  rfl
end SW
