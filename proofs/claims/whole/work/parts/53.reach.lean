/-! THE MODEL: what can be reached, in bits -/
theorem sumN_lt {f g : Nat → Nat} {k : Nat} : ∀ n, (∀ i, i < n → f i ≤ g i) → k < n → f k < g k → sumN f n < sumN g n
  | 0, _, h, _ => by omega
  | n + 1, h, hk, hl => by
    show sumN f n + f n < sumN g n + g n
    by_cases hkn : k = n
    · subst hkn
      have : sumN f k ≤ sumN g k := by
        clear hl hk
        have hle : ∀ i, i < k → f i ≤ g i := fun i hi => h i (by omega)
        clear h
        induction k with
        | zero => exact Nat.le_refl _
        | succ k ih =>
          show sumN f k + f k ≤ sumN g k + g k
          have := ih (fun i hi => hle i (by omega))
          have := hle k (by omega)
          omega
      omega
    · have := sumN_lt n (fun i hi => h i (by omega)) (by omega) hl
      have := h n (by omega)
      omega
/-- a set's members, in bits -/
def mb (m : List Int) : Nat → Bool := fun i => decide ((i : Int) ∈ m)
def cnt (f : Nat → Bool) : Nat := sumN (fun i => if f i then 1 else 0) 30
theorem cnt_le (f : Nat → Bool) : cnt f ≤ 30 := by
  have := sumN_le (f := fun i => if f i then 1 else 0) (c := 1) 30 (fun i _ => by split <;> omega)
  unfold cnt
  omega
theorem cnt_lt {f g : Nat → Bool} (h : ∀ i, i < 30 → f i = true → g i = true) {k : Nat} (hk : k < 30) (hf : f k = false) (hg : g k = true) : cnt f < cnt g := by
  refine sumN_lt (k := k) 30 (fun i hi => ?_) hk ?_
  · by_cases hfi : f i = true
    · rw [if_pos hfi, if_pos (h i hi hfi)]; exact Nat.le_refl _
    · rw [if_neg hfi]; exact Nat.zero_le _
  · rw [if_neg (by rw [hf]; decide), if_pos hg]
    decide
def nx (w : WD) (o : Nat) : Nat → Bool := mb (w.1 o).2.2.1
def accN (w : WD) (S fr : Nat → Bool) : Nat → Nat → Bool
  | 0 => S
  | j + 1 => fun i => accN w S fr j i || (fr j && nx w j i)
theorem accN_iff {w : WD} {S fr : Nat → Bool} {i : Nat} : ∀ j, accN w S fr j i = true ↔ (S i = true ∨ ∃ o, o < j ∧ fr o = true ∧ (i : Int) ∈ (w.1 o).2.2.1)
  | 0 => ⟨fun h => Or.inl h, fun h => h.elim id (fun ⟨o, a, _⟩ => by omega)⟩
  | j + 1 => by
    show (accN w S fr j i || (fr j && nx w j i)) = true ↔ _
    rw [Bool.or_eq_true, Bool.and_eq_true, accN_iff j]
    unfold nx mb
    rw [decide_eq_true_iff]
    constructor
    · rintro ((h | ⟨o, a, b⟩) | ⟨a, b⟩)
      · exact Or.inl h
      · exact Or.inr ⟨o, by omega, b⟩
      · exact Or.inr ⟨j, by omega, a, b⟩
    · rintro (h | ⟨o, a, b, c⟩)
      · exact Or.inl (Or.inl h)
      · by_cases ho : o = j
        · subst ho; exact Or.inr ⟨b, c⟩
        · exact Or.inl (Or.inr ⟨o, by omega, b, c⟩)
theorem bs_or0 (f : Nat → Bool) : b32 (fun x y => x ||| y) ((bs f : Nat) : Int) 0 = ((bs f : Nat) : Int) := by
  have := bs_or f (fun _ => false)
  rw [bs_zero] at this
  simp only [Bool.or_false] at this
  exact this
/-- those that a closed set holds all come from where it began -/
def clo (w : WD) (m : List Int) : Prop := ∀ x ∈ m, ∀ r ∈ (w.1 x.toNat).2.2.1, r = -1 ∨ r ∈ m
theorem clo_rch {w : WD} {S : Int → Prop} (hS : ∀ x, S x → ∀ r ∈ (w.1 x.toNat).2.2.1, r = -1 ∨ S r) : ∀ (n : Nat) (a b : Int), S a → reachN w n a b → S b
  | 0, a, b, h, q => by
    have q : a = b := q
    exact q ▸ h
  | n + 1, a, b, h, ⟨c, h1, h2, h3⟩ => clo_rch hS n c b ((hS a h c h1).resolve_left h2) h3
section MR
variable {sh : Shp} {R : RM} {I : IM} {d : Nat} {w : WD} {m : List Int}
theorem next_loop (hM : MS sh R) (hW : isM I 393 w) (hw : okW w) {o : Nat} (ho : o < 30) (hk : (w.1 o).1 ≠ 0) : ∀ (k j : Nat), j + k = (w.1 o).2.2.1.length → ev S0 (d + 1) 190 4 [.inr (.inl 392), .inl (o : Int), .inl ((bs (mb ((w.1 o).2.2.1.take j)) : Nat) : Int), .inl (j : Int)] [] (sh, I, R) = some (some (.inl ((bs (nx w o) : Nat) : Int)), (sh, I, R)) := by
  obtain ⟨t, r, tg_, lg⟩ := id hM
  have hok := hw.1 o ho
  have h6 := hok.2.2.2.2.2.2.2.1
  obtain ⟨n1_, n2, n3⟩ := (hW.1 o ho).2 hk
  have n20 := n2.1
  intro k
  induction k with
  | zero =>
    intro j hj
    have hc : ((w.1 o).2.2.1.length : Int) ≤ (j : Int) := by omega
    rw [List.take_of_length_le (by omega)]
    simp (disch := first | assumption | omega | exact Nat.le_of_ble_eq_true rfl | decide) only [u_190_4, u_190_5, u_190_6, u_190_9, u_190_11, u_190_12, u_190_13, u_190_14, u_190_47, u_190_48, r, rv_some, wrI, n20, hc, if_true]
    rfl
  | succ k ih =>
    intro j hj
    have hjl : j < (w.1 o).2.2.1.length := by omega
    have hc : ¬ ((w.1 o).2.2.1.length : Int) ≤ (j : Int) := by omega
    have hro := m_refOf (I := I) (d := d) (i := j) hM ho (by omega)
    rw [n2.at hjl] at hro
    have e : mb ((w.1 o).2.2.1.take (j + 1)) = fun i => mb ((w.1 o).2.2.1.take j) i || decide ((i : Int) = (w.1 o).2.2.1[j]) := by
      funext i
      unfold mb
      rw [List.take_succ_eq_append_getElem hjl, Bool.eq_iff_iff]
      simp only [decide_eq_true_iff, Bool.or_eq_true, List.mem_append, List.mem_singleton]
    have ih' := ih (j + 1) (by omega)
    rw [e] at ih'
    rw [u_190_4]
    rcases hok.2.2.2.2.2.2.2.2.2.2.2.1 _ (List.getElem_mem hjl) with q | ⟨b, q, hb, hbk⟩
    · have hlt : ¬ (0 : Int) ≤ (w.1 o).2.2.1[j] := by omega
      have e2 : (fun i : Nat => mb ((w.1 o).2.2.1.take j) i || decide ((i : Int) = (w.1 o).2.2.1[j])) = mb ((w.1 o).2.2.1.take j) := by
        funext i
        have : ¬ (i : Int) = (w.1 o).2.2.1[j] := by omega
        simp [this]
      rw [e2] at ih'
      simp (disch := first | assumption | omega | exact Nat.le_of_ble_eq_true rfl | decide) only [u_190_5, u_190_6, u_190_9, u_190_11, u_190_12, u_190_13, u_190_14, u_190_17, u_190_18, u_190_19, u_190_20, u_190_21, u_190_24, u_190_27, u_190_28, u_190_31, u_190_32, u_190_33, u_190_34, u_190_35, u_190_38, u_190_39, u_190_40, u_190_41, u_190_44, r, rv_some, wrI, n20, hc, if_false, hro, bnd_some, psh_some, hlt, bs_or0, n1, ih']
    · have hge : (0 : Int) ≤ (w.1 o).2.2.1[j] := by omega
      have e2 : (fun i : Nat => mb ((w.1 o).2.2.1.take j) i || decide ((i : Int) = (w.1 o).2.2.1[j])) = fun i => mb ((w.1 o).2.2.1.take j) i || decide (i = b) := by
        funext i
        congr 1
        rw [q]
        have : ((i : Int) = (b : Int)) ↔ i = b := by omega
        simp [this]
      rw [e2] at ih'
      have hsh := bs_shl hb
      rw [← q] at hsh
      have hor := bs_or (mb ((w.1 o).2.2.1.take j)) (fun i => decide (i = b))
      simp (disch := first | assumption | omega | exact Nat.le_of_ble_eq_true rfl | decide) only [u_190_5, u_190_6, u_190_9, u_190_11, u_190_12, u_190_13, u_190_14, u_190_17, u_190_18, u_190_19, u_190_20, u_190_21, u_190_24, u_190_27, u_190_28, u_190_31, u_190_32, u_190_33, u_190_34, u_190_35, u_190_38, u_190_39, u_190_40, u_190_41, u_190_44, r, rv_some, wrI, n20, hc, if_false, hro, bnd_some, psh_some, if_pos hge, hsh, hor, n1, ih']
theorem m_next (hM : MS sh R) (hW : isM I 393 w) (hw : okW w) {o : Nat} (ho : o < 30) (hk : (w.1 o).1 ≠ 0) : cl (d + 2) 190 [.inr (.inl 392), .inl (o : Int)] (sh, I, R) = some (some (.inl ((bs (nx w o) : Nat) : Int)), (sh, I, R)) := by
  have e := next_loop (d := d) hM hW hw ho hk (w.1 o).2.2.1.length 0 (by omega)
  have e : ev S0 (d + 1) 190 4 [.inr (.inl 392), .inl (o : Int), .inl 0, .inl 0] [] (sh, I, R) = some (some (.inl ((bs (nx w o) : Nat) : Int)), (sh, I, R)) := by
    rw [show bs (mb ((w.1 o).2.2.1.take 0)) = 0 from rfl] at e
    exact e
  rw [c_190]
  simp (disch := first | assumption | omega | exact Nat.le_of_ble_eq_true rfl | decide) only [u_190_0, u_190_1, u_190_2, u_190_3, e]
theorem reach_in (hM : MS sh R) (hW : isM I 393 w) (hw : okW w) {S fr : Nat → Bool} (hfr : ∀ o, o < 30 → fr o = true → (w.1 o).1 ≠ 0) {a1 a3 : AV} : ∀ (k j : Nat), j + k = 30 → ev S0 (d + 2) 191 21 [.inr (.inl 392), a1, .inl ((bs (accN w S fr j) : Nat) : Int), a3, .inl ((bs fr : Nat) : Int), .inl (j : Int)] [] (sh, I, R) = ev S0 (d + 2) 191 4 [.inr (.inl 392), a1, .inl ((bs (accN w S fr 30) : Nat) : Int), a3, .inl ((bs fr : Nat) : Int), .inl 30] [] (sh, I, R) := by
  have t := hM.1
  intro k
  induction k with
  | zero =>
    intro j hj
    obtain rfl : j = 30 := by omega
    have hc : (30 : Int) ≤ 30 := by omega
    simp (disch := first | assumption | omega | exact Nat.le_of_ble_eq_true rfl | decide) only [u_191_21, u_191_23, u_191_25, u_191_58, Int.cast_ofNat_Int, if_pos hc]
  | succ k ih =>
    intro j hj
    have hc : ¬ (30 : Int) ≤ (j : Int) := by omega
    have ih' := ih (j + 1) (by omega)
    have hsr := bs_shr fr (k := j) (by omega)
    rw [u_191_21]
    by_cases hf : fr j = true
    · rw [if_pos hf] at hsr
      have e : accN w S fr (j + 1) = fun i => accN w S fr j i || nx w j i := by
        funext i
        show (accN w S fr j i || (fr j && nx w j i)) = _
        rw [hf, Bool.true_and]
      rw [e] at ih'
      have hor := bs_or (accN w S fr j) (nx w j)
      simp (disch := first | assumption | omega | exact Nat.le_of_ble_eq_true rfl | decide) only [u_191_23, u_191_25, u_191_28, u_191_29, u_191_31, u_191_33, u_191_34, u_191_35, u_191_36, u_191_37, u_191_40, u_191_41, u_191_43, u_191_46, u_191_49, u_191_50, u_191_51, u_191_52, u_191_55, hc, if_false, hsr, not_true, m_next hM hW hw (show j < 30 by omega) (hfr j (by omega) hf), bnd_some, psh_some, hor, wrI, n1, ih']
    · have hf0 : fr j = false := by simpa using hf
      rw [if_neg hf] at hsr
      have e : accN w S fr (j + 1) = accN w S fr j := by
        funext i
        show (accN w S fr j i || (fr j && nx w j i)) = _
        rw [hf0, Bool.false_and, Bool.or_false]
      rw [e] at ih'
      simp (disch := first | assumption | omega | exact Nat.le_of_ble_eq_true rfl | decide) only [u_191_23, u_191_25, u_191_28, u_191_29, u_191_31, u_191_33, u_191_34, u_191_35, u_191_36, u_191_37, u_191_40, u_191_41, u_191_43, u_191_46, u_191_49, u_191_50, u_191_51, u_191_52, u_191_55, hc, if_false, if_true, hsr, Int.reduceEq, not_false_eq_true, bs_or0, wrI, n1, ih']
/-- a closed set that holds the first ones, and nothing that isn't reached from them, is what reach answers -/
theorem m_reach (hM : MS sh R) (hW : isM I 393 w) (hw : okW w) (hm : okm w m) (hcl : clo w m) {F : Nat → Bool} (hF : ∀ i, i < 30 → F i = true → (i : Int) ∈ m) (hR : ∀ x ∈ m, ∃ i : Nat, i < 30 ∧ F i = true ∧ Rch w (i : Int) x) : cl (d + 3) 191 [.inr (.inl 392), .inl ((bs F : Nat) : Int)] (sh, I, R) = some (some (.inl ((bs (mb m) : Nat) : Int)), (sh, I, R)) := by
  have t := hM.1
  have main : ∀ (f : Nat) (S H : Nat → Bool) (a1 a4 a5 : AV), 30 < cnt H + f → (∀ i, i < 30 → H i = true → S i = true) → (∀ i, i < 30 → S i = true → (i : Int) ∈ m) → (∀ i, i < 30 → F i = true → S i = true) → (∀ o, o < 30 → H o = true → ∀ i : Nat, (i : Int) ∈ (w.1 o).2.2.1 → S i = true) → ev S0 (d + 2) 191 4 [.inr (.inl 392), a1, .inl ((bs S : Nat) : Int), .inl ((bs H : Nat) : Int), a4, a5] [] (sh, I, R) = some (some (.inl ((bs (mb m) : Nat) : Int)), (sh, I, R)) := by
    intro f
    induction f with
    | zero => intro S H a1 a4 a5 hf; have := cnt_le H; omega
    | succ f ih =>
      intro S H a1 a4 a5 hf hHS hSm hFS hnx
      by_cases he : ((bs S : Nat) : Int) = ((bs H : Nat) : Int)
      · have hsame := bs_inj.mp he
        have : bs S = bs (mb m) := bs_congr (fun i hi => by
          unfold mb
          by_cases hs : S i = true
          · rw [hs, decide_eq_true (hSm i hi hs)]
          · have hs0 : S i = false := by simpa using hs
            rw [hs0, decide_eq_false]
            intro q
            obtain ⟨a, ha, hFa, n, hn⟩ := hR _ q
            have := clo_rch (w := w) (S := fun z => ∃ b : Nat, z = (b : Int) ∧ b < 30 ∧ S b = true) (fun x hx r hr => by
              obtain ⟨b, rfl, hb, hSb⟩ := hx
              rw [Int.toNat_natCast] at hr
              rcases (hw.1 b hb).2.2.2.2.2.2.2.2.2.2.2.1 r hr with q | ⟨c, rfl, hc, -⟩
              · exact Or.inl q
              · exact Or.inr ⟨c, rfl, hc, hnx b hb (by rw [← hsame b hb]; exact hSb) c hr⟩) n _ _ ⟨a, rfl, ha, hFS a ha hFa⟩ hn
            obtain ⟨b, hb1, hb2, hb3⟩ := this
            have : b = i := by omega
            subst this
            exact hs hb3)
        simp (disch := first | assumption | omega | exact Nat.le_of_ble_eq_true rfl | decide) only [u_191_4, u_191_5, u_191_6, u_191_61, u_191_62, if_pos he]
        rw [this]
      · have hne : ∃ i, i < 30 ∧ S i ≠ H i := Classical.byContradiction (fun q => he (bs_inj.mpr (fun i hi => Classical.byContradiction (fun z => q ⟨i, hi, z⟩))))
        obtain ⟨i0, hi0, hd⟩ := hne
        have hS0 : S i0 = true := Classical.byContradiction (fun q => by
          have q0 : S i0 = false := by simpa using q
          have : ¬ H i0 = true := fun z => q (hHS i0 hi0 z)
          have : H i0 = false := by simpa using this
          exact hd (by rw [q0, this]))
        have hH0 : H i0 = false := by
          have : ¬ H i0 = true := fun z => hd (by rw [hS0, z])
          simpa using this
        have hcnt := cnt_lt hHS hi0 hH0 hS0
        have hlive : ∀ o, o < 30 → S o = true → (w.1 o).1 ≠ 0 := fun o ho hs => by
          have := (hm.2 _ (hSm o ho hs)).2.2
          rw [Int.toNat_natCast] at this
          exact this
        have hin := reach_in (d := d) (S := S) (fr := fun i => S i && !H i) (a1 := a1) (a3 := .inl ((bs S : Nat) : Int)) hM hW hw (fun o ho hs => hlive o ho (by rw [Bool.and_eq_true] at hs; exact hs.1)) 30 0 (by omega)
        have hin : ev S0 (d + 2) 191 21 [.inr (.inl 392), a1, .inl ((bs S : Nat) : Int), .inl ((bs S : Nat) : Int), .inl ((bs (fun i => S i && !H i) : Nat) : Int), .inl 0] [] (sh, I, R) = _ := hin
        rw [u_191_4]
        simp (disch := first | assumption | omega | exact Nat.le_of_ble_eq_true rfl | decide) only [u_191_5, u_191_6, u_191_9, u_191_10, u_191_11, u_191_12, u_191_13, u_191_14, u_191_16, u_191_17, u_191_18, u_191_19, he, if_false, bs_diff, hin]
        refine ih _ S a1 _ _ (by omega) (fun i hi hs => (accN_iff 30).mpr (Or.inl hs)) (fun i hi hs => ?_) (fun i hi hs => (accN_iff 30).mpr (Or.inl (hFS i hi hs))) (fun o ho hs i hr => ?_)
        · rcases (accN_iff 30).mp hs with q | ⟨o, ho, q, hr⟩
          · exact hSm i hi q
          · rw [Bool.and_eq_true] at q
            have := hcl _ (hSm o ho q.1) (i : Int) (by rw [Int.toNat_natCast]; exact hr)
            exact this.resolve_left (by omega)
        · by_cases hH : H o = true
          · exact (accN_iff 30).mpr (Or.inl (hnx o ho hH i hr))
          · have hH' : H o = false := by simpa using hH
            exact (accN_iff 30).mpr (Or.inr ⟨o, ho, by rw [hs, hH']; rfl, hr⟩)
  have e := main 31 F (fun _ => false) (.inl ((bs F : Nat) : Int)) (.inr (.inr 1)) (.inr (.inr 1)) (by omega) (fun i _ h => by cases h) hF (fun i _ h => h) (fun o _ h => by cases h)
  have e : ev S0 (d + 2) 191 4 [.inr (.inl 392), .inl ((bs F : Nat) : Int), .inl ((bs F : Nat) : Int), .inl 0, .inr (.inr 1), .inr (.inr 1)] [] (sh, I, R) = _ := e
  rw [c_191]
  simp (disch := first | assumption | omega | exact Nat.le_of_ble_eq_true rfl | decide) only [u_191_0, u_191_1, u_191_2, u_191_3, e]
end MR
