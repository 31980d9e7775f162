/-! READING A STREAM, AS WORLDS -/
def hr (t : List Int) (a : Nat) : Int := if a < t.length then t.getD a 0 else -1
def dgR (t : List Int) (lo hi : Int) (a : Nat) : Option Int := if lo ≤ hr t a - 48 ∧ hr t a - 48 ≤ hi then some (hr t a - 48) else none
def nA (t : List Int) (a : Nat) : Nat := if hr t a = 45 then a + 1 else a
def nLo (t : List Int) (a : Nat) : Int := if hr t a = 45 then 1 else 0
def nTw (t : List Int) (v : Int) (a : Nat) : Int × Nat := if 0 < v ∧ 0 ≤ hr t a - 48 ∧ hr t a - 48 ≤ 9 then (10 * v + (hr t a - 48), a + 1) else (v, a)
def nmR (t : List Int) (a : Nat) : Option (Int × Nat) := match dgR t (nLo t a) 9 (nA t a) with
  | none => none
  | some v => some (if hr t a = 45 then -(nTw t v (nA t a + 1)).1 else (nTw t v (nA t a + 1)).1, (nTw t v (nA t a + 1)).2)
def flR (t : List Int) : Nat → Nat → FL → (FL × Nat) ⊕ FL
  | 0, _, _ => .inr []
  | f + 1, a, L => if hr t a = 46 then .inl (L, a + 1) else if ¬ isNm (hr t a) then .inr [(1, (a : Int))] else if ¬ fidx L (hr t a) = -1 ∨ 6 ≤ L.length then .inr [(6, (a : Int))] else match nmR t (a + 1) with
    | none => .inr [(1, (nA t (a + 1) : Int))]
    | some p => flR t f p.2 (L ++ [(hr t a, p.1)])
abbrev LSt : Type := WD × Nat × List Int
abbrev LFl : Type := FL × WD × List Int
abbrev RRes : Type := (Int × LSt) ⊕ LFl
def hdR (t : List Int) (kd : Int) (s : LSt) : RRes := if kd = 4 then (match dgR t 0 3 s.2.1 with
    | none => .inr ([(1, (s.2.1 : Int))], s.1, s.2.2)
    | some k => match dgR t 0 6 (s.2.1 + 1) with
      | none => .inr ([(1, ((s.2.1 + 1 : Nat) : Int))], s.1, s.2.2)
      | some n => .inl (freeW s.1, (setN s.1 (freeW s.1).toNat (4, k, List.replicate n.toNat (-1), []), s.2.1 + 2, s.2.2 ++ [freeW s.1])))
  else match dgR t 1 3 s.2.1 with
    | none => .inr ([(1, (s.2.1 : Int))], s.1, s.2.2)
    | some _ => match flR t 7 (s.2.1 + 1) [] with
      | .inr fl => .inr (fl, s.1, s.2.2)
      | .inl p => .inl (freeW s.1, (setN s.1 (freeW s.1).toNat (defs s.1 (kd, 0, List.replicate (rOf kd) (-1), p.1)), p.2, s.2.2 ++ [freeW s.1]))
def kOf (c : Int) : Int := if c = 66 then 2 else if c = 67 then 3 else if c = 76 then 1 else if c = 82 then 4 else 0
def mtR (t : List Int) (s : LSt) : RRes := if ¬ (0 ≤ hr t s.2.1 - 65 ∧ hr t s.2.1 - 65 ≤ 29) then .inr ([(1, (s.2.1 : Int))], s.1, s.2.2) else if (s.2.2.length : Int) ≤ hr t s.2.1 - 65 then .inr ([(2, (s.2.1 : Int))], s.1, s.2.2) else .inl (s.2.2.getD (hr t s.2.1 - 65).toNat 0, (s.1, s.2.1 + 1, s.2.2))
def rfR (p : LSt → RRes) (i : Nat) : Nat → Nat → LSt → LSt ⊕ LFl
  | 0, _, s => .inl s
  | k + 1, j, s => match p s with
    | .inr e => .inr e
    | .inl x => if ¬ x.1 = -1 ∧ mayH (x.2.1.1 i).1 (x.2.1.1 i).2.1 (x.2.1.1 x.1.toNat).1 = 0 then .inr ([(3, (s.2.1 : Int))], x.2.1, x.2.2.2) else rfR p i k (j + 1) (setN x.2.1 i (setR (x.2.1.1 i) ((x.2.1.1 i).2.2.1.set j x.1)), x.2.2)
def psOn (a : Nat) (e : LFl) : LFl := (e.1 ++ [(8, (a : Int))], e.2)
def paB (t : List Int) (deep : Bool) (p : LSt → RRes) (s : LSt) : RRes :=
  if hr t s.2.1 = 45 then .inl (-1, (s.1, s.2.1 + 1, s.2.2)) else if hr t s.2.1 = 35 then mtR t (s.1, s.2.1 + 1, s.2.2) else
  if kOf (hr t s.2.1) = 0 then .inr ([(1, (s.2.1 : Int))], s.1, s.2.2) else if deep = true then .inr ([(5, (s.2.1 : Int))], s.1, s.2.2) else if freeW s.1 = -1 then .inr ([(4, (s.2.1 : Int))], s.1, s.2.2) else
  match hdR t (kOf (hr t s.2.1)) (s.1, s.2.1 + 1, s.2.2) with
  | .inr e => .inr (psOn s.2.1 e)
  | .inl x => match rfR p x.1.toNat (x.2.1.1 x.1.toNat).2.2.1.length 0 x.2 with
    | .inr e => .inr (psOn s.2.1 e)
    | .inl s2 => .inl (x.1, s2)
def paR (t : List Int) : Nat → LSt → RRes
  | 0 => paB t true (fun s => .inr ([], s.1, s.2.2))
  | n + 1 => paB t false (paR t n)
/-! what holds of it -/
theorem hr_lt {t : List Int} {a : Nat} (h : hr t a ≠ -1) : a < t.length := Classical.byContradiction (fun q => h (by unfold hr; rw [if_neg q]))
theorem dgR_some {t : List Int} {lo hi v : Int} {a : Nat} (h : dgR t lo hi a = some v) : v = hr t a - 48 ∧ lo ≤ v ∧ v ≤ hi := by
  unfold dgR at h
  by_cases q : lo ≤ hr t a - 48 ∧ hr t a - 48 ≤ hi
  · rw [if_pos q] at h
    have := Option.some.inj h
    omega
  · rw [if_neg q] at h
    cases h
theorem nmR_ok {t : List Int} {a : Nat} {p : Int × Nat} (h : nmR t a = some p) : isNu p.1 ∧ p.2 ≤ t.length ∧ a < p.2 := by
  unfold nmR at h
  have hlo : nLo t a = 0 ∨ nLo t a = 1 := by unfold nLo; split <;> simp
  have hna : a ≤ nA t a := by unfold nA; split <;> omega
  cases hd : dgR t (nLo t a) 9 (nA t a) with
  | none => rw [hd] at h; cases h
  | some v =>
    rw [hd] at h
    have := Option.some.inj h
    obtain ⟨e1, e2, e3⟩ := dgR_some hd
    have hlt : nA t a < t.length := hr_lt (by omega)
    have htw : (nTw t v (nA t a + 1)).2 ≤ t.length ∧ nA t a + 1 ≤ (nTw t v (nA t a + 1)).2 ∧ 0 ≤ (nTw t v (nA t a + 1)).1 ∧ (nTw t v (nA t a + 1)).1 ≤ 99 := by
      unfold nTw
      by_cases q : 0 < v ∧ 0 ≤ hr t (nA t a + 1) - 48 ∧ hr t (nA t a + 1) - 48 ≤ 9
      · rw [if_pos q]
        have : nA t a + 1 < t.length := hr_lt (by omega)
        dsimp only
        omega
      · rw [if_neg q]
        dsimp only
        omega
    rw [← this]
    dsimp only
    refine ⟨?_, htw.1, by omega⟩
    split <;> constructor <;> omega
def okFl (L : FL) : Prop := L.length ≤ 6 ∧ ∀ p ∈ L, 97 ≤ p.1 ∧ p.1 ≤ 104 ∧ -99 ≤ p.2 ∧ p.2 ≤ 99
theorem flR_ok {t : List Int} : ∀ (f a : Nat) (L : FL), a ≤ t.length → okFl L → 6 < L.length + f → (match flR t f a L with
    | .inl p => okFl p.1 ∧ p.2 ≤ t.length
    | .inr fl => fl.length = 1)
  | 0, a, L, _, hL, hf => by have := hL.1; omega
  | f + 1, a, L, ha, hL, hf => by
    unfold flR
    by_cases h1 : hr t a = 46
    · rw [if_pos h1]
      have := hr_lt (t := t) (a := a) (by omega)
      exact ⟨hL, by dsimp only; omega⟩
    · rw [if_neg h1]
      by_cases h2 : isNm (hr t a)
      · rw [if_neg (Classical.not_not.mpr h2)]
        by_cases h3 : ¬ fidx L (hr t a) = -1 ∨ 6 ≤ L.length
        · rw [if_pos h3]; rfl
        · rw [if_neg h3]
          rw [not_or] at h3
          cases hn : nmR t (a + 1) with
          | none => rfl
          | some p =>
            obtain ⟨n1_, n2, n3⟩ := nmR_ok hn
            refine flR_ok f p.2 _ n2 ⟨?_, fun q hq => ?_⟩ ?_
            · rw [List.length_append]; simp only [List.length_cons, List.length_nil]; omega
            · rcases List.mem_append.mp hq with z | z
              · exact hL.2 q z
              · rw [List.mem_singleton] at z
                rw [z]
                exact ⟨h2.1, h2.2, n1_.1, n1_.2⟩
            · rw [List.length_append]; simp only [List.length_cons, List.length_nil]; omega
      · rw [if_pos h2]; rfl
theorem fmiss_mem {m : Nat} {P : Int × Int → Prop} : ∀ (M L : FL), (∀ p ∈ L, P p) → (∀ p ∈ M, P p) → ∀ p ∈ fmiss m L M, P p
  | [], L, hL, _ => hL
  | q :: M, L, hL, hM => by
    show ∀ p ∈ fmiss m (if fidx L q.1 = -1 ∧ L.length < m then L ++ [q] else L) M, P p
    refine fmiss_mem M _ ?_ (fun p hp => hM p (List.mem_cons_of_mem _ hp))
    split
    · intro p hp
      rcases List.mem_append.mp hp with z | z
      · exact hL p z
      · rw [List.mem_singleton] at z
        rw [z]; exact hM q List.mem_cons_self
    · exact hL
theorem curS_lt {w : WD} (hw : okW w) {k : Nat} (hk : 1 ≤ k ∧ k ≤ 3) : curS w k < 9 := by
  have := hw.2.2 k hk.1 hk.2
  unfold curS
  omega
/-- one of a kind with fields, its defaults added -/
theorem okN_defs {w w' : WD} (hw : okW w) {kd : Int} (hk : 1 ≤ kd ∧ kd ≤ 3) {L : FL} (hL : okFl L) : okN w' (defs w (kd, 0, List.replicate (rOf kd) (-1), L)) := by
  obtain ⟨b1, b2, b3, b4, b5, b6, b7, b8, b9, b10, b11, b12, b13⟩ := okN_new w' hk
  have hs := hw.2.1 (curS w kd.toNat) (curS_lt hw (by omega))
  refine ⟨b1, b2, fun h => by dsimp only [defs] at h; omega, b4, b5, b6, fun h => by dsimp only [defs] at h; omega, b8, ?_, b10, b11, b12, ?_⟩
  · exact fmiss_len 6 _ _ hL.1
  · exact fmiss_mem (P := fun p => 97 ≤ p.1 ∧ p.1 ≤ 104 ∧ -99 ≤ p.2 ∧ p.2 ≤ 99) _ _ hL.2 hs.2
theorem okN_rw (w' : WD) {k : Int} {n : Nat} (hk : 0 ≤ k ∧ k ≤ 3) (hn : n ≤ 6) : okN w' (4, k, List.replicate n (-1), []) := by
  refine ⟨by dsimp only; omega, by dsimp only; omega, fun h => ?_, fun h => ?_, fun h => ?_, fun h => ?_, fun h => rfl, ?_, Nat.zero_le _, hk.1, hk.2, fun r hr => Or.inl (List.eq_of_mem_replicate hr), fun p hp => by cases hp⟩
  · dsimp only at h; omega
  · dsimp only at h; omega
  · dsimp only at h; omega
  · dsimp only at h; omega
  · dsimp only; rw [List.length_replicate]; exact hn
def okD (t : List Int) (s : LSt) : Prop := okW s.1 ∧ zW s.1 ∧ s.2.1 ≤ t.length ∧ okm s.1 s.2.2
/-- all that changed is what was made -/
def chg (w : WD) (m : List Int) (w' : WD) (m' : List Int) : Prop := m <+: m' ∧ w'.2 = w.2 ∧ (∀ i : Nat, (w.1 i).1 ≠ 0 → w'.1 i = w.1 i) ∧ (∀ i : Nat, (i : Int) ∉ m' → w'.1 i = w.1 i) ∧ (∀ x ∈ m', x ∈ m ∨ ∃ i : Nat, x = (i : Int) ∧ i < 30 ∧ (w.1 i).1 = 0) ∧ okm w' m'
theorem chg.rf {w : WD} {m : List Int} (h : okm w m) : chg w m w m := ⟨List.prefix_refl _, rfl, fun _ _ => rfl, fun _ _ => rfl, fun _ h => Or.inl h, h⟩
theorem chg.tr {w w1 w2 : WD} {m m1 m2 : List Int} (h1 : chg w m w1 m1) (h2 : chg w1 m1 w2 m2) : chg w m w2 m2 := by
  obtain ⟨a1, a2, a3, a4, a5, a6⟩ := h1
  obtain ⟨b1, b2, b3, b4, b5, b6⟩ := h2
  refine ⟨a1.trans b1, b2.trans a2, fun i hi => ?_, fun i hi => ?_, fun x hx => ?_, b6⟩
  · have e := a3 i hi
    rw [b3 i (by rw [e]; exact hi), e]
  · rw [b4 i hi, a4 i (fun q => hi (b1.subset q))]
  · rcases b5 x hx with q | ⟨i, e, hi, h0⟩
    · exact a5 x q
    · subst e
      refine Or.inr ⟨i, rfl, hi, ?_⟩
      exact Classical.byContradiction (fun z => by
        have := a3 i z
        rw [this] at h0
        exact z h0)
theorem freeW_at {w : WD} (h : ¬ freeW w = -1) : ∃ i : Nat, freeW w = (i : Int) ∧ i < 30 ∧ (w.1 i).1 = 0 := free_nat h
/-- a new one -/
theorem mk_ok {w : WD} {m : List Int} {i : Nat} {x : ND} (hw : okW w) (hz : zW w) (hm : okm w m) (hi : i < 30) (h0 : (w.1 i).1 = 0) (hx : okN (setN w i x) x) (hk : x.1 ≠ 0) : okW (setN w i x) ∧ zW (setN w i x) ∧ chg w m (setN w i x) (m ++ [(i : Int)]) ∧ liv (setN w i x) (i : Int) := by
  have hlv : liv (setN w i x) (i : Int) := liv_of hi (by rw [setN_at]; exact hk)
  have hni : (i : Int) ∉ m := fun q => (hm.2 _ q).2.2 (by rw [Int.toNat_natCast]; exact h0)
  have hold : ∀ y ∈ m, liv (setN w i x) y := fun y hy => by
    obtain ⟨j, rfl, hj, hjk⟩ := liv_nat (hm.2 y hy)
    have hji : ¬ j = i := fun q => by subst q; exact hni hy
    exact liv_of hj (by simp only [setN, if_neg hji]; exact hjk)
  refine ⟨okW_setN hw hx hk, fun j hj hj0 => ?_, ⟨List.prefix_append _ _, rfl, fun j hj => ?_, fun j hj => ?_, fun y hy => ?_, okm_app ⟨hm.1, hold⟩ hlv hni⟩, hlv⟩
  · by_cases hji : j = i
    · subst hji
      rw [setN_at] at hj0
      exact absurd hj0 hk
    · simp only [setN, if_neg hji] at hj0 ⊢
      exact hz j hj hj0
  · have hji : ¬ j = i := fun q => by subst q; exact hj h0
    simp only [setN, if_neg hji]
  · have hji : ¬ j = i := fun q => by subst q; exact hj (List.mem_append_right _ (List.mem_singleton.mpr rfl))
    simp only [setN, if_neg hji]
  · rcases List.mem_append.mp hy with q | q
    · exact Or.inl q
    · rw [List.mem_singleton] at q
      exact Or.inr ⟨i, q, hi, h0⟩
/-- a reference laid into one that was made -/
theorem chg.set {w0 w : WD} {m0 m : List Int} (h : chg w0 m0 w m) {i j : Nat} {r : Int} (hi : i < 30) (him : (i : Int) ∈ m) (h0 : (w0.1 i).1 = 0) (hk : (w.1 i).1 ≠ 0) : chg w0 m0 (setN w i (setR (w.1 i) ((w.1 i).2.2.1.set j r))) m := by
  obtain ⟨a1, a2, a3, a4, a5, a6⟩ := h
  refine ⟨a1, a2, fun q hq => ?_, fun q hq => ?_, a5, a6.1, fun y hy => ?_⟩
  · have hqi : ¬ q = i := fun z => by subst z; exact hq h0
    simp only [setN, if_neg hqi]
    exact a3 q hq
  · have hqi : ¬ q = i := fun z => by subst z; exact hq him
    simp only [setN, if_neg hqi]
    exact a4 q hq
  · obtain ⟨b, rfl, hb, hbk⟩ := liv_nat (a6.2 y hy)
    refine liv_of hb ?_
    by_cases hbi : b = i
    · subst hbi; rw [setN_at]; exact hbk
    · simp only [setN, if_neg hbi]; exact hbk
theorem okW_ref {w : WD} (hw : okW w) {i j : Nat} {r : Int} (hi : i < 30) (hk : (w.1 i).1 ≠ 0) (hr : r = -1 ∨ liv w r) : okW (setN w i (setR (w.1 i) ((w.1 i).2.2.1.set j r))) := by
  have hlive : ∀ q : Nat, q < 30 → (w.1 q).1 ≠ 0 → ((setN w i (setR (w.1 i) ((w.1 i).2.2.1.set j r))).1 q).1 ≠ 0 := fun q hq hqk => by
    by_cases hqi : q = i
    · subst hqi; rw [setN_at]; exact hqk
    · simp only [setN, if_neg hqi]; exact hqk
  have hx := okN_mono (hw.1 i hi) hlive
  obtain ⟨b1, b2, b3, b4, b5, b6, b7, b8, b9, b10, b11, b12, b13⟩ := hx
  refine okW_setN hw ⟨b1, b2, fun h => absurd h hk, fun h => ?_, fun h => ?_, fun h => ?_, b7, ?_, b9, b10, b11, fun q hq => ?_, b13⟩ hk
  · simp only [setR, List.length_set]; exact b4 h
  · simp only [setR, List.length_set]; exact b5 h
  · simp only [setR, List.length_set]; exact b6 h
  · simp only [setR, List.length_set]; exact b8
  · simp only [setR] at hq
    rcases List.mem_or_eq_of_mem_set hq with z | z
    · exact b12 q z
    · rw [z]
      rcases hr with y | y
      · exact Or.inl y
      · obtain ⟨b, rfl, hb, hbk⟩ := liv_nat y
        exact Or.inr ⟨b, rfl, hb, hlive b hb hbk⟩
theorem zW_ref {w : WD} (hz : zW w) {i : Nat} {x : ND} (hx : x.1 ≠ 0) : zW (setN w i x) := fun j hj h0 => by
  by_cases hji : j = i
  · subst hji
    rw [setN_at] at h0
    exact absurd h0 hx
  · simp only [setN, if_neg hji] at h0 ⊢
    exact hz j hj h0
theorem liv_chg {w w' : WD} {m m' : List Int} (h : chg w m w' m') {x : Int} (hx : liv w x) : liv w' x := by
  obtain ⟨b, rfl, hb, hbk⟩ := liv_nat hx
  exact liv_of hb (by rw [h.2.2.1 b hbk]; exact hbk)
/-- what a reader keeps -/
def rOK (t : List Int) (n : Nat) (s : LSt) (r : RRes) : Prop := match r with
  | .inl x => okD t x.2 ∧ chg s.1 s.2.2 x.2.1 x.2.2.2 ∧ (x.1 = -1 ∨ liv x.2.1 x.1)
  | .inr e => chg s.1 s.2.2 e.2.1 e.2.2 ∧ 1 ≤ e.1.length ∧ e.1.length ≤ n
theorem hdR_ok {t : List Int} {kd : Int} {s : LSt} (h : okD t s) (hk : 1 ≤ kd ∧ kd ≤ 4) (hf : ¬ freeW s.1 = -1) : (match hdR t kd s with
    | .inl x => okD t x.2 ∧ chg s.1 s.2.2 x.2.1 x.2.2.2 ∧ ∃ i : Nat, x.1 = (i : Int) ∧ i < 30 ∧ (s.1.1 i).1 = 0 ∧ (i : Int) ∈ x.2.2.2 ∧ (x.2.1.1 i).1 = kd
    | .inr e => e.2 = (s.1, s.2.2) ∧ e.1.length = 1) := by
  obtain ⟨hw, hz, ha, hm⟩ := h
  obtain ⟨i, hi, hi30, hi0⟩ := free_nat hf
  unfold hdR
  by_cases h4 : kd = 4
  · rw [if_pos h4]
    cases h1 : dgR t 0 3 s.2.1 with
    | none => exact ⟨rfl, rfl⟩
    | some k =>
      dsimp only
      obtain ⟨e1, e2, e3⟩ := dgR_some h1
      cases h2 : dgR t 0 6 (s.2.1 + 1) with
      | none => exact ⟨rfl, rfl⟩
      | some n =>
        dsimp only
        obtain ⟨f1, f2, f3⟩ := dgR_some h2
        have hl := hr_lt (t := t) (a := s.2.1 + 1) (by omega)
        rw [hi, Int.toNat_natCast]
        have hx : okN (setN s.1 i (4, k, List.replicate n.toNat (-1), [])) (4, k, List.replicate n.toNat (-1), []) := okN_rw _ ⟨e2, e3⟩ (by omega)
        obtain ⟨c1, c2, c3, c4⟩ := mk_ok hw hz hm hi30 hi0 hx (by dsimp only; decide)
        refine ⟨⟨c1, c2, by dsimp only; omega, c3.2.2.2.2.2⟩, c3, i, rfl, hi30, hi0, List.mem_append_right _ (List.mem_singleton.mpr rfl), ?_⟩
        rw [setN_at, h4]
  · rw [if_neg h4]
    cases h1 : dgR t 1 3 s.2.1 with
    | none => exact ⟨rfl, rfl⟩
    | some k =>
      dsimp only
      obtain ⟨e1, e2, e3⟩ := dgR_some h1
      have hl := hr_lt (t := t) (a := s.2.1) (by omega)
      have hfl := flR_ok (t := t) 7 (s.2.1 + 1) [] (by omega) ⟨Nat.zero_le _, fun p hp => by cases hp⟩ (by simp)
      cases h2 : flR t 7 (s.2.1 + 1) [] with
      | inr fl =>
        rw [h2] at hfl
        exact ⟨rfl, hfl⟩
      | inl p =>
        rw [h2] at hfl
        dsimp only at hfl ⊢
        rw [hi, Int.toNat_natCast]
        have hx : okN (setN s.1 i (defs s.1 (kd, 0, List.replicate (rOf kd) (-1), p.1))) (defs s.1 (kd, 0, List.replicate (rOf kd) (-1), p.1)) := okN_defs hw (by omega) hfl.1
        obtain ⟨c1, c2, c3, c4⟩ := mk_ok hw hz hm hi30 hi0 hx (by dsimp only [defs]; omega)
        refine ⟨⟨c1, c2, hfl.2, c3.2.2.2.2.2⟩, c3, i, rfl, hi30, hi0, List.mem_append_right _ (List.mem_singleton.mpr rfl), ?_⟩
        rw [setN_at]
        rfl
theorem rfR_ok {t : List Int} {n : Nat} {p : LSt → RRes} (hp : ∀ s, okD t s → rOK t n s (p s)) (hn : 1 ≤ n) {w0 : WD} {m0 : List Int} {i : Nat} (hi : i < 30) (h0 : (w0.1 i).1 = 0) : ∀ (k j : Nat) (s : LSt), okD t s → chg w0 m0 s.1 s.2.2 → (i : Int) ∈ s.2.2 → (match rfR p i k j s with
    | .inl s' => okD t s' ∧ chg w0 m0 s'.1 s'.2.2 ∧ (i : Int) ∈ s'.2.2
    | .inr e => chg w0 m0 e.2.1 e.2.2 ∧ 1 ≤ e.1.length ∧ e.1.length ≤ n)
  | 0, j, s, hs, hc, him => ⟨hs, hc, him⟩
  | k + 1, j, s, hs, hc, him => by
    have h1 := hp s hs
    unfold rfR
    cases hps : p s with
    | inr e =>
      rw [hps] at h1
      exact ⟨hc.tr h1.1, h1.2⟩
    | inl x =>
      rw [hps] at h1
      obtain ⟨g1, g2, g3⟩ := h1
      dsimp only
      have hkx : (x.2.1.1 i).1 ≠ 0 := by
        have := (liv_chg g2 (hs.2.2.2.2 _ him)).2.2
        rw [Int.toNat_natCast] at this
        exact this
      by_cases hm : ¬ x.1 = -1 ∧ mayH (x.2.1.1 i).1 (x.2.1.1 i).2.1 (x.2.1.1 x.1.toNat).1 = 0
      · rw [if_pos hm]
        exact ⟨hc.tr g2, Nat.le_refl _, hn⟩
      · rw [if_neg hm]
        have hc2 := (hc.tr g2).set (j := j) (r := x.1) hi (g2.1.subset him) h0 hkx
        exact rfR_ok hp hn hi h0 k (j + 1) _ ⟨okW_ref g1.1 hi hkx g3, zW_ref g1.2.1 hkx, g1.2.2.1, hc2.2.2.2.2.2⟩ hc2 (g2.1.subset him)
theorem mtR_ok {t : List Int} {s : LSt} (h : okD t s) {n : Nat} (hn : 1 ≤ n) : rOK t n s (mtR t s) := by
  unfold mtR
  by_cases h1 : 0 ≤ hr t s.2.1 - 65 ∧ hr t s.2.1 - 65 ≤ 29
  · rw [if_neg (Classical.not_not.mpr h1)]
    by_cases h2 : (s.2.2.length : Int) ≤ hr t s.2.1 - 65
    · rw [if_pos h2]
      exact ⟨chg.rf h.2.2.2, Nat.le_refl _, hn⟩
    · rw [if_neg h2]
      have hl := hr_lt (t := t) (a := s.2.1) (by omega)
      have hlt : (hr t s.2.1 - 65).toNat < s.2.2.length := by omega
      refine ⟨⟨h.1, h.2.1, by dsimp only; omega, h.2.2.2⟩, chg.rf h.2.2.2, Or.inr ?_⟩
      dsimp only
      rw [getD_at hlt]
      exact h.2.2.2.2 _ (List.getElem_mem hlt)
  · rw [if_pos h1]
    exact ⟨chg.rf h.2.2.2, Nat.le_refl _, hn⟩
theorem kOf_cases (c : Int) : kOf c = 0 ∨ (1 ≤ kOf c ∧ kOf c ≤ 4) := by
  unfold kOf
  split
  · right; omega
  · split
    · right; omega
    · split
      · right; omega
      · split
        · right; omega
        · left; rfl
theorem paB_ok {t : List Int} {n : Nat} {deep : Bool} {p : LSt → RRes} (hp : deep = false → 1 ≤ n ∧ ∀ s, okD t s → rOK t n s (p s)) {s : LSt} (h : okD t s) : rOK t (n + 1) s (paB t deep p s) := by
  unfold paB
  by_cases h1 : hr t s.2.1 = 45
  · rw [if_pos h1]
    have hl := hr_lt (t := t) (a := s.2.1) (by omega)
    exact ⟨⟨h.1, h.2.1, by dsimp only; omega, h.2.2.2⟩, chg.rf h.2.2.2, Or.inl rfl⟩
  · rw [if_neg h1]
    by_cases h2 : hr t s.2.1 = 35
    · rw [if_pos h2]
      have hl := hr_lt (t := t) (a := s.2.1) (by omega)
      exact mtR_ok (s := (s.1, s.2.1 + 1, s.2.2)) ⟨h.1, h.2.1, by dsimp only; omega, h.2.2.2⟩ (by omega)
    · rw [if_neg h2]
      by_cases h3 : kOf (hr t s.2.1) = 0
      · rw [if_pos h3]
        exact ⟨chg.rf h.2.2.2, Nat.le_refl _, by simp⟩
      · rw [if_neg h3]
        have hkk := (kOf_cases (hr t s.2.1)).resolve_left h3
        cases deep with
        | true =>
          rw [if_pos rfl]
          exact ⟨chg.rf h.2.2.2, Nat.le_refl _, by simp⟩
        | false =>
          obtain ⟨hn, hpp⟩ := hp rfl
          rw [if_neg (by decide)]
          by_cases h4 : freeW s.1 = -1
          · rw [if_pos h4]
            exact ⟨chg.rf h.2.2.2, Nat.le_refl _, by simp⟩
          · rw [if_neg h4]
            have hl : s.2.1 < t.length := hr_lt (t := t) (a := s.2.1) (fun q => h3 (by rw [q]; rfl))
            have hh := hdR_ok (t := t) (kd := kOf (hr t s.2.1)) (s := (s.1, s.2.1 + 1, s.2.2)) ⟨h.1, h.2.1, by dsimp only; omega, h.2.2.2⟩ hkk h4
            cases hd : hdR t (kOf (hr t s.2.1)) (s.1, s.2.1 + 1, s.2.2) with
            | inr e =>
              rw [hd] at hh
              dsimp only at hh ⊢
              show chg s.1 s.2.2 e.2.1 e.2.2 ∧ 1 ≤ (e.1 ++ [_]).length ∧ (e.1 ++ [_]).length ≤ n + 1
              rw [hh.1, List.length_append, hh.2]
              exact ⟨chg.rf h.2.2.2, by simp, by simp only [List.length_cons, List.length_nil]; omega⟩
            | inl x =>
              rw [hd] at hh
              dsimp only at hh ⊢
              obtain ⟨g1, g2, i, gi, gi30, gi0, gim, gk⟩ := hh
              have hrf := rfR_ok hpp hn gi30 gi0 (x.2.1.1 i).2.2.1.length 0 x.2 g1 g2 gim
              rw [gi, Int.toNat_natCast]
              cases hr2 : rfR p i (x.2.1.1 i).2.2.1.length 0 x.2 with
              | inr e =>
                rw [hr2] at hrf
                dsimp only at hrf ⊢
                show chg s.1 s.2.2 e.2.1 e.2.2 ∧ 1 ≤ (e.1 ++ [_]).length ∧ (e.1 ++ [_]).length ≤ n + 1
                rw [List.length_append]
                exact ⟨hrf.1, by simp only [List.length_cons, List.length_nil]; omega, by simp only [List.length_cons, List.length_nil]; omega⟩
              | inl s2 =>
                rw [hr2] at hrf
                dsimp only at hrf ⊢
                exact ⟨hrf.1, hrf.2.1, Or.inr (hrf.2.1.2.2.2.2.2.2 _ hrf.2.2)⟩
theorem paR_ok {t : List Int} : ∀ (n : Nat) (s : LSt), okD t s → rOK t (n + 1) s (paR t n s)
  | 0, s, h => paB_ok (n := 0) (fun q => by cases q) h
  | n + 1, s, h => paB_ok (n := n + 1) (fun _ => ⟨by omega, fun s hs => paR_ok n s hs⟩) h
/-- dropping what was made -/
def drp (w : WD) : List Int → WD
  | [] => w
  | x :: m => drp (setN w x.toNat (0, 0, [], [])) m
theorem drp_at {j : Nat} : ∀ (m : List Int) (w : WD), (∀ x ∈ m, 0 ≤ x) → (drp w m).1 j = if (j : Int) ∈ m then (0, 0, [], []) else w.1 j
  | [], w, _ => by rw [if_neg (fun q => by cases q)]; rfl
  | x :: m, w, hm => by
    have hx := hm x List.mem_cons_self
    show (drp (setN w x.toNat (0, 0, [], [])) m).1 j = _
    rw [drp_at m _ (fun y hy => hm y (List.mem_cons_of_mem _ hy))]
    by_cases h1 : (j : Int) ∈ m
    · rw [if_pos h1, if_pos (List.mem_cons_of_mem _ h1)]
    · rw [if_neg h1]
      by_cases h2 : j = x.toNat
      · rw [if_pos (by rw [List.mem_cons]; left; omega), h2, setN_at]
      · rw [if_neg (fun q => by
          rcases List.mem_cons.mp q with z | z
          · omega
          · exact h1 z)]
        simp only [setN, if_neg h2]
theorem drp_snd : ∀ (m : List Int) (w : WD), (drp w m).2 = w.2
  | [], w => rfl
  | x :: m, w => drp_snd m _
theorem drp_back {w w' : WD} {m' : List Int} (h : chg w [] w' m') (hz : zW w) : drp w' m' = w := by
  refine wd_ext (fun j => ?_) (by rw [drp_snd]; exact h.2.1)
  rw [drp_at m' w' (fun x hx => (h.2.2.2.2.2.2 x hx).1)]
  by_cases hj : (j : Int) ∈ m'
  · rw [if_pos hj]
    rcases h.2.2.2.2.1 _ hj with q | ⟨i, e, hi, h0⟩
    · cases q
    · have : j = i := by omega
      subst this
      exact (hz j hi h0).symm
  · rw [if_neg hj]
    exact h.2.2.2.1 j hj
/-- what a load does -/
def ldW (t : List Int) (w : WD) : RRes := match paR t 12 (w, 0, []) with
  | .inr e => .inr e
  | .inl x => if x.2.2.1 < t.length then .inr ([(7, (x.2.2.1 : Int))], x.2.1, x.2.2.2) else .inl x
def b_load (s : ST) (q : Int) : Int × ST := if ¬ isq q then (-1, s) else match s.2.2.2.1 q.toNat with
  | none => (-11, s)
  | some t => match ldW t s.1 with
    | .inr e => (-5, stF s e.1)
    | .inl x => (nT x.1, stW s x.2.1)
theorem ldW_ok {t : List Int} {w : WD} (hw : okW w) (hz : zW w) : rOK t 13 (w, 0, []) (ldW t w) := by
  have h := paR_ok (t := t) 12 (w, 0, []) ⟨hw, hz, Nat.zero_le _, okm_nil w⟩
  unfold ldW
  cases hp : paR t 12 (w, 0, []) with
  | inr e => rw [hp] at h; exact h
  | inl x =>
    rw [hp] at h
    dsimp only
    split
    · exact ⟨h.2.1, Nat.le_refl _, by simp⟩
    · exact h
