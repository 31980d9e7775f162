/-! GOING THROUGH A REACH, AS LISTS: who is met, what is told -/
def ixm : List Int → Int → Nat → Int
  | [], _, _ => -1
  | x :: m, o, j => if x = o then j else ixm m o (j + 1)
def idm (m : List Int) (o : Int) : Int := ixm m o 0
theorem ixm_spec : ∀ (m : List Int) (o : Int) (j : Nat), (ixm m o j = -1 ∧ o ∉ m) ∨ ∃ i : Nat, ixm m o j = ((j + i : Nat) : Int) ∧ m[i]? = some o
  | [], o, j => Or.inl ⟨rfl, by simp⟩
  | x :: m, o, j => by
    by_cases h : x = o
    · exact Or.inr ⟨0, by simp [ixm, h], by simp [h]⟩
    · rcases ixm_spec m o (j + 1) with ⟨h1, h2⟩ | ⟨i, h1, h2⟩
      · refine Or.inl ⟨by simp [ixm, h, h1], ?_⟩
        rw [List.mem_cons]
        exact fun q => q.elim (fun q => h q.symm) h2
      · refine Or.inr ⟨i + 1, ?_, by simpa using h2⟩
        simp only [ixm, if_neg h, h1]; omega
theorem idm_spec (m : List Int) (o : Int) : (idm m o = -1 ∧ o ∉ m) ∨ ∃ i : Nat, idm m o = (i : Int) ∧ i < m.length ∧ m[i]? = some o ∧ o ∈ m := by
  rcases ixm_spec m o 0 with h | ⟨i, h1, h2⟩
  · exact Or.inl h
  · refine Or.inr ⟨i, ?_, lenOf h2, h2, List.mem_of_getElem? h2⟩
    rw [Nat.zero_add] at h1
    exact h1
theorem idm_not {m : List Int} {o : Int} : idm m o = -1 ↔ o ∉ m := by
  rcases idm_spec m o with ⟨h1, h2⟩ | ⟨i, h1, h2, h3, h4⟩
  · exact ⟨fun _ => h2, fun _ => h1⟩
  · exact ⟨fun q => by omega, fun q => absurd h4 q⟩
theorem ixm_app : ∀ (m : List Int) (o x : Int) (j : Nat), ixm (m ++ [o]) x j = if x ∈ m then ixm m x j else if o = x then ((j + m.length : Nat) : Int) else -1
  | [], o, x, j => by
    by_cases h : o = x
    · simp [ixm, h]
    · simp [ixm, h]
  | y :: m, o, x, j => by
    by_cases h : y = x
    · simp [ixm, h]
    · have h' : ¬ x = y := fun q => h q.symm
      have := ixm_app m o x (j + 1)
      simp only [List.cons_append, ixm, if_neg h, this, List.mem_cons, h', false_or, List.length_cons]
      rw [show j + 1 + m.length = j + (m.length + 1) by omega]
theorem idm_app (m : List Int) (o x : Int) : idm (m ++ [o]) x = if x ∈ m then idm m x else if o = x then ((m.length : Nat) : Int) else -1 := by
  have := ixm_app m o x 0
  rw [Nat.zero_add] at this
  exact this
theorem pig : ∀ (n : Nat) (l : List Int), l.Nodup → (∀ x ∈ l, 0 ≤ x ∧ x < (n : Int)) → l.length ≤ n
  | 0, l, _, h => by
    cases l with
    | nil => exact Nat.le_refl _
    | cons a l => have := h a (List.mem_cons_self); omega
  | n + 1, l, hd, h => by
    by_cases hn : (n : Int) ∈ l
    · have h1 := pig n (l.erase (n : Int)) (hd.erase _) (fun x hx => by
        have := (hd.mem_erase_iff).mp hx
        have := h x this.2
        omega)
      rw [List.length_erase_of_mem hn] at h1
      omega
    · have h1 := pig n l hd (fun x hx => by
        have := h x hx
        have : x ≠ (n : Int) := fun q => hn (q ▸ hx)
        omega)
      omega
def okm (w : WD) (m : List Int) : Prop := m.Nodup ∧ ∀ o ∈ m, liv w o
theorem okm_len {w : WD} {m : List Int} (h : okm w m) : m.length ≤ 30 := pig 30 m h.1 (fun x hx => ⟨(h.2 x hx).1, (h.2 x hx).2.1⟩)
theorem okm_app {w : WD} {m : List Int} {o : Int} (h : okm w m) (ho : liv w o) (hn : o ∉ m) : okm w (m ++ [o]) := by
  refine ⟨?_, fun x hx => ?_⟩
  · rw [List.nodup_append]
    refine ⟨h.1, by simp, fun a ha b hb => ?_⟩
    rw [List.mem_singleton] at hb
    subst hb
    exact fun q => hn (q ▸ ha)
  · rcases List.mem_append.mp hx with hx | hx
    · exact h.2 x hx
    · rw [List.mem_singleton] at hx; subst hx; exact ho
theorem okm_new {w : WD} {m : List Int} {o : Int} (h : okm w m) (ho : liv w o) (hn : o ∉ m) : m.length < 30 := by
  have := okm_len (okm_app h ho hn)
  rw [List.length_append] at this
  simp only [List.length_cons, List.length_nil] at this
  omega
/-- a number's signs -/
def dgs (v : Int) : List Int := (if v < 0 then [45] else []) ++ (if 10 ≤ v.natAbs then [48 + ((v.natAbs / 10 : Nat) : Int)] else []) ++ [48 + ((v.natAbs % 10 : Nat) : Int)]
def fsg (L : FL) : List Int := L.flatMap (fun p => p.1 :: dgs p.2)
def ltr (k : Int) : Int := if k = 1 then 76 else if k = 2 then 66 else 67
/-- what is told of an object before its references -/
def hdN (w : WD) (x : ND) : List Int := if x.1 = 4 then [82, 48 + x.2.1, 48 + (x.2.2.1.length : Int)] else [ltr x.1, 48 + w.2.2 x.1.toNat] ++ fsg x.2.2.2 ++ [46]
def walk (w : WD) : Nat → Int → List Int × List Int → List Int × List Int
  | 0, _, s => s
  | f + 1, o, s => if o = -1 then (s.1, s.2 ++ [45]) else if ¬ idm s.1 o = -1 then (s.1, s.2 ++ [35, 65 + idm s.1 o]) else
    (w.1 o.toNat).2.2.1.foldl (fun s r => walk w f r s) (s.1 ++ [o], s.2 ++ hdN w (w.1 o.toNat))
def reachN (w : WD) : Nat → Int → Int → Prop
  | 0, a, b => a = b
  | n + 1, a, b => ∃ c, c ∈ (w.1 a.toNat).2.2.1 ∧ c ≠ -1 ∧ reachN w n c b
def Rch (w : WD) (a b : Int) : Prop := ∃ n, reachN w n a b
/-- what going through does, and how far it goes -/
def grow (w : WD) (k : Nat) (P : Int → Prop) (s s' : List Int × List Int) : Prop :=
  okm w s'.1 ∧ s.1 <+: s'.1 ∧ s'.2.length + 40 * s.1.length ≤ s.2.length + 2 * k + 40 * s'.1.length ∧ (∀ x ∈ s'.1, x ∈ s.1 ∨ P x) ∧ (∀ x ∈ s'.1, x ∉ s.1 → ∀ r ∈ (w.1 x.toNat).2.2.1, r = -1 ∨ r ∈ s'.1) ∧ (∀ c ∈ s'.2, c ∈ s.2 ∨ (0 ≤ c ∧ c ≤ 255)) ∧ s.2 <+: s'.2
theorem dgs_len (v : Int) : (dgs v).length ≤ 3 := by
  unfold dgs
  rw [List.length_append, List.length_append]
  have h1 : (if v < 0 then [(45 : Int)] else []).length ≤ 1 := by split <;> simp
  have h2 : (if 10 ≤ v.natAbs then [48 + ((v.natAbs / 10 : Nat) : Int)] else []).length ≤ 1 := by split <;> simp
  simp only [List.length_cons, List.length_nil]
  omega
theorem dgs_rng {v c : Int} (hv : -99 ≤ v ∧ v ≤ 99) (hc : c ∈ dgs v) : 0 ≤ c ∧ c ≤ 255 := by
  unfold dgs at hc
  rw [List.mem_append, List.mem_append] at hc
  rcases hc with (hc | hc) | hc
  · split at hc
    · rw [List.mem_singleton] at hc; omega
    · cases hc
  · split at hc
    · rw [List.mem_singleton] at hc; omega
    · cases hc
  · rw [List.mem_singleton] at hc; omega
theorem fsg_len : ∀ L : FL, (fsg L).length ≤ 4 * L.length
  | [] => Nat.le_refl _
  | p :: L => by
    have := fsg_len L
    have := dgs_len p.2
    show ((p.1 :: dgs p.2) ++ fsg L).length ≤ _
    rw [List.length_append]
    simp only [List.length_cons]
    omega
theorem fsg_rng {L : FL} (hL : ∀ p ∈ L, 97 ≤ p.1 ∧ p.1 ≤ 104 ∧ -99 ≤ p.2 ∧ p.2 ≤ 99) {c : Int} (hc : c ∈ fsg L) : 0 ≤ c ∧ c ≤ 255 := by
  obtain ⟨p, hp, hc⟩ := List.mem_flatMap.mp hc
  have := hL p hp
  rcases List.mem_cons.mp hc with rfl | hc
  · omega
  · exact dgs_rng (by omega) hc
theorem hdN_len {w : WD} {x : ND} (h : okN w x) : (hdN w x).length ≤ 27 := by
  unfold hdN
  split
  · simp
  · rw [List.length_append, List.length_append]
    have := fsg_len x.2.2.2
    have := h.2.2.2.2.2.2.2.2.1
    simp only [List.length_cons, List.length_nil]
    omega
theorem hdN_rng {w : WD} (hw : okW w) {x : ND} (h : okN w x) (h0 : x.1 ≠ 0) {c : Int} (hc : c ∈ hdN w x) : 0 ≤ c ∧ c ≤ 255 := by
  unfold hdN at hc
  have h1 := h.1
  have h2 := h.2.1
  have h3 := h.2.2.2.2.2.2.2.1
  have h4 := h.2.2.2.2.2.2.2.2.2.1
  have h5 := h.2.2.2.2.2.2.2.2.2.2.1
  split at hc
  · simp only [List.mem_cons, List.not_mem_nil, or_false] at hc
    rcases hc with rfl | rfl | rfl <;> omega
  · next h4' =>
    have hv := hw.2.2 x.1.toNat (by omega) (by omega)
    rw [List.mem_append, List.mem_append] at hc
    rcases hc with (hc | hc) | hc
    · simp only [List.mem_cons, List.not_mem_nil, or_false] at hc
      rcases hc with rfl | rfl
      · unfold ltr
        split
        · omega
        · split <;> omega
      · omega
    · exact fsg_rng h.2.2.2.2.2.2.2.2.2.2.2.2 hc
    · rw [List.mem_singleton] at hc; omega
theorem grow.rf {w : WD} {P : Int → Prop} {s : List Int × List Int} (h : okm w s.1) : grow w 0 P s s := ⟨h, List.prefix_refl _, by omega, fun x hx => Or.inl hx, fun x h1 h2 => absurd h1 h2, fun c hc => Or.inl hc, List.prefix_refl _⟩
theorem grow.tr {w : WD} {P Q : Int → Prop} {k l : Nat} {s s1 s2 : List Int × List Int} (h1 : grow w k P s s1) (h2 : grow w l Q s1 s2) : grow w (k + l) (fun x => P x ∨ Q x) s s2 := by
  obtain ⟨a1, a2, a3, a4, a5, a6, a7⟩ := h1
  obtain ⟨b1, b2, b3, b4, b5, b6, b7⟩ := h2
  refine ⟨b1, a2.trans b2, by omega, fun x hx => ?_, fun x hx hn r hr => ?_, fun c hc => ?_, a7.trans b7⟩
  · rcases b4 x hx with h | h
    · rcases a4 x h with h | h
      · exact Or.inl h
      · exact Or.inr (Or.inl h)
    · exact Or.inr (Or.inr h)
  · by_cases h : x ∈ s1.1
    · exact (a5 x h hn r hr).imp id (fun q => b2.subset q)
    · exact b5 x hx h r hr
  · rcases b6 c hc with h | h
    · exact a6 c h
    · exact Or.inr h
theorem grow.mono {w : WD} {P Q : Int → Prop} {k : Nat} {s s1 : List Int × List Int} (h : grow w k P s s1) (hpq : ∀ x, P x → Q x) : grow w k Q s s1 := ⟨h.1, h.2.1, h.2.2.1, fun x hx => (h.2.2.2.1 x hx).imp id (hpq x), h.2.2.2.2⟩
theorem foldl_grow {w : WD} {F : List Int × List Int → Int → List Int × List Int} {n : Nat} (hF : ∀ s r, okm w s.1 → n < s.1.length → (r = -1 ∨ liv w r) → grow w 1 (fun x => r ≠ -1 ∧ Rch w r x) s (F s r) ∧ (r = -1 ∨ r ∈ (F s r).1)) : ∀ (rs : List Int) (s : List Int × List Int), (∀ r ∈ rs, r = -1 ∨ liv w r) → okm w s.1 → n < s.1.length → grow w rs.length (fun x => ∃ r ∈ rs, r ≠ -1 ∧ Rch w r x) s (rs.foldl F s) ∧ ∀ r ∈ rs, r = -1 ∨ r ∈ (rs.foldl F s).1
  | [], s, _, h, _ => ⟨grow.rf h, fun r hr => by cases hr⟩
  | r :: rs, s, hr, h, hn => by
    obtain ⟨g1, g2⟩ := hF s r h hn (hr r List.mem_cons_self)
    have hlen := g1.2.1.length_le
    obtain ⟨e1, e2⟩ := foldl_grow hF rs (F s r) (fun r' h' => hr r' (List.mem_cons_of_mem _ h')) g1.1 (by omega)
    refine ⟨?_, fun r' h' => ?_⟩
    · have := g1.tr e1
      rw [Nat.add_comm] at this
      obtain ⟨a1, a2, a3, a4, a5⟩ := this
      refine ⟨a1, a2, a3, fun x hx => ?_, a5⟩
      by_cases hxs : x ∈ s.1
      · exact Or.inl hxs
      · refine Or.inr ?_
        rcases (a4 x hx).resolve_left hxs with h1 | ⟨c, hc, h1⟩
        · exact ⟨r, List.mem_cons_self, h1⟩
        · exact ⟨c, List.mem_cons_of_mem _ hc, h1⟩
    · rcases List.mem_cons.mp h' with rfl | h'
      · exact g2.imp id (fun q => e1.2.1.subset q)
      · exact e2 r' h'
theorem walk_grow {w : WD} (hw : okW w) : ∀ (f : Nat) (o : Int) (s : List Int × List Int), okm w s.1 → 30 < s.1.length + f → (o = -1 ∨ liv w o) → grow w 1 (fun x => o ≠ -1 ∧ Rch w o x) s (walk w f o s) ∧ (o = -1 ∨ o ∈ (walk w f o s).1)
  | 0, o, s, h, hn, _ => by have := okm_len h; omega
  | f + 1, o, s, h, hn, ho => by
    unfold walk
    by_cases h1 : o = -1
    · rw [if_pos h1]
      refine ⟨⟨h, List.prefix_refl _, ?_, fun x hx => Or.inl hx, fun x a b => absurd a b, fun c hc => ?_, List.prefix_append _ _⟩, Or.inl h1⟩
      · dsimp only; rw [List.length_append]; simp only [List.length_cons, List.length_nil]; omega
      · rcases List.mem_append.mp hc with hc | hc
        · exact Or.inl hc
        · rw [List.mem_singleton] at hc; exact Or.inr (by omega)
    · rw [if_neg h1]
      have ho := ho.resolve_left h1
      rcases idm_spec s.1 o with ⟨h2, h3⟩ | ⟨i, h2, h3, h4, h5⟩
      · rw [if_neg (fun q => q h2)]
        obtain ⟨i, rfl, hi, hk⟩ := liv_nat ho
        rw [Int.toNat_natCast]
        have hok := hw.1 i hi
        have hrl := hok.2.2.2.2.2.2.2.1
        have hhl := hdN_len hok
        have h30 := okm_new h ho h3
        have hrs : ∀ r ∈ (w.1 i).2.2.1, r = -1 ∨ liv w r := fun r hr => by
          rcases hok.2.2.2.2.2.2.2.2.2.2.2.1 r hr with q | ⟨b, rfl, hb, hbk⟩
          · exact Or.inl q
          · exact Or.inr (liv_of hb hbk)
        obtain ⟨⟨a1, a2, a3, a4, a5, a6, a7⟩, e2⟩ := foldl_grow (w := w) (F := fun s r => walk w f r s) (n := 30 - f) (fun s r q1 q2 q3 => walk_grow hw f r s q1 (by omega) q3) (w.1 i).2.2.1 (s.1 ++ [(i : Int)], s.2 ++ hdN w (w.1 i)) hrs (okm_app h ho h3) (by dsimp only; rw [List.length_append]; simp only [List.length_cons, List.length_nil]; omega)
        generalize (w.1 i).2.2.1.foldl (fun s r => walk w f r s) (s.1 ++ [(i : Int)], s.2 ++ hdN w (w.1 i)) = s' at a1 a2 a3 a4 a5 a6 a7 e2 ⊢
        dsimp only at a2 a3 a4 a5 a6 a7
        refine ⟨⟨a1, (List.prefix_append _ _).trans a2, ?_, fun x hx => ?_, fun x hx hn r hr => ?_, fun c hc => ?_, (List.prefix_append _ _).trans a7⟩, Or.inr (a2.subset (List.mem_append_right _ (List.mem_singleton.mpr rfl)))⟩
        · rw [List.length_append, List.length_append] at a3
          simp only [List.length_cons, List.length_nil] at a3
          omega
        · rcases a4 x hx with q | ⟨r, hr, hr1, k, hk⟩
          · rcases List.mem_append.mp q with q | q
            · exact Or.inl q
            · rw [List.mem_singleton] at q
              exact Or.inr ⟨h1, 0, q.symm⟩
          · refine Or.inr ⟨h1, k + 1, r, ?_, hr1, hk⟩
            rw [Int.toNat_natCast]; exact hr
        · by_cases hxi : x = (i : Int)
          · subst hxi
            rw [Int.toNat_natCast] at hr
            exact e2 r hr
          · refine a5 x hx (fun q => ?_) r hr
            rcases List.mem_append.mp q with q | q
            · exact hn q
            · exact hxi (List.mem_singleton.mp q)
        · rcases a6 c hc with q | q
          · rcases List.mem_append.mp q with q | q
            · exact Or.inl q
            · exact Or.inr (hdN_rng hw hok hk q)
          · exact Or.inr q
      · rw [if_pos (by omega)]
        have h30 := okm_len h
        refine ⟨⟨h, List.prefix_refl _, ?_, fun x hx => Or.inl hx, fun x a b => absurd a b, fun c hc => ?_, List.prefix_append _ _⟩, Or.inr h5⟩
        · dsimp only; rw [List.length_append]; simp only [List.length_cons, List.length_nil]; omega
        · rcases List.mem_append.mp hc with hc | hc
          · exact Or.inl hc
          · simp only [List.mem_cons, List.not_mem_nil, or_false] at hc
            exact Or.inr (by omega)
