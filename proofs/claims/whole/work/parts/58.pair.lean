/-! TWO GRAPHS AT ONCE -/
abbrev PL : Type := List (Int × Int)
def sfL : PL → Int → Int
  | [], _ => -1
  | p :: L, a => if p.1 = a then p.2 else sfL L a
def sbL (L : PL) (b : Int) : Int := sfL (L.map Prod.swap) b
theorem sfL_app {a b : Int} : ∀ {L : PL}, a ∉ L.map Prod.fst → ∀ x, sfL (L ++ [(a, b)]) x = if x = a then b else sfL L x
  | [], _, x => by
    show (if a = x then b else -1) = if x = a then b else -1
    by_cases h : x = a
    · rw [if_pos h, if_pos h.symm]
    · rw [if_neg h, if_neg (fun q => h q.symm)]
  | p :: L, hn, x => by
    rw [List.map_cons, List.mem_cons, not_or] at hn
    show (if p.1 = x then p.2 else sfL (L ++ [(a, b)]) x) = if x = a then b else if p.1 = x then p.2 else sfL L x
    by_cases h : p.1 = x
    · rw [if_pos h, if_pos h, if_neg (fun q => hn.1 (by rw [h, q]))]
    · rw [if_neg h, if_neg h, sfL_app hn.2 x]
theorem sfL_neg {a : Int} : ∀ {L : PL}, (∀ p ∈ L, 0 ≤ p.2) → (sfL L a = -1 ↔ a ∉ L.map Prod.fst)
  | [], _ => by
    refine ⟨fun _ q => ?_, fun _ => rfl⟩
    cases q
  | p :: L, h => by
    show (if p.1 = a then p.2 else sfL L a) = -1 ↔ _
    have hp := h p List.mem_cons_self
    rw [List.map_cons, List.mem_cons, not_or]
    by_cases e : p.1 = a
    · rw [if_pos e]
      exact ⟨fun q => by omega, fun q => absurd e.symm q.1⟩
    · rw [if_neg e, sfL_neg (fun q hq => h q (List.mem_cons_of_mem _ hq))]
      exact ⟨fun q => ⟨fun z => e z.symm, q⟩, fun q => q.2⟩
theorem sfL_mem {a b : Int} : ∀ {L : PL}, (L.map Prod.fst).Nodup → (a, b) ∈ L → sfL L a = b
  | [], _, h => by cases h
  | p :: L, hn, h => by
    rw [List.map_cons, List.nodup_cons] at hn
    show (if p.1 = a then p.2 else sfL L a) = b
    rcases List.mem_cons.mp h with q | q
    · rw [← q, if_pos rfl]
    · rw [if_neg (fun z => hn.1 (List.mem_map.mpr ⟨(a, b), q, z.symm⟩)), sfL_mem hn.2 q]
theorem sfL_get {a b : Int} : ∀ {L : PL}, sfL L a = b → b ≠ -1 → (a, b) ∈ L
  | [], h, hb => absurd h.symm hb
  | p :: L, h, hb => by
    have h : (if p.1 = a then p.2 else sfL L a) = b := h
    by_cases e : p.1 = a
    · rw [if_pos e] at h
      rw [← e, ← h]
      exact List.mem_cons_self
    · rw [if_neg e] at h
      exact List.mem_cons_of_mem _ (sfL_get h hb)
def okL (w : WD) (L : PL) : Prop := (L.map Prod.fst).Nodup ∧ (L.map Prod.snd).Nodup ∧ ∀ p ∈ L, liv w p.1 ∧ liv w p.2
theorem swp_fst (L : PL) : (L.map Prod.swap).map Prod.fst = L.map Prod.snd := by rw [List.map_map]; rfl
theorem okL.len {w : WD} {L : PL} (h : okL w L) : L.length ≤ 30 := by
  have := okm_len (w := w) (m := L.map Prod.fst) ⟨h.1, fun o ho => by
    obtain ⟨p, hp, rfl⟩ := List.mem_map.mp ho
    exact (h.2.2 p hp).1⟩
  rw [List.length_map] at this
  exact this
theorem okL.f {w : WD} {L : PL} (h : okL w L) {a : Int} : sfL L a = -1 ↔ a ∉ L.map Prod.fst := sfL_neg (fun p hp => (h.2.2 p hp).2.1)
theorem okL.b {w : WD} {L : PL} (h : okL w L) {b : Int} : sbL L b = -1 ↔ b ∉ L.map Prod.snd := by
  unfold sbL
  rw [sfL_neg (fun p hp => by
    obtain ⟨q, hq, rfl⟩ := List.mem_map.mp hp
    exact (h.2.2 q hq).1.1), swp_fst]
theorem okL.fb {w : WD} {L : PL} (h : okL w L) {a b : Int} (hb : b ≠ -1) (e : sfL L a = b) : sbL L b = a := by
  unfold sbL
  refine sfL_mem (by rw [swp_fst]; exact h.2.1) (List.mem_map.mpr ⟨(a, b), sfL_get e hb, rfl⟩)
theorem okL.app {w : WD} {L : PL} (h : okL w L) {a b : Int} (ha : liv w a) (hb : liv w b) (hf : sfL L a = -1) (hg : sbL L b = -1) : okL w (L ++ [(a, b)]) ∧ L.length < 30 := by
  have e : okL w (L ++ [(a, b)]) := by
    refine ⟨?_, ?_, fun p hp => ?_⟩
    · rw [List.map_append, List.nodup_append]
      refine ⟨h.1, by simp, fun x hx y hy => ?_⟩
      rw [List.map_cons, List.map_nil, List.mem_singleton] at hy
      have hy : y = a := hy
      exact fun q => h.f.mp hf (by rw [← hy, ← q]; exact hx)
    · rw [List.map_append, List.nodup_append]
      refine ⟨h.2.1, by simp, fun x hx y hy => ?_⟩
      rw [List.map_cons, List.map_nil, List.mem_singleton] at hy
      have hy : y = b := hy
      exact fun q => h.b.mp hg (by rw [← hy, ← q]; exact hx)
    · rcases List.mem_append.mp hp with q | q
      · exact h.2.2 p q
      · rw [List.mem_singleton] at q
        rw [q]; exact ⟨ha, hb⟩
  have := e.len
  rw [List.length_append] at this
  exact ⟨e, by simp only [List.length_cons, List.length_nil] at this; omega⟩
def lkB (w : WD) (a b : Int) : Bool := decide ((w.1 a.toNat).1 = (w.1 b.toNat).1 ∧ (w.1 a.toNat).2.1 = (w.1 b.toNat).2.1 ∧ (w.1 a.toNat).2.2.1.length = (w.1 b.toNat).2.2.1.length ∧ (w.1 a.toNat).2.2.2 = (w.1 b.toNat).2.2.2)
def bdp (c : Bool) (w : WD) (L : PL) (a b : Int) : Bool × PL := if a = -1 ∨ b = -1 then (decide (a = -1 ∧ b = -1), L) else if sfL L a = -1 ∧ sbL L b = -1 then (if (c && !lkB w a b) = true then (false, L) else (true, L ++ [(a, b)])) else (decide (sfL L a = b), L)
def prs (c : Bool) (w : WD) : List Int → List Int → PL → Bool × PL
  | a :: as, b :: bs, L => if (bdp c w L a b).1 = true then prs c w as bs (bdp c w L a b).2 else (false, (bdp c w L a b).2)
  | _, _, L => (true, L)
def alG (c : Bool) (w : WD) : Nat → PL → Nat → Bool
  | 0, _, _ => false
  | f + 1, L, k => match L[k]? with
    | none => true
    | some p => if (!c && !lkB w p.1 p.2) = true then false else if (prs c w (w.1 p.1.toNat).2.2.1 (w.1 p.2.toNat).2.2.1 L).1 = true then alG c w f (prs c w (w.1 p.1.toNat).2.2.1 (w.1 p.2.toNat).2.2.1 L).2 (k + 1) else false
theorem bdp_pre (c : Bool) (w : WD) (L : PL) (a b : Int) : L <+: (bdp c w L a b).2 := by
  unfold bdp
  split
  · exact List.prefix_refl _
  · split
    · split
      · exact List.prefix_refl _
      · exact List.prefix_append _ _
    · exact List.prefix_refl _
theorem prs_pre (c : Bool) (w : WD) : ∀ (as bs : List Int) (L : PL), L <+: (prs c w as bs L).2
  | a :: as, b :: bs, L => by
    unfold prs
    split
    · exact (bdp_pre c w L a b).trans (prs_pre c w as bs _)
    · exact bdp_pre c w L a b
  | [], _, L => List.prefix_refl _
  | _ :: _, [], L => List.prefix_refl _
theorem bdp_ok {c : Bool} {w : WD} {L : PL} {a b : Int} (h : okL w L) (ha : livN w a) (hb : livN w b) : okL w (bdp c w L a b).2 := by
  unfold bdp
  split
  · exact h
  · rename_i h1
    rw [not_or] at h1
    split
    · rename_i h2
      split
      · exact h
      · exact (h.app (ha.resolve_left h1.1) (hb.resolve_left h1.2) h2.1 h2.2).1
    · exact h
theorem prs_ok {c : Bool} {w : WD} : ∀ (as bs : List Int) (L : PL), okL w L → (∀ r ∈ as, livN w r) → (∀ r ∈ bs, livN w r) → okL w (prs c w as bs L).2
  | a :: as, b :: bs, L, h, ha, hb => by
    have h1 := bdp_ok (c := c) h (ha a List.mem_cons_self) (hb b List.mem_cons_self)
    unfold prs
    split
    · exact prs_ok as bs _ h1 (fun r hr => ha r (List.mem_cons_of_mem _ hr)) (fun r hr => hb r (List.mem_cons_of_mem _ hr))
    · exact h1
  | [], _, L, h, _, _ => h
  | _ :: _, [], L, h, _, _ => h
theorem bdp_cmp {w : WD} {L : PL} {a b : Int} (hl : ∀ p ∈ L, lkB w p.1 p.2 = true) : (bdp true w L a b = bdp false w L a b ∧ ∀ p ∈ (bdp true w L a b).2, lkB w p.1 p.2 = true) ∨ ((bdp true w L a b).1 = false ∧ ∃ p ∈ (bdp false w L a b).2, lkB w p.1 p.2 = false) := by
  unfold bdp
  by_cases h1 : a = -1 ∨ b = -1
  · rw [if_pos h1, if_pos h1]
    exact Or.inl ⟨rfl, hl⟩
  · rw [if_neg h1, if_neg h1]
    by_cases h2 : sfL L a = -1 ∧ sbL L b = -1
    · rw [if_pos h2, if_pos h2, if_neg (show ¬ (false && !lkB w a b) = true by simp)]
      by_cases h3 : lkB w a b = true
      · rw [if_neg (by rw [h3]; decide)]
        refine Or.inl ⟨rfl, fun p hp => ?_⟩
        rcases List.mem_append.mp hp with q | q
        · exact hl p q
        · rw [List.mem_singleton] at q
          rw [q]; exact h3
      · have h3' : lkB w a b = false := by simpa using h3
        rw [if_pos (by rw [h3']; decide)]
        exact Or.inr ⟨rfl, (a, b), List.mem_append_right _ (List.mem_singleton.mpr rfl), h3'⟩
    · rw [if_neg h2, if_neg h2]
      exact Or.inl ⟨rfl, hl⟩
theorem prs_cmp {w : WD} : ∀ (as bs : List Int) (L : PL), (∀ p ∈ L, lkB w p.1 p.2 = true) → (prs true w as bs L = prs false w as bs L ∧ ∀ p ∈ (prs true w as bs L).2, lkB w p.1 p.2 = true) ∨ ((prs true w as bs L).1 = false ∧ ((prs false w as bs L).1 = false ∨ ∃ p ∈ (prs false w as bs L).2, lkB w p.1 p.2 = false))
  | a :: as, b :: bs, L, hl => by
    unfold prs
    rcases bdp_cmp (a := a) (b := b) hl with ⟨e, h⟩ | ⟨e, p, hp, hb⟩
    · rw [e] at h ⊢
      by_cases hf : (bdp false w L a b).1 = true
      · rw [if_pos hf, if_pos hf]
        exact prs_cmp as bs _ h
      · rw [if_neg hf, if_neg hf]
        exact Or.inl ⟨rfl, h⟩
    · rw [if_neg (by rw [e]; decide)]
      refine Or.inr ⟨rfl, ?_⟩
      by_cases hf : (bdp false w L a b).1 = true
      · rw [if_pos hf]
        exact Or.inr ⟨p, (prs_pre false w as bs _).subset hp, hb⟩
      · rw [if_neg hf]
        exact Or.inl rfl
  | [], _, L, hl => Or.inl ⟨rfl, hl⟩
  | _ :: _, [], L, hl => Or.inl ⟨rfl, hl⟩
theorem pre_get {α : Type} {l l' : List α} (h : l <+: l') {j : Nat} {p : α} (hj : l[j]? = some p) : l'[j]? = some p := by
  obtain ⟨t, rfl⟩ := h
  rw [List.getElem?_append_left (lenOf hj)]; exact hj
theorem al_bad {w : WD} : ∀ (f : Nat) (L : PL) (k j : Nat) (p : Int × Int), k ≤ j → L[j]? = some p → lkB w p.1 p.2 = false → alG false w f L k = false
  | 0, L, k, j, p, _, _, _ => rfl
  | f + 1, L, k, j, p, hk, hj, hb => by
    have hjl := lenOf hj
    unfold alG
    rw [List.getElem?_eq_getElem (show k < L.length by omega)]
    dsimp only
    split
    · rfl
    · rename_i h1
      split
      · refine al_bad f _ (k + 1) j p ?_ (pre_get (prs_pre _ _ _ _ _) hj) hb
        by_cases hkj : k = j
        · subst hkj
          rw [List.getElem?_eq_getElem hjl] at hj
          cases hj
          rw [hb] at h1
          exact absurd rfl h1
        · omega
      · rfl
theorem al_same {w : WD} : ∀ (f : Nat) (L : PL) (k : Nat), (∀ p ∈ L, lkB w p.1 p.2 = true) → alG true w f L k = alG false w f L k
  | 0, L, k, _ => rfl
  | f + 1, L, k, hl => by
    unfold alG
    cases hk : L[k]? with
    | none => rfl
    | some p =>
      dsimp only
      have hp := hl p (List.mem_of_getElem? hk)
      rw [if_neg (show ¬ (!true && !lkB w p.1 p.2) = true by simp), if_neg (show ¬ (!false && !lkB w p.1 p.2) = true by rw [hp]; decide)]
      rcases prs_cmp (w.1 p.1.toNat).2.2.1 (w.1 p.2.toNat).2.2.1 L hl with ⟨e, h⟩ | ⟨e, h⟩
      · rw [e] at h ⊢
        split
        · exact al_same f _ (k + 1) h
        · rfl
      · rw [if_neg (by rw [e]; decide)]
        split
        · rename_i hf
          rcases h with q | ⟨p2, hp2, hb⟩
          · rw [q] at hf; cases hf
          · obtain ⟨j, hj, e2⟩ := List.mem_iff_getElem.mp hp2
            have hj2 : (prs false w (w.1 p.1.toNat).2.2.1 (w.1 p.2.toNat).2.2.1 L).2[j]? = some p2 := by rw [List.getElem?_eq_getElem hj, e2]
            have hjk : k + 1 ≤ j := by
              by_cases hlt : j < L.length
              · have h1 := pre_get (prs_pre false w (w.1 p.1.toNat).2.2.1 (w.1 p.2.toNat).2.2.1 L) (List.getElem?_eq_getElem hlt)
                rw [hj2] at h1
                have h2 := Option.some.inj h1
                have := hl L[j] (List.getElem_mem hlt)
                rw [← h2, hb] at this
                cases this
              · have := lenOf hk
                omega
            exact (al_bad f _ (k + 1) j p2 hjk hj2 hb).symm
        · rfl
def b_alike (s : ST) (o p : Int) : Int := if ¬ liv s.1 o then -1 else if ¬ liv s.1 p then -1 else bI (alG false s.1 31 [(o, p)] 0)
/-! in memory -/
def isPr (I : IM) (ca cb cc : Nat) (L : PL) : Prop := (∀ i : Nat, i < 30 → I ca (i : Int) = sfL L (i : Int)) ∧ (∀ i : Nat, i < 30 → I cb (i : Int) = sbL L (i : Int)) ∧ ∀ (j : Nat) (p : Int × Int), L[j]? = some p → I cc (j : Int) = p.1
theorem isPr.cong {I I' : IM} {ca cb cc : Nat} {L : PL} (h : isPr I ca cb cc L) (h0 : I' ca = I ca) (h1 : I' cb = I cb) (h2 : I' cc = I cc) : isPr I' ca cb cc L := ⟨fun i hi => by rw [h0]; exact h.1 i hi, fun i hi => by rw [h1]; exact h.2.1 i hi, fun j p hp => by rw [h2]; exact h.2.2 j p hp⟩
theorem isPr_app {w : WD} {I : IM} {ca cb cc : Nat} {L : PL} (h : isPr I ca cb cc L) (hL : okL w L) (h12 : ca ≠ cb) (h13 : ca ≠ cc) (h23 : cb ≠ cc) {a b : Nat} (hf : sfL L (a : Int) = -1) (hg : sbL L (b : Int) = -1) : isPr (up (up (up I ca (a : Int) (b : Int)) cb (b : Int) (a : Int)) cc (L.length : Int) (a : Int)) ca cb cc (L ++ [((a : Int), (b : Int))]) := by
  refine ⟨fun i hi => ?_, fun i hi => ?_, fun j p hp => ?_⟩
  · rw [upk h13, upk h12, sfL_app (hL.f.mp hf)]
    by_cases hia : i = a
    · subst hia
      rw [ups, if_pos rfl]
    · rw [upj (by omega), if_neg (by omega)]
      exact h.1 i hi
  · have e : sbL (L ++ [((a : Int), (b : Int))]) (i : Int) = if (i : Int) = (b : Int) then (a : Int) else sbL L (i : Int) := by
      unfold sbL
      rw [List.map_append]
      exact sfL_app (by rw [swp_fst]; exact hL.b.mp hg) _
    rw [upk h23, e]
    by_cases hib : i = b
    · subst hib
      rw [ups, if_pos rfl]
    · rw [upj (by omega), if_neg (by omega), upk (Ne.symm h12)]
      exact h.2.1 i hi
  · have := lenOf hp
    rw [List.length_append] at this
    simp only [List.length_cons, List.length_nil] at this
    by_cases hjl : j < L.length
    · rw [List.getElem?_append_left hjl] at hp
      rw [upj (by omega), upk (Ne.symm h23), upk (Ne.symm h13)]
      exact h.2.2 j p hp
    · obtain rfl : j = L.length := by omega
      rw [List.getElem?_append_right (Nat.le_refl _), Nat.sub_self] at hp
      cases hp
      exact ups
