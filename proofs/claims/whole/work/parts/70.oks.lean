/-! WHAT ALWAYS HOLDS, HOLDS ON -/
def good (w w' : WD) : Prop := okW w' ∧ zW w' ∧ ∀ i : Nat, i < 30 → (w.1 i).1 ≠ 0 → (w'.1 i).1 ≠ 0
theorem okS.w {s : ST} (h : okS s) {w : WD} (g : good s.1 w) : okS (stW s w) := by
  obtain ⟨a1, a2, a3, a4, a5, a6, a7, a8⟩ := h
  refine ⟨g.1, g.2.1, a3, a4, a5, a6, fun q hq => ?_, a8⟩
  rcases a7 q hq with z | z
  · exact Or.inl z
  · obtain ⟨b, e, hb, hbk⟩ := liv_nat z
    refine Or.inr ?_
    show liv w (s.2.2.2.2.1 q)
    rw [e]
    exact liv_of hb (g.2.2 b hb hbk)
theorem good.rf {s : ST} (h : okS s) : good s.1 s.1 := ⟨h.1, h.2.1, fun _ _ q => q⟩
theorem good.n {w : WD} (hw : okW w) (hz : zW w) {i : Nat} {x : ND} (hx : okN (setN w i x) x) (hk : x.1 ≠ 0) : good w (setN w i x) := ⟨okW_setN hw hx hk, zW_ref hz hk, fun j _ hjk => by
  by_cases hji : j = i
  · subst hji; rw [setN_at]; exact hk
  · simp only [setN, if_neg hji]; exact hjk⟩
section OKS
variable {s : ST} {k v n x o i to q c h : Int}
theorem g_schema (hs : okS s) : good s.1 (a_schema s.1 k v n x).2 := by
  unfold a_schema
  split
  · exact good.rf hs
  · rename_i h1
    have h1 := Classical.not_not.mp h1
    split
    · exact good.rf hs
    · rename_i h2
      have h2 := Classical.not_not.mp h2
      split
      · exact good.rf hs
      · rename_i h3
        have h3 := Classical.not_not.mp h3
        split
        · exact good.rf hs
        · split
          · rename_i h5
            refine ⟨⟨hs.1.1, fun j hj => ?_, hs.1.2.2⟩, hs.2.1, fun _ _ z => z⟩
            show ((if j = sIx k v then s.1.2.1 (sIx k v) ++ [(n, x)] else s.1.2.1 j)).length ≤ 4 ∧ ∀ p ∈ (if j = sIx k v then s.1.2.1 (sIx k v) ++ [(n, x)] else s.1.2.1 j), _
            by_cases hj2 : j = sIx k v
            · rw [if_pos hj2]
              refine ⟨by rw [List.length_append]; simp only [List.length_cons, List.length_nil]; omega, fun p hp => ?_⟩
              rcases List.mem_append.mp hp with z | z
              · exact (hs.1.2.1 (sIx k v) (by rw [← hj2]; exact hj)).2 p z
              · rw [List.mem_singleton] at z
                rw [z]
                exact ⟨h2.1, h2.2, h3.1, h3.2⟩
            · rw [if_neg hj2]
              exact hs.1.2.1 j hj
          · exact good.rf hs
theorem g_version (hs : okS s) : good s.1 (a_version s.1 k v).2 := by
  unfold a_version
  split
  · exact good.rf hs
  · rename_i h1
    have h1 := Classical.not_not.mp h1
    refine ⟨⟨hs.1.1, hs.1.2.1, fun j a b => ?_⟩, hs.2.1, fun _ _ z => z⟩
    show 1 ≤ (if j = k.toNat then v else s.1.2.2 j) ∧ (if j = k.toNat then v else s.1.2.2 j) ≤ 3
    split
    · exact h1.2
    · exact hs.1.2.2 j a b
theorem g_object (hs : okS s) : good s.1 (a_object s.1 k).2 := by
  unfold a_object
  split
  · exact good.rf hs
  · rename_i h1
    have h1 := Classical.not_not.mp h1
    split
    · exact good.rf hs
    · exact good.n hs.1 hs.2.1 (okN_defs hs.1 h1 ⟨Nat.zero_le _, fun p hp => by cases hp⟩) (by show k ≠ 0; omega)
theorem g_row (hs : okS s) : good s.1 (a_row s.1 k n).2 := by
  unfold a_row
  split
  · exact good.rf hs
  · rename_i h1
    rw [not_or] at h1
    split
    · exact good.rf hs
    · split
      · exact good.rf hs
      · exact good.n hs.1 hs.2.1 (okN_rw _ (Classical.not_not.mp h1.1) (by omega)) (by show (4 : Int) ≠ 0; decide)
theorem okN_setF {w w' : WD} (hw : okW w) {o : Nat} (ho : o < 30) (hk : (w.1 o).1 ≠ 0) (h4 : ¬ (w.1 o).1 = 4) {L : FL} (hL : okFl L) (hl : ∀ i : Nat, i < 30 → (w.1 i).1 ≠ 0 → (w'.1 i).1 ≠ 0) : okN w' (setF (w.1 o) L) := by
  obtain ⟨b1, b2, b3, b4, b5, b6, b7, b8, b9, b10, b11, b12, b13⟩ := okN_mono (hw.1 o ho) hl
  exact ⟨b1, b2, fun z => absurd z hk, b4, b5, b6, fun z => absurd z h4, b8, hL.1, b10, b11, b12, hL.2⟩
theorem set_live {w : WD} {o : Nat} {x : ND} (hk : x.1 ≠ 0) : ∀ i : Nat, i < 30 → (w.1 i).1 ≠ 0 → ((setN w o x).1 i).1 ≠ 0 := fun i _ hi => by
  by_cases hio : i = o
  · subst hio; rw [setN_at]; exact hk
  · simp only [setN, if_neg hio]; exact hi
theorem fupd_mem {P : Int × Int → Prop} {n v : Int} (hv : ∀ z, P (n, z) → P (n, v)) : ∀ (L : FL), (∀ p ∈ L, P p) → ∀ p ∈ fupd L n v, P p
  | [], _, p, hp => by cases hp
  | a :: L, hL, p, hp => by
    have hp : p ∈ (if a.1 = n then (n, v) :: L else a :: fupd L n v) := hp
    by_cases ha : a.1 = n
    · rw [if_pos ha] at hp
      rcases List.mem_cons.mp hp with z | z
      · rw [z]
        refine hv a.2 ?_
        have := hL a List.mem_cons_self
        rw [← ha]; exact this
      · exact hL p (List.mem_cons_of_mem _ z)
    · rw [if_neg ha] at hp
      rcases List.mem_cons.mp hp with z | z
      · rw [z]; exact hL a List.mem_cons_self
      · exact fupd_mem hv L (fun q hq => hL q (List.mem_cons_of_mem _ hq)) p z
theorem frem_mem : ∀ (L : FL) (n : Int), ∀ p ∈ frem L n, p ∈ L
  | [], _, p, hp => by cases hp
  | a :: L, n, p, hp => by
    have hp : p ∈ (if a.1 = n then L else a :: frem L n) := hp
    by_cases ha : a.1 = n
    · rw [if_pos ha] at hp
      exact List.mem_cons_of_mem _ hp
    · rw [if_neg ha] at hp
      rcases List.mem_cons.mp hp with z | z
      · rw [z]; exact List.mem_cons_self
      · exact List.mem_cons_of_mem _ (frem_mem L n p z)
theorem g_write (hs : okS s) : good s.1 (a_write s.1 o n v).2 := by
  unfold a_write
  split
  · exact good.rf hs
  · rename_i h1
    obtain ⟨b, rfl, hb, hbk⟩ := liv_nat (Classical.not_not.mp h1)
    rw [Int.toNat_natCast]
    split
    · exact good.rf hs
    · rename_i h4
      split
      · exact good.rf hs
      · rename_i h2
        have h2 := Classical.not_not.mp h2
        split
        · exact good.rf hs
        · rename_i h3
          have h3 := Classical.not_not.mp h3
          have hok := hs.1.1 b hb
          have hold : okFl (s.1.1 b).2.2.2 := ⟨hok.2.2.2.2.2.2.2.2.1, hok.2.2.2.2.2.2.2.2.2.2.2.2⟩
          refine good.n hs.1 hs.2.1 (okN_setF hs.1 hb hbk h4 ?_ (set_live hbk)) hbk
          split
          · split
            · rename_i h6
              refine ⟨by rw [List.length_append]; simp only [List.length_cons, List.length_nil]; omega, fun p hp => ?_⟩
              rcases List.mem_append.mp hp with z | z
              · exact hold.2 p z
              · rw [List.mem_singleton] at z
                rw [z]; exact ⟨h2.1, h2.2, h3.1, h3.2⟩
            · exact hold
          · exact ⟨by rw [fupd_len]; exact hold.1, fupd_mem (P := fun p => 97 ≤ p.1 ∧ p.1 ≤ 104 ∧ -99 ≤ p.2 ∧ p.2 ≤ 99) (fun z hz => ⟨hz.1, hz.2.1, h3.1, h3.2⟩) _ hold.2⟩
theorem g_forget (hs : okS s) : good s.1 (a_forget s.1 o n).2 := by
  unfold a_forget
  split
  · exact good.rf hs
  · rename_i h1
    obtain ⟨b, rfl, hb, hbk⟩ := liv_nat (Classical.not_not.mp h1)
    rw [Int.toNat_natCast]
    split
    · exact good.rf hs
    · split
      · exact good.rf hs
      · rename_i h4
        split
        · exact good.rf hs
        · rename_i h5
          have hok := hs.1.1 b hb
          have hold : okFl (s.1.1 b).2.2.2 := ⟨hok.2.2.2.2.2.2.2.2.1, hok.2.2.2.2.2.2.2.2.2.2.2.2⟩
          exact good.n hs.1 hs.2.1 (okN_setF hs.1 hb hbk h4 ⟨by rw [frem_len _ _ h5]; have := hold.1; omega, fun p hp => hold.2 p (frem_mem _ _ p hp)⟩ (set_live hbk)) hbk
theorem g_graft (hs : okS s) : good s.1 (a_graft s.1 o i to).2 := by
  unfold a_graft
  split
  · exact good.rf hs
  · rename_i h1
    obtain ⟨b, rfl, hb, hbk⟩ := liv_nat (Classical.not_not.mp h1)
    rw [Int.toNat_natCast]
    split
    · exact good.rf hs
    · rename_i h2
      split
      · exact good.rf hs
      · split
        · exact good.rf hs
        · exact ⟨okW_ref hs.1 hb hbk (Classical.not_not.mp h2), zW_ref hs.2.1 hbk, set_live hbk⟩
theorem g_copy (hs : okS s) : good s.1 (a_copy s.1 o).2 := by
  unfold a_copy
  split
  · exact good.rf hs
  · rename_i h1
    obtain ⟨b, rfl, hb, hbk⟩ := liv_nat (Classical.not_not.mp h1)
    rw [Int.toNat_natCast]
    split
    · exact good.rf hs
    · split
      · exact good.rf hs
      · exact good.n hs.1 hs.2.1 (okN_mono (hs.1.1 b hb) (set_live hbk)) hbk
theorem ok_graph (hs : okS s) : okS (b_graph s o).2 := by
  unfold b_graph
  split
  · exact hs
  · rename_i h1
    split
    · exact hs
    · rename_i h2
      have hg := gOK_thr hs.1 (Classical.not_not.mp h1) (by omega)
      refine hs.w ⟨okW_putG hg (List.prefix_refl _) (fun k x => Or.inr (Or.inr ⟨rfl, rfl⟩)), zW_putG hg hs.2.1 (fun k x => rfl), fun i hi hk => ?_⟩
      rw [putG_old (hg.old hk)]
      exact hk
theorem ok_sweep (hs : okS s) : okS (b_sweep s).2 := by
  obtain ⟨a1, a2, a3, a4, a5, a6, a7, a8⟩ := id hs
  obtain ⟨k1, k2, k3, k4, k5⟩ := swF_ok hs.1 (h := s.2.2.2.2.1) a7 8 (by omega)
  refine ⟨okW_swp a1 k3, zW_swp a2, a3, a4, a5, a6, fun q hq => ?_, a8⟩
  rcases k4 q hq with z | z
  · exact Or.inl z
  · obtain ⟨b, e, hb, hbk⟩ := liv_nat (k1.2 _ z)
    refine Or.inr ?_
    show liv (swp s.1 (swF s.1 s.2.2.2.2.1 8).1 30) (s.2.2.2.2.1 q)
    rw [e] at z ⊢
    refine liv_of hb ?_
    simp only [swp]
    rw [if_neg (fun y => y.2 z)]
    exact hbk
theorem okS.sh (hs : okS s) {q : Nat} {v : Option (List Int)} (hv : ∀ t, v = some t → okT t) : okS (stS s q v) := by
  obtain ⟨a1, a2, a3, a4, a5, a6, a7, a8⟩ := hs
  refine ⟨a1, a2, a3, a4, a5, fun p hp t ht => ?_, a7, a8⟩
  have ht : (if p = q then v else s.2.2.2.1 p) = some t := ht
  by_cases hpq : p = q
  · rw [if_pos hpq] at ht; exact hv t ht
  · rw [if_neg hpq] at ht; exact a6 p hp t ht
theorem ok_shelf (hs : okS s) : okS (b_shelf s q n).2 := by
  unfold b_shelf
  split
  · exact hs
  · split
    · exact hs
    · split
      · exact hs
      · refine hs.sh (fun t ht => ?_)
        by_cases h1 : n = -1
        · rw [if_pos h1] at ht; cases ht
        · rw [if_neg h1] at ht
          have := Option.some.inj ht
          rw [← this]
          refine ⟨by rw [List.length_replicate]; omega, fun c hc => ?_⟩
          have := List.eq_of_mem_replicate hc
          omega
theorem ok_put (hs : okS s) : okS (b_put s q i c).2 := by
  unfold b_put
  split
  · exact hs
  · rename_i hq
    have hq := Classical.not_not.mp hq
    split
    · exact hs
    · rename_i hc
      have hc := Classical.not_not.mp hc
      have hot := hs.2.2.2.2.2.1 q.toNat (by have := hq.1; have := hq.2; omega)
      cases hv : s.2.2.2.1 q.toNat with
      | none => exact hs
      | some t =>
        dsimp only
        split
        · exact hs
        · have ht := hot t hv
          refine hs.sh (fun t' ht' => ?_)
          have := Option.some.inj ht'
          rw [← this]
          refine ⟨by rw [List.length_set]; exact ht.1, fun y hy => ?_⟩
          rcases List.mem_or_eq_of_mem_set hy with z | z
          · exact ht.2 y z
          · rw [z]; exact hc
theorem ok_save (hs : okS s) : okS (b_save s q o).2 := by
  unfold b_save
  split
  · exact hs
  · split
    · exact hs
    · rename_i ho
      split
      · exact hs
      · rename_i hl
        refine hs.sh (fun t ht => ?_)
        have := Option.some.inj ht
        rw [← this]
        exact thr_ok hs.1 (Classical.not_not.mp ho) (Classical.not_not.mp hl)
theorem ok_hold (hs : okS s) : okS (b_hold s h o).2 := by
  unfold b_hold
  split
  · exact hs
  · split
    · exact hs
    · rename_i ho
      obtain ⟨a1, a2, a3, a4, a5, a6, a7, a8⟩ := hs
      refine ⟨a1, a2, a3, a4, a5, a6, fun p hp => ?_, a8⟩
      show livN s.1 (if p = h.toNat then o else s.2.2.2.2.1 p)
      split
      · exact Classical.not_not.mp ho
      · exact a7 p hp
theorem ok_image (hs : okS s) : okS (b_image s).2 := by
  obtain ⟨a1, a2, a3, a4, a5, a6, a7, a8⟩ := hs
  exact ⟨a1, a2, a1, a2, Or.inr rfl, a6, a7, a8⟩
theorem ok_back (hs : okS s) : okS (b_back s).2 := by
  unfold b_back
  split
  · exact hs
  · obtain ⟨a1, a2, a3, a4, a5, a6, a7, a8⟩ := hs
    refine ⟨a3, a4, a3, a4, a5, a6, fun p hp => ?_, a8⟩
    show livN s.2.1 (if liv s.2.1 (s.2.2.2.2.1 p) then s.2.2.2.2.1 p else -1)
    split
    · rename_i h; exact Or.inr h
    · exact Or.inl rfl
theorem ok_load (hs : okS s) : okS (b_load s q).2 := by
  unfold b_load
  split
  · exact hs
  · cases hv : s.2.2.2.1 q.toNat with
    | none => exact hs
    | some t =>
      dsimp only
      have hld := ldW_ok (t := t) hs.1 hs.2.1
      cases hl : ldW t s.1 with
      | inr e =>
        rw [hl] at hld
        dsimp only
        obtain ⟨a1, a2, a3, a4, a5, a6, a7, a8⟩ := hs
        exact ⟨a1, a2, a3, a4, a5, a6, a7, hld.2.2⟩
      | inl x =>
        rw [hl] at hld
        dsimp only
        exact hs.w ⟨hld.1.1, hld.1.2.1, fun i hi hk => by rw [hld.2.1.2.2.1 i hk]; exact hk⟩
end OKS
