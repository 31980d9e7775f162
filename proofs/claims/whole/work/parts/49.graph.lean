/-! COPIES OF WHOLE GRAPHS, AS WORLDS -/
theorem nd_le : ∀ (l l2 : List Int), l.Nodup → (∀ x ∈ l, x ∈ l2) → l.length ≤ l2.length
  | [], l2, _, _ => Nat.zero_le _
  | a :: l, l2, hd, h => by
    rw [List.nodup_cons] at hd
    have ha := h a List.mem_cons_self
    have h1 := nd_le l (l2.erase a) hd.2 (fun x hx => by
      have hx2 := h x (List.mem_cons_of_mem _ hx)
      exact (List.mem_erase_of_ne (fun (q : x = a) => hd.1 (q ▸ hx))).mpr hx2)
    rw [List.length_erase_of_mem ha] at h1
    have := List.length_pos_of_mem ha
    rw [List.length_cons]
    omega
def frL (w : WD) : List Int := ((List.range 30).filter (fun i => decide ((w.1 i).1 = 0))).map (fun i : Nat => (i : Int))
theorem sum_filter (p : Nat → Prop) [DecidablePred p] : ∀ n, sumN (fun i => if p i then 1 else 0) n = ((List.range n).filter (fun i => decide (p i))).length
  | 0 => rfl
  | n + 1 => by
    rw [sumN_step, sum_filter p n, List.range_succ, List.filter_append, List.length_append]
    congr 1
    by_cases h : p n
    · simp [h]
    · simp [h]
theorem frL_len (w : WD) : (frL w).length = cntK w 0 := by
  unfold frL cntK
  rw [List.length_map, sum_filter]
theorem frL_nodup (w : WD) : (frL w).Nodup := by
  unfold frL
  rw [List.nodup_iff_pairwise_ne, List.pairwise_map]
  refine (List.Pairwise.filter _ (List.nodup_iff_pairwise_ne.mp List.nodup_range)).imp (fun {a b} h => ?_)
  omega
theorem frL_mem {w : WD} {x : Int} (h : x ∈ frL w) : ∃ i : Nat, x = (i : Int) ∧ i < 30 ∧ (w.1 i).1 = 0 := by
  unfold frL at h
  obtain ⟨i, hi, rfl⟩ := List.mem_map.mp h
  rw [List.mem_filter, List.mem_range] at hi
  exact ⟨i, rfl, hi.1, of_decide_eq_true hi.2⟩
theorem mem_frL {w : WD} {i : Nat} (hi : i < 30) (h : (w.1 i).1 = 0) : (i : Int) ∈ frL w := by
  unfold frL
  refine List.mem_map.mpr ⟨i, ?_, rfl⟩
  rw [List.mem_filter, List.mem_range]
  exact ⟨hi, decide_eq_true h⟩
theorem freeW_congr {w1 w2 : WD} (h : ∀ i, i < 30 → ((w1.1 i).1 = 0 ↔ (w2.1 i).1 = 0)) : freeW w1 = freeW w2 := by
  have : ∀ k j, j + k ≤ 30 → frees w1 k j = frees w2 k j := by
    intro k
    induction k with
    | zero => intro j _; rfl
    | succ k ih =>
      intro j hj
      unfold frees
      by_cases hz : (w1.1 j).1 = 0
      · rw [if_pos hz, if_pos ((h j (by omega)).mp hz)]
      · rw [if_neg hz, if_neg (fun q => hz ((h j (by omega)).mpr q)), ih (j + 1) (by omega)]
  exact this 30 0 (by omega)
/-- those of a list are none's no more -/
def mark (w : WD) (l : List Int) : WD := (fun j => if (j : Int) ∈ l then (1, 0, [], []) else w.1 j, w.2)
def nwl (w : WD) : Nat → List Int
  | 0 => []
  | k + 1 => nwl w k ++ [freeW (mark w (nwl w k))]
theorem nwl_len (w : WD) : ∀ k, (nwl w k).length = k
  | 0 => rfl
  | k + 1 => by
    show (nwl w k ++ [_]).length = _
    rw [List.length_append, nwl_len w k]; rfl
theorem nwl_ok (w : WD) : ∀ k, k ≤ cntK w 0 → (nwl w k).Nodup ∧ ∀ x ∈ nwl w k, ∃ i : Nat, x = (i : Int) ∧ i < 30 ∧ (w.1 i).1 = 0
  | 0, _ => ⟨List.nodup_nil, fun x hx => by cases hx⟩
  | k + 1, hk => by
    obtain ⟨h1, h2⟩ := nwl_ok w k (by omega)
    have key : ∃ i : Nat, freeW (mark w (nwl w k)) = (i : Int) ∧ i < 30 ∧ (w.1 i).1 = 0 ∧ (i : Int) ∉ nwl w k := by
      rcases freeW_spec (mark w (nwl w k)) with ⟨-, q⟩ | ⟨i, q1, q2, q3, -⟩
      · have hle := nd_le (frL w) (nwl w k) (frL_nodup w) (fun x hx => by
          obtain ⟨i, rfl, hi, h0⟩ := frL_mem hx
          refine Classical.byContradiction (fun hn => ?_)
          have := q i hi
          simp only [mark, if_neg hn] at this
          exact this h0)
        rw [frL_len, nwl_len] at hle
        omega
      · refine ⟨i, q1, q2, ?_⟩
        by_cases hm : (i : Int) ∈ nwl w k
        · simp only [mark, if_pos hm] at q3
          exact absurd q3 (by decide)
        · simp only [mark, if_neg hm] at q3
          exact ⟨q3, hm⟩
    obtain ⟨i, k1, k2, k3, k4⟩ := key
    show (nwl w k ++ [_]).Nodup ∧ ∀ x ∈ nwl w k ++ [_], _
    rw [k1]
    refine ⟨?_, fun x hx => ?_⟩
    · rw [List.nodup_append]
      refine ⟨h1, by simp, fun a ha b hb => ?_⟩
      rw [List.mem_singleton] at hb
      subst hb
      exact fun q => k4 (q ▸ ha)
    · rcases List.mem_append.mp hx with hx | hx
      · exact h2 x hx
      · rw [List.mem_singleton] at hx
        exact ⟨i, hx, k2, k3⟩
theorem nwl_take (w : WD) (k : Nat) : ∀ n, k ≤ n → (nwl w n).take k = nwl w k
  | 0, h => by
    obtain rfl : k = 0 := by omega
    rfl
  | n + 1, h => by
    by_cases hk : k = n + 1
    · subst hk
      rw [List.take_of_length_le (by rw [nwl_len]; exact Nat.le_refl _)]
    · show (nwl w n ++ [_]).take k = _
      rw [List.take_append_of_le_length (by rw [nwl_len]; omega), nwl_take w k n (by omega)]
theorem idm_get {l : List Int} (hd : l.Nodup) {k : Nat} {x : Int} (h : l[k]? = some x) : idm l x = (k : Int) := by
  rcases idm_spec l x with ⟨-, q⟩ | ⟨i, q1, q2, q3, -⟩
  · exact absurd (List.mem_of_getElem? h) q
  · have : i = k := (List.getElem?_inj q2 hd).mp (q3.trans h.symm)
    omega
/-- copies laid into a world: the k-th new one is what g makes of the k-th met -/
def putG (w : WD) (m nw : List Int) (g : Nat → ND → ND) : WD := (fun j => if idm nw (j : Int) = -1 then w.1 j else g (idm nw (j : Int)).toNat (w.1 (m.getD (idm nw (j : Int)).toNat 0).toNat), w.2)
theorem putG_old {w : WD} {m nw : List Int} {g : Nat → ND → ND} {j : Nat} (h : (j : Int) ∉ nw) : (putG w m nw g).1 j = w.1 j := by
  simp only [putG, idm_not.mpr h, if_true]
theorem putG_new {w : WD} {m nw : List Int} {g : Nat → ND → ND} {j k : Nat} (hd : nw.Nodup) (h : nw[k]? = some (j : Int)) : (putG w m nw g).1 j = g k (w.1 (m.getD k 0).toNat) := by
  have := idm_get hd h
  simp only [putG, this]
  rw [if_neg (by omega), Int.toNat_natCast]
theorem wd_ext {w w' : WD} (h1 : ∀ j, w.1 j = w'.1 j) (h2 : w.2 = w'.2) : w = w' := by
  obtain ⟨a, b⟩ := w
  obtain ⟨a', b'⟩ := w'
  have : a = a' := funext h1
  subst this
  have : b = b' := h2
  subst this
  rfl
theorem putG_step {w : WD} {m l : List Int} {g : Nat → ND → ND} {i : Nat} (hi : (i : Int) ∉ l) : setN (putG w m l g) i (g l.length (w.1 (m.getD l.length 0).toNat)) = putG w m (l ++ [(i : Int)]) g := by
  refine wd_ext (fun j => ?_) rfl
  by_cases hj : j = i
  · subst hj
    rw [setN_at]
    simp only [putG, idm_app, if_neg hi, if_true]
    rw [if_neg (by omega), Int.toNat_natCast]
  · have e : (setN (putG w m l g) i (g l.length (w.1 (m.getD l.length 0).toNat))).1 j = (putG w m l g).1 j := by simp [setN, hj]
    rw [e]
    by_cases hm : (j : Int) ∈ l
    · simp only [putG, idm_app, if_pos hm]
    · have hne : ¬ (i : Int) = (j : Int) := by omega
      simp only [putG, idm_app, if_neg hm, if_neg hne, idm_not.mpr hm, if_true]
/-- the references go to the copies -/
def remap (m nw : List Int) (x : ND) : ND := setR x (x.2.2.1.map (fun r => if r = -1 then -1 else nw.getD (idm m r).toNat 0))
def blnk (x : ND) : ND := setR x (List.replicate x.2.2.1.length (-1))
def mixG (m nw : List Int) (g : ND → ND) (k : Nat) : Nat → ND → ND := fun k' x => if k' < k then remap m nw x else g x
def gOK (w : WD) (m nw : List Int) : Prop := okW w ∧ okm w m ∧ nw.length = m.length ∧ nw.Nodup ∧ (∀ x ∈ nw, ∃ i : Nat, x = (i : Int) ∧ i < 30 ∧ (w.1 i).1 = 0) ∧ ∀ x ∈ m, ∀ r ∈ (w.1 x.toNat).2.2.1, r = -1 ∨ r ∈ m
theorem gOK.old {w : WD} {m nw : List Int} (h : gOK w m nw) {j : Nat} (hj : (w.1 j).1 ≠ 0) : (j : Int) ∉ nw := fun q => by
  obtain ⟨i, e, -, h0⟩ := h.2.2.2.2.1 _ q
  have : j = i := by omega
  subst this
  exact hj h0
theorem gOK.at {w : WD} {m nw : List Int} (h : gOK w m nw) {k : Nat} (hk : k < m.length) : ∃ o i : Nat, m[k]? = some (o : Int) ∧ m.getD k 0 = (o : Int) ∧ o < 30 ∧ (w.1 o).1 ≠ 0 ∧ nw[k]? = some (i : Int) ∧ nw.getD k 0 = (i : Int) ∧ i < 30 ∧ (w.1 i).1 = 0 := by
  obtain ⟨o, e1, e2, e3⟩ := liv_nat (h.2.1.2 m[k] (List.getElem_mem hk))
  have hk2 : k < nw.length := by rw [h.2.2.1]; exact hk
  obtain ⟨i, f1, f2, f3⟩ := h.2.2.2.2.1 nw[k] (List.getElem_mem hk2)
  exact ⟨o, i, by rw [List.getElem?_eq_getElem hk, e1], by rw [getD_at hk, e1], e2, e3, by rw [List.getElem?_eq_getElem hk2, f1], by rw [getD_at hk2, f1], f2, f3⟩
/-- every part of the way is a world -/
theorem okW_putG {w : WD} {m nw : List Int} (h : gOK w m nw) {l : List Int} (hl : l <+: nw) {g : Nat → ND → ND} (hg : ∀ k x, g k x = x ∨ g k x = blnk x ∨ (g k x = remap m nw x ∧ l = nw)) : okW (putG w m l g) := by
  have hsub : ∀ x ∈ l, x ∈ nw := fun x hx => hl.subset hx
  have hnd : l.Nodup := by
    obtain ⟨r, hr⟩ := hl
    have := h.2.2.2.1
    rw [← hr] at this
    exact (List.nodup_append.mp this).1
  have hllen : l.length ≤ m.length := by rw [← h.2.2.1]; exact hl.length_le
  have hkind : ∀ k x, (g k x).1 = x.1 := fun k x => by
    rcases hg k x with q | q | q
    · rw [q]
    · rw [q]; rfl
    · rw [q.1]; rfl
  have hlive : ∀ i : Nat, i < 30 → (w.1 i).1 ≠ 0 → ((putG w m l g).1 i).1 ≠ 0 := fun i hi hk => by
    rw [putG_old (fun q => h.old hk (hsub _ q))]; exact hk
  have hnew : ∀ x ∈ l, ∃ i : Nat, x = (i : Int) ∧ i < 30 ∧ ((putG w m l g).1 i).1 ≠ 0 := fun x hx => by
    obtain ⟨k, hk, e⟩ := List.mem_iff_getElem.mp hx
    obtain ⟨i, f1, f2, f3⟩ := h.2.2.2.2.1 x (hsub x hx)
    refine ⟨i, f1, f2, ?_⟩
    rw [putG_new (k := k) hnd (by rw [List.getElem?_eq_getElem hk, e, f1]), hkind]
    obtain ⟨o, i', a1, a2, a3, a4, -⟩ := h.at (k := k) (by omega)
    rw [a2, Int.toNat_natCast]
    exact a4
  refine ⟨fun j hj => ?_, h.1.2.1, h.1.2.2⟩
  by_cases hm : (j : Int) ∈ l
  · obtain ⟨k, hk, e⟩ := List.mem_iff_getElem.mp hm
    obtain ⟨o, i', a1, a2, a3, a4, -⟩ := h.at (k := k) (by omega)
    rw [putG_new (k := k) hnd (by rw [List.getElem?_eq_getElem hk, e]), a2, Int.toNat_natCast]
    have hx := okN_mono (h.1.1 o a3) hlive
    obtain ⟨b1, b2, b3, b4, b5, b6, b7, b8, b9, b10, b11, b12, b13⟩ := hx
    rcases hg k (w.1 o) with q | q | ⟨q, hln⟩
    · rw [q]; exact ⟨b1, b2, b3, b4, b5, b6, b7, b8, b9, b10, b11, b12, b13⟩
    · rw [q]
      refine ⟨b1, b2, fun z => absurd z a4, fun z => ?_, fun z => ?_, fun z => ?_, b7, ?_, b9, b10, b11, fun r hr => Or.inl (List.eq_of_mem_replicate hr), b13⟩
      · show (List.replicate _ _).length = _
        rw [List.length_replicate]; exact b4 z
      · show (List.replicate _ _).length = _
        rw [List.length_replicate]; exact b5 z
      · show (List.replicate _ _).length = _
        rw [List.length_replicate]; exact b6 z
      · show (List.replicate _ _).length ≤ _
        rw [List.length_replicate]; exact b8
    · rw [q]
      refine ⟨b1, b2, fun z => absurd z a4, fun z => ?_, fun z => ?_, fun z => ?_, b7, ?_, b9, b10, b11, fun r hr => ?_, b13⟩
      · show (List.map _ _).length = _
        rw [List.length_map]; exact b4 z
      · show (List.map _ _).length = _
        rw [List.length_map]; exact b5 z
      · show (List.map _ _).length = _
        rw [List.length_map]; exact b6 z
      · show (List.map _ _).length ≤ _
        rw [List.length_map]; exact b8
      · obtain ⟨r0, hr0, rfl⟩ := List.mem_map.mp hr
        by_cases hm1 : r0 = -1
        · rw [if_pos hm1]; exact Or.inl rfl
        · rw [if_neg hm1]
          have hmm := (h.2.2.2.2.2 (o : Int) (List.mem_of_getElem? a1) r0 (by rw [Int.toNat_natCast]; exact hr0)).resolve_left hm1
          rcases idm_spec m r0 with ⟨-, q2⟩ | ⟨k2, q1, q2, q3, q4⟩
          · exact absurd hmm q2
          · rw [q1, Int.toNat_natCast]
            have hk2 : k2 < nw.length := by rw [h.2.2.1]; exact q2
            rw [getD_at hk2]
            obtain ⟨i2, e1, e2, e3⟩ := hnew nw[k2] (by rw [hln]; exact List.getElem_mem hk2)
            exact Or.inr ⟨i2, e1, e2, e3⟩
  · rw [putG_old hm]
    exact okN_mono (h.1.1 j hj) hlive
theorem zW_putG {w : WD} {m nw : List Int} (h : gOK w m nw) (hz : zW w) {g : Nat → ND → ND} (hk : ∀ k x, (g k x).1 = x.1) : zW (putG w m nw g) := by
  intro j hj h0
  by_cases hm : (j : Int) ∈ nw
  · obtain ⟨k, hk1, e⟩ := List.mem_iff_getElem.mp hm
    obtain ⟨o, i', a1, a2, a3, a4, -⟩ := h.at (k := k) (by rw [← h.2.2.1]; exact hk1)
    rw [putG_new (k := k) h.2.2.2.1 (by rw [List.getElem?_eq_getElem hk1, e]), hk, a2, Int.toNat_natCast] at h0
    exact absurd h0 a4
  · rw [putG_old hm] at h0 ⊢
    exact hz j hj h0
def b_graph (s : ST) (o : Int) : Int × ST := if ¬ liv s.1 o then (-1, s) else if cntK s.1 0 < (thr s.1 o).1.length then (-3, s) else
  ((nwl s.1 (thr s.1 o).1.length).getD 0 0, stW s (putG s.1 (thr s.1 o).1 (nwl s.1 (thr s.1 o).1.length) (fun _ x => remap (thr s.1 o).1 (nwl s.1 (thr s.1 o).1.length) x)))
theorem gOK_thr {w : WD} (hw : okW w) {o : Int} (ho : liv w o) (hn : (thr w o).1.length ≤ cntK w 0) : gOK w (thr w o).1 (nwl w (thr w o).1.length) := by
  obtain ⟨g, -⟩ := thr_grow hw (Or.inr ho)
  obtain ⟨h1, h2⟩ := nwl_ok w _ hn
  refine ⟨hw, g.1, nwl_len _ _, h1, h2, fun x hx r hr => g.2.2.2.2.1 x hx (fun q => by cases q) r hr⟩
