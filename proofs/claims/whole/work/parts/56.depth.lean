/-! HOW DEEP -/
def layB (w : WD) (m : List Int) : Nat → Nat → Bool
  | 0 => mb m
  | k + 1 => fun i => layB w m k i && (List.range 30).any (fun r => nx w i r && layB w m k r)
theorem layB_s {w : WD} {m : List Int} {k i : Nat} : layB w m (k + 1) i = true ↔ layB w m k i = true ∧ ∃ r : Nat, r < 30 ∧ (r : Int) ∈ (w.1 i).2.2.1 ∧ layB w m k r = true := by
  show (layB w m k i && (List.range 30).any (fun r => nx w i r && layB w m k r)) = true ↔ _
  rw [Bool.and_eq_true, List.any_eq_true]
  constructor
  · rintro ⟨a, r, hr, hb⟩
    rw [Bool.and_eq_true] at hb
    exact ⟨a, r, List.mem_range.mp hr, of_decide_eq_true hb.1, hb.2⟩
  · rintro ⟨a, r, hr, hb, hc⟩
    refine ⟨a, r, List.mem_range.mpr hr, ?_⟩
    rw [Bool.and_eq_true]
    exact ⟨decide_eq_true hb, hc⟩
theorem layB_le {w : WD} {m : List Int} {i : Nat} : ∀ k j, j ≤ k → layB w m k i = true → layB w m j i = true
  | 0, j, h, q => by
    obtain rfl : j = 0 := by omega
    exact q
  | k + 1, j, h, q => by
    by_cases hj : j = k + 1
    · subst hj; exact q
    · exact layB_le k j (by omega) (layB_s.mp q).1
theorem layB_mem {w : WD} {m : List Int} {i k : Nat} (h : layB w m k i = true) : (i : Int) ∈ m := of_decide_eq_true (layB_le k 0 (Nat.zero_le _) h)
theorem layB_up {w : WD} {m : List Int} {v r : Nat} (hv : (v : Int) ∈ m) (hr30 : r < 30) (hr : (r : Int) ∈ (w.1 v).2.2.1) : ∀ k, layB w m k r = true → layB w m k v = true
  | 0, _ => decide_eq_true hv
  | k + 1, h => by
    have h1 := (layB_s.mp h).1
    exact layB_s.mpr ⟨layB_up hv hr30 hr k h1, r, hr30, hr, h1⟩
theorem layB_suc {w : WD} {m : List Int} {v k : Nat} (hv : (v : Int) ∈ m) : layB w m (k + 1) v = true ↔ ∃ r : Nat, r < 30 ∧ (r : Int) ∈ (w.1 v).2.2.1 ∧ layB w m k r = true :=
  ⟨fun h => (layB_s.mp h).2, fun ⟨r, a, b, c⟩ => layB_s.mpr ⟨layB_up hv a b k c, r, a, b, c⟩⟩
theorem layB_cong {w : WD} {m : List Int} {n k : Nat} (h : ∀ i, i < 30 → layB w m n i = layB w m k i) : ∀ i, i < 30 → layB w m (n + 1) i = layB w m (k + 1) i := fun i hi => by
  rw [Bool.eq_iff_iff, layB_s, layB_s, h i hi]
  constructor
  · rintro ⟨a, r, b, c, e⟩
    exact ⟨a, r, b, c, by rw [← h r b]; exact e⟩
  · rintro ⟨a, r, b, c, e⟩
    exact ⟨a, r, b, c, by rw [h r b]; exact e⟩
theorem layB_stop {w : WD} {m : List Int} {k : Nat} (h : ∀ i, i < 30 → layB w m (k + 1) i = layB w m k i) : ∀ n, ∀ i, i < 30 → layB w m (k + n) i = layB w m k i
  | 0 => fun i _ => rfl
  | n + 1 => fun i hi => by
    have := layB_cong (layB_stop h n) i hi
    rw [← h i hi, ← this]
    rfl
/-- what the depth is -/
def dpS (w : WD) (m : List Int) (z : Int) : Prop := (z = -2 ∧ ∀ n, ∃ i, i < 30 ∧ layB w m n i = true) ∨ ∃ n : Nat, z = (n : Int) ∧ (∀ i, i < 30 → layB w m n i = false) ∧ ∀ k, k < n → ∃ i, i < 30 ∧ layB w m k i = true
theorem dpS_one {w : WD} {m : List Int} {z z' : Int} (h : dpS w m z) (h' : dpS w m z') : z = z' := by
  rcases h with ⟨a, b⟩ | ⟨n, a, b, c⟩
  · rcases h' with ⟨a', b'⟩ | ⟨n', a', b', c'⟩
    · omega
    · obtain ⟨i, hi, q⟩ := b n'
      rw [b' i hi] at q
      cases q
  · rcases h' with ⟨a', b'⟩ | ⟨n', a', b', c'⟩
    · obtain ⟨i, hi, q⟩ := b' n
      rw [b i hi] at q
      cases q
    · have h1 : ¬ n < n' := fun q => by
        obtain ⟨i, hi, z⟩ := c' n q
        rw [b i hi] at z
        cases z
      have h2 : ¬ n' < n := fun q => by
        obtain ⟨i, hi, z⟩ := c n' q
        rw [b' i hi] at z
        cases z
      omega
def lays (w : WD) (m : List Int) : Nat → Nat → Int
  | 0, _ => -2
  | f + 1, k => if bs (layB w m k) = 0 then (k : Int) else if bs (layB w m (k + 1)) = bs (layB w m k) then -2 else lays w m f (k + 1)
def dep (w : WD) (m : List Int) : Int := lays w m 31 0
theorem bs_ne {f : Nat → Bool} (h : ¬ bs f = 0) : ∃ i, i < 30 ∧ f i = true := Classical.byContradiction (fun q => h (by
  have := bs_nil (f := f)
  have := this.mpr (fun i hi => by
    have : ¬ f i = true := fun z => q ⟨i, hi, z⟩
    simpa using this)
  omega))
theorem bs_same {f g : Nat → Bool} : bs f = bs g ↔ ∀ i, i < 30 → f i = g i := by
  have := bs_inj (f := f) (g := g)
  rw [← this]
  omega
theorem bs_non {f : Nat → Bool} (h : bs f = 0) : ∀ i, i < 30 → f i = false := bs_nil.mp (by omega)
theorem lay_cnt {w : WD} {m : List Int} {k : Nat} (h : ¬ bs (layB w m (k + 1)) = bs (layB w m k)) : cnt (layB w m (k + 1)) < cnt (layB w m k) := by
  obtain ⟨i, hi, hd⟩ : ∃ i, i < 30 ∧ layB w m (k + 1) i ≠ layB w m k i := Classical.byContradiction (fun q => h (bs_same.mpr (fun i hi => Classical.byContradiction (fun z => q ⟨i, hi, z⟩))))
  have h1 : layB w m (k + 1) i = false := by
    have : ¬ layB w m (k + 1) i = true := fun z => hd (by rw [z, (layB_s.mp z).1])
    simpa using this
  have h2 : layB w m k i = true := by
    have : ¬ layB w m k i = false := fun z => hd (by rw [z, h1])
    simpa using this
  exact cnt_lt (fun i _ q => (layB_s.mp q).1) hi h1 h2
theorem lays_spec {w : WD} {m : List Int} : ∀ f k, cnt (layB w m k) < f → (∀ j, j < k → ∃ i, i < 30 ∧ layB w m j i = true) → dpS w m (lays w m f k)
  | 0, k, h, _ => by omega
  | f + 1, k, h, hb => by
    unfold lays
    by_cases h0 : bs (layB w m k) = 0
    · rw [if_pos h0]
      exact Or.inr ⟨k, rfl, bs_non h0, hb⟩
    · rw [if_neg h0]
      by_cases h1 : bs (layB w m (k + 1)) = bs (layB w m k)
      · rw [if_pos h1]
        refine Or.inl ⟨rfl, fun n => ?_⟩
        by_cases hn : n < k
        · exact hb n hn
        · obtain ⟨i, hi, q⟩ := bs_ne h0
          refine ⟨i, hi, ?_⟩
          have := layB_stop (bs_same.mp h1) (n - k) i hi
          rw [show k + (n - k) = n by omega] at this
          rw [this]; exact q
      · rw [if_neg h1]
        have := lay_cnt h1
        refine lays_spec f (k + 1) (by omega) (fun j hj => ?_)
        by_cases hjk : j = k
        · subst hjk; exact bs_ne h0
        · exact hb j (by omega)
theorem dep_spec (w : WD) (m : List Int) : dpS w m (dep w m) := lays_spec 31 0 (by have := cnt_le (layB w m 0); omega) (fun j hj => by omega)
theorem lay30 {w : WD} {m : List Int} {n : Nat} (h : ∀ i, i < 30 → layB w m n i = false) : ∀ i, i < 30 → layB w m 30 i = false := by
  have key : ∀ k, (∃ j, j < k ∧ ∀ i, i < 30 → layB w m (j + 1) i = layB w m j i) ∨ cnt (layB w m k) + k ≤ 30 := by
    intro k
    induction k with
    | zero =>
      have := cnt_le (layB w m 0)
      exact Or.inr (by omega)
    | succ k ih =>
      rcases ih with ⟨j, a, b⟩ | q
      · exact Or.inl ⟨j, by omega, b⟩
      · by_cases h1 : bs (layB w m (k + 1)) = bs (layB w m k)
        · exact Or.inl ⟨k, by omega, bs_same.mp h1⟩
        · have := lay_cnt h1
          exact Or.inr (by omega)
  intro i hi
  rcases key 30 with ⟨j, hj, hst⟩ | q
  · have e30 := layB_stop hst (30 - j) i hi
    rw [show j + (30 - j) = 30 by omega] at e30
    rw [e30]
    by_cases hnj : n ≤ j
    · have : ¬ layB w m j i = true := fun z => by
        have := layB_le j n hnj z
        rw [h i hi] at this
        cases this
      simpa using this
    · have e := layB_stop hst (n - j) i hi
      rw [show j + (n - j) = n by omega] at e
      rw [← e]; exact h i hi
  · have hz : cnt (layB w m 30) = 0 := by omega
    have : ¬ layB w m 30 i = true := fun z => by
      have := cnt_lt (f := fun _ => false) (g := layB w m 30) (fun _ _ q => by cases q) hi rfl z
      omega
    simpa using this
/-! the class's way to it -/
def mx (N : Nat → Nat) : List Int → Nat
  | [] => 0
  | r :: l => max (if r = -1 then 0 else N r.toNat) (mx N l)
theorem mx_ge {N : Nat → Nat} {r : Int} (h1 : r ≠ -1) : ∀ {l : List Int}, r ∈ l → N r.toNat ≤ mx N l
  | [], h => by cases h
  | a :: l, h => by
    show _ ≤ max _ _
    rcases List.mem_cons.mp h with q | q
    · subst q
      rw [if_neg h1]; omega
    · have := mx_ge (N := N) h1 q
      omega
theorem mx_eq (N : Nat → Nat) : ∀ l : List Int, mx N l = 0 ∨ ∃ r ∈ l, r ≠ -1 ∧ mx N l = N r.toNat
  | [] => Or.inl rfl
  | a :: l => by
    show max _ _ = 0 ∨ ∃ r ∈ a :: l, r ≠ -1 ∧ max _ _ = _
    by_cases ha : a = -1
    · rw [if_pos ha]
      rcases mx_eq N l with q | ⟨r, b, c, e⟩
      · left; omega
      · right; exact ⟨r, List.mem_cons_of_mem _ b, c, by omega⟩
    · rw [if_neg ha]
      rcases mx_eq N l with q | ⟨r, b, c, e⟩
      · right; exact ⟨a, List.mem_cons_self, ha, by omega⟩
      · by_cases hl : N a.toNat ≤ mx N l
        · right; exact ⟨r, List.mem_cons_of_mem _ b, c, by omega⟩
        · right; exact ⟨a, List.mem_cons_self, ha, by omega⟩
theorem mx_app (N : Nat → Nat) (r : Int) : ∀ l : List Int, mx N (l ++ [r]) = max (mx N l) (if r = -1 then 0 else N r.toNat)
  | [] => by show max _ 0 = max 0 _; omega
  | a :: l => by
    show max _ (mx N (l ++ [r])) = max (max _ (mx N l)) _
    rw [mx_app N r l]; omega
def upN (N : Nat → Nat) (v x : Nat) : Nat → Nat := fun i => if i = v then x else N i
def vOf (m : List Int) (j : Nat) : Nat := (m.getD j 0).toNat
def rnd (w : WD) (m : List Int) : Nat → (Nat → Nat) × Bool → (Nat → Nat) × Bool
  | 0, s => s
  | j + 1, s => if s.1 (vOf m j) < 1 + mx s.1 (w.1 (vOf m j)).2.2.1 then rnd w m j (upN s.1 (vOf m j) (1 + mx s.1 (w.1 (vOf m j)).2.2.1), true) else rnd w m j s
def mdF (w : WD) (m : List Int) : Nat → (Nat → Nat) → Int
  | 0, _ => -2
  | f + 1, N => if (rnd w m m.length (N, false)).2 = false then (((rnd w m m.length (N, false)).1 (vOf m 0) : Nat) : Int) else mdF w m f (rnd w m m.length (N, false)).1
def dA (w : WD) (m : List Int) (N : Nat → Nat) : Prop := ∀ v : Nat, (v : Int) ∈ m → N v = 0 ∨ layB w m (N v - 1) v = true
def dB (w : WD) (m : List Int) (r : Nat) (N : Nat → Nat) (v : Nat) : Prop := ∀ k, k < r → layB w m k v = true → k + 1 ≤ N v
theorem vOf_at {w : WD} {m : List Int} (h : okm w m) {j : Nat} (hj : j < m.length) : (vOf m j : Int) = m[j] ∧ vOf m j < 30 ∧ (w.1 (vOf m j)).1 ≠ 0 ∧ ((vOf m j : Nat) : Int) ∈ m := by
  obtain ⟨o, e, ho, hk⟩ := liv_nat (h.2 m[j] (List.getElem_mem hj))
  have hv : vOf m j = o := by unfold vOf; rw [getD_at hj, e, Int.toNat_natCast]
  rw [hv]
  exact ⟨e.symm, ho, hk, by rw [← e]; exact List.getElem_mem hj⟩
theorem rnd_inv {w : WD} {m : List Int} (hw : okW w) (hok : okm w m) (hcl : clo w m) {r : Nat} : ∀ (j : Nat) (N : Nat → Nat) (g : Bool) (c : Nat), j ≤ m.length → dA w m N → (∀ v : Nat, (v : Int) ∈ m → dB w m r N v) → (∀ q, j ≤ q → q < m.length → dB w m (r + 1) N (vOf m q)) → (∀ v, N v ≤ c) →
    dA w m (rnd w m j (N, g)).1 ∧ (∀ q, q < m.length → dB w m (r + 1) (rnd w m j (N, g)).1 (vOf m q)) ∧ (∀ v, N v ≤ (rnd w m j (N, g)).1 v) ∧ (∀ v, (rnd w m j (N, g)).1 v ≤ c + j) ∧ ((rnd w m j (N, g)).2 = false → g = false ∧ (rnd w m j (N, g)).1 = N ∧ ∀ q, q < j → 1 + mx N (w.1 (vOf m q)).2.2.1 ≤ N (vOf m q)) ∧ ((rnd w m j (N, g)).2 = true → g = true ∨ ∃ v : Nat, (v : Int) ∈ m ∧ N v < (rnd w m j (N, g)).1 v) := by
  intro j
  induction j with
  | zero =>
    intro N g c hj hA hB hB' hc
    refine ⟨hA, fun q hq => hB' q (Nat.zero_le _) hq, fun v => Nat.le_refl _, hc, fun h => ⟨h, rfl, fun q hq => by omega⟩, fun h => Or.inl h⟩
  | succ j ih =>
    intro N g c hj hA hB hB' hc
    obtain ⟨e1, e2, e3, e4⟩ := vOf_at hok (show j < m.length by omega)
    have hrefs : ∀ r' ∈ (w.1 (vOf m j)).2.2.1, r' ≠ -1 → r'.toNat < 30 ∧ ((r'.toNat : Nat) : Int) = r' ∧ r' ∈ m := fun r' hr hne => by
      have hm := (hcl _ e4 r' (by rw [Int.toNat_natCast]; exact hr)).resolve_left hne
      obtain ⟨o, e, ho, -⟩ := liv_nat (hok.2 _ hm)
      exact ⟨by omega, by omega, hm⟩
    have hdeep : ∀ k, k < r + 1 → layB w m k (vOf m j) = true → k + 1 ≤ 1 + mx N (w.1 (vOf m j)).2.2.1 := fun k hk hl => by
      cases k with
      | zero => omega
      | succ k =>
        obtain ⟨q, hq, hqm, hql⟩ := (layB_suc e4).mp hl
        have h1 := hB q (layB_mem hql) k (by omega) hql
        have h2 := mx_ge (N := N) (r := (q : Int)) (by omega) hqm
        rw [Int.toNat_natCast] at h2
        omega
    have hd2 : mx N (w.1 (vOf m j)).2.2.1 = 0 ∨ layB w m (mx N (w.1 (vOf m j)).2.2.1) (vOf m j) = true := by
      rcases mx_eq N (w.1 (vOf m j)).2.2.1 with q | ⟨r', a, b, e⟩
      · exact Or.inl q
      · obtain ⟨c1, c2, c3⟩ := hrefs r' a b
        rcases hA r'.toNat (by rw [c2]; exact c3) with z | z
        · left; omega
        · by_cases h0 : N r'.toNat = 0
          · left; omega
          · right
            have := (layB_suc (w := w) (k := N r'.toNat - 1) e4).mpr ⟨r'.toNat, c1, by rw [c2]; exact a, z⟩
            rw [e]
            rw [show N r'.toNat - 1 + 1 = N r'.toNat by omega] at this
            exact this
    have hmc : mx N (w.1 (vOf m j)).2.2.1 ≤ c := by
      rcases mx_eq N (w.1 (vOf m j)).2.2.1 with q | ⟨r', a, b, e⟩
      · omega
      · rw [e]; exact hc _
    generalize hxx : 1 + mx N (w.1 (vOf m j)).2.2.1 = x at hdeep
    unfold rnd
    dsimp only
    rw [hxx]
    by_cases hlt : N (vOf m j) < x
    · rw [if_pos hlt]
      have hup : ∀ v, N v ≤ upN N (vOf m j) x v := fun v => by
        unfold upN
        by_cases hv : v = vOf m j
        · rw [if_pos hv, hv]; omega
        · rw [if_neg hv]; exact Nat.le_refl _
      have hself : upN N (vOf m j) x (vOf m j) = x := by unfold upN; rw [if_pos rfl]
      obtain ⟨i1, i2, i3, i4, i5, i6⟩ := ih (upN N (vOf m j) x) true (c + 1) (by omega) (fun v hv => by
          by_cases hvv : v = vOf m j
          · subst hvv
            right
            rw [hself, ← hxx, Nat.add_sub_cancel_left]
            rcases hd2 with q | q
            · rw [q]; exact decide_eq_true e4
            · exact q
          · have : upN N (vOf m j) x v = N v := by unfold upN; rw [if_neg hvv]
            rw [this]; exact hA v hv)
        (fun v hv k hk hl => Nat.le_trans (hB v hv k hk hl) (hup v))
        (fun q hq1 hq2 k hk hl => by
          by_cases hqv : vOf m q = vOf m j
          · rw [hqv] at hl ⊢
            rw [hself]
            exact hdeep k hk hl
          · have : q ≠ j := fun z => hqv (by rw [z])
            exact Nat.le_trans (hB' q (by omega) hq2 k hk hl) (hup _))
        (fun v => by
          unfold upN
          by_cases hv : v = vOf m j
          · rw [if_pos hv]; omega
          · rw [if_neg hv]; have := hc v; omega)
      refine ⟨i1, i2, fun v => Nat.le_trans (hup v) (i3 v), fun v => by have := i4 v; omega, (fun h => by cases (i5 h).1), fun _ => Or.inr ⟨vOf m j, e4, ?_⟩⟩
      have := i3 (vOf m j)
      rw [hself] at this
      omega
    · rw [if_neg hlt]
      obtain ⟨i1, i2, i3, i4, i5, i6⟩ := ih N g c (by omega) hA hB (fun q hq1 hq2 k hk hl => by
          by_cases hqv : q = j
          · rw [hqv] at hl ⊢
            have := hdeep k hk hl
            omega
          · exact hB' q (by omega) hq2 k hk hl) hc
      refine ⟨i1, i2, i3, fun v => by have := i4 v; omega, fun h => ⟨(i5 h).1, (i5 h).2.1, fun q hq => ?_⟩, i6⟩
      by_cases hqj : q = j
      · subst hqj
        omega
      · exact (i5 h).2.2 q (by omega)
theorem lay_back {w : WD} {m : List Int} (hok : okm w m) (hcl : clo w m) {k : Nat} : ∀ (n : Nat) (a b : Int), a ∈ m → reachN w n a b → layB w m k b.toNat = true → layB w m k a.toNat = true
  | 0, a, b, _, h, q => by
    have h : a = b := h
    rw [h]; exact q
  | n + 1, a, b, ha, ⟨c, h1, h2, h3⟩, q => by
    have hc := (hcl a ha c h1).resolve_left h2
    have h4 := lay_back hok hcl n c b hc h3 q
    obtain ⟨o, rfl, ho, -⟩ := liv_nat (hok.2 _ ha)
    obtain ⟨p, rfl, hp, -⟩ := liv_nat (hok.2 _ hc)
    rw [Int.toNat_natCast] at h1 h4 ⊢
    exact layB_up ha hp h1 k h4
theorem mdF_spec {w : WD} {m : List Int} (hw : okW w) (hok : okm w m) (hcl : clo w m) (hne : 0 < m.length) (hR : ∀ x ∈ m, Rch w (m.getD 0 0) x) : ∀ (f r : Nat) (N : Nat → Nat), r + f = 31 → dA w m N → (∀ v : Nat, (v : Int) ∈ m → dB w m r N v) → (∀ v, N v ≤ 31 * r) → (r = 31 → ∀ n, ∃ i, i < 30 ∧ layB w m n i = true) → dpS w m (mdF w m f N) := by
  have hall : ∀ v : Nat, (v : Int) ∈ m → ∃ q, q < m.length ∧ vOf m q = v := fun v hv => by
    obtain ⟨q, hq, e⟩ := List.mem_iff_getElem.mp hv
    have := (vOf_at hok hq).1
    exact ⟨q, hq, by omega⟩
  have h30 := okm_len hok
  intro f
  induction f with
  | zero =>
    intro r N hr hA hB hc hG
    exact Or.inl ⟨rfl, hG (by omega)⟩
  | succ f ih =>
    intro r N hr hA hB hc hG
    obtain ⟨i1, i2, i3, i4, i5, i6⟩ := rnd_inv hw hok hcl (r := r) m.length N false (31 * r) (Nat.le_refl _) hA hB (fun q a b => by omega) hc
    unfold mdF
    by_cases hg : (rnd w m m.length (N, false)).2 = false
    · rw [if_pos hg]
      obtain ⟨-, e, hfix⟩ := i5 hg
      rw [e]
      have hk : ∀ k v : Nat, layB w m k v = true → k + 1 ≤ N v := by
        intro k
        induction k with
        | zero =>
          intro v hv
          obtain ⟨q, hq, rfl⟩ := hall v (layB_mem hv)
          have := hfix q hq
          omega
        | succ k ihk =>
          intro v hv
          have hvm := layB_mem hv
          obtain ⟨q, hq, rfl⟩ := hall v hvm
          obtain ⟨p, hp, hpm, hpl⟩ := (layB_suc hvm).mp hv
          have h1 := ihk p hpl
          have h2 := hfix q hq
          have h3 := mx_ge (N := N) (r := (p : Int)) (by omega) hpm
          rw [Int.toNat_natCast] at h3
          omega
      obtain ⟨v1, v2, v3, v4⟩ := vOf_at hok hne
      have hv0 : m.getD 0 0 = ((vOf m 0 : Nat) : Int) := by rw [getD_at hne, v1]
      refine Or.inr ⟨N (vOf m 0), rfl, fun i hi => ?_, fun k hk2 => ?_⟩
      · have : ¬ layB w m (N (vOf m 0)) i = true := fun z => by
          obtain ⟨n, hn⟩ := hR _ (layB_mem z)
          rw [hv0] at hn
          have := lay_back hok hcl (k := N (vOf m 0)) n _ _ v4 hn (by rw [Int.toNat_natCast]; exact z)
          rw [Int.toNat_natCast] at this
          have := hk _ _ this
          omega
        simpa using this
      · refine ⟨vOf m 0, v2, ?_⟩
        rcases hA (vOf m 0) v4 with q | q
        · omega
        · exact layB_le (N (vOf m 0) - 1) k (by omega) q
    · rw [if_neg hg]
      have hg1 : (rnd w m m.length (N, false)).2 = true := by simpa using hg
      refine ih (r + 1) _ (by omega) i1 (fun v hv => by
        obtain ⟨q, hq, rfl⟩ := hall v hv
        exact i2 q hq) (fun v => by have := i4 v; omega) (fun hr31 => ?_)
      obtain ⟨v, hv, hgrow⟩ := (i6 hg1).resolve_left (fun z => by cases z)
      refine Classical.byContradiction (fun q => ?_)
      obtain ⟨n, hn⟩ := Classical.not_forall.mp q
      have hn' : ∀ i, i < 30 → layB w m n i = false := fun i hi => by
        have : ¬ layB w m n i = true := fun z => hn ⟨i, hi, z⟩
        simpa using this
      have h30' := lay30 hn'
      have hv30 : v < 30 := by
        obtain ⟨o, e, ho, -⟩ := liv_nat (hok.2 _ hv)
        omega
      rcases i1 v hv with z | z
      · omega
      · by_cases hlt : (rnd w m m.length (N, false)).1 v - 1 < 30
        · have := hB v hv _ (by omega) z
          omega
        · have := layB_le _ 30 (by omega) z
          rw [h30' v hv30] at this
          cases this
theorem mdF_dep {w : WD} {m : List Int} (hw : okW w) (hok : okm w m) (hcl : clo w m) (hne : 0 < m.length) (hR : ∀ x ∈ m, Rch w (m.getD 0 0) x) : mdF w m 31 (fun _ => 0) = dep w m :=
  dpS_one (mdF_spec hw hok hcl hne hR 31 0 (fun _ => 0) (by omega) (fun v _ => Or.inl rfl) (fun v _ k hk => by omega) (fun v => Nat.zero_le _) (fun q => by omega)) (dep_spec w m)
