/-! WHAT THE SMALL MACHINE'S THINGS ARE IN THE HEAP -/
def InR (x : Int) : Prop := -2147483648 ≤ x ∧ x < 2147483648
theorem bm_in (z : Int) : -2147483648 ≤ Int.bmod z 4294967296 ∧ Int.bmod z 4294967296 < 2147483648 := by
  unfold Int.bmod
  dsimp only
  split <;> omega
theorem wr_in (z : Int) : InR (wr z) := bm_in z
theorem wr_id {z : Int} (h : InR z) : wr z = z := by
  obtain ⟨h1, h2⟩ := h
  unfold wr Int.bmod
  dsimp only
  split <;> omega
theorem to_of {x : Int} (h : InR x) : (Int32.ofInt x).toInt = x := by
  rw [Int32.toInt_ofInt]
  exact wr_id h
theorem of_wr (z : Int) : Int32.ofInt (wr z) = Int32.ofInt z := by
  apply Int32.toInt_inj.mp
  rw [Int32.toInt_ofInt, Int32.toInt_ofInt]
  exact Int.bmod_bmod
theorem i32_in (x : Int32) : InR x.toInt := ⟨Int32.le_toInt x, Int32.toInt_lt x⟩
theorem of_to (x : Int32) : Int32.ofInt x.toInt = x := by
  apply Int32.toInt_inj.mp
  rw [Int32.toInt_ofInt]
  exact wr_id (i32_in x)
theorem b32_in (f : Int32 → Int32 → Int32) (x y : Int) : InR (b32 f x y) := i32_in _
theorem b32_of (f : Int32 → Int32 → Int32) (x y : Int) : Int32.ofInt (b32 f x y) = f (Int32.ofInt x) (Int32.ofInt y) := of_to _
theorem of_add (x y : Int) : Int32.ofInt x + Int32.ofInt y = Int32.ofInt (wr (x + y)) := by
  rw [of_wr]; exact (Int32.ofInt_add x y).symm
theorem of_sub (x y : Int) : Int32.ofInt x - Int32.ofInt y = Int32.ofInt (wr (x - y)) := by
  rw [of_wr]; exact (Int32.ofInt_sub x y).symm
theorem of_mul (x y : Int) : Int32.ofInt x * Int32.ofInt y = Int32.ofInt (wr (x * y)) := by
  rw [of_wr]; exact (Int32.ofInt_mul x y).symm
theorem of_neg (x : Int) : -(Int32.ofInt x) = Int32.ofInt (wr (-x)) := by
  rw [of_wr]; exact (Int32.ofInt_neg x).symm
theorem of_eq {x y : Int} (hx : InR x) (hy : InR y) : Int32.ofInt x = Int32.ofInt y ↔ x = y := by
  constructor
  · intro h
    rw [← to_of hx, ← to_of hy, h]
  · intro h; rw [h]
theorem of_lt {x y : Int} (hx : InR x) (hy : InR y) : Int32.ofInt x < Int32.ofInt y ↔ x < y := by
  rw [Int32.lt_iff_toInt_lt, to_of hx, to_of hy]
theorem of_le {x y : Int} (hx : InR x) (hy : InR y) : Int32.ofInt x ≤ Int32.ofInt y ↔ x ≤ y := by
  rw [Int32.le_iff_toInt_le, to_of hx, to_of hy]
theorem of_clamp {x : Int} (hx : InR x) : (Int32.ofInt x).toNatClampNeg = x.toNat := by
  show (Int32.ofInt x).toInt.toNat = _
  rw [to_of hx]
theorem in0 : InR 0 := ⟨by decide, by decide⟩
theorem of_0 : Int32.ofInt 0 = 0 := rfl
def cv (a : Nat → Nat) (b : Nat) (v : AV) : Value := match v with
  | .inl x => .int (Int32.ofInt x)
  | .inr (.inl k) => .ref (a k)
  | .inr (.inr 2) => .ref b
  | .inr (.inr _) => .null
def fldv (a : Nat → Nat) (I : Int → Int) (Q : Int → Option Nat) (ci j : Nat) : Value := if tyOK 1 (tyT ci j) = true then va_rf ((Q j).map a) else .int (Int32.ofInt (I j))
def ce (a : Nat → Nat) (ca : Nat → ClassId) (M : Mem) (k : Nat) : va_E :=
  if tg M.1 k < 10 then .inr (tg M.1 k, (List.range (NF (tg M.1 k))).map (fun j => fldv a (M.2.1 k) (M.2.2 k) (tg M.1 k) j))
  else if tg M.1 k = 100 then .inl (ca k, ln M.1 k, .inl (fun j => Int32.ofInt (M.2.1 k j)))
  else .inl (ca k, ln M.1 k, .inr (.inr (.inr (.inr (fun j => (M.2.2 k j).map a)))))
def cells (a : Nat → Nat) (ca : Nat → ClassId) (M : Mem) : va_W := (List.range M.1.length).map (fun k => (a k, ce a ca M k))
theorem cells_len {a : Nat → Nat} {ca : Nat → ClassId} {M : Mem} : (cells a ca M).length = M.1.length := by simp [cells]
theorem cells_get {a : Nat → Nat} {ca : Nat → ClassId} {M : Mem} {k : Nat} (h : k < M.1.length) : (cells a ca M)[k]? = some (a k, ce a ca M k) := by
  simp [cells, h]
theorem cells_inv {a : Nat → Nat} {ca : Nat → ClassId} {M : Mem} {k : Nat} {q : Nat × va_E} (h : (cells a ca M)[k]? = some q) : k < M.1.length ∧ q = (a k, ce a ca M k) := by
  have hl : k < M.1.length := by
    have := (List.getElem?_eq_some_iff.mp h).1
    rwa [cells_len] at this
  rw [cells_get hl] at h
  exact ⟨hl, (Option.some.inj h).symm⟩
theorem cells_set {a : Nat → Nat} {ca : Nat → ClassId} {M M' : Mem} {k : Nat} (hsh : M'.1 = M.1) (hce : ∀ i, i < M.1.length → i ≠ k → ce a ca M' i = ce a ca M i) : (cells a ca M).set k (a k, ce a ca M' k) = cells a ca M' := by
  apply List.ext_getElem?
  intro i
  by_cases hi : i < M.1.length
  · have hi' : i < M'.1.length := by rw [hsh]; exact hi
    rw [cells_get hi']
    by_cases hik : i = k
    · subst hik
      rw [List.getElem?_set_self (by rw [cells_len]; exact hi)]
    · rw [List.getElem?_set_ne (Ne.symm hik), cells_get hi, hce i hi hik]
  · rw [List.getElem?_eq_none (by rw [List.length_set, cells_len]; omega), List.getElem?_eq_none (by rw [cells_len, hsh]; omega)]
theorem cells_push {a a' : Nat → Nat} {ca ca' : Nat → ClassId} {M M' : Mem} {q : Nat × Nat} (hsh : M'.1 = M.1 ++ [q]) (hold : ∀ i, i < M.1.length → (a' i, ce a' ca' M' i) = (a i, ce a ca M i)) : cells a' ca' M' = cells a ca M ++ [(a' M.1.length, ce a' ca' M' M.1.length)] := by
  unfold cells
  rw [hsh, List.length_append, List.length_singleton, List.range_succ, List.map_append]
  congr 1
  apply List.map_congr_left
  intro i hi
  exact hold i (List.mem_range.mp hi)
theorem tg_lt {sh : Shp} {k t : Nat} (h : tg sh k = t) (ht : t ≠ 999) : k < sh.length := by
  rcases Nat.lt_or_ge k sh.length with q | q
  · exact q
  · unfold tg at h
    rw [List.getElem?_eq_none q] at h
    exact absurd h.symm ht
theorem up_ne {α : Type} {f : Nat → Int → α} {k : Nat} {j : Int} {v : α} {i : Nat} (h : i ≠ k) : up f k j v i = f i := by
  funext z
  simp [up, h]
theorem clr_ne {α : Type} {f : Nat → Int → α} {k : Nat} {v : α} {i : Nat} (h : i ≠ k) : clr f k v i = f i := by
  funext z
  simp [clr, h]
theorem cp_ne {α : Type} {f : Nat → Int → α} {k0 k1 : Nat} {sp dp n : Int} {i : Nat} (h : i ≠ k1) : cp f k0 sp k1 dp n i = f i := by
  funext z
  simp [cp, h]
theorem map_set {α : Type} (n j : Nat) (f : Nat → α) (v : α) : (List.range n).map (fun i => if i = j then v else f i) = ((List.range n).map f).set j v := by
  apply List.ext_getElem?
  intro i
  by_cases hij : i = j
  · subst hij
    by_cases hn : i < n
    · rw [List.getElem?_set_self (by simpa using hn)]
      simp [hn]
    · rw [List.getElem?_eq_none (by simp; omega), List.getElem?_eq_none (by simp; omega)]
  · rw [List.getElem?_set_ne (Ne.symm hij)]
    by_cases hn : i < n
    · simp [hij, hn]
    · rw [List.getElem?_eq_none (by simp; omega), List.getElem?_eq_none (by simp; omega)]
def aty (t : Nat) : FieldType := if t = 100 then .int else .object (RS (t - 200))
def WK (D : va_G) (ca : Nat → ClassId) (M : Mem) (U : State) : Prop := va_K D CLS [] U ∧ ∀ k, k < M.1.length → 10 ≤ tg M.1 k → ArrOfT U (ca k) (aty (tg M.1 k)) ∧ va_RA U (ca k) (aty (tg M.1 k))
theorem WK.moved {D : va_G} {ca : Nat → ClassId} {M : Mem} {u U : State} (hvm : u.vm.Alike U.vm) (h : WK D ca M u) : WK D ca M U := ⟨h.1.moved hvm, fun k h1 h2 => ⟨arrOfT_moved hvm (h.2 k h1 h2).1, (h.2 k h1 h2).2.moved hvm⟩⟩
theorem WK.at {D : va_G} {ca : Nat → ClassId} {M : Mem} {U : State} (h : WK D ca M U) {k : Nat} (hk : k < M.1.length) (ht : 10 ≤ tg M.1 k) : va_K D CLS [(ca k, aty (tg M.1 k))] U := by
  refine ⟨h.1.1, fun i q hi => ?_⟩
  have hz : i < 1 := (List.getElem?_eq_some_iff.mp hi).1
  rw [show i = 0 by omega] at hi
  cases hi
  exact h.2 k hk ht
def WN (U : State) : Prop := (∀ q ∈ NT, va_Nw (nestW q) U) ∧ ∀ q ∈ overP, va_AO (RS q.1) U
theorem WN.warm {s U : State} (hW : s.WarmedH U.vm) (h : WN s) : WN U := ⟨fun q hq => va_Nw.warmM hW (h.1 q hq), fun q hq => (h.2 q hq).moved hW.alike⟩
def okV (sf : Prop) (n : Nat) (v : AV) : Prop := match v with
  | .inl x => InR x
  | .inr (.inl k) => k < n
  | .inr (.inr 2) => sf
  | .inr (.inr _) => True
def okM (M : Mem) : Prop := (∀ k j, InR (M.2.1 k j)) ∧ (∀ k j r, M.2.2 k j = some r → r < M.1.length) ∧ ∀ k, k < M.1.length → (tg M.1 k < 10 ∧ ln M.1 k = NF (tg M.1 k)) ∨ tg M.1 k = 100 ∨ (200 ≤ tg M.1 k ∧ tg M.1 k < 210)
def LR (a : Nat → Nat) (b : Nat) (ls : List AV) (lc : Array Slot) (nL : Nat) : Prop := ls.length = nL ∧ lv_has lc nL [] ∧ ∀ (i : Nat) (v : AV), ls[i]? = some v → v ≠ .inr (.inr 1) → lc[i]? = some (.val (cv a b v))
theorem nth_get : ∀ {ls : List AV} {k : Nat} {v : AV}, nth ls k = v → v ≠ .inr (.inr 1) → ls[k]? = some v
  | [], k, v, h, hv => absurd h.symm hv
  | x :: l, 0, v, h, hv => by rw [List.getElem?_cons_zero]; exact congrArg some h
  | x :: l, k + 1, v, h, hv => by rw [List.getElem?_cons_succ]; exact nth_get (ls := l) h hv
theorem stl_len : ∀ (ls : List AV) (k : Nat) (v : AV), (stl ls k v).length = ls.length
  | [], _, _ => rfl
  | _ :: _, 0, _ => rfl
  | _ :: l, k + 1, v => by simp [stl, stl_len l k v]
theorem stl_get : ∀ (ls : List AV) (k : Nat) (v : AV) (i : Nat), (stl ls k v)[i]? = if i = k ∧ k < ls.length then some v else ls[i]?
  | [], k, v, i => by simp [stl]
  | x :: l, 0, v, i => by
    cases i with
    | zero => simp [stl]
    | succ i => simp [stl]
  | x :: l, k + 1, v, i => by
    cases i with
    | zero => simp [stl]
    | succ i =>
      simp only [stl, List.getElem?_cons_succ, stl_get l k v i, List.length_cons]
      simp
theorem stl_mem {ls : List AV} {k : Nat} {v w : AV} (h : w ∈ stl ls k v) : w = v ∨ w ∈ ls := by
  obtain ⟨i, hi⟩ := List.getElem?_of_mem h
  rw [stl_get] at hi
  split at hi
  · exact Or.inl (Option.some.inj hi).symm
  · exact Or.inr (List.mem_of_getElem? hi)
theorem cv_cat (a : Nat → Nat) (b : Nat) (v : AV) : (cv a b v).category = 1 := by
  rcases v with x | x | x
  · rfl
  · rfl
  · unfold cv
    split <;> first | rfl | (rename_i h; cases h)
/-- the locals as a list for the kit's rows -/
def lvl (a : Nat → Nat) (b : Nat) (ls : List AV) : List (Nat × Value) := (List.range ls.length).filterMap (fun i => (ls[i]?).bind (fun v => if v = .inr (.inr 1) then none else some (i, cv a b v)))
theorem lvl_mem {a : Nat → Nat} {b : Nat} {ls : List AV} {q : Nat × Value} (h : q ∈ lvl a b ls) : ∃ v, ls[q.1]? = some v ∧ v ≠ .inr (.inr 1) ∧ q.2 = cv a b v := by
  obtain ⟨i, -, hi⟩ := List.mem_filterMap.mp h
  cases hv : ls[i]? with
  | none => rw [hv] at hi; cases hi
  | some v =>
    rw [hv] at hi
    simp only [Option.bind_some] at hi
    split at hi
    · cases hi
    · cases hi
      exact ⟨v, hv, by assumption, rfl⟩
theorem mem_lvl {a : Nat → Nat} {b : Nat} {ls : List AV} {i : Nat} {v : AV} (h : ls[i]? = some v) (hv : v ≠ .inr (.inr 1)) : (i, cv a b v) ∈ lvl a b ls := by
  refine List.mem_filterMap.mpr ⟨i, List.mem_range.mpr (List.getElem?_eq_some_iff.mp h).1, ?_⟩
  rw [h]
  simp [hv]
theorem LR.has {a : Nat → Nat} {b : Nat} {ls : List AV} {lc : Array Slot} {nL : Nat} (h : LR a b ls lc nL) : lv_has lc nL (lvl a b ls) := by
  refine ⟨h.2.1.1, h.2.1.2.1, fun q hq => ?_⟩
  obtain ⟨v, h1, h2, h3⟩ := lvl_mem hq
  rw [h3]
  exact h.2.2 _ _ h1 h2
theorem LR.store {a : Nat → Nat} {b : Nat} {ls : List AV} {lc lc' : Array Slot} {nL k : Nat} {v : AV} (h : LR a b ls lc nL) (hk : k < ls.length) (h' : lv_has lc' nL ((k, cv a b v) :: (lvl a b ls).filter (fun q => !(q.1 == k) && !(q.1 + 1 == k && q.2.category == 2)))) : LR a b (stl ls k v) lc' nL := by
  refine ⟨by rw [stl_len]; exact h.1, ⟨h'.1, h'.2.1, fun q hq => by cases hq⟩, fun i w hi hw => ?_⟩
  rw [stl_get] at hi
  by_cases hik : i = k
  · subst hik
    rw [if_pos ⟨rfl, hk⟩] at hi
    cases hi
    exact h'.2.2 (i, cv a b v) List.mem_cons_self
  · rw [if_neg (fun q => hik q.1)] at hi
    refine h'.2.2 (i, cv a b w) (List.mem_cons_of_mem _ (List.mem_filter.mpr ⟨mem_lvl hi hw, ?_⟩))
    simp [hik, cv_cat]
theorem cv_ext {a a' : Nat → Nat} {b n : Nat} {sf : Prop} (h : ∀ k, k < n → a' k = a k) {v : AV} (hv : okV sf n v) : cv a' b v = cv a b v := by
  rcases v with x | x | x
  · rfl
  · show Value.ref (a' x) = Value.ref (a x)
    rw [h x hv]
  · unfold cv
    split <;> first | rfl | (rename_i h; cases h)
theorem LR.ext {a a' : Nat → Nat} {b n : Nat} {sf : Prop} {ls : List AV} {lc : Array Slot} {nL : Nat} (h : LR a b ls lc nL) (ha : ∀ k, k < n → a' k = a k) (hv : ∀ v ∈ ls, okV sf n v) : LR a' b ls lc nL :=
  ⟨h.1, h.2.1, fun i v h1 h2 => by rw [cv_ext ha (hv v (List.mem_of_getElem? h1))]; exact h.2.2 i v h1 h2⟩
theorem cvs_ext {a a' : Nat → Nat} {b n : Nat} {sf : Prop} {st : List AV} (ha : ∀ k, k < n → a' k = a k) (hv : ∀ v ∈ st, okV sf n v) : st.map (cv a' b) = st.map (cv a b) := List.map_congr_left (fun v h => cv_ext ha (hv v h))
theorem okV.mono {sf : Prop} {n n' : Nat} {v : AV} (h : okV sf n v) (hn : n ≤ n') : okV sf n' v := by
  rcases v with x | x | x
  · exact h
  · exact Nat.lt_of_lt_of_le h hn
  · by_cases hx : x = 2
    · subst hx
      exact h
    · unfold okV
      split <;> simp_all
/-- one point of a walk -/
def PT (D : va_G) (A : Nat → Prop) (H0 : Heap) (s : State) (b nL : Nat) (sf : Prop) (a : Nat → Nat) (ca : Nat → ClassId) (M : Mem) (ls st : List AV) (lc : Array Slot) (H : Heap) (locs : List Loc) : Prop :=
  va_P D CLS (cells a ca M) H ∧ va_D A (cells a ca M) ∧ va_S A H0 H locs ∧ WK D ca M s ∧ okM M ∧ (∀ v ∈ ls, okV sf M.1.length v) ∧ (∀ v ∈ st, okV sf M.1.length v) ∧ LR a b ls lc nL
/-- what stays through a method's walk -/
def CX (p : Program) (R : Room) (s : State) (m : MethodId) (args : Array Value) (meth : Method) (c : Code) (A : Nat → Prop) (H0 : Heap) (b : Nat) (sf : Prop) (S : Scr) (r : MR) (d : Nat) : Prop :=
  p.tables.exec = Jvm.exec ∧ c.code = r.2.1 ∧ c.maxLocals = r.2.2.1 ∧ s.vm.findClass (RS r.2.2.2.2.1) = some m.cls ∧ (∀ w ∈ gtbl, w.before args s = true) ∧ WN s ∧ (r.1.name = "<init>" → meth.name = "<init>") ∧ d + 1 ≤ R.frames ∧ 64 * (d + 1) ≤ R.locals ∧ (∀ q, H0.size ≤ q → A q) ∧ (sf → va_X b S.2 (fun j => Int32.ofInt (S.1 j)) s H0 ∧ b < H0.size ∧ ¬ A b ∧ (∀ i, InR (S.1 i)) ∧ S.2 < 2147483648) ∧ meth.sig.returnType = r.2.2.2.1 ∧ meth.locks = false
theorem FT_use {own idx ci j t ix : Nat} (h : (FT[ix]?).map (fun q => (q.1, q.2.1, q.2.2.1, q.2.2.2.1, q.2.2.2.2.1)) = some (own, idx, ci, j, t)) : Cond.fieldLink (RS own) idx (RS ci) (TT ci j).2.1 (TT ci j).2.2.1 ∈ gtbl ∧ ci < 10 ∧ j < NF ci ∧ tyOK t (tyT ci j) = true ∧ (TT ci j).1 = RS ci := by
  obtain ⟨q, hq, he⟩ := Option.map_eq_some_iff.mp h
  have hc := List.all_eq_true.mp FT_ok q (List.mem_of_getElem? hq)
  obtain ⟨q1, q2, q3, q4, q5, q6⟩ := q
  simp only [Prod.mk.injEq] at he
  obtain ⟨rfl, rfl, rfl, rfl, rfl⟩ := he
  simp only [FTc, Bool.and_eq_true, decide_eq_true_eq] at hc
  obtain ⟨⟨⟨⟨h1, h2⟩, h3⟩, h4⟩, h5⟩ := hc
  exact ⟨mg h1 rfl, h2, h3, h4, h5⟩
