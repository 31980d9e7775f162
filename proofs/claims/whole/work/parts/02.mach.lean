/-! THE SMALL MACHINE: values are numbers, cell numbers, null; the memory is a list of shapes, int contents, reference contents. Nothing here speaks of the Java machine. -/
abbrev AV : Type := Int ⊕ (Nat ⊕ Nat)
abbrev Shp : Type := List (Nat × Nat)
abbrev IM : Type := Nat → Int → Int
abbrev RM : Type := Nat → Int → Option Nat
abbrev Mem : Type := Shp × IM × RM
abbrev Scr : Type := (Int → Int) × Nat
abbrev Res : Type := Option AV × Mem
/-- go on; call; end -/
abbrev Act : Type := Option ((Nat × List AV × List AV × Mem) ⊕ ((Nat × List AV × Nat × List AV × List AV × Mem) ⊕ Res))
def tg (sh : Shp) (k : Nat) : Nat := match sh[k]? with
  | some p => p.1
  | none => 999
def ln (sh : Shp) (k : Nat) : Nat := match sh[k]? with
  | some p => p.2
  | none => 0
def up {α : Type} (f : Nat → Int → α) (k : Nat) (j : Int) (v : α) : Nat → Int → α := fun k' j' => if k' = k ∧ j' = j then v else f k' j'
def cp {α : Type} (f : Nat → Int → α) (k0 : Nat) (sp : Int) (k1 : Nat) (dp n : Int) : Nat → Int → α := fun k' j' => if k' = k1 ∧ dp ≤ j' ∧ j' < dp + n then f k0 (sp + (j' - dp)) else f k' j'
def clr {α : Type} (f : Nat → Int → α) (k : Nat) (v : α) : Nat → Int → α := fun k' j' => if k' = k then v else f k' j'
def wr (z : Int) : Int := Int.bmod z 4294967296
def rv (r : Option Nat) : AV := match r with
  | none => .inr (.inr 0)
  | some k => .inr (.inl k)
def nth : List AV → Nat → AV
  | [], _ => .inr (.inr 1)
  | a :: _, 0 => a
  | _ :: l, n + 1 => nth l n
def stl : List AV → Nat → AV → List AV
  | [], _, _ => []
  | _ :: l, 0, v => v :: l
  | a :: l, n + 1, v => a :: stl l n v
def go (pc : Nat) (ls st : List AV) (M : Mem) : Act := some (.inl (pc, ls, st, M))
def b32 (f : Int32 → Int32 → Int32) (x y : Int) : Int := (f (Int32.ofInt x) (Int32.ofInt y)).toInt
def p_iload (k : Nat) (n : Nat) (ls st : List AV) (M : Mem) : Act := match nth ls k with
  | .inl x => go n ls (.inl x :: st) M
  | _ => none
def p_aload (k : Nat) (n : Nat) (ls st : List AV) (M : Mem) : Act := match nth ls k with
  | .inr (.inl x) => go n ls (.inr (.inl x) :: st) M
  | .inr (.inr 0) => go n ls (.inr (.inr 0) :: st) M
  | .inr (.inr 2) => go n ls (.inr (.inr 2) :: st) M
  | _ => none
def p_istore (k : Nat) (n : Nat) (ls st : List AV) (M : Mem) : Act := match st with
  | .inl x :: r => if k < ls.length then go n (stl ls k (.inl x)) r M else none
  | _ => none
def p_astore (k : Nat) (n : Nat) (ls st : List AV) (M : Mem) : Act := match st with
  | .inr (.inl x) :: r => if k < ls.length then go n (stl ls k (.inr (.inl x))) r M else none
  | .inr (.inr 0) :: r => if k < ls.length then go n (stl ls k (.inr (.inr 0))) r M else none
  | _ => none
def p_iinc (k : Nat) (z : Int) (n : Nat) (ls st : List AV) (M : Mem) : Act := match nth ls k with
  | .inl x => if k < ls.length then go n (stl ls k (.inl (wr (x + z)))) st M else none
  | _ => none
def p_bin (f : Int → Int → Int) (n : Nat) (ls st : List AV) (M : Mem) : Act := match st with
  | .inl y :: .inl x :: r => go n ls (.inl (f x y) :: r) M
  | _ => none
def p_div (f : Int → Int → Int) (n : Nat) (ls st : List AV) (M : Mem) : Act := match st with
  | .inl y :: .inl x :: r => if y = 0 then none else go n ls (.inl (f x y) :: r) M
  | _ => none
def p_neg (n : Nat) (ls st : List AV) (M : Mem) : Act := match st with
  | .inl x :: r => go n ls (.inl (wr (-x)) :: r) M
  | _ => none
def p_dup (n : Nat) (ls st : List AV) (M : Mem) : Act := match st with
  | x :: r => go n ls (x :: x :: r) M
  | _ => none
def p_dup2 (n : Nat) (ls st : List AV) (M : Mem) : Act := match st with
  | y :: x :: r => go n ls (y :: x :: y :: x :: r) M
  | _ => none
def p_pop (n : Nat) (ls st : List AV) (M : Mem) : Act := match st with
  | _ :: r => go n ls r M
  | _ => none
def cnd (c : ClassFile.Cond) (x y : Int) : Bool := match c with
  | .eq => x == y
  | .ne => x != y
  | .lt => decide (x < y)
  | .ge => decide (y ≤ x)
  | .gt => decide (y < x)
  | .le => decide (x ≤ y)
def p_if (c : ClassFile.Cond) (t n : Nat) (ls st : List AV) (M : Mem) : Act := match st with
  | .inl x :: r => if cnd c x 0 = true then go t ls r M else go n ls r M
  | _ => none
def p_icmp (c : ClassFile.Cond) (t n : Nat) (ls st : List AV) (M : Mem) : Act := match st with
  | .inl y :: .inl x :: r => if cnd c x y = true then go t ls r M else go n ls r M
  | _ => none
def p_ifnull (t n : Nat) (ls st : List AV) (M : Mem) : Act := match st with
  | .inr (.inl _) :: r => go n ls r M
  | .inr (.inr 0) :: r => go t ls r M
  | _ => none
def swt (d : Nat) (x : Int) : List Nat → Nat
  | v :: t :: r => if x = (v : Int) then t else swt d x r
  | _ => d
def p_switch (d : Nat) (tb : List Nat) (ls st : List AV) (M : Mem) : Act := match st with
  | .inl x :: r => go (swt d x tb) ls r M
  | _ => none
def p_get (ci j t : Nat) (n : Nat) (ls st : List AV) (M : Mem) : Act := match st with
  | .inr (.inl k) :: r => if tg M.1 k = ci then (if t = 1 then go n ls (rv (M.2.2 k j) :: r) M else go n ls (.inl (M.2.1 k j) :: r) M) else none
  | _ => none
def p_put (ci j t : Nat) (n : Nat) (ls st : List AV) (M : Mem) : Act := match st with
  | .inl x :: .inr (.inl k) :: r => if tg M.1 k = ci then (if t = 1 then none else if t = 2 ∧ ¬ (x = 0 ∨ x = 1) then none else go n ls r (M.1, up M.2.1 k j x, M.2.2)) else none
  | .inr (.inl v) :: .inr (.inl k) :: r => if tg M.1 k = ci then (if t = 1 then go n ls r (M.1, M.2.1, up M.2.2 k j (some v)) else none) else none
  | .inr (.inr 0) :: .inr (.inl k) :: r => if tg M.1 k = ci then (if t = 1 then go n ls r (M.1, M.2.1, up M.2.2 k j none) else none) else none
  | _ => none
def p_iald (S : Scr) (n : Nat) (ls st : List AV) (M : Mem) : Act := match st with
  | .inl i :: .inr (.inl k) :: r => if tg M.1 k = 100 ∧ 0 ≤ i ∧ i < ln M.1 k then go n ls (.inl (M.2.1 k i) :: r) M else none
  | .inl i :: .inr (.inr 2) :: r => if 0 ≤ i ∧ i < S.2 then go n ls (.inl (S.1 i) :: r) M else none
  | _ => none
def p_iast (n : Nat) (ls st : List AV) (M : Mem) : Act := match st with
  | .inl x :: .inl i :: .inr (.inl k) :: r => if tg M.1 k = 100 ∧ 0 ≤ i ∧ i < ln M.1 k then go n ls r (M.1, up M.2.1 k i x, M.2.2) else none
  | _ => none
def p_aald (n : Nat) (ls st : List AV) (M : Mem) : Act := match st with
  | .inl i :: .inr (.inl k) :: r => if 200 ≤ tg M.1 k ∧ tg M.1 k < 210 ∧ 0 ≤ i ∧ i < ln M.1 k then go n ls (rv (M.2.2 k i) :: r) M else none
  | _ => none
def p_aast (n : Nat) (ls st : List AV) (M : Mem) : Act := match st with
  | .inr (.inl v) :: .inl i :: .inr (.inl k) :: r => if 200 ≤ tg M.1 k ∧ tg M.1 k < 210 ∧ tg M.1 v + 200 = tg M.1 k ∧ 0 ≤ i ∧ i < ln M.1 k then go n ls r (M.1, M.2.1, up M.2.2 k i (some v)) else none
  | _ => none
def p_alen (S : Scr) (n : Nat) (ls st : List AV) (M : Mem) : Act := match st with
  | .inr (.inr 2) :: r => go n ls (.inl (S.2 : Int) :: r) M
  | _ => none
def p_new (ci N : Nat) (n : Nat) (ls st : List AV) (M : Mem) : Act := go n ls (.inr (.inl M.1.length) :: st) (M.1 ++ [(ci, N)], clr M.2.1 M.1.length 0, clr M.2.2 M.1.length none)
def p_newa (n : Nat) (ls st : List AV) (M : Mem) : Act := match st with
  | .inl x :: r => if 0 ≤ x ∧ x ≤ 1000 then go n ls (.inr (.inl M.1.length) :: r) (M.1 ++ [(100, x.toNat)], clr M.2.1 M.1.length 0, clr M.2.2 M.1.length none) else none
  | _ => none
def p_anew (ci : Nat) (n : Nat) (ls st : List AV) (M : Mem) : Act := match st with
  | .inl x :: r => if 0 ≤ x ∧ x ≤ 1000 then go n ls (.inr (.inl M.1.length) :: r) (M.1 ++ [(200 + ci, x.toNat)], clr M.2.1 M.1.length 0, clr M.2.2 M.1.length none) else none
  | _ => none
/-- the arguments off the stack, the first one first -/
def pops : Nat → List AV → List AV → Option (List AV × List AV)
  | 0, acc, st => some (acc, st)
  | n + 1, acc, v :: st => pops n (v :: acc) st
  | _ + 1, _, [] => none
/-- no script among the arguments -/
def noS : List AV → Bool
  | [] => true
  | .inr (.inr 2) :: _ => false
  | _ :: r => noS r
def p_call (mid na : Nat) (n : Nat) (ls st : List AV) (M : Mem) : Act := match pops na [] st with
  | some (as, r) => if noS as = true ∧ r.length ≤ 8 then some (.inr (.inl (mid, as, n, ls, r, M))) else none
  | none => none
/-- a virtual call: the receiver is an object of the class ci -/
def p_virt (ci mid na : Nat) (n : Nat) (ls st : List AV) (M : Mem) : Act := match pops na [] st with
  | some (as, .inr (.inl k) :: r) => if tg M.1 k = ci ∧ noS as = true ∧ r.length ≤ 8 then some (.inr (.inl (mid, .inr (.inl k) :: as, n, ls, r, M))) else none
  | _ => none
def p_objinit (n : Nat) (ls st : List AV) (M : Mem) : Act := match st with
  | .inr (.inl _) :: r => if r.length ≤ 8 then go n ls r M else none
  | _ => none
def p_acopy (n : Nat) (ls st : List AV) (M : Mem) : Act := match st with
  | .inl c :: .inl dp :: .inr (.inl k1) :: .inl sp :: .inr (.inl k0) :: r =>
    if tg M.1 k0 = 100 ∧ tg M.1 k1 = 100 ∧ k0 ≠ k1 ∧ 0 ≤ sp ∧ 0 ≤ dp ∧ 0 ≤ c ∧ sp + c ≤ ln M.1 k0 ∧ dp + c ≤ ln M.1 k1 ∧ r.length ≤ 8 then go n ls r (M.1, cp M.2.1 k0 sp k1 dp c, M.2.2) else none
  | _ => none
def p_math (w : Nat) (n : Nat) (ls st : List AV) (M : Mem) : Act := match w, st with
  | 0, .inl y :: .inl x :: r => if r.length ≤ 8 then go n ls (.inl (if x < y then y else x) :: r) M else none
  | 1, .inl y :: .inl x :: r => if r.length ≤ 8 then go n ls (.inl (if y < x then y else x) :: r) M else none
  | 2, .inl x :: r => if r.length ≤ 8 then go n ls (.inl (if 0 ≤ x then x else wr (0 - x)) :: r) M else none
  | _, _ => none
def p_iret (z : Nat) (st : List AV) (M : Mem) : Act := match st with
  | [.inl x] => if z = 1 ∧ ¬ (x = 0 ∨ x = 1) then none else some (.inr (.inr (some (.inl x), M)))
  | _ => none
def p_aret (st : List AV) (M : Mem) : Act := match st with
  | [.inr (.inl k)] => some (.inr (.inr (some (.inr (.inl k)), M)))
  | [.inr (.inr 0)] => some (.inr (.inr (some (.inr (.inr 0)), M)))
  | _ => none
def p_vret (st : List AV) (M : Mem) : Act := match st with
  | [] => some (.inr (.inr (none, M)))
  | _ => none
def ownOf (mid : Nat) : Nat := match MT[mid]? with
  | some r => r.2.2.2.2.1
  | none => 99
/-- one instruction -/
def pre (S : Scr) (e : Ent) (ls st : List AV) (M : Mem) : Act :=
  let n := e.1 + e.2.2.1
  let z := e.2.2.2.2
  match e.2.1, e.2.2.2.1 with
  | .iconst _, _ => go n ls (.inl z :: st) M
  | .bipush _, _ => go n ls (.inl z :: st) M
  | .sipush _, _ => go n ls (.inl z :: st) M
  | .ldc _, _ => go n ls (.inl z :: st) M
  | .ldc_w _, _ => go n ls (.inl z :: st) M
  | .aconst_null, _ => go n ls (.inr (.inr 0) :: st) M
  | .iload_n _, [k] => p_iload k n ls st M
  | .iload _, [k] => p_iload k n ls st M
  | .aload_n _, [k] => p_aload k n ls st M
  | .aload _, [k] => p_aload k n ls st M
  | .istore_n _, [k] => p_istore k n ls st M
  | .istore _, [k] => p_istore k n ls st M
  | .astore_n _, [k] => p_astore k n ls st M
  | .astore _, [k] => p_astore k n ls st M
  | .iinc _ _, [k] => p_iinc k z n ls st M
  | .iadd, _ => p_bin (fun x y => wr (x + y)) n ls st M
  | .isub, _ => p_bin (fun x y => wr (x - y)) n ls st M
  | .imul, _ => p_bin (fun x y => wr (x * y)) n ls st M
  | .iand, _ => p_bin (b32 (fun x y => x &&& y)) n ls st M
  | .ior, _ => p_bin (b32 (fun x y => x ||| y)) n ls st M
  | .ixor, _ => p_bin (b32 (fun x y => x ^^^ y)) n ls st M
  | .ishl, _ => p_bin (b32 (fun x y => x <<< (y &&& 31))) n ls st M
  | .ishr, _ => p_bin (b32 (fun x y => x >>> (y &&& 31))) n ls st M
  | .iushr, _ => p_bin (b32 (fun x y => (x.toUInt32 >>> (y.toUInt32 &&& Int32.toUInt32 31)).toInt32)) n ls st M
  | .idiv, _ => p_div (b32 (fun x y => x / y)) n ls st M
  | .irem, _ => p_div (b32 (fun x y => x - x / y * y)) n ls st M
  | .ineg, _ => p_neg n ls st M
  | .dup, _ => p_dup n ls st M
  | .dup2, _ => p_dup2 n ls st M
  | .pop, _ => p_pop n ls st M
  | .goto _, [t] => go t ls st M
  | .ifCond c _, [t] => p_if c t n ls st M
  | .if_icmp c _, [t] => p_icmp c t n ls st M
  | .ifnull _, [t] => p_ifnull t n ls st M
  | .ifnonnull _, [t] => p_ifnull n t ls st M
  | .tableswitch _ _ _ _, d :: tb => p_switch d tb ls st M
  | .lookupswitch _ _, d :: tb => p_switch d tb ls st M
  | .getfield _, [ci, j, t, _] => p_get ci j t n ls st M
  | .putfield _, [ci, j, t, _] => p_put ci j t n ls st M
  | .iaload, _ => p_iald S n ls st M
  | .iastore, _ => p_iast n ls st M
  | .aaload, _ => p_aald n ls st M
  | .aastore, _ => p_aast n ls st M
  | .arraylength, _ => p_alen S n ls st M
  | .new _, [ci, N, _] => p_new ci N n ls st M
  | .newarray .int, _ => p_newa n ls st M
  | .anewarray _, [ci, _, _] => p_anew ci n ls st M
  | .invokevirtual _, [mid, na, _] => p_virt (ownOf mid) mid na n ls st M
  | .invokestatic _, [mid, na, _] => p_call mid na n ls st M
  | .invokestatic _, [_] => p_acopy n ls st M
  | .invokestatic _, [w, _] => p_math w n ls st M
  | .invokespecial _, [mid, na, _] => p_virt (ownOf mid) mid na n ls st M
  | .invokespecial _, [_] => p_objinit n ls st M
  | .ireturn, [z] => p_iret z st M
  | .areturn, _ => p_aret st M
  | .return_, _ => p_vret st M
  | _, _ => none
def lk (l : List Ent) (pc : Nat) : Option Ent := match l with
  | [] => none
  | e :: r => if e.1 = pc then some e else lk r pc
def fetch (mid pc : Nat) : Option Ent := match MT[mid]? with
  | some r => lk r.2.2.2.2.2 pc
  | none => none
def maxOf (mid : Nat) : Nat := match MT[mid]? with
  | some r => r.2.2.1
  | none => 0
/-- the locals with which a method begins -/
def ini (mid : Nat) (as : List AV) : List AV := as ++ List.replicate (maxOf mid - as.length) (.inr (.inr 1))
def psh (v : Option AV) (r : List AV) : List AV := match v with
  | some x => x :: r
  | none => r
/-- no script: what a called method has -/
def S0 : Scr := (fun _ => 0, 0)
def run : Nat → Scr → Nat → Nat → Nat → List AV → List AV → Mem → Option Res
  | 0, _, _, _, _, _, _, _ => none
  | f + 1, S, d, mid, pc, ls, st, M => match fetch mid pc with
    | none => none
    | some e => match pre S e ls st M with
      | none => none
      | some (.inl (pc', ls', st', M')) => run f S d mid pc' ls' st' M'
      | some (.inr (.inr r)) => some r
      | some (.inr (.inl (mid', as, n, ls', r, M'))) => match d with
        | 0 => none
        | d' + 1 => if as.length ≤ maxOf mid' then match run f S0 d' mid' 0 (ini mid' as) [] M' with
          | none => none
          | some (v, M2) => run f S d mid n ls' (psh v r) M2
          else none
theorem run_mono : ∀ (f : Nat) (S : Scr) (d mid pc : Nat) (ls st : List AV) (M : Mem) (r : Res) (g : Nat), run f S d mid pc ls st M = some r → f ≤ g → run g S d mid pc ls st M = some r := by
  intro f
  induction f with
  | zero => intro S d mid pc ls st M r g h; simp [run] at h
  | succ f ih =>
    intro S d mid pc ls st M r g h hg
    obtain ⟨g, rfl⟩ : ∃ g', g = g' + 1 := ⟨g - 1, by omega⟩
    have hfg : f ≤ g := by omega
    unfold run at h ⊢
    cases hf : fetch mid pc with
    | none => rw [hf] at h; exact absurd h (by simp)
    | some e =>
      rw [hf] at h
      dsimp only at h ⊢
      cases hp : pre S e ls st M with
      | none => rw [hp] at h; exact absurd h (by simp)
      | some a =>
        rw [hp] at h
        match a, h with
        | .inl (pc', ls', st', M'), h => exact ih _ _ _ _ _ _ _ _ _ h hfg
        | .inr (.inr r'), h => exact h
        | .inr (.inl (mid', as, n, ls', r', M')), h =>
          dsimp only at h ⊢
          cases d with
          | zero => exact h
          | succ d' =>
            dsimp only at h ⊢
            by_cases hl : as.length ≤ maxOf mid'
            · rw [if_pos hl] at h ⊢
              cases hr : run f S0 d' mid' 0 (ini mid' as) [] M' with
              | none => rw [hr] at h; exact absurd h (by simp)
              | some q =>
                rw [hr] at h
                rw [ih _ _ _ _ _ _ _ _ _ hr hfg]
                obtain ⟨v, M2⟩ := q
                exact ih _ _ _ _ _ _ _ _ _ h hfg
            · rw [if_neg hl] at h; exact absurd h (by simp)
/-- what a run comes to, without the count of steps -/
noncomputable def ev (S : Scr) (d mid pc : Nat) (ls st : List AV) (M : Mem) : Option Res := by
  classical
  exact if h : ∃ (f : Nat) (r : Res), run f S d mid pc ls st M = some r then some (Classical.choose (Classical.choose_spec h)) else none
theorem ev_run {S : Scr} {d mid pc : Nat} {ls st : List AV} {M : Mem} {r : Res} : ev S d mid pc ls st M = some r ↔ ∃ f, run f S d mid pc ls st M = some r := by
  classical
  unfold ev
  constructor
  · intro h
    split at h
    next hx =>
      have h1 := Classical.choose_spec (Classical.choose_spec hx)
      cases h
      exact ⟨_, h1⟩
    next => cases h
  · intro ⟨f, hf⟩
    have hx : ∃ (f : Nat) (r : Res), run f S d mid pc ls st M = some r := ⟨f, r, hf⟩
    rw [dif_pos hx]
    have h1 := Classical.choose_spec (Classical.choose_spec hx)
    have h2 := run_mono _ _ _ _ _ _ _ _ _ (max f (Classical.choose hx)) h1 (Nat.le_max_right _ _)
    have h3 := run_mono _ _ _ _ _ _ _ _ _ (max f (Classical.choose hx)) hf (Nat.le_max_left _ _)
    rw [h2] at h3
    exact h3
/-- a call -/
noncomputable def cl (d mid : Nat) (as : List AV) (M : Mem) : Option Res := match d with
  | 0 => none
  | d' + 1 => if as.length ≤ maxOf mid then ev S0 d' mid 0 (ini mid as) [] M else none
def bnd (o : Option Res) (k : Option AV → Mem → Option Res) : Option Res := match o with
  | some (v, M) => k v M
  | none => none
noncomputable def fin (S : Scr) (d mid : Nat) (a : Act) : Option Res := match a with
  | none => none
  | some (.inl (pc, ls, st, M)) => ev S d mid pc ls st M
  | some (.inr (.inr r)) => some r
  | some (.inr (.inl (mid', as, n, ls, r, M))) => bnd (cl d mid' as M) (fun v M2 => ev S d mid n ls (psh v r) M2)
theorem opt_ext {α : Type} {a b : Option α} (h : ∀ r, a = some r ↔ b = some r) : a = b := by
  cases a with
  | none => cases b with
    | none => rfl
    | some y => exact absurd ((h y).mpr rfl) (by simp)
  | some x => exact ((h x).mp rfl).symm
theorem ev_eq {S : Scr} {d mid pc : Nat} {ls st : List AV} {M : Mem} {e : Ent} (hf : fetch mid pc = some e) : ev S d mid pc ls st M = fin S d mid (pre S e ls st M) := by
  apply opt_ext
  intro r
  rw [ev_run]
  constructor
  · intro ⟨f, h⟩
    cases f with
    | zero => simp [run] at h
    | succ f =>
      unfold run at h
      rw [hf] at h
      dsimp only at h
      cases hp : pre S e ls st M with
      | none => rw [hp] at h; exact absurd h (by simp)
      | some a =>
        rw [hp] at h
        match a, h with
        | .inl (pc', ls', st', M'), h => exact ev_run.mpr ⟨f, h⟩
        | .inr (.inr r'), h => exact h
        | .inr (.inl (mid', as, n, ls', r', M')), h =>
          dsimp only at h
          cases d with
          | zero => exact absurd h (by simp)
          | succ d' =>
            dsimp only at h
            by_cases hl : as.length ≤ maxOf mid'
            · rw [if_pos hl] at h
              cases hr : run f S0 d' mid' 0 (ini mid' as) [] M' with
              | none => rw [hr] at h; exact absurd h (by simp)
              | some q =>
                rw [hr] at h
                obtain ⟨v, M2⟩ := q
                show bnd (cl (d' + 1) mid' as M') _ = some r
                have h1 : cl (d' + 1) mid' as M' = some (v, M2) := by
                  show (if _ then _ else _) = _
                  rw [if_pos hl]
                  exact ev_run.mpr ⟨f, hr⟩
                rw [h1]
                exact ev_run.mpr ⟨f, h⟩
            · rw [if_neg hl] at h; exact absurd h (by simp)
  · intro h
    cases hp : pre S e ls st M with
    | none => rw [hp] at h; exact absurd h (by simp [fin])
    | some a =>
      rw [hp] at h
      match a, hp, h with
      | .inl (pc', ls', st', M'), hp, h =>
        obtain ⟨f, h1⟩ := ev_run.mp (show ev S d mid pc' ls' st' M' = some r from h)
        refine ⟨f + 1, ?_⟩
        unfold run
        rw [hf]
        dsimp only
        rw [hp]
        exact h1
      | .inr (.inr r'), hp, h =>
        refine ⟨1, ?_⟩
        unfold run
        rw [hf]
        dsimp only
        rw [hp]
        exact h
      | .inr (.inl (mid', as, n, ls', r', M')), hp, h =>
        have h : bnd (cl d mid' as M') (fun v M2 => ev S d mid n ls' (psh v r') M2) = some r := h
        cases hc : cl d mid' as M' with
        | none => rw [hc] at h; exact absurd h (by simp [bnd])
        | some q =>
          rw [hc] at h
          obtain ⟨v, M2⟩ := q
          have h : ev S d mid n ls' (psh v r') M2 = some r := h
          cases d with
          | zero => exact absurd hc (by simp [cl])
          | succ d' =>
            have hc : (if as.length ≤ maxOf mid' then ev S0 d' mid' 0 (ini mid' as) [] M' else none) = some (v, M2) := hc
            by_cases hl : as.length ≤ maxOf mid'
            · rw [if_pos hl] at hc
              obtain ⟨f1, h1⟩ := ev_run.mp hc
              obtain ⟨f2, h2⟩ := ev_run.mp h
              refine ⟨max f1 f2 + 1, ?_⟩
              unfold run
              rw [hf]
              dsimp only
              rw [hp]
              dsimp only
              rw [if_pos hl, run_mono _ _ _ _ _ _ _ _ _ (max f1 f2) h1 (Nat.le_max_left _ _)]
              exact run_mono _ _ _ _ _ _ _ _ _ (max f1 f2) h2 (Nat.le_max_right _ _)
            · rw [if_neg hl] at hc; exact absurd hc (by simp)
