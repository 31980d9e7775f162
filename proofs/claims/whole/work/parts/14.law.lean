/-! THE CLAIM'S OWN WORDS (out of the skeleton), AND THE LAW'S RUN -/
/-! THE CLAIM OUT OF ONE WALK OF THE LAW'S BODY. Your part is whole_start (and what it stands on); all else here is the same for every law, but numbers. -/
def R_law : String := "GraphSaverLaw"
def lw_P (b : Addr) (xs : List Int32) (args : Array Value) (s : State) : Prop := args = #[.ref b] ∧ s.IntsAt b xs ∧ xs.length ≤ 2560 ∧ (Jvm.Cond.and given_1 narrow_1).before args s = true
def lw_Q (_ : Array Value) (s : State) (o : Outcome) (t : State) : Prop := o = .returned (some (.int 1)) ∧ Framed s o t [] 600000 7302250
def lw_Z (below : List Frame) (a : Array Value) (s : State) : State → Prop := fun t => ∃ o, t.status = .running ∧ Ended t below o ∧ lw_Q a s o t
/-- the law's own end, with 1 on the stack, nothing written that was there before, its room as the claim has it -/
theorem lw_ret {p : Program} {l : Launch} {e : Env} {s : State} {m : MethodId} {below : List Frame} {meth : Method} {c : Code} {b : Nat} (hx : p.tables.exec = Jvm.exec) (hb : c.code = code) (hr : meth.sig.returnType = ret) (hlocks : meth.locks = false) {pc : Nat} {H : Heap} {ls : Array Slot} (hdg : decode code pc = .ok (.ireturn, 1)) : W p l e room_1 s m #[Value.ref b] below meth c H [] 600000 7302250 (lw_Z below #[Value.ref b] s) (F0 m pc ls [.int 1]) := by
  intro T hT X
  obtain ⟨fs, hret, hrun, hended, hW, hframe⟩ := X.leave (v := some (.int 1)) (hlocks := hlocks) (fun h => by rw [hr] at h; cases h)
  have hmeth' : T.vm.method? m = some meth := X.method'
  refine ⟨T.setFrames fs, ?_, .returned (some (.int 1)), hrun, hended, rfl, ⟨_, rfl⟩, hW, hframe⟩
  jvm_step X.here [X.here.top, hx, hb, hdg, hmeth', hr, ret, narrow_b1]
  (try refine ⟨rfl, ?_⟩); (try refine ⟨rfl, ?_⟩)
  first | (intro acts; rw [hret _ acts rfl rfl rfl]) | rw [hret _ _ rfl rfl rfl]
  exact Steps.refl _
/-- what holds at the law's entry: the machine, the code, the tables' words (any of lw_tbl by 'hts w (by decide +kernel)'), the script of L ints xs at the cell b, what the Statement gives of the start (any of its parts by flat_of_before) -/
def lw_At (p : Program) (s : State) (m : MethodId) (meth : Method) (c : Code) (b L : Nat) (xs : Nat → Int32) : Prop :=
  p.tables.exec = Jvm.exec ∧ c.code = code ∧ meth.sig.returnType = ret ∧ c.maxLocals = 4 ∧ s.vm.findClass R_law = some m.cls ∧ (∀ w ∈ lw_tbl, w.before #[Value.ref b] s = true) ∧ va_X b L xs s s.heap ∧ b < s.heap.size ∧ meth.locks = false ∧ (Jvm.Cond.and given_1 narrow_1).before #[Value.ref b] s = true

theorem wk_start {s : State} {args : Array Value} (hts : ∀ w ∈ gtbl, w.before args s = true) : ∃ D : va_G, va_K D CLS [] s := by
  have h : ∀ c, ∃ (cC : ClassId) (iS : Nat → Nat), c < 10 → u_Kn s (RS c) (TT c) (NF c) cC iS := by
    intro c
    by_cases hc : c < 10
    · obtain ⟨cC, iS, h⟩ := u_known (n := NF c) hts (lays_in c hc) (hts _ (mg (inst_ok c hc) rfl))
      exact ⟨cC, iS, fun _ => h⟩
    · exact ⟨0, fun _ => 0, fun h => absurd h hc⟩
  refine ⟨(fun c => Classical.choose (h c), fun c => Classical.choose (Classical.choose_spec (h c))), fun c q hq => ?_, fun k q hk => by cases hk⟩
  have hc : c < 10 := (List.getElem?_eq_some_iff.mp hq).1
  rw [cls_ok c hc] at hq
  cases hq
  exact Classical.choose_spec (Classical.choose_spec (h c)) hc
def M00 : Mem := ([], fun _ _ => 0, fun _ _ => none)
theorem okM00 : okM M00 := ⟨fun _ _ => in0, fun _ _ _ h => (by cases h), fun k hk => absurd hk (Nat.not_lt_zero k)⟩
/-- what is left to show, of the small machine alone -/
def LawRuns : Prop := ∀ (xs : Int → Int) (L : Nat), L ≤ 2560 → (∀ i, InR (xs i)) → ∃ (d : Nat) (M' : Mem), d ≤ 1000 ∧ ev (xs, L) d 209 0 (ini 209 [.inr (.inr 2)]) [] M00 = some (some (.inl 1), M') ∧ M'.1.length ≤ 600000 ∧ slt M'.1 ≤ 7302250
theorem MT_law : MT[209]? = some m_209 := rfl
theorem law_start (hg : MTgood) (hlaw : LawRuns) {p : Program} {e : Env} {s : State} {m : MethodId} {below : List Frame} {meth : Method} {c : Code} (l : Launch) {b L : Nat} {xs : Nat → Int32} (hL : L ≤ 2560) (C0 : lw_At p s m meth c b L xs) : W p l e room_1 s m #[Value.ref b] below meth c s.heap [] 0 0 (lw_Z below #[Value.ref b] s) (entryFrame m ([Value.ref b] : List Value).toArray 4) := by
  obtain ⟨hx, hb, hr, hml, hown, hts0, hX, hbl, hlocks, hgv⟩ := id C0
  have hts : ∀ w ∈ gtbl, w.before #[Value.ref b] s = true := fun w hw => hts0 w (List.mem_filter.mp hw).1
  obtain ⟨D, hK⟩ := wk_start hts
  obtain ⟨d, M', hd, hev, hc1, hc2⟩ := hlaw (fun i => (xs i.toNat).toInt) L hL (fun i => i32_in _)
  obtain ⟨f, hrun⟩ := ev_run.mp hev
  have hN : WN s := by
    refine ⟨fun q hq => ?_, fun q hq => ?_⟩
    · have hc := List.all_eq_true.mp NT_ok q hq
      simp only [NTc, decide_eq_true_eq] at hc
      exact va_Nw.of rfl (hts0 _ (List.mem_of_getElem? hc))
    · exact va_AO.of (hts0 _ (List.mem_of_getElem? (over_ok q hq)))
  have hX2 : va_X b L (fun j => Int32.ofInt ((fun i : Int => (xs i.toNat).toInt) (j : Int))) s s.heap := by
    obtain ⟨scr, h1, h2, h3, h4, h5⟩ := hX
    refine ⟨scr, h1, h2, h3, h4, fun j hj => ?_⟩
    rw [h5 j hj]
    dsimp only
    rw [of_to]
    rfl
  have hP : va_P D CLS (cells (fun _ => 0) (fun _ => 0) M00) s.heap := fun k q h => by cases h
  have hD : va_D (fun q : Nat => s.heap.size ≤ q) (cells (fun _ => 0) (fun _ => 0) M00) := ⟨fun i j p q h => (by cases h), fun k q h => (by cases h)⟩
  rw [lg_entry_eq]
  have hlr : LR (fun _ => 0) b (ini 209 [.inr (.inr 2)]) ((lg_sl (([.inr (.inr 2)] : List AV).map (cv (fun _ => 0) b)) ++ List.replicate (4 - (lg_sl (([.inr (.inr 2)] : List AV).map (cv (fun _ => 0) b))).length) Slot.unset).toArray) 4 := LR_ini (maxOf_eq MT_law) (by decide)
  refine snd_run hg f _ d 209 0 _ [] M00 _ M' hrun p l e room_1 s m #[Value.ref b] below meth c _ D (fun q : Nat => s.heap.size ≤ q) s.heap s.heap b True (fun _ => 0) (fun _ => 0) 0 0 M'.1.length (slt M'.1) _ [] m_209 MT_law ⟨hx, hb, hml, hown, hts, hN, fun h => absurd h (by decide), ?_, ?_, fun _ h => h, fun _ => ⟨hX2, hbl, Nat.not_le.mpr hbl, fun i => i32_in _, by show L < 2147483648; omega⟩, hr, hlocks⟩ ⟨hP, hD, va_S.rf, ⟨hK, fun k hk => absurd hk (Nat.not_lt_zero k)⟩, okM00, ini_ok (fun v hv => by
    rw [List.mem_singleton.mp hv]
    trivial), fun w h => (by cases h), hlr⟩ (by show M'.1.length + 0 = 0 + M'.1.length; omega) (by show slt M'.1 + 0 = 0 + slt M'.1; omega) hc1 hc2 ?_
  · show d + 1 ≤ 2048
    omega
  · show 64 * (d + 1) ≤ 84000
    omega
  · intro pc' a' ca' H' locs' lc' ls' hri hpt hext
    obtain ⟨-, -, hS', -⟩ := hpt
    refine va_forget hS'.2.2 ?_
    refine W.widen (k := 600000) (n := 7302250) hc1 hc2 ?_
    exact lw_ret hx hb hr hlocks hri.1
