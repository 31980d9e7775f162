/-! THE SMALL MACHINE'S RUNS ARE THE JAVA MACHINE'S -/
def onlyGo (x : Act) : Prop := match x with
  | some (.inr _) => False
  | _ => True
theorem oG_go {n : Nat} {ls st : List AV} {M : Mem} : onlyGo (go n ls st M) := trivial
theorem oG_none : onlyGo none := trivial
theorem pre_kind (S : Scr) (e : Ent) (ls st : List AV) (M : Mem) (x : Act) (hx : pre S e ls st M = x) : onlyGo x ∨
    (∃ i mid na ix, (e.2.1 = .invokevirtual i ∨ e.2.1 = .invokespecial i) ∧ e.2.2.2.1 = [mid, na, ix] ∧ x = p_virt (ownOf mid) mid na (e.1 + e.2.2.1) ls st M) ∨
    (∃ i mid na ix, e.2.1 = .invokestatic i ∧ e.2.2.2.1 = [mid, na, ix] ∧ x = p_call mid na (e.1 + e.2.2.1) ls st M) ∨
    (∃ z, e.2.1 = .ireturn ∧ e.2.2.2.1 = [z] ∧ x = p_iret z st M) ∨ (e.2.1 = .areturn ∧ x = p_aret st M) ∨ (e.2.1 = .return_ ∧ x = p_vret st M) := by
  unfold pre at hx
  dsimp only at hx
  split at hx
  all_goals subst hx
  all_goals first
    | exact Or.inl oG_go
    | exact Or.inl oG_none
    | (left; unfold p_new; exact oG_go)
    | (left; unfold p_iload; (repeat' split) <;> first | exact oG_go | exact oG_none)
    | (left; unfold p_aload; (repeat' split) <;> first | exact oG_go | exact oG_none)
    | (left; unfold p_istore; (repeat' split) <;> first | exact oG_go | exact oG_none)
    | (left; unfold p_astore; (repeat' split) <;> first | exact oG_go | exact oG_none)
    | (left; unfold p_iinc; (repeat' split) <;> first | exact oG_go | exact oG_none)
    | (left; unfold p_bin; (repeat' split) <;> first | exact oG_go | exact oG_none)
    | (left; unfold p_div; (repeat' split) <;> first | exact oG_go | exact oG_none)
    | (left; unfold p_neg; (repeat' split) <;> first | exact oG_go | exact oG_none)
    | (left; unfold p_dup; (repeat' split) <;> first | exact oG_go | exact oG_none)
    | (left; unfold p_dup2; (repeat' split) <;> first | exact oG_go | exact oG_none)
    | (left; unfold p_pop; (repeat' split) <;> first | exact oG_go | exact oG_none)
    | (left; unfold p_if; (repeat' split) <;> first | exact oG_go | exact oG_none)
    | (left; unfold p_icmp; (repeat' split) <;> first | exact oG_go | exact oG_none)
    | (left; unfold p_ifnull; (repeat' split) <;> first | exact oG_go | exact oG_none)
    | (left; unfold p_switch; (repeat' split) <;> first | exact oG_go | exact oG_none)
    | (left; unfold p_get; (repeat' split) <;> first | exact oG_go | exact oG_none)
    | (left; unfold p_put; (repeat' split) <;> first | exact oG_go | exact oG_none)
    | (left; unfold p_iald; (repeat' split) <;> first | exact oG_go | exact oG_none)
    | (left; unfold p_iast; (repeat' split) <;> first | exact oG_go | exact oG_none)
    | (left; unfold p_aald; (repeat' split) <;> first | exact oG_go | exact oG_none)
    | (left; unfold p_aast; (repeat' split) <;> first | exact oG_go | exact oG_none)
    | (left; unfold p_alen; (repeat' split) <;> first | exact oG_go | exact oG_none)
    | (left; unfold p_newa; (repeat' split) <;> first | exact oG_go | exact oG_none)
    | (left; unfold p_anew; (repeat' split) <;> first | exact oG_go | exact oG_none)
    | (left; unfold p_objinit; (repeat' split) <;> first | exact oG_go | exact oG_none)
    | (left; unfold p_acopy; (repeat' split) <;> first | exact oG_go | exact oG_none)
    | (left; unfold p_math; (repeat' split) <;> first | exact oG_go | exact oG_none)
    | (rename_i i mid na ix h1 h2; exact Or.inr (Or.inl ⟨i, mid, na, ix, Or.inl h1, h2, rfl⟩))
    | (rename_i i mid na ix h1 h2; exact Or.inr (Or.inl ⟨i, mid, na, ix, Or.inr h1, h2, rfl⟩))
    | (rename_i i mid na ix h1 h2; exact Or.inr (Or.inr (Or.inl ⟨i, mid, na, ix, h1, h2, rfl⟩)))
    | (rename_i zz h1 h2; exact Or.inr (Or.inr (Or.inr (Or.inl ⟨zz, h1, h2, rfl⟩))))
    | (rename_i h1; exact Or.inr (Or.inr (Or.inr (Or.inr (Or.inl ⟨h1, rfl⟩)))))
    | (rename_i h1; exact Or.inr (Or.inr (Or.inr (Or.inr (Or.inr ⟨h1, rfl⟩)))))
theorem lk_mem : ∀ {l : List Ent} {pc : Nat} {e : Ent}, lk l pc = some e → e ∈ l ∧ e.1 = pc
  | [], pc, e, h => by simp [lk] at h
  | x :: l, pc, e, h => by
    unfold lk at h
    split at h
    next hx => cases h; exact ⟨List.mem_cons_self, hx⟩
    next => exact ⟨List.mem_cons_of_mem _ (lk_mem h).1, (lk_mem h).2⟩
/-- the instruction with which a method ends -/
def RI (r : MR) (pc : Nat) (v : Option AV) : Prop := match v with
  | none => decode r.2.1 pc = .ok (.return_, 1) ∧ r.2.2.2.1 = none
  | some (.inl x) => decode r.2.1 pc = .ok (.ireturn, 1) ∧ (r.2.2.2.1 = some .int ∨ (r.2.2.2.1 = some .boolean ∧ (x = 0 ∨ x = 1)))
  | some (.inr w) => decode r.2.1 pc = .ok (.areturn, 1) ∧ (∃ n, r.2.2.2.1 = some (.object n)) ∧ ((∃ k, w = .inl k) ∨ w = .inr 0)
theorem pre_ret {S : Scr} {r : MR} {pc len : Nat} {ins : Instr} {aux : List Nat} {z : Int} {ls st : List AV} {M M' : Mem} {v : Option AV} (hck : chkX r (pc, ins, len, aux, z) = true) (h : pre S (pc, ins, len, aux, z) ls st M = some (.inr (.inr (v, M')))) : RI r pc v ∧ st = v.toList ∧ M' = M := by
  obtain ⟨hdec, hck⟩ := chkX_inv hck
  rcases pre_kind S (pc, ins, len, aux, z) ls st M _ h with g | ⟨i, mid, na, ix, -, -, g⟩ | ⟨i, mid, na, ix, -, -, g⟩ | ⟨zz, h1, h2, g⟩ | ⟨h1, g⟩ | ⟨h1, g⟩
  · exact absurd g id
  · unfold p_virt at g
    split at g
    · split at g <;> cases g
    · cases g
  · unfold p_call at g
    split at g
    · split at g <;> cases g
    · cases g
  · dsimp only at h1 h2
    subst h1; subst h2
    simp only [chkE, Bool.and_eq_true, Bool.or_eq_true, decide_eq_true_eq] at hck
    obtain ⟨hc, rfl⟩ := hck
    unfold p_iret at g
    split at g
    next x =>
      split at g
      next => cases g
      next hz =>
        cases g
        refine ⟨⟨hdec, ?_⟩, rfl, rfl⟩
        rcases hc with ⟨rfl, h3⟩ | ⟨rfl, h3⟩
        · exact Or.inr ⟨h3, Classical.not_not.mp (fun q => hz ⟨rfl, q⟩)⟩
        · exact Or.inl h3
    next => cases g
  · dsimp only at h1
    subst h1
    simp only [chkE, Bool.and_eq_true, decide_eq_true_eq] at hck
    obtain ⟨hc, rfl⟩ := hck
    have hn : ∃ n, r.2.2.2.1 = some (.object n) := by
      split at hc
      next n hn => exact ⟨n, hn⟩
      next => cases hc
    unfold p_aret at g
    split at g
    next k => cases g; exact ⟨⟨hdec, hn, Or.inl ⟨k, rfl⟩⟩, rfl, rfl⟩
    next => cases g; exact ⟨⟨hdec, hn, Or.inr rfl⟩, rfl, rfl⟩
    next => cases g
  · dsimp only at h1
    subst h1
    simp only [chkE, Bool.and_eq_true, decide_eq_true_eq] at hck
    obtain ⟨hc, rfl⟩ := hck
    unfold p_vret at g
    split at g
    next => cases g; exact ⟨⟨hdec, hc⟩, rfl, rfl⟩
    next => cases g
/-- what is shown of runs of f steps -/
def SND (f : Nat) : Prop := ∀ (S : Scr) (d mid pc : Nat) (ls st : List AV) (M : Mem) (v : Option AV) (M' : Mem), run f S d mid pc ls st M = some (v, M') →
  ∀ (p : Program) (l : Launch) (e : Env) (R : Room) (s : State) (m : MethodId) (args : Array Value) (below : List Frame) (meth : Method) (c : Code) (Q : State → Prop) (D : va_G) (A : Nat → Prop) (H0 H : Heap) (b : Nat) (sf : Prop) (a : Nat → Nat) (ca : Nat → ClassId) (cl sl cl' sl' : Nat) (lc : Array Slot) (locs : List Loc) (r : MR),
    MT[mid]? = some r → CX p R s m args meth c A H0 b sf S r d → PT D A H0 s b r.2.2.1 sf a ca M ls st lc H locs → cl' + M.1.length = cl + M'.1.length → sl' + slt M.1 = sl + slt M'.1 → cl' ≤ R.cells → sl' ≤ R.slots →
    (∀ (pc' : Nat) (a' : Nat → Nat) (ca' : Nat → ClassId) (H' : Heap) (locs' : List Loc) (lc' : Array Slot) (ls' : List AV), RI r pc' v → PT D A H0 s b r.2.2.1 sf a' ca' M' ls' v.toList lc' H' locs' → (∀ k, k < M.1.length → a' k = a k) → W p l e R s m args below meth c H' locs' cl' sl' Q (F0 m pc' lc' (v.toList.map (cv a' b)))) →
    W p l e R s m args below meth c H locs cl sl Q (F0 m pc lc (st.map (cv a b)))
theorem MT_head {i : Nat} {r : MR} (h : MT[i]? = some r) : r.1.cls = RS r.2.2.2.2.1 ∧ plainName r.1.cls = true ∧ r.2.2.1 ≤ 9 ∧ r.1.cls ≠ "java/lang/invoke/MethodHandle" ∧ r.1.cls ≠ "java/lang/invoke/VarHandle" := by
  have hc := List.all_eq_true.mp MT_H r (List.mem_of_getElem? h)
  simp only [chkH, Bool.and_eq_true, decide_eq_true_eq] at hc
  obtain ⟨⟨⟨⟨h1, h2⟩, h3⟩, h4⟩, h5⟩ := hc
  exact ⟨h1, h2, h3, h4, h5⟩
theorem maxOf_eq {i : Nat} {r : MR} (h : MT[i]? = some r) : maxOf i = r.2.2.1 := by
  unfold maxOf
  rw [h]
theorem nar_b {x : Int} (h : x = 0 ∨ x = 1) : narrow .boolean (.int (Int32.ofInt x)) = .int (Int32.ofInt x) := by
  rcases h with rfl | rfl <;> decide +kernel
/-- a method's contract out of its run -/
theorem metC {f : Nat} (ih : SND f) {d mid : Nat} {as : List AV} {M M2 : Mem} {v : Option AV} {r : MR} (hrun : run f S0 d mid 0 (ini mid as) [] M = some (v, M2)) (hr : MT[mid]? = some r) (has : as.length ≤ r.2.2.1) (hM : okM M) (hv : ∀ w ∈ as, okV False M.1.length w) (l : Launch) (D : va_G) (a : Nat → Nat) (ca : Nat → ClassId) (b sz : Nat) (rm : Room) (hrm : rm = { frames := d + 1, cells := M2.1.length - M.1.length, slots := slt M2.1 - slt M.1, locals := 64 * (d + 1) }) :
    Met l r.1 (Cond.code r.1 r.2.1 r.2.2.1 r.2.2.2.1 :: gtbl) rm (va_Pc (as.map (cv a b)) (BC D a ca M sz)) (QC D b a M M2 v (va_A (cells a ca M) sz)) (M2.1.length - M.1.length) (slt M2.1 - slt M.1) (va_A (cells a ca M) sz) := by
  obtain ⟨hcls, hplain, -⟩ := MT_head hr
  have hlen := run_len _ _ _ _ _ _ _ _ _ hrun
  refine Met.ofW (cc := r.2.1) (maxL := r.2.2.1) (ret := r.2.2.2.1) hplain rfl ?_
  intro p e s m args below meth c s₁ B hml hv0
  obtain ⟨rfl, hsz, hP, hK, hN, hD0⟩ := hv0
  have hx := B.exec
  have hb := B.bytes
  have hret := B.returns
  have hts := atoms_spec (ws := Cond.code r.1 r.2.1 r.2.2.1 r.2.2.2.1 :: gtbl) B.pre
  have hown : s.vm.findClass (RS r.2.2.2.2.1) = some m.cls := by rw [← hcls]; exact findClass_of_methodNamed B.named
  have hlocks := B.notSynchronized
  have hin : meth.name = r.1.name := (name_of_methodNamed B.named B.method).1
  subst hsz
  have hD := hD0.self (sz := s.heap.size)
  rw [lg_entry_eq]
  have hroom : (headSpec (Cond.code r.1 r.2.1 r.2.2.1 r.2.2.2.1 :: gtbl) rm).room = rm := rfl
  rw [hroom]
  subst hrm
  refine ih S0 d mid 0 (ini mid as) [] M v M2 hrun p l e _ s m _ below meth c _ D (va_A (cells a ca M) s.heap.size) s.heap s.heap b False a ca 0 0 (M2.1.length - M.1.length) (slt M2.1 - slt M.1) _ [] r hr ⟨hx, hb, hml, hown, fun w hw => hts w (List.mem_cons_of_mem _ hw), hN, fun h => hin.trans h, Nat.le_refl _, Nat.le_refl _, fun q h => Or.inr h, fun h => absurd h id, hret, hlocks⟩ ⟨hP, hD, va_S.rf, hK, hM, ini_ok hv, fun w h => (by cases h), LR_ini (maxOf_eq hr) has⟩ (by dsimp only at hlen; omega) (by dsimp only at hlen; omega) (Nat.le_refl _) (Nat.le_refl _) ?_
  intro pc' a' ca' H' locs' lc' ls' hri hpt hext
  obtain ⟨hP', hD', hS', hK', hM', -, hst', -⟩ := hpt
  have hvk : ∀ w, v = some w → okV False M2.1.length w := fun w hw => hst' w (by rw [hw]; exact List.mem_cons_self)
  match v, hri, hvk with
  | none, hri, hvk =>
    refine W.vret hx hb (hret.trans hri.2) (fun t ht hW => ⟨⟨a', ca', hext, rfl, by rw [ht]; exact hP', hK'.moved hW.alike, hD', hM', hvk⟩, hS'.F ht⟩) hS'.2.2 hri.1
  | some (.inl x), hri, hvk =>
    rcases hri.2 with h1 | ⟨h1, h2⟩
    · refine W.iret hx hb (hret.trans h1) (fun t ht hW => ⟨⟨a', ca', hext, rfl, by rw [ht]; exact hP', hK'.moved hW.alike, hD', hM', hvk⟩, hS'.F ht⟩) hS'.2.2 hri.1
    · refine W.zret hx hb (hret.trans h1) (nar_b h2) (fun t ht hW => ⟨⟨a', ca', hext, rfl, by rw [ht]; exact hP', hK'.moved hW.alike, hD', hM', hvk⟩, hS'.F ht⟩) hS'.2.2 hri.1
  | some (.inr w), hri, hvk =>
    obtain ⟨hd, ⟨n, hn⟩, hw⟩ := hri
    refine W.aret (v := cv a' b (.inr w)) hx hb (hret.trans hn) (Or.inl ⟨n, rfl⟩) ?_ (fun t ht hW => ⟨⟨a', ca', hext, rfl, by rw [ht]; exact hP', hK'.moved hW.alike, hD', hM', hvk⟩, hS'.F ht⟩) hS'.2.2 hd
    rcases hw with ⟨k, rfl⟩ | rfl
    · exact Or.inr ⟨a' k, rfl⟩
    · exact Or.inl rfl
