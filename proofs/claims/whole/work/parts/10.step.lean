/-! ANY INSTRUCTION THAT GOES ON -/
theorem lsw_off {pc d' : Nat} {d x : Int} (hd : (pc : Int) + d = (d' : Int)) : ∀ (ps : List (Int × Int)) (tb : List Nat), lsw pc ps tb = true → (pc : Int) + Op.lookupswitch.offset ps d x = ((swt d' x tb : Nat) : Int)
  | [], [], _ => hd
  | [], _ :: _, h => by simp [lsw] at h
  | q :: ps, [], h => by simp [lsw] at h
  | q :: ps, [_], h => by simp [lsw] at h
  | (q1, q2) :: ps, v :: t :: tb, h => by
    simp only [lsw, Bool.and_eq_true, decide_eq_true_eq] at h
    obtain ⟨⟨h1, h2⟩, h3⟩ := h
    rw [Op.lookupswitch.offset_cons]
    unfold swt
    by_cases hx : q1 = x
    · rw [if_pos hx, if_pos (by omega)]
      exact h2
    · rw [if_neg hx, if_neg (by omega)]
      exact lsw_off hd ps tb h3
theorem tsw_out {pc d' : Nat} {x : Int} : ∀ (lo : Int) (os : List Int) (tb : List Nat), tsw pc lo os tb = true → x < lo ∨ lo + (os.length : Int) ≤ x → swt d' x tb = d'
  | _, [], [], _, _ => rfl
  | _, [], _ :: _, h, _ => by simp [tsw] at h
  | _, _ :: _, [], h, _ => by simp [tsw] at h
  | _, _ :: _, [_], h, _ => by simp [tsw] at h
  | lo, q :: os, v :: t :: tb, h, hx => by
    simp only [tsw, Bool.and_eq_true, decide_eq_true_eq] at h
    obtain ⟨⟨h1, h2⟩, h3⟩ := h
    simp only [List.length_cons] at hx
    unfold swt
    rw [if_neg (by omega)]
    exact tsw_out (lo + 1) os tb h3 (by omega)
theorem tsw_in {pc d' : Nat} {x : Int} : ∀ (lo : Int) (os : List Int) (tb : List Nat), tsw pc lo os tb = true → lo ≤ x → x < lo + (os.length : Int) → ∃ off, os[(x - lo).toNat]? = some off ∧ (pc : Int) + off = ((swt d' x tb : Nat) : Int)
  | _, [], [], _, h1, h2 => by simp only [List.length_nil] at h2; omega
  | _, [], _ :: _, h, _, _ => by simp [tsw] at h
  | _, _ :: _, [], h, _, _ => by simp [tsw] at h
  | _, _ :: _, [_], h, _, _ => by simp [tsw] at h
  | lo, q :: os, v :: t :: tb, h, g1, g2 => by
    simp only [tsw, Bool.and_eq_true, decide_eq_true_eq] at h
    obtain ⟨⟨h1, h2⟩, h3⟩ := h
    simp only [List.length_cons] at g2
    unfold swt
    by_cases hx : x = (v : Int)
    · refine ⟨q, ?_, ?_⟩
      · rw [show (x - lo).toNat = 0 by omega]
        rfl
      · rw [if_pos hx]
        exact h2
    · obtain ⟨off, e1, e2⟩ := tsw_in (d' := d') (x := x) (lo + 1) os tb h3 (by omega) (by omega)
      refine ⟨off, ?_, ?_⟩
      · rw [show (x - lo).toNat = (x - (lo + 1)).toNat + 1 by omega]
        exact e1
      · rw [if_neg hx]
        exact e2
theorem KT_use {own idx ix : Nat} {z : Int} (h : (KT[ix]?).map (fun q => (q.1, q.2.1, q.2.2.1)) = some (own, idx, z)) : Cond.constant (RS own) idx (Int32.ofInt z) ∈ gtbl ∧ InR z := by
  obtain ⟨q, hq, he⟩ := Option.map_eq_some_iff.mp h
  have hc := List.all_eq_true.mp KT_ok q (List.mem_of_getElem? hq)
  obtain ⟨q1, q2, q3, q4⟩ := q
  simp only [Prod.mk.injEq] at he
  obtain ⟨rfl, rfl, rfl⟩ := he
  simp only [KTc, Bool.and_eq_true, decide_eq_true_eq] at hc
  exact ⟨mg hc.1 rfl, hc.2⟩
theorem i8_of {n : Int} (h : -128 ≤ n ∧ n < 128) : (Int8.ofInt n).toInt32 = Int32.ofInt n := by
  apply Int32.toInt_inj.mp
  rw [to_of ⟨by omega, by omega⟩, Int8.toInt_toInt32, Int8.toInt_ofInt, show (Int8.size : Nat) = 256 from rfl]
  unfold Int.bmod
  dsimp only
  split <;> omega
theorem i16_of {n : Int} (h : -32768 ≤ n ∧ n < 32768) : (Int16.ofInt n).toInt32 = Int32.ofInt n := by
  apply Int32.toInt_inj.mp
  rw [to_of ⟨by omega, by omega⟩, Int16.toInt_toInt32, Int16.toInt_ofInt, show (Int16.size : Nat) = 65536 from rfl]
  unfold Int.bmod
  dsimp only
  split <;> omega
theorem chkX_inv {r : MR} {pc len : Nat} {ins : Instr} {aux : List Nat} {z : Int} (h : chkX r (pc, ins, len, aux, z) = true) : decode r.2.1 pc = .ok (ins, len) ∧ chkE r.2.2.2.2.1 r.2.2.1 r.1.name r.2.2.2.1 (pc, ins, len, aux, z) = true := by
  simp only [chkX, Bool.and_eq_true, decide_eq_true_eq] at h
  exact h
section STEP
variable {p : Program} {l : Launch} {e : Env} {R : Room} {s : State} {m : MethodId} {args : Array Value} {below : List Frame} {meth : Method} {c : Code} {Q : State → Prop} {D : va_G} {A : Nat → Prop} {H0 H : Heap} {b : Nat} {sf : Prop} {a : Nat → Nat} {ca : Nat → ClassId} {cl sl cl' sl' pc pc' : Nat} {ls st ls' st' : List AV} {M M' : Mem} {lc : Array Slot} {locs : List Loc} {S : Scr} {r : MR} {d : Nat}
theorem stepW {ins : Instr} {len : Nat} {aux : List Nat} {z : Int} (hp : pre S (pc, ins, len, aux, z) ls st M = some (.inl (pc', ls', st', M'))) (hck0 : chkX r (pc, ins, len, aux, z) = true) (cx : CX p R s m args meth c A H0 b sf S r d) (pt : PT D A H0 s b r.2.2.1 sf a ca M ls st lc H locs) (hcl : cl' + M.1.length = cl + M'.1.length) (hsl : sl' + slt M.1 = sl + slt M'.1) (hR0 : cl ≤ R.cells ∧ sl ≤ R.slots) (hRc : cl' ≤ R.cells) (hRs : sl' ≤ R.slots)
    (K : KG p l e R s m args below meth c Q D A H0 b r.2.2.1 sf a M.1.length cl' sl' pc' ls' st' M') : W p l e R s m args below meth c H locs cl sl Q (F0 m pc lc (st.map (cv a b))) := by
  have cx0 := cx
  obtain ⟨hx, hb, hml, hown, hts, hN, hnm, hfr, hlo, hA, hX, -⟩ := cx0
  obtain ⟨hdec, hck⟩ := chkX_inv hck0
  clear hck0
  cases ins
  case iconst n =>
    simp only [chkE, Bool.and_eq_true, Bool.or_eq_true, decide_eq_true_eq] at hck
    obtain ⟨⟨rfl, h2⟩, rfl⟩ := hck
    exact W_const (n := pc + 1) hp (show InR z from ⟨by omega, by omega⟩) pt hcl hsl K (fun k => lv_iconst hx hb hdec rfl k)
  case bipush n =>
    simp only [chkE, Bool.and_eq_true, Bool.or_eq_true, decide_eq_true_eq] at hck
    obtain ⟨⟨rfl, h2⟩, rfl⟩ := hck
    exact W_const (n := pc + 2) hp (show InR z from ⟨by omega, by omega⟩) pt hcl hsl K (fun k => lv_bipush hx hb hdec (i8_of h2) k)
  case sipush n =>
    simp only [chkE, Bool.and_eq_true, Bool.or_eq_true, decide_eq_true_eq] at hck
    obtain ⟨⟨rfl, h2⟩, rfl⟩ := hck
    exact W_const (n := pc + 3) hp (show InR z from ⟨by omega, by omega⟩) pt hcl hsl K (fun k => lv_sipush hx hb hdec (i16_of h2) k)
  case ldc i =>
    rcases aux with _ | ⟨ix, _ | ⟨k9, aux⟩⟩
    · simp [chkE] at hck
    · simp only [chkE, Bool.and_eq_true, Bool.or_eq_true, decide_eq_true_eq] at hck
      obtain ⟨h1, rfl⟩ := hck
      obtain ⟨g1, g2⟩ := KT_use h1
      exact W_const (n := pc + 2) hp g2 pt hcl hsl K (fun k => lv_ldc hx hb hown (hts _ g1) hdec k)
    · simp [chkE] at hck
  case ldc_w i =>
    rcases aux with _ | ⟨ix, _ | ⟨k9, aux⟩⟩
    · simp [chkE] at hck
    · simp only [chkE, Bool.and_eq_true, Bool.or_eq_true, decide_eq_true_eq] at hck
      obtain ⟨h1, rfl⟩ := hck
      obtain ⟨g1, g2⟩ := KT_use h1
      exact W_const (n := pc + 3) hp g2 pt hcl hsl K (fun k => lv_ldcw hx hb hown (hts _ g1) hdec k)
    · simp [chkE] at hck
  case aconst_null =>
    simp only [chkE, Bool.and_eq_true, Bool.or_eq_true, decide_eq_true_eq] at hck
    subst hck
    exact W_null (n := pc + 1) hp pt hcl hsl K (fun k => lv_null hx hb hdec k)
  case iload_n i =>
    rcases aux with _ | ⟨k, _ | ⟨k9, aux⟩⟩
    · simp [chkE] at hck
    · simp only [chkE, Bool.and_eq_true, Bool.or_eq_true, decide_eq_true_eq] at hck
      obtain ⟨h1, rfl⟩ := hck
      exact W_iload (k := k) (n := pc + 1) hp pt hcl hsl K (fun x h q => lv_iload_n hx hb hdec h1 h q)
    · simp [chkE] at hck
  case iload i =>
    rcases aux with _ | ⟨k, _ | ⟨k9, aux⟩⟩
    · simp [chkE] at hck
    · simp only [chkE, Bool.and_eq_true, Bool.or_eq_true, decide_eq_true_eq] at hck
      obtain ⟨rfl, rfl⟩ := hck
      exact W_iload (k := i) (n := pc + 2) hp pt hcl hsl K (fun x h q => lv_iload hx hb hdec h q)
    · simp [chkE] at hck
  case aload_n i =>
    rcases aux with _ | ⟨k, _ | ⟨k9, aux⟩⟩
    · simp [chkE] at hck
    · simp only [chkE, Bool.and_eq_true, Bool.or_eq_true, decide_eq_true_eq] at hck
      obtain ⟨h1, rfl⟩ := hck
      exact W_aload (k := k) (n := pc + 1) hp pt hcl hsl K (fun x h q => lv_aload_n hx hb hdec h1 h q) (fun h q => lv_aload_nN hx hb hdec h1 h q)
    · simp [chkE] at hck
  case aload i =>
    rcases aux with _ | ⟨k, _ | ⟨k9, aux⟩⟩
    · simp [chkE] at hck
    · simp only [chkE, Bool.and_eq_true, Bool.or_eq_true, decide_eq_true_eq] at hck
      obtain ⟨rfl, rfl⟩ := hck
      exact W_aload (k := i) (n := pc + 2) hp pt hcl hsl K (fun x h q => lv_aload hx hb hdec h q) (fun h q => lv_aloadN hx hb hdec h q)
    · simp [chkE] at hck
  case istore_n i =>
    rcases aux with _ | ⟨k, _ | ⟨k9, aux⟩⟩
    · simp [chkE] at hck
    · simp only [chkE, Bool.and_eq_true, Bool.or_eq_true, decide_eq_true_eq] at hck
      obtain ⟨h1, rfl⟩ := hck
      exact W_istore (k := k) (n := pc + 1) hp pt hcl hsl K (fun x rest h q => lv_istore_n hx hb hdec h1 pt.2.2.2.2.2.2.2.has h rfl q)
    · simp [chkE] at hck
  case istore i =>
    rcases aux with _ | ⟨k, _ | ⟨k9, aux⟩⟩
    · simp [chkE] at hck
    · simp only [chkE, Bool.and_eq_true, Bool.or_eq_true, decide_eq_true_eq] at hck
      obtain ⟨rfl, rfl⟩ := hck
      exact W_istore (k := i) (n := pc + 2) hp pt hcl hsl K (fun x rest h q => lv_istore hx hb hdec pt.2.2.2.2.2.2.2.has h rfl q)
    · simp [chkE] at hck
  case astore_n i =>
    rcases aux with _ | ⟨k, _ | ⟨k9, aux⟩⟩
    · simp [chkE] at hck
    · simp only [chkE, Bool.and_eq_true, Bool.or_eq_true, decide_eq_true_eq] at hck
      obtain ⟨h1, rfl⟩ := hck
      exact W_astore (k := k) (n := pc + 1) hp pt hcl hsl K (fun x rest h q => lv_astore_n hx hb hdec h1 pt.2.2.2.2.2.2.2.has h rfl q) (fun rest h q => lv_astore_nN hx hb hdec h1 pt.2.2.2.2.2.2.2.has h rfl q)
    · simp [chkE] at hck
  case astore i =>
    rcases aux with _ | ⟨k, _ | ⟨k9, aux⟩⟩
    · simp [chkE] at hck
    · simp only [chkE, Bool.and_eq_true, Bool.or_eq_true, decide_eq_true_eq] at hck
      obtain ⟨rfl, rfl⟩ := hck
      exact W_astore (k := i) (n := pc + 2) hp pt hcl hsl K (fun x rest h q => lv_astore hx hb hdec pt.2.2.2.2.2.2.2.has h rfl q) (fun rest h q => lv_astoreN hx hb hdec pt.2.2.2.2.2.2.2.has h rfl q)
    · simp [chkE] at hck
  case iinc i n =>
    rcases aux with _ | ⟨k, _ | ⟨k9, aux⟩⟩
    · simp [chkE] at hck
    · simp only [chkE, Bool.and_eq_true, Bool.or_eq_true, decide_eq_true_eq] at hck
      obtain ⟨⟨rfl, rfl⟩, rfl⟩ := hck
      exact W_iinc (k := i) (n := pc + 3) hp pt hcl hsl K (fun j x h1 h q => lv_iinc hx hb hdec pt.2.2.2.2.2.2.2.has h1 rfl h rfl q)
    · simp [chkE] at hck
  case iadd =>
    simp only [chkE, Bool.and_eq_true, Bool.or_eq_true, decide_eq_true_eq] at hck
    subst hck
    exact W_bin (n := pc + 1) (fun x y => x + y) (fun x y => of_add x y) (fun _ _ => wr_in _) hp pt hcl hsl K (fun x y rest k => lv_iadd hx hb hdec k)
  case isub =>
    simp only [chkE, Bool.and_eq_true, Bool.or_eq_true, decide_eq_true_eq] at hck
    subst hck
    exact W_bin (n := pc + 1) (fun x y => x - y) (fun x y => of_sub x y) (fun _ _ => wr_in _) hp pt hcl hsl K (fun x y rest k => lv_isub hx hb hdec k)
  case imul =>
    simp only [chkE, Bool.and_eq_true, Bool.or_eq_true, decide_eq_true_eq] at hck
    subst hck
    exact W_bin (n := pc + 1) (fun x y => x * y) (fun x y => of_mul x y) (fun _ _ => wr_in _) hp pt hcl hsl K (fun x y rest k => lv_imul hx hb hdec k)
  case iand =>
    simp only [chkE, Bool.and_eq_true, Bool.or_eq_true, decide_eq_true_eq] at hck
    subst hck
    exact W_bin (n := pc + 1) (fun x y => x &&& y) (fun x y => (b32_of (fun x y => x &&& y) x y).symm) (fun _ _ => b32_in _ _ _) hp pt hcl hsl K (fun x y rest k => lv_iand hx hb hdec k)
  case ior =>
    simp only [chkE, Bool.and_eq_true, Bool.or_eq_true, decide_eq_true_eq] at hck
    subst hck
    exact W_bin (n := pc + 1) (fun x y => x ||| y) (fun x y => (b32_of (fun x y => x ||| y) x y).symm) (fun _ _ => b32_in _ _ _) hp pt hcl hsl K (fun x y rest k => lv_ior hx hb hdec k)
  case ixor =>
    simp only [chkE, Bool.and_eq_true, Bool.or_eq_true, decide_eq_true_eq] at hck
    subst hck
    exact W_bin (n := pc + 1) (fun x y => x ^^^ y) (fun x y => (b32_of (fun x y => x ^^^ y) x y).symm) (fun _ _ => b32_in _ _ _) hp pt hcl hsl K (fun x y rest k => lv_ixor hx hb hdec k)
  case ishl =>
    simp only [chkE, Bool.and_eq_true, Bool.or_eq_true, decide_eq_true_eq] at hck
    subst hck
    exact W_bin (n := pc + 1) (fun x y => x <<< (y &&& 31)) (fun x y => (b32_of (fun x y => x <<< (y &&& 31)) x y).symm) (fun _ _ => b32_in _ _ _) hp pt hcl hsl K (fun x y rest k => lv_ishl hx hb hdec k)
  case ishr =>
    simp only [chkE, Bool.and_eq_true, Bool.or_eq_true, decide_eq_true_eq] at hck
    subst hck
    exact W_bin (n := pc + 1) (fun x y => x >>> (y &&& 31)) (fun x y => (b32_of (fun x y => x >>> (y &&& 31)) x y).symm) (fun _ _ => b32_in _ _ _) hp pt hcl hsl K (fun x y rest k => lv_ishr hx hb hdec k)
  case iushr =>
    simp only [chkE, Bool.and_eq_true, Bool.or_eq_true, decide_eq_true_eq] at hck
    subst hck
    exact W_bin (n := pc + 1) (fun x y => (x.toUInt32 >>> (y.toUInt32 &&& Int32.toUInt32 31)).toInt32) (fun x y => (b32_of (fun x y => (x.toUInt32 >>> (y.toUInt32 &&& Int32.toUInt32 31)).toInt32) x y).symm) (fun _ _ => b32_in _ _ _) hp pt hcl hsl K (fun x y rest k => lv_iushr hx hb hdec rfl k)
  case idiv =>
    simp only [chkE, Bool.and_eq_true, Bool.or_eq_true, decide_eq_true_eq] at hck
    subst hck
    exact W_div (n := pc + 1) (fun x y => x / y) (fun x y => (b32_of (fun x y => x / y) x y).symm) (fun _ _ => b32_in _ _ _) hp pt hcl hsl K (fun x y rest h k => lv_idiv hx hb hdec h k)
  case irem =>
    simp only [chkE, Bool.and_eq_true, Bool.or_eq_true, decide_eq_true_eq] at hck
    subst hck
    exact W_div (n := pc + 1) (fun x y => x - x / y * y) (fun x y => (b32_of (fun x y => x - x / y * y) x y).symm) (fun _ _ => b32_in _ _ _) hp pt hcl hsl K (fun x y rest h k => lv_irem hx hb hdec h k)
  case ineg =>
    simp only [chkE, Bool.and_eq_true, Bool.or_eq_true, decide_eq_true_eq] at hck
    subst hck
    exact W_neg (n := pc + 1) hp pt hcl hsl K (fun x rest k => lv_ineg hx hb hdec k)
  case dup =>
    simp only [chkE, Bool.and_eq_true, Bool.or_eq_true, decide_eq_true_eq] at hck
    subst hck
    exact W_dup (n := pc + 1) hp pt hcl hsl K (fun x rest h k => lv_dup hx hb hdec h k)
  case dup2 =>
    simp only [chkE, Bool.and_eq_true, Bool.or_eq_true, decide_eq_true_eq] at hck
    subst hck
    exact W_dup2 (n := pc + 1) hp pt hcl hsl K (fun y x rest h h2 k => lv_dup2_11 hx hb hdec h h2 k)
  case pop =>
    simp only [chkE, Bool.and_eq_true, Bool.or_eq_true, decide_eq_true_eq] at hck
    subst hck
    exact W_pop (n := pc + 1) hp pt hcl hsl K (fun x rest h k => lv_pop hx hb hdec h k)
  case goto off =>
    rcases aux with _ | ⟨t, _ | ⟨k9, aux⟩⟩
    · simp [chkE] at hck
    · simp only [chkE, Bool.and_eq_true, Bool.or_eq_true, decide_eq_true_eq] at hck
      obtain ⟨h1, rfl⟩ := hck
      exact W_goto (t := t) hp pt hcl hsl K (fun k => lv_goto hx hb hdec h1 k)
    · simp [chkE] at hck
  case ifCond cd off =>
    rcases aux with _ | ⟨t, _ | ⟨k9, aux⟩⟩
    · simp [chkE] at hck
    · simp only [chkE, Bool.and_eq_true, Bool.or_eq_true, decide_eq_true_eq] at hck
      obtain ⟨h1, rfl⟩ := hck
      cases cd
      · exact W_if (t := t) (n := pc + 3) hp pt hcl hsl K (fun x rest hxr kt kf => lv_if_eq hx hb hdec h1 (fun h => kt (by simp only [cnd, beq_iff_eq]; exact (of_eq hxr in0).mp (h.trans of_0.symm))) (fun h => kf (by simp only [cnd, beq_iff_eq]; exact fun q => h (((of_eq hxr in0).mpr q).trans of_0))))
      · exact W_if (t := t) (n := pc + 3) hp pt hcl hsl K (fun x rest hxr kt kf => lv_if_ne hx hb hdec h1 (fun h => kt (by simp only [cnd, bne_iff_ne]; exact fun q => h (((of_eq hxr in0).mpr q).trans of_0))) (fun h => kf (by simp only [cnd, bne_iff_ne, Classical.not_not]; exact (of_eq hxr in0).mp (h.trans of_0.symm))))
      · exact W_if (t := t) (n := pc + 3) hp pt hcl hsl K (fun x rest hxr kt kf => lv_if_lt hx hb hdec h1 (fun h => kt (by simp only [cnd, decide_eq_true_eq]; exact (of_lt hxr in0).mp (by rw [← of_0] at h; exact h))) (fun h => kf (by simp only [cnd, decide_eq_true_eq]; exact fun q => h (by rw [← of_0]; exact (of_lt hxr in0).mpr q))))
      · exact W_if (t := t) (n := pc + 3) hp pt hcl hsl K (fun x rest hxr kt kf => lv_if_ge hx hb hdec h1 (fun h => kt (by simp only [cnd, decide_eq_true_eq]; exact (of_le in0 hxr).mp (by rw [← of_0] at h; exact h))) (fun h => kf (by simp only [cnd, decide_eq_true_eq]; exact fun q => h (by rw [← of_0]; exact (of_le in0 hxr).mpr q))))
      · exact W_if (t := t) (n := pc + 3) hp pt hcl hsl K (fun x rest hxr kt kf => lv_if_gt hx hb hdec h1 (fun h => kt (by simp only [cnd, decide_eq_true_eq]; exact (of_lt in0 hxr).mp (by rw [← of_0] at h; exact h))) (fun h => kf (by simp only [cnd, decide_eq_true_eq]; exact fun q => h (by rw [← of_0]; exact (of_lt in0 hxr).mpr q))))
      · exact W_if (t := t) (n := pc + 3) hp pt hcl hsl K (fun x rest hxr kt kf => lv_if_le hx hb hdec h1 (fun h => kt (by simp only [cnd, decide_eq_true_eq]; exact (of_le hxr in0).mp (by rw [← of_0] at h; exact h))) (fun h => kf (by simp only [cnd, decide_eq_true_eq]; exact fun q => h (by rw [← of_0]; exact (of_le hxr in0).mpr q))))
    · simp [chkE] at hck
  case if_icmp cd off =>
    rcases aux with _ | ⟨t, _ | ⟨k9, aux⟩⟩
    · simp [chkE] at hck
    · simp only [chkE, Bool.and_eq_true, Bool.or_eq_true, decide_eq_true_eq] at hck
      obtain ⟨h1, rfl⟩ := hck
      cases cd
      · exact W_icmp (t := t) (n := pc + 3) hp pt hcl hsl K (fun x y rest hxr hyr kt kf => lv_icmp_eq hx hb hdec h1 (fun h => kt (by simp only [cnd, beq_iff_eq]; exact (of_eq hxr hyr).mp h)) (fun h => kf (by simp only [cnd, beq_iff_eq]; exact fun q => h ((of_eq hxr hyr).mpr q))))
      · exact W_icmp (t := t) (n := pc + 3) hp pt hcl hsl K (fun x y rest hxr hyr kt kf => lv_icmp_ne hx hb hdec h1 (fun h => kt (by simp only [cnd, bne_iff_ne]; exact fun q => h ((of_eq hxr hyr).mpr q))) (fun h => kf (by simp only [cnd, bne_iff_ne, Classical.not_not]; exact (of_eq hxr hyr).mp h)))
      · exact W_icmp (t := t) (n := pc + 3) hp pt hcl hsl K (fun x y rest hxr hyr kt kf => lv_icmp_lt hx hb hdec h1 (fun h => kt (by simp only [cnd, decide_eq_true_eq]; exact (of_lt hxr hyr).mp h)) (fun h => kf (by simp only [cnd, decide_eq_true_eq]; exact fun q => h ((of_lt hxr hyr).mpr q))))
      · exact W_icmp (t := t) (n := pc + 3) hp pt hcl hsl K (fun x y rest hxr hyr kt kf => lv_icmp_ge hx hb hdec h1 (fun h => kt (by simp only [cnd, decide_eq_true_eq]; exact (of_le hyr hxr).mp h)) (fun h => kf (by simp only [cnd, decide_eq_true_eq]; exact fun q => h ((of_le hyr hxr).mpr q))))
      · exact W_icmp (t := t) (n := pc + 3) hp pt hcl hsl K (fun x y rest hxr hyr kt kf => lv_icmp_gt hx hb hdec h1 (fun h => kt (by simp only [cnd, decide_eq_true_eq]; exact (of_lt hyr hxr).mp h)) (fun h => kf (by simp only [cnd, decide_eq_true_eq]; exact fun q => h ((of_lt hyr hxr).mpr q))))
      · exact W_icmp (t := t) (n := pc + 3) hp pt hcl hsl K (fun x y rest hxr hyr kt kf => lv_icmp_le hx hb hdec h1 (fun h => kt (by simp only [cnd, decide_eq_true_eq]; exact (of_le hxr hyr).mp h)) (fun h => kf (by simp only [cnd, decide_eq_true_eq]; exact fun q => h ((of_le hxr hyr).mpr q))))
    · simp [chkE] at hck
  case ifnull off =>
    rcases aux with _ | ⟨t, _ | ⟨k9, aux⟩⟩
    · simp [chkE] at hck
    · simp only [chkE, Bool.and_eq_true, Bool.or_eq_true, decide_eq_true_eq] at hck
      obtain ⟨h1, rfl⟩ := hck
      exact W_ifnull (t := t) (n := pc + 3) hp pt hcl hsl K (fun x rest k => lv_ifnull hx hb hdec k) (fun rest k => lv_ifnullN hx hb hdec h1 k)
    · simp [chkE] at hck
  case ifnonnull off =>
    rcases aux with _ | ⟨t, _ | ⟨k9, aux⟩⟩
    · simp [chkE] at hck
    · simp only [chkE, Bool.and_eq_true, Bool.or_eq_true, decide_eq_true_eq] at hck
      obtain ⟨h1, rfl⟩ := hck
      exact W_ifnull (t := pc + 3) (n := t) hp pt hcl hsl K (fun x rest k => lv_ifnonnull hx hb hdec h1 k) (fun rest k => lv_ifnonnullN hx hb hdec k)
    · simp [chkE] at hck
  case tableswitch df lo hi offs =>
    rcases aux with _ | ⟨d1, tb⟩
    · simp [chkE] at hck
    · simp only [chkE, Bool.and_eq_true, Bool.or_eq_true, decide_eq_true_eq] at hck
      obtain ⟨⟨h1, h2⟩, h3⟩ := hck
      refine W_switch (d := d1) (tb := tb) hp pt hcl hsl K (fun x rest hxr k => ?_)
      by_cases hin : x < lo ∨ lo + (offs.toList.length : Int) ≤ x
      · rw [tsw_out lo offs.toList tb h2 hin] at k
        exact lv_tableOut hx hb hdec (by rw [to_of hxr]; omega) h1 k
      · obtain ⟨off, e1, e2⟩ := tsw_in (d' := d1) (x := x) lo offs.toList tb h2 (by omega) (by omega)
        exact lv_tableIn hx hb hdec (by rw [to_of hxr]; omega) (by rw [to_of hxr]; omega) (by rw [to_of hxr, ← Array.getElem?_toList]; exact e1) e2 k
  case lookupswitch df ps =>
    rcases aux with _ | ⟨d1, tb⟩
    · simp [chkE] at hck
    · simp only [chkE, Bool.and_eq_true, decide_eq_true_eq] at hck
      obtain ⟨⟨h1, h2⟩, h3⟩ := hck
      refine W_switch (d := d1) (tb := tb) hp pt hcl hsl K (fun x rest hxr k => ?_)
      exact lv_lookup hx hb hdec h3 rfl (by rw [to_of hxr]; exact lsw_off h1 ps.toList tb h2) k
  case getfield i =>
    rcases aux with _ | ⟨ci, _ | ⟨j, _ | ⟨t, _ | ⟨ix, _ | ⟨k9, aux⟩⟩⟩⟩⟩
    · simp [chkE] at hck
    · simp [chkE] at hck
    · simp [chkE] at hck
    · simp [chkE] at hck
    · simp only [chkE, Bool.and_eq_true, Bool.or_eq_true, decide_eq_true_eq] at hck
      obtain ⟨h1, rfl⟩ := hck
      exact W_get cx h1 hdec hp pt hcl hsl K
    · simp [chkE] at hck
  case putfield i =>
    rcases aux with _ | ⟨ci, _ | ⟨j, _ | ⟨t, _ | ⟨ix, _ | ⟨k9, aux⟩⟩⟩⟩⟩
    · simp [chkE] at hck
    · simp [chkE] at hck
    · simp [chkE] at hck
    · simp [chkE] at hck
    · simp only [chkE, Bool.and_eq_true, Bool.or_eq_true, decide_eq_true_eq, Bool.not_eq_true'] at hck
      obtain ⟨⟨h1, rfl⟩, h3⟩ := hck
      exact W_put cx h1 (fun h => h3.resolve_left (by rw [h]; simp)) hdec hp pt hcl hsl K
    · simp [chkE] at hck
  case iaload =>
    simp only [chkE, Bool.and_eq_true, Bool.or_eq_true, decide_eq_true_eq] at hck
    subst hck
    exact W_iald cx hdec hp pt hcl hsl K
  case iastore =>
    simp only [chkE, Bool.and_eq_true, Bool.or_eq_true, decide_eq_true_eq] at hck
    subst hck
    exact W_iast cx hdec hp pt hcl hsl K
  case aaload =>
    simp only [chkE, Bool.and_eq_true, Bool.or_eq_true, decide_eq_true_eq] at hck
    subst hck
    exact W_aald cx hdec hp pt hcl hsl K
  case aastore =>
    simp only [chkE, Bool.and_eq_true, Bool.or_eq_true, decide_eq_true_eq] at hck
    subst hck
    exact W_aast cx hdec hp pt hcl hsl K
  case arraylength =>
    simp only [chkE, Bool.and_eq_true, Bool.or_eq_true, decide_eq_true_eq] at hck
    subst hck
    exact W_alen cx hdec hp pt hcl hsl K
  case new i =>
    rcases aux with _ | ⟨ci, _ | ⟨N, _ | ⟨ix, _ | ⟨k9, aux⟩⟩⟩⟩
    · simp [chkE] at hck
    · simp [chkE] at hck
    · simp [chkE] at hck
    · simp only [chkE, Bool.and_eq_true, Bool.or_eq_true, decide_eq_true_eq] at hck
      obtain ⟨⟨h1, rfl⟩, rfl⟩ := hck
      exact W_new cx h1 hdec hp pt hcl hsl hRc hRs K
    · simp [chkE] at hck
  case newarray at_ =>
    cases at_ <;> first
      | (simp [chkE] at hck; done)
      | (simp only [chkE, decide_eq_true_eq] at hck
         subst hck
         exact W_newa cx hdec hp pt hcl hsl hRc hRs K)
  case anewarray i =>
    rcases aux with _ | ⟨ci, _ | ⟨ix, _ | ⟨ox, _ | ⟨k9, aux⟩⟩⟩⟩
    · simp [chkE] at hck
    · simp [chkE] at hck
    · simp [chkE] at hck
    · simp only [chkE, Bool.and_eq_true, Bool.or_eq_true, decide_eq_true_eq] at hck
      obtain ⟨⟨h1, h2⟩, rfl⟩ := hck
      exact W_anew cx h1 h2 hdec hp pt hcl hsl hRc hRs K
    · simp [chkE] at hck
  case invokevirtual i =>
    rcases aux with _ | ⟨ci, _ | ⟨N, _ | ⟨ix, _ | ⟨k9, aux⟩⟩⟩⟩
    · simp [chkE] at hck
    · simp [chkE] at hck
    · simp [chkE] at hck
    · exfalso
      have hp : p_virt (ownOf ci) ci N (pc + len) ls st M = some (.inl (pc', ls', st', M')) := hp
      unfold p_virt at hp
      split at hp
      · split at hp <;> cases hp
      · cases hp
    · simp [chkE] at hck
  case invokestatic i =>
    rcases aux with _ | ⟨ci, _ | ⟨N, _ | ⟨ix, _ | ⟨k9, aux⟩⟩⟩⟩
    · simp [chkE] at hck
    · simp only [chkE, Bool.and_eq_true, Bool.or_eq_true, decide_eq_true_eq] at hck
      obtain ⟨h1, rfl⟩ := hck
      exact W_acopy cx h1 hdec hp pt hcl hsl K
    · simp only [chkE, Bool.and_eq_true, Bool.or_eq_true, decide_eq_true_eq] at hck
      obtain ⟨h1, rfl⟩ := hck
      exact W_math cx h1 hdec hR0.1 hR0.2 hp pt hcl hsl K
    · exfalso
      have hp : p_call ci N (pc + len) ls st M = some (.inl (pc', ls', st', M')) := hp
      unfold p_call at hp
      split at hp
      · split at hp <;> cases hp
      · cases hp
    · simp [chkE] at hck
  case invokespecial i =>
    rcases aux with _ | ⟨ci, _ | ⟨N, _ | ⟨ix, _ | ⟨k9, aux⟩⟩⟩⟩
    · simp [chkE] at hck
    · simp only [chkE, Bool.and_eq_true, Bool.or_eq_true, decide_eq_true_eq] at hck
      obtain ⟨h1, rfl⟩ := hck
      exact W_objinit cx h1 hdec hp pt hcl hsl K
    · simp [chkE] at hck
    · exfalso
      have hp : p_virt (ownOf ci) ci N (pc + len) ls st M = some (.inl (pc', ls', st', M')) := hp
      unfold p_virt at hp
      split at hp
      · split at hp <;> cases hp
      · cases hp
    · simp [chkE] at hck
  case ireturn =>
    rcases aux with _ | ⟨zz, _ | ⟨k9, aux⟩⟩
    · simp [chkE] at hck
    · exfalso
      have hp : p_iret zz st M = some (.inl (pc', ls', st', M')) := hp
      unfold p_iret at hp
      split at hp
      · split at hp <;> cases hp
      · cases hp
    · simp [chkE] at hck
  case areturn =>
    exfalso
    have hp : p_aret st M = some (.inl (pc', ls', st', M')) := hp
    unfold p_aret at hp
    split at hp <;> cases hp
  case return_ =>
    exfalso
    have hp : p_vret st M = some (.inl (pc', ls', st', M')) := hp
    unfold p_vret at hp
    split at hp <;> cases hp
  all_goals (exfalso; simp [chkE] at hck)
end STEP
