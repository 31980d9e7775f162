/-! THE TABLES: what the code's links say, by their places; each method's code checked once -/
def gtbl : List Cond := lw_tbl.filter goodWord
theorem mg {i : Nat} {w : Cond} (h : lw_tbl[i]? = some w) (hg : goodWord w = true) : w ∈ gtbl := List.mem_filter.mpr ⟨List.mem_of_getElem? h, hg⟩
def tyOK (t : Nat) (ty : FieldType) : Bool := match ty with
  | .int => t == 0
  | .boolean => t == 2
  | .object _ => t == 1
  | .array _ => t == 1
  | _ => false
def FTc (q : Nat × Nat × Nat × Nat × Nat × Nat) : Bool := decide (lw_tbl[q.2.2.2.2.2]? = some (Cond.fieldLink (RS q.1) q.2.1 (RS q.2.2.1) (TT q.2.2.1 q.2.2.2.1).2.1 (TT q.2.2.1 q.2.2.2.1).2.2.1)) && decide (q.2.2.1 < 10) && decide (q.2.2.2.1 < NF q.2.2.1) && tyOK q.2.2.2.2.1 (tyT q.2.2.1 q.2.2.2.1) && decide ((TT q.2.2.1 q.2.2.2.1).1 = RS q.2.2.1)
set_option maxRecDepth 100000 in
theorem FT_ok : FT.all FTc = true := by decide +kernel
def KTc (q : Nat × Nat × Int × Nat) : Bool := decide (lw_tbl[q.2.2.2]? = some (Cond.constant (RS q.1) q.2.1 (Int32.ofInt q.2.2.1))) && decide (-2147483648 ≤ q.2.2.1 ∧ q.2.2.1 < 2147483648)
set_option maxRecDepth 100000 in
theorem KT_ok : KT.all KTc = true := by decide +kernel
def CTc (q : Nat × Nat × Nat × Nat) : Bool := decide (lw_tbl[q.2.2.2]? = some (Cond.classLink (RS q.1) q.2.1 (RS q.2.2.1))) && decide (q.2.2.1 < 10)
set_option maxRecDepth 100000 in
theorem CT_ok : CT.all CTc = true := by decide +kernel
def OTc (q : Nat × Nat × Nat) : Bool := decide (lw_tbl[q.2.2]? = some (Cond.methodLink (RS q.1) q.2.1 objectInit))
set_option maxRecDepth 100000 in
theorem OT_ok : OT.all OTc = true := by decide +kernel
def YTc (q : Nat × Nat × Nat) : Bool := decide (lw_tbl[q.2.2]? = some (Cond.methodLink (RS q.1) q.2.1 arraycopyName))
set_option maxRecDepth 100000 in
theorem YT_ok : YT.all YTc = true := by decide +kernel
def mthN (w : Nat) : MethodName := match w with
  | 0 => Lib.Math.max.name
  | 1 => Lib.Math.min.name
  | _ => Lib.Math.abs.name
def HTc (q : Nat × Nat × Nat × Nat) : Bool := decide (lw_tbl[q.2.2.2]? = some (Cond.methodLink (RS q.1) q.2.1 (mthN q.2.2.1)))
set_option maxRecDepth 100000 in
theorem HT_ok : HT.all HTc = true := by decide +kernel
def hw : List Cond := [.static Lib.Math.max.name, .code Lib.Math.max.name Lib.Math.max.code 2 (some .int), .static Lib.Math.min.name, .code Lib.Math.min.name Lib.Math.min.code 2 (some .int), .static Lib.Math.abs.name, .code Lib.Math.abs.name Lib.Math.abs.code 1 (some .int), .initialized "java/lang/Math"]
set_option maxRecDepth 100000 in
theorem hw_ok : ∀ i, i < 7 → lw_tbl[hP.getD i 0]? = hw[i]? := by decide +kernel
def yOf (mid : Nat) : MethodName := match MT[mid]? with
  | some r => r.1
  | none => ⟨"", "", ""⟩
def nestW (q : Nat × Nat × Nat × Nat) : Cond := Cond.methodLinkNest (RS q.1) q.2.1 (yOf q.2.2.1) "GraphSaver"
def NTc (q : Nat × Nat × Nat × Nat) : Bool := decide (lw_tbl[q.2.2.2]? = some (nestW q))
set_option maxRecDepth 100000 in
theorem NT_ok : NT.all NTc = true := by decide +kernel
def LTc (q : Nat × Nat × Nat × Nat × Nat × Nat × Nat × Nat × Nat) : Bool :=
  let own := q.1
  let idx := q.2.1
  let mid := q.2.2.1
  let na := q.2.2.2.1
  let kind := q.2.2.2.2.1
  let p1 := q.2.2.2.2.2.1
  let p2 := q.2.2.2.2.2.2.1
  let p3 := q.2.2.2.2.2.2.2.1
  let p4 := q.2.2.2.2.2.2.2.2
  let y := yOf mid
  decide (mid < 209) && decide (lw_tbl[p4]? = some (Cond.initialized y.cls)) && decide ((parseMethodDescriptor y.desc).map (fun d => d.parameters.length) = some na) &&
  (if kind = 0 then decide (lw_tbl[p1]? = some (Cond.methodLink (RS own) idx y)) && decide (lw_tbl[p2]? = some (Cond.instanceMethod y)) && decide (lw_tbl[p3]? = some (Cond.selects y.cls y y)) && decide (ownOf mid < 10)
  else if kind = 1 then decide (lw_tbl[p1]? = some (Cond.methodLink (RS own) idx y)) && decide (lw_tbl[p2]? = some (Cond.static y))
  else if kind = 2 then decide (lw_tbl[p1]? = some (Cond.methodLink (RS own) idx y)) && decide (lw_tbl[p2]? = some (Cond.instanceMethod y)) && decide (y.name = "<init>")
  else if kind = 3 then decide (NT[p1]?.map (fun q => (q.1, q.2.1, q.2.2.1)) = some (own, idx, mid)) && decide (lw_tbl[p2]? = some (Cond.static y))
  else if kind = 4 then decide (NT[p1]?.map (fun q => (q.1, q.2.1, q.2.2.1)) = some (own, idx, mid)) && decide (lw_tbl[p2]? = some (Cond.instanceMethod y)) && decide (y.name = "<init>")
  else false)
set_option maxRecDepth 100000 in
theorem LT_ok : LT.all LTc = true := by decide +kernel
def xw : List Cond := [.instanceMethod objectInit, .code objectInit ⟨#[0xb1]⟩ 1 none, .native arraycopyName, .static arraycopyName, .initialized "java/lang/System", .arrayClass .int]
set_option maxRecDepth 100000 in
theorem xw_ok : ∀ i, i < 6 → lw_tbl[xP.getD i 0]? = xw[i]? := by decide +kernel
set_option maxRecDepth 100000 in
theorem inst_ok : ∀ c, c < 10 → lw_tbl[instP.getD c 0]? = some (Cond.instantiable (RS c) (NF c)) := by decide +kernel
set_option maxRecDepth 100000 in
theorem init_ok : ∀ c, c < 10 → lw_tbl[initP.getD c 0]? = some (Cond.initialized (RS c)) := by decide +kernel
set_option maxRecDepth 100000 in
theorem over_ok : ∀ q ∈ overP, lw_tbl[q.2]? = some (Cond.arrayOver (.object (RS q.1))) := by decide +kernel
set_option maxRecDepth 100000 in
theorem lay_ok : ∀ c, c < 10 → ∀ k, k < NF c → lw_tbl[(layP.getD c []).getD k 0]? = some (u_lay (RS c) (TT c) k) := by decide +kernel
theorem ty_ok : ∀ c, c < 10 → ∀ k, k < NF c → parseFieldDescriptor (TT c k).2.2.1 = some (tyT c k) := by decide +kernel
theorem nm_ok : ∀ c, c < 10 → ∀ a, a < NF c → ∀ b, b < NF c → a ≠ b → (TT c a).2.1 ≠ (TT c b).2.1 := by decide +kernel
theorem cls_ok : ∀ c, c < 10 → CLS[c]? = some (RS c, TT c, NF c) := by
  intro c hc
  rcases (show c = 0 ∨ c = 1 ∨ c = 2 ∨ c = 3 ∨ c = 4 ∨ c = 5 ∨ c = 6 ∨ c = 7 ∨ c = 8 ∨ c = 9 by omega) with h | h | h | h | h | h | h | h | h | h <;> subst h <;> rfl
theorem lays_in : ∀ c, c < 10 → ∀ w ∈ u_ws (RS c) (TT c) (NF c), w ∈ gtbl := by
  intro c hc w hw
  obtain ⟨k, hk, rfl⟩ := List.mem_map.mp hw
  refine mg (lay_ok c hc k (List.mem_range.mp hk)) ?_
  unfold u_lay
  split <;> rfl
def tsw (pc : Nat) : Int → List Int → List Nat → Bool
  | _, [], [] => true
  | lo, o :: os, v :: t :: r => decide ((v : Int) = lo) && decide ((pc : Int) + o = (t : Int)) && tsw pc (lo + 1) os r
  | _, _, _ => false
def lsw (pc : Nat) : List (Int × Int) → List Nat → Bool
  | [], [] => true
  | p :: ps, v :: t :: r => decide ((v : Int) = p.1) && decide ((pc : Int) + p.2 = (t : Int)) && lsw pc ps r
  | _, _ => false
/-- an entry is what stands in the bytes, and its links are in the tables -/
def chkE (own maxL : Nat) (nm : String) (ret : Option FieldType) (e : Ent) : Bool :=
  let pc := e.1
  let z := e.2.2.2.2
  let L := e.2.2.1
  match e.2.1, e.2.2.2.1 with
  | .iconst n, _ => decide (z = n) && decide (-128 ≤ n ∧ n < 128) && decide (L = 1)
  | .bipush n, _ => decide (z = n) && decide (-128 ≤ n ∧ n < 128) && decide (L = 2)
  | .sipush n, _ => decide (z = n) && decide (-32768 ≤ n ∧ n < 32768) && decide (L = 3)
  | .ldc i, [ix] => decide ((KT[ix]?).map (fun q => (q.1, q.2.1, q.2.2.1)) = some (own, i, z)) && decide (L = 2)
  | .ldc_w i, [ix] => decide ((KT[ix]?).map (fun q => (q.1, q.2.1, q.2.2.1)) = some (own, i, z)) && decide (L = 3)
  | .aconst_null, _ => decide (L = 1)
  | .iload_n i, [k] => decide (i.val = k) && decide (L = 1)
  | .iload i, [k] => decide (i = k) && decide (L = 2)
  | .aload_n i, [k] => decide (i.val = k) && decide (L = 1)
  | .aload i, [k] => decide (i = k) && decide (L = 2)
  | .istore_n i, [k] => decide (i.val = k) && decide (L = 1)
  | .istore i, [k] => decide (i = k) && decide (L = 2)
  | .astore_n i, [k] => decide (i.val = k) && decide (L = 1)
  | .astore i, [k] => decide (i = k) && decide (L = 2)
  | .iinc i n, [k] => decide (i = k) && decide (z = n) && decide (L = 3)
  | .iadd, _ => decide (L = 1)
  | .isub, _ => decide (L = 1)
  | .imul, _ => decide (L = 1)
  | .iand, _ => decide (L = 1)
  | .ior, _ => decide (L = 1)
  | .ixor, _ => decide (L = 1)
  | .ishl, _ => decide (L = 1)
  | .ishr, _ => decide (L = 1)
  | .iushr, _ => decide (L = 1)
  | .idiv, _ => decide (L = 1)
  | .irem, _ => decide (L = 1)
  | .ineg, _ => decide (L = 1)
  | .dup, _ => decide (L = 1)
  | .dup2, _ => decide (L = 1)
  | .pop, _ => decide (L = 1)
  | .goto o, [t] => decide ((pc : Int) + o = (t : Int)) && decide (L = 3)
  | .ifCond _ o, [t] => decide ((pc : Int) + o = (t : Int)) && decide (L = 3)
  | .if_icmp _ o, [t] => decide ((pc : Int) + o = (t : Int)) && decide (L = 3)
  | .ifnull o, [t] => decide ((pc : Int) + o = (t : Int)) && decide (L = 3)
  | .ifnonnull o, [t] => decide ((pc : Int) + o = (t : Int)) && decide (L = 3)
  | .tableswitch d lo hi offs, d' :: tb => decide ((pc : Int) + d = (d' : Int)) && tsw pc lo offs.toList tb && decide (hi = lo + (offs.toList.length : Int) - 1)
  | .lookupswitch d ps, d' :: tb => decide ((pc : Int) + d = (d' : Int)) && lsw pc ps.toList tb && (ps.toList.zip (ps.toList.drop 1)).all (fun (a, next) => a.1 < next.1)
  | .getfield i, [ci, j, t, ix] => decide ((FT[ix]?).map (fun q => (q.1, q.2.1, q.2.2.1, q.2.2.2.1, q.2.2.2.2.1)) = some (own, i, ci, j, t)) && decide (L = 3)
  | .putfield i, [ci, j, t, ix] => decide ((FT[ix]?).map (fun q => (q.1, q.2.1, q.2.2.1, q.2.2.2.1, q.2.2.2.2.1)) = some (own, i, ci, j, t)) && decide (L = 3) && (!(TT ci j).2.2.2 || (decide (nm = "<init>") && decide (own = ci)))
  | .iaload, _ => decide (L = 1)
  | .iastore, _ => decide (L = 1)
  | .aaload, _ => decide (L = 1)
  | .aastore, _ => decide (L = 1)
  | .arraylength, _ => decide (L = 1)
  | .new i, [ci, N, ix] => decide ((CT[ix]?).map (fun q => (q.1, q.2.1, q.2.2.1)) = some (own, i, ci)) && decide (N = NF ci) && decide (L = 3)
  | .newarray .int, _ => decide (L = 2)
  | .anewarray i, [ci, ix, ox] => decide ((CT[ix]?).map (fun q => (q.1, q.2.1, q.2.2.1)) = some (own, i, ci)) && decide ((overP[ox]?).map (fun q => q.1) = some ci) && decide (L = 3)
  | .invokevirtual i, [mid, na, ix] => decide ((LT[ix]?).map (fun q => (q.1, q.2.1, q.2.2.1, q.2.2.2.1, q.2.2.2.2.1)) = some (own, i, mid, na, 0)) && decide (L = 3)
  | .invokestatic i, [mid, na, ix] => (decide ((LT[ix]?).map (fun q => (q.1, q.2.1, q.2.2.1, q.2.2.2.1, q.2.2.2.2.1)) = some (own, i, mid, na, 1)) || decide ((LT[ix]?).map (fun q => (q.1, q.2.1, q.2.2.1, q.2.2.2.1, q.2.2.2.2.1)) = some (own, i, mid, na, 3))) && decide (L = 3)
  | .invokestatic i, [ix] => decide ((YT[ix]?).map (fun q => (q.1, q.2.1)) = some (own, i)) && decide (L = 3)
  | .invokestatic i, [w, ix] => decide ((HT[ix]?).map (fun q => (q.1, q.2.1, q.2.2.1)) = some (own, i, w)) && decide (L = 3)
  | .invokespecial i, [mid, na, ix] => (decide ((LT[ix]?).map (fun q => (q.1, q.2.1, q.2.2.1, q.2.2.2.1, q.2.2.2.2.1)) = some (own, i, mid, na, 2)) || decide ((LT[ix]?).map (fun q => (q.1, q.2.1, q.2.2.1, q.2.2.2.1, q.2.2.2.2.1)) = some (own, i, mid, na, 4))) && decide (L = 3)
  | .invokespecial i, [ix] => decide ((OT[ix]?).map (fun q => (q.1, q.2.1)) = some (own, i)) && decide (L = 3)
  | .ireturn, [z] => (decide (z = 1 ∧ ret = some .boolean) || decide (z = 0 ∧ ret = some .int)) && decide (L = 1)
  | .areturn, _ => (match ret with
    | some (.object _) => true
    | _ => false) && decide (L = 1)
  | .return_, _ => decide (ret = none) && decide (L = 1)
  | _, _ => false
def chkX (r : MR) (e : Ent) : Bool := decide (decode r.2.1 e.1 = .ok (e.2.1, e.2.2.1)) && chkE r.2.2.2.2.1 r.2.2.1 r.1.name r.2.2.2.1 e
def chkH (r : MR) : Bool := decide (r.1.cls = RS r.2.2.2.2.1) && plainName r.1.cls && decide (r.2.2.1 ≤ 9) && decide (r.1.cls ≠ "java/lang/invoke/MethodHandle") && decide (r.1.cls ≠ "java/lang/invoke/VarHandle")
set_option maxRecDepth 100000 in
theorem MT_H : MT.all chkH = true := by decide +kernel
/-- what the soundness wants of the methods: proved at the end -/
def MTgood : Prop := (∀ (i : Nat) (r : MR), MT[i]? = some r → ∀ e ∈ r.2.2.2.2.2, chkX r e = true) ∧ ∀ (i : Nat) (r : MR), i < 209 → MT[i]? = some r → Cond.code r.1 r.2.1 r.2.2.1 r.2.2.2.1 ∈ gtbl
