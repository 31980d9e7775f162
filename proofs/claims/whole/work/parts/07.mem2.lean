/-! STORES, ARRAYS -/
theorem nar_ref {ty : FieldType} (h : tyOK 1 ty = true) (v : Value) (hv : v = .null ∨ ∃ x, v = .ref x) : narrow ty v = v ∧ fits ty v = true := by
  rcases hv with rfl | ⟨x, rfl⟩ <;> cases ty <;> simp_all [tyOK, narrow, fits]
theorem nar_int {ty : FieldType} (h : tyOK 0 ty = true) (x : Int32) : narrow ty (.int x) = .int x ∧ fits ty (.int x) = true := by
  cases ty <;> simp_all [tyOK, narrow, fits]
theorem nar_bool {ty : FieldType} (h : tyOK 2 ty = true) (x : Int) (hx : x = 0 ∨ x = 1) : narrow ty (.int (Int32.ofInt x)) = .int (Int32.ofInt x) ∧ fits ty (.int (Int32.ofInt x)) = true := by
  rcases hx with rfl | rfl <;> cases ty <;> simp_all [tyOK] <;> decide +kernel
theorem tyOK_lt {t : Nat} {ty : FieldType} (h : tyOK t ty = true) : t = 0 ∨ t = 1 ∨ t = 2 := by
  cases ty <;> simp_all [tyOK]
theorem vin {i : Int} {n : Nat} (hi : InR i) (h0 : 0 ≤ i) (h1 : i < n) : vp_in (Int32.ofInt i) n := by
  intro h
  rcases h with h | h
  · rw [← of_0, of_lt hi in0] at h
    omega
  · rw [of_clamp hi] at h
    omega
theorem ofN {i : Int} (hi : InR i) (h0 : 0 ≤ i) : (((Int32.ofInt i).toNatClampNeg : Nat) : Int) = i := by
  rw [of_clamp hi]
  omega
section MEMS
variable {p : Program} {l : Launch} {e : Env} {R : Room} {s : State} {m : MethodId} {args : Array Value} {below : List Frame} {meth : Method} {c : Code} {Q : State → Prop} {D : va_G} {A : Nat → Prop} {H0 H : Heap} {b : Nat} {sf : Prop} {a : Nat → Nat} {ca : Nat → ClassId} {cl sl cl' sl' pc pc' : Nat} {ls st ls' st' : List AV} {M M' : Mem} {lc : Array Slot} {locs : List Loc} {S : Scr} {r : MR} {d : Nat}
theorem W_put {ci j t idx ix : Nat} (cx : CX p R s m args meth c A H0 b sf S r d) (hF : (FT[ix]?).map (fun q => (q.1, q.2.1, q.2.2.1, q.2.2.2.1, q.2.2.2.2.1)) = some (r.2.2.2.2.1, idx, ci, j, t)) (hfinal : (TT ci j).2.2.2 = true → r.1.name = "<init>" ∧ r.2.2.2.2.1 = ci) (hd : decode r.2.1 pc = .ok (.putfield idx, 3)) (hp : p_put ci j t (pc + 3) ls st M = some (.inl (pc', ls', st', M'))) (pt : PT D A H0 s b r.2.2.1 sf a ca M ls st lc H locs) (hcl : cl' + M.1.length = cl + M'.1.length) (hsl : sl' + slt M.1 = sl + slt M'.1) (K : KG p l e R s m args below meth c Q D A H0 b r.2.2.1 sf a M.1.length cl' sl' pc' ls' st' M') : W p l e R s m args below meth c H locs cl sl Q (F0 m pc lc (st.map (cv a b))) := by
  obtain ⟨hlink, hci, hj, hty, hdecl⟩ := FT_use hF
  obtain ⟨hP, hD, hS, hK, hM, hls, hst, hL⟩ := pt
  unfold p_put at hp
  split at hp
  next x k rr =>
    have hxr : InR x := hst (.inl x) List.mem_cons_self
    split at hp
    next ht =>
      split at hp
      next => cases hp
      next ht1 =>
        split at hp
        next => cases hp
        next ht2 =>
          obtain ⟨rfl, rfl, rfl, rfl⟩ := go_inv2 hp
          have hcl : cl' + M.1.length = cl + M.1.length := hcl
          have hsl : sl' + slt M.1 = sl + slt M.1 := hsl
          obtain rfl : cl' = cl := by omega
          obtain rfl : sl' = sl := by omega
          have hnf : narrow (tyT ci j) (.int (Int32.ofInt x)) = .int (Int32.ofInt x) ∧ fits (tyT ci j) (.int (Int32.ofInt x)) = true := by
            rcases tyOK_lt hty with rfl | rfl | rfl
            · exact nar_int hty _
            · exact absurd rfl ht1
            · exact nar_bool hty x (Classical.not_not.mp (fun h => ht2 ⟨rfl, h⟩))
          refine W_putv (M' := (M.1, up M.2.1 k j x, M.2.2)) cx hlink hci hj hdecl hfinal hd ht hnf.1 hnf.2 hP hD hS hK rfl (fun i h => ce_upI h) (ce_putI ht hci (tyOK_not hty ht1)) (fun H1 locs1 h1 h2 h3 => ?_)
          exact K a ca H1 locs1 lc ⟨h1, h2, h3, hK, hM.upI hxr, hls, fun v hv => hst v (List.mem_cons_of_mem _ (List.mem_cons_of_mem _ hv)), hL⟩ (fun _ _ => rfl)
    next => cases hp
  next v k rr =>
    have hxr : v < M.1.length := hst (.inr (.inl v)) List.mem_cons_self
    split at hp
    next ht =>
      split at hp
      next ht1 =>
        subst ht1
        obtain ⟨rfl, rfl, rfl, rfl⟩ := go_inv2 hp
        have hcl : cl' + M.1.length = cl + M.1.length := hcl
        have hsl : sl' + slt M.1 = sl + slt M.1 := hsl
        obtain rfl : cl' = cl := by omega
        obtain rfl : sl' = sl := by omega
        have hnf := nar_ref hty (.ref (a v)) (Or.inr ⟨_, rfl⟩)
        refine W_putv (M' := (M.1, M.2.1, up M.2.2 k j (some v))) cx hlink hci hj hdecl hfinal hd ht hnf.1 hnf.2 hP hD hS hK rfl (fun i h => ce_upR h) (ce_putR ht hci hty) (fun H1 locs1 h1 h2 h3 => ?_)
        exact K a ca H1 locs1 lc ⟨h1, h2, h3, hK, hM.upR (fun r h => by cases h; exact hxr), hls, fun v hv => hst v (List.mem_cons_of_mem _ (List.mem_cons_of_mem _ hv)), hL⟩ (fun _ _ => rfl)
      next => cases hp
    next => cases hp
  next k rr =>
    split at hp
    next ht =>
      split at hp
      next ht1 =>
        subst ht1
        obtain ⟨rfl, rfl, rfl, rfl⟩ := go_inv2 hp
        have hcl : cl' + M.1.length = cl + M.1.length := hcl
        have hsl : sl' + slt M.1 = sl + slt M.1 := hsl
        obtain rfl : cl' = cl := by omega
        obtain rfl : sl' = sl := by omega
        have hnf := nar_ref hty .null (Or.inl rfl)
        refine W_putv (M' := (M.1, M.2.1, up M.2.2 k j none)) cx hlink hci hj hdecl hfinal hd ht hnf.1 hnf.2 hP hD hS hK rfl (fun i h => ce_upR h) (ce_putR ht hci hty) (fun H1 locs1 h1 h2 h3 => ?_)
        exact K a ca H1 locs1 lc ⟨h1, h2, h3, hK, hM.upR (fun r h => by cases h), hls, fun v hv => hst v (List.mem_cons_of_mem _ (List.mem_cons_of_mem _ hv)), hL⟩ (fun _ _ => rfl)
      next => cases hp
    next => cases hp
  next => cases hp
theorem W_iald (cx : CX p R s m args meth c A H0 b sf S r d) (hd : decode r.2.1 pc = .ok (.iaload, 1)) (hp : p_iald S (pc + 1) ls st M = some (.inl (pc', ls', st', M'))) (pt : PT D A H0 s b r.2.2.1 sf a ca M ls st lc H locs) (hcl : cl' + M.1.length = cl + M'.1.length) (hsl : sl' + slt M.1 = sl + slt M'.1) (K : KG p l e R s m args below meth c Q D A H0 b r.2.2.1 sf a M.1.length cl' sl' pc' ls' st' M') : W p l e R s m args below meth c H locs cl sl Q (F0 m pc lc (st.map (cv a b))) := by
  obtain ⟨hx, hb, hml, hown, hts, hN, hnm, hfr, hlo, hA, hX, -⟩ := cx
  obtain ⟨hP, hD, hS, hK, hM, hls, hst, hL⟩ := pt
  unfold p_iald at hp
  split at hp
  next i k rr =>
    have hir : InR i := hst (.inl i) List.mem_cons_self
    split at hp
    next hc =>
      obtain ⟨ht, h0, h1⟩ := hc
      obtain ⟨rfl, rfl, rfl, rfl⟩ := go_inv2 hp
      obtain rfl : cl' = cl := by omega
      obtain rfl : sl' = sl := by omega
      have hkl := tg_lt ht (by decide)
      have he : (cells a ca M)[k]? = some (a k, .inl (ca k, ln M.1 k, .inl (fun j => Int32.ofInt (M.2.1 k j)))) := by rw [cells_get hkl, ce_int ht]
      refine va_iald hx hb (hK.at hkl (by omega)) hP k 0 he (by rw [ht]; rfl) (vin hir h0 h1) hd ?_
      rw [ofN hir h0]
      exact K a ca H locs lc ⟨hP, hD, hS, hK, hM, hls, List.forall_mem_cons.mpr ⟨hM.1 _ _, fun v hv => hst v (List.mem_cons_of_mem _ (List.mem_cons_of_mem _ hv))⟩, hL⟩ (fun _ _ => rfl)
    next => cases hp
  next i rr =>
    have hir : InR i := hst (.inl i) List.mem_cons_self
    have hsf : sf := hst (.inr (.inr 2)) (List.mem_cons_of_mem _ List.mem_cons_self)
    obtain ⟨hX1, hX2, hX3, hX4, hX5⟩ := hX hsf
    split at hp
    next hc =>
      obtain ⟨h0, h1⟩ := hc
      obtain ⟨rfl, rfl, rfl, rfl⟩ := go_inv2 hp
      obtain rfl : cl' = cl := by omega
      obtain rfl : sl' = sl := by omega
      refine va_sld hx hb hX1 hX2 hX3 hS (vin hir h0 h1) hd ?_
      rw [ofN hir h0]
      exact K a ca H locs lc ⟨hP, hD, hS, hK, hM, hls, List.forall_mem_cons.mpr ⟨hX4 _, fun v hv => hst v (List.mem_cons_of_mem _ (List.mem_cons_of_mem _ hv))⟩, hL⟩ (fun _ _ => rfl)
    next => cases hp
  next => cases hp
theorem W_alen (cx : CX p R s m args meth c A H0 b sf S r d) (hd : decode r.2.1 pc = .ok (.arraylength, 1)) (hp : p_alen S (pc + 1) ls st M = some (.inl (pc', ls', st', M'))) (pt : PT D A H0 s b r.2.2.1 sf a ca M ls st lc H locs) (hcl : cl' + M.1.length = cl + M'.1.length) (hsl : sl' + slt M.1 = sl + slt M'.1) (K : KG p l e R s m args below meth c Q D A H0 b r.2.2.1 sf a M.1.length cl' sl' pc' ls' st' M') : W p l e R s m args below meth c H locs cl sl Q (F0 m pc lc (st.map (cv a b))) := by
  obtain ⟨hx, hb, hml, hown, hts, hN, hnm, hfr, hlo, hA, hX, -⟩ := cx
  obtain ⟨hP, hD, hS, hK, hM, hls, hst, hL⟩ := pt
  unfold p_alen at hp
  split at hp
  next rr =>
    have hsf : sf := hst (.inr (.inr 2)) List.mem_cons_self
    obtain ⟨hX1, hX2, hX3, hX4, hX5⟩ := hX hsf
    obtain ⟨rfl, rfl, rfl, rfl⟩ := go_inv2 hp
    obtain rfl : cl' = cl := by omega
    obtain rfl : sl' = sl := by omega
    refine va_slen hx hb hX1 hX2 hX3 hS hd ?_
    exact K a ca H locs lc ⟨hP, hD, hS, hK, hM, hls, List.forall_mem_cons.mpr ⟨⟨by show (-2147483648 : Int) ≤ (S.2 : Int); omega, by show (S.2 : Int) < 2147483648; omega⟩, fun v hv => hst v (List.mem_cons_of_mem _ hv)⟩, hL⟩ (fun _ _ => rfl)
  next => cases hp
theorem W_iast (cx : CX p R s m args meth c A H0 b sf S r d) (hd : decode r.2.1 pc = .ok (.iastore, 1)) (hp : p_iast (pc + 1) ls st M = some (.inl (pc', ls', st', M'))) (pt : PT D A H0 s b r.2.2.1 sf a ca M ls st lc H locs) (hcl : cl' + M.1.length = cl + M'.1.length) (hsl : sl' + slt M.1 = sl + slt M'.1) (K : KG p l e R s m args below meth c Q D A H0 b r.2.2.1 sf a M.1.length cl' sl' pc' ls' st' M') : W p l e R s m args below meth c H locs cl sl Q (F0 m pc lc (st.map (cv a b))) := by
  obtain ⟨hx, hb, hml, hown, hts, hN, hnm, hfr, hlo, hA, hX, -⟩ := cx
  obtain ⟨hP, hD, hS, hK, hM, hls, hst, hL⟩ := pt
  unfold p_iast at hp
  split at hp
  next x i k rr =>
    have hxr : InR x := hst (.inl x) List.mem_cons_self
    have hir : InR i := hst (.inl i) (List.mem_cons_of_mem _ List.mem_cons_self)
    split at hp
    next hc =>
      obtain ⟨ht, h0, h1⟩ := hc
      obtain ⟨rfl, rfl, rfl, rfl⟩ := go_inv2 hp
      have hcl : cl' + M.1.length = cl + M.1.length := hcl
      have hsl : sl' + slt M.1 = sl + slt M.1 := hsl
      obtain rfl : cl' = cl := by omega
      obtain rfl : sl' = sl := by omega
      have hkl := tg_lt ht (by decide)
      have he : (cells a ca M)[k]? = some (a k, .inl (ca k, ln M.1 k, .inl (fun j => Int32.ofInt (M.2.1 k j)))) := by rw [cells_get hkl, ce_int ht]
      refine va_iast hx hb (hK.at hkl (by omega)) hP hD hS k 0 he (by rw [ht]; rfl) (vin hir h0 h1) hd (fun H1 locs1 g1 g2 g3 => ?_)
      have e1 : upd (fun j : Nat => Int32.ofInt (M.2.1 k j)) (Int32.ofInt i).toNatClampNeg (Int32.ofInt x) = (fun j : Nat => Int32.ofInt (up M.2.1 k i x k j)) := by
        funext j
        rw [up_at]
        unfold upd
        rw [of_clamp hir]
        by_cases hj : (j : Int) = i
        · rw [if_pos hj, if_pos (by omega)]
        · rw [if_neg hj, if_neg (by omega)]
      have hset : (cells a ca M).set k (a k, .inl (ca k, ln M.1 k, .inl (upd (fun j : Nat => Int32.ofInt (M.2.1 k j)) (Int32.ofInt i).toNatClampNeg (Int32.ofInt x)))) = cells a ca (M.1, up M.2.1 k i x, M.2.2) := by
        rw [e1, ← ce_int (a := a) (M := (M.1, up M.2.1 k i x, M.2.2)) ht]
        exact cells_set rfl (fun j _ h => ce_upI h)
      rw [hset] at g1 g2
      exact K a ca H1 locs1 lc ⟨g1, g2, g3, hK, hM.upI hxr, hls, fun v hv => hst v (List.mem_cons_of_mem _ (List.mem_cons_of_mem _ (List.mem_cons_of_mem _ hv))), hL⟩ (fun _ _ => rfl)
    next => cases hp
  next => cases hp
theorem aty_ref {t : Nat} (h : 200 ≤ t) : aty t = .object (RS (t - 200)) := by
  unfold aty
  rw [if_neg (by omega)]
theorem W_aald (cx : CX p R s m args meth c A H0 b sf S r d) (hd : decode r.2.1 pc = .ok (.aaload, 1)) (hp : p_aald (pc + 1) ls st M = some (.inl (pc', ls', st', M'))) (pt : PT D A H0 s b r.2.2.1 sf a ca M ls st lc H locs) (hcl : cl' + M.1.length = cl + M'.1.length) (hsl : sl' + slt M.1 = sl + slt M'.1) (K : KG p l e R s m args below meth c Q D A H0 b r.2.2.1 sf a M.1.length cl' sl' pc' ls' st' M') : W p l e R s m args below meth c H locs cl sl Q (F0 m pc lc (st.map (cv a b))) := by
  obtain ⟨hx, hb, hml, hown, hts, hN, hnm, hfr, hlo, hA, hX, -⟩ := cx
  obtain ⟨hP, hD, hS, hK, hM, hls, hst, hL⟩ := pt
  unfold p_aald at hp
  split at hp
  next i k rr =>
    have hir : InR i := hst (.inl i) List.mem_cons_self
    split at hp
    next hc =>
      obtain ⟨ht, ht2, h0, h1⟩ := hc
      obtain ⟨rfl, rfl, rfl, rfl⟩ := go_inv2 hp
      obtain rfl : cl' = cl := by omega
      obtain rfl : sl' = sl := by omega
      have hkl := tg_lt (t := tg M.1 k) rfl (by omega)
      have he : (cells a ca M)[k]? = some (a k, .inl (ca k, ln M.1 k, .inr (.inr (.inr (.inr (fun j => (M.2.2 k j).map a)))))) := by rw [cells_get hkl, ce_ref ht]
      refine va_aldq hx hb (hK.at hkl (by omega)) hP k 0 he (by rw [aty_ref ht]; rfl) (vin hir h0 h1) hd ?_
      rw [ofN hir h0, ← cv_rv a b]
      exact K a ca H locs lc ⟨hP, hD, hS, hK, hM, hls, List.forall_mem_cons.mpr ⟨okV_rv hM _ _, fun v hv => hst v (List.mem_cons_of_mem _ (List.mem_cons_of_mem _ hv))⟩, hL⟩ (fun _ _ => rfl)
    next => cases hp
  next => cases hp
theorem W_aast (cx : CX p R s m args meth c A H0 b sf S r d) (hd : decode r.2.1 pc = .ok (.aastore, 1)) (hp : p_aast (pc + 1) ls st M = some (.inl (pc', ls', st', M'))) (pt : PT D A H0 s b r.2.2.1 sf a ca M ls st lc H locs) (hcl : cl' + M.1.length = cl + M'.1.length) (hsl : sl' + slt M.1 = sl + slt M'.1) (K : KG p l e R s m args below meth c Q D A H0 b r.2.2.1 sf a M.1.length cl' sl' pc' ls' st' M') : W p l e R s m args below meth c H locs cl sl Q (F0 m pc lc (st.map (cv a b))) := by
  obtain ⟨hx, hb, hml, hown, hts, hN, hnm, hfr, hlo, hA, hX, -⟩ := cx
  obtain ⟨hP, hD, hS, hK, hM, hls, hst, hL⟩ := pt
  unfold p_aast at hp
  split at hp
  next v i k rr =>
    have hir : InR i := hst (.inl i) (List.mem_cons_of_mem _ List.mem_cons_self)
    have hvr : v < M.1.length := hst (.inr (.inl v)) List.mem_cons_self
    split at hp
    next hc =>
      obtain ⟨ht, ht2, htv, h0, h1⟩ := hc
      obtain ⟨rfl, rfl, rfl, rfl⟩ := go_inv2 hp
      have hcl : cl' + M.1.length = cl + M.1.length := hcl
      have hsl : sl' + slt M.1 = sl + slt M.1 := hsl
      obtain rfl : cl' = cl := by omega
      obtain rfl : sl' = sl := by omega
      have hkl := tg_lt (t := tg M.1 k) rfl (by omega)
      have hci : tg M.1 v < 10 := by omega
      have he : (cells a ca M)[k]? = some (a k, .inl (ca k, ln M.1 k, .inr (.inr (.inr (.inr (fun j => (M.2.2 k j).map a)))))) := by rw [cells_get hkl, ce_ref ht]
      have hev : (cells a ca M)[v]? = some (a v, .inr (tg M.1 v, (List.range (NF (tg M.1 v))).map (fun j => fldv a (M.2.1 v) (M.2.2 v) (tg M.1 v) j))) := by rw [cells_get hvr, ce_obj rfl hci]
      refine va_astq (r := (RS (tg M.1 v), TT (tg M.1 v), NF (tg M.1 v))) hx hb (hK.at hkl (by omega)) hP hD hS k 0 v (tg M.1 v) he (by rw [aty_ref ht, ← htv, Nat.add_sub_cancel]; rfl) hev (cls_ok _ hci) (vin hir h0 h1) hd (fun H1 locs1 g1 g2 g3 => ?_)
      have e1 : va_up (fun j : Nat => (M.2.2 k j).map a) (Int32.ofInt i).toNatClampNeg (some (a v)) = (fun j : Nat => (up M.2.2 k i (some v) k j).map a) := by
        funext j
        rw [up_at]
        unfold va_up
        rw [of_clamp hir]
        by_cases hj : (j : Int) = i
        · rw [if_pos hj, if_pos (by omega)]; rfl
        · rw [if_neg hj, if_neg (by omega)]
      have hset : (cells a ca M).set k (a k, .inl (ca k, ln M.1 k, .inr (.inr (.inr (.inr (va_up (fun j : Nat => (M.2.2 k j).map a) (Int32.ofInt i).toNatClampNeg (some (a v)))))))) = cells a ca (M.1, M.2.1, up M.2.2 k i (some v)) := by
        rw [e1, ← ce_ref (M := (M.1, M.2.1, up M.2.2 k i (some v))) ht]
        exact cells_set rfl (fun j _ h => ce_upR h)
      rw [hset] at g1 g2
      exact K a ca H1 locs1 lc ⟨g1, g2, g3, hK, hM.upR (fun r h => by cases h; exact hvr), hls, fun v hv => hst v (List.mem_cons_of_mem _ (List.mem_cons_of_mem _ (List.mem_cons_of_mem _ hv))), hL⟩ (fun _ _ => rfl)
    next => cases hp
  next => cases hp
theorem sum_cat (a : Nat → Nat) (b : Nat) : ∀ r : List AV, ((r.map (cv a b)).map fun v => v.category).sum = r.length
  | [] => rfl
  | v :: r => by
    simp only [List.map_cons, List.sum_cons, cv_cat, List.length_cons]
    have := sum_cat a b r
    omega
theorem W_objinit {idx ix : Nat} (cx : CX p R s m args meth c A H0 b sf S r d) (hO : (OT[ix]?).map (fun q => (q.1, q.2.1)) = some (r.2.2.2.2.1, idx)) (hd : decode r.2.1 pc = .ok (.invokespecial idx, 3)) (hp : p_objinit (pc + 3) ls st M = some (.inl (pc', ls', st', M'))) (pt : PT D A H0 s b r.2.2.1 sf a ca M ls st lc H locs) (hcl : cl' + M.1.length = cl + M'.1.length) (hsl : sl' + slt M.1 = sl + slt M'.1) (K : KG p l e R s m args below meth c Q D A H0 b r.2.2.1 sf a M.1.length cl' sl' pc' ls' st' M') : W p l e R s m args below meth c H locs cl sl Q (F0 m pc lc (st.map (cv a b))) := by
  obtain ⟨hx, hb, hml, hown, hts, hN, hnm, hfr, hlo, hA, hX, -⟩ := cx
  obtain ⟨hP, hD, hS, hK, hM, hls, hst, hL⟩ := pt
  obtain ⟨q, hq, heq⟩ := Option.map_eq_some_iff.mp hO
  have hc := List.all_eq_true.mp OT_ok q (List.mem_of_getElem? hq)
  obtain ⟨q1, q2, q3⟩ := q
  simp only [Prod.mk.injEq] at heq
  obtain ⟨rfl, rfl⟩ := heq
  simp only [OTc, decide_eq_true_eq] at hc
  unfold p_objinit at hp
  split at hp
  next k rr =>
    split at hp
    next hr =>
      obtain ⟨rfl, rfl, rfl, rfl⟩ := go_inv2 hp
      obtain rfl : cl' = cl := by omega
      obtain rfl : sl' = sl := by omega
      refine W.objInit hx hb hown (hts _ (mg hc rfl)) (hts _ (mg (xw_ok 0 (by decide)) rfl)) (hts _ (mg (xw_ok 1 (by decide)) rfl)) (g := F0 m pc lc ((Sum.inr (Sum.inl k) :: rr).map (cv a b))) rfl (hL.2.1.1.trans hml.symm) (a := a k) (rest := rr.map (cv a b)) rfl hd (by omega) ?_ ?_
      · show 2 * 0 + _ + 12 ≤ _
        rw [sum_cat]
        omega
      · exact K a ca H locs lc ⟨hP, hD, hS, hK, hM, hls, fun v hv => hst v (List.mem_cons_of_mem _ hv), hL⟩ (fun _ _ => rfl)
    next => cases hp
  next => cases hp
end MEMS
