/-! COPIES, MATH, NEW CELLS -/
theorem tg_app {sh : Shp} {q : Nat × Nat} {k : Nat} (h : k < sh.length) : tg (sh ++ [q]) k = tg sh k := by
  unfold tg
  rw [List.getElem?_append_left h]
theorem ln_app {sh : Shp} {q : Nat × Nat} {k : Nat} (h : k < sh.length) : ln (sh ++ [q]) k = ln sh k := by
  unfold ln
  rw [List.getElem?_append_left h]
theorem tg_new {sh : Shp} {q : Nat × Nat} : tg (sh ++ [q]) sh.length = q.1 := by
  unfold tg
  rw [List.getElem?_append_right (Nat.le_refl _), Nat.sub_self]
  rfl
theorem ln_new {sh : Shp} {q : Nat × Nat} : ln (sh ++ [q]) sh.length = q.2 := by
  unfold ln
  rw [List.getElem?_append_right (Nat.le_refl _), Nat.sub_self]
  rfl
/-- a new cell beside the old ones -/
def nw (M : Mem) (q : Nat × Nat) : Mem := (M.1 ++ [q], clr M.2.1 M.1.length 0, clr M.2.2 M.1.length none)
theorem nw_len (M : Mem) (q : Nat × Nat) : (nw M q).1.length = M.1.length + 1 := by simp [nw]
theorem nw_slt (M : Mem) (q : Nat × Nat) : slt (nw M q).1 = slt M.1 + q.2 := by simp [nw, slt]
theorem fldv_ext {a a' : Nat → Nat} {I : Int → Int} {Q : Int → Option Nat} {n ci j : Nat} (h : ∀ k, k < n → a' k = a k) (hq : ∀ r, Q j = some r → r < n) : fldv a' I Q ci j = fldv a I Q ci j := by
  unfold fldv
  cases hr : Q j with
  | none => rfl
  | some r => simp [h r (hq r hr)]
theorem ce_nw {a a' : Nat → Nat} {ca ca' : Nat → ClassId} {M : Mem} {q : Nat × Nat} {k : Nat} (hM : okM M) (hk : k < M.1.length) (ha : ∀ k, k < M.1.length → a' k = a k) (hca : ∀ k, k < M.1.length → ca' k = ca k) : ce a' ca' (nw M q) k = ce a ca M k := by
  have hne : k ≠ M.1.length := by omega
  have e1 : tg (nw M q).1 k = tg M.1 k := tg_app hk
  have e2 : ln (nw M q).1 k = ln M.1 k := ln_app hk
  have e3 : (nw M q).2.1 k = M.2.1 k := clr_ne hne
  have e4 : (nw M q).2.2 k = M.2.2 k := clr_ne hne
  unfold ce
  rw [e1, e2, e3, e4, hca k hk]
  have e5 : (List.range (NF (tg M.1 k))).map (fun j => fldv a' (M.2.1 k) (M.2.2 k) (tg M.1 k) j) = (List.range (NF (tg M.1 k))).map (fun j => fldv a (M.2.1 k) (M.2.2 k) (tg M.1 k) j) := by
    apply List.map_congr_left
    intro j _
    exact fldv_ext ha (fun r h => hM.2.1 k j r h)
  have e6 : (fun j : Nat => (M.2.2 k j).map a') = (fun j : Nat => (M.2.2 k j).map a) := by
    funext j
    cases hr : M.2.2 k j with
    | none => rfl
    | some r => simp [ha r (hM.2.1 k j r hr)]
  rw [e5, e6]
theorem okM_nw {M : Mem} {q : Nat × Nat} (h : okM M) (hq : (q.1 < 10 ∧ q.2 = NF q.1) ∨ q.1 = 100 ∨ (200 ≤ q.1 ∧ q.1 < 210)) : okM (nw M q) := by
  refine ⟨fun k j => ?_, fun k j r hr => ?_, fun k hk => ?_⟩
  · show InR (if k = M.1.length then 0 else M.2.1 k j)
    split
    · exact in0
    · exact h.1 k j
  · have hr : (if k = M.1.length then none else M.2.2 k j) = some r := hr
    rw [nw_len]
    split at hr
    · cases hr
    · exact Nat.lt_succ_of_lt (h.2.1 k j r hr)
  · rw [nw_len] at hk
    by_cases hk2 : k < M.1.length
    · have e1 : tg (nw M q).1 k = tg M.1 k := tg_app hk2
      have e2 : ln (nw M q).1 k = ln M.1 k := ln_app hk2
      rw [e1, e2]
      exact h.2.2 k hk2
    · obtain rfl : k = M.1.length := by omega
      have e1 : tg (nw M q).1 M.1.length = q.1 := tg_new
      have e2 : ln (nw M q).1 M.1.length = q.2 := ln_new
      rw [e1, e2]
      exact hq
section MEMS
variable {p : Program} {l : Launch} {e : Env} {R : Room} {s : State} {m : MethodId} {args : Array Value} {below : List Frame} {meth : Method} {c : Code} {Q : State → Prop} {D : va_G} {A : Nat → Prop} {H0 H : Heap} {b : Nat} {sf : Prop} {a : Nat → Nat} {ca : Nat → ClassId} {cl sl cl' sl' pc pc' : Nat} {ls st ls' st' : List AV} {M M' : Mem} {lc : Array Slot} {locs : List Loc} {S : Scr} {r : MR} {d : Nat}
/-- what a new cell at the address x gives: the point behind it -/
theorem PT_new {q : Nat × Nat} {x : Nat} {cA : ClassId} {v : va_E} {H1 : Heap} {rr : List AV} {nL : Nat} (pt : PT D A H0 s b nL sf a ca M ls st lc H locs) (hrr : ∀ v ∈ rr, okV sf M.1.length v) (hq : (q.1 < 10 ∧ q.2 = NF q.1) ∨ q.1 = 100 ∨ (200 ≤ q.1 ∧ q.1 < 210)) (hv : ce (fun k => if k = M.1.length then x else a k) (fun k => if k = M.1.length then cA else ca k) (nw M q) M.1.length = v) (hKA : 10 ≤ q.1 → ArrOfT s cA (aty q.1) ∧ va_RA s cA (aty q.1))
    (h1 : va_P D CLS (cells a ca M ++ [(x, v)]) H1) (h2 : va_D A (cells a ca M ++ [(x, v)])) (h3 : va_S A H0 H1 locs) : PT D A H0 s b nL sf (fun k => if k = M.1.length then x else a k) (fun k => if k = M.1.length then cA else ca k) (nw M q) ls (.inr (.inl M.1.length) :: rr) lc H1 locs := by
  obtain ⟨hP, hD, hS, hK, hM, hls, hst, hL⟩ := pt
  have ha : ∀ k, k < M.1.length → (if k = M.1.length then x else a k) = a k := fun k hk => if_neg (by omega)
  have hca : ∀ k, k < M.1.length → (if k = M.1.length then cA else ca k) = ca k := fun k hk => if_neg (by omega)
  have hcs : cells (fun k => if k = M.1.length then x else a k) (fun k => if k = M.1.length then cA else ca k) (nw M q) = cells a ca M ++ [(x, v)] := by
    rw [cells_push (M := M) (a := a) (ca := ca) (q := q) rfl (fun i hi => by rw [ce_nw hM hi ha hca, ha i hi]), hv, if_pos rfl]
  have hlen : M.1.length ≤ (nw M q).1.length := by rw [nw_len]; omega
  refine ⟨by rw [hcs]; exact h1, by rw [hcs]; exact h2, h3, ⟨hK.1, fun k hk ht => ?_⟩, okM_nw hM hq, fun w hw => (hls w hw).mono hlen, List.forall_mem_cons.mpr ⟨by show M.1.length < (nw M q).1.length; rw [nw_len]; omega, fun w hw => (hrr w hw).mono hlen⟩, hL.ext ha hls⟩
  rw [nw_len] at hk
  by_cases hk2 : k < M.1.length
  · have e1 : tg (nw M q).1 k = tg M.1 k := tg_app hk2
    rw [e1] at ht ⊢
    dsimp only
    rw [hca k hk2]
    exact hK.2 k hk2 ht
  · obtain rfl : k = M.1.length := by omega
    have e1 : tg (nw M q).1 M.1.length = q.1 := tg_new
    rw [e1] at ht ⊢
    dsimp only
    rw [if_pos rfl]
    exact hKA ht
theorem dflt_obj {c j : Nat} (hj : tyOK 0 (tyT c j) = true ∨ tyOK 1 (tyT c j) = true ∨ tyOK 2 (tyT c j) = true) {a : Nat → Nat} : defaultValue (tyT c j) = fldv a (fun _ => 0) (fun _ => none) c j := by
  unfold fldv
  cases h : tyT c j <;> rw [h] at hj <;> simp_all [tyOK, defaultValue, va_rf] <;> rfl
theorem ty_all : ∀ c, c < 10 → ∀ j, j < NF c → tyOK 0 (tyT c j) = true ∨ tyOK 1 (tyT c j) = true ∨ tyOK 2 (tyT c j) = true := by decide +kernel
theorem CT_use {own idx ci ix : Nat} (h : (CT[ix]?).map (fun q => (q.1, q.2.1, q.2.2.1)) = some (own, idx, ci)) : Cond.classLink (RS own) idx (RS ci) ∈ gtbl ∧ ci < 10 := by
  obtain ⟨q, hq, he⟩ := Option.map_eq_some_iff.mp h
  have hc := List.all_eq_true.mp CT_ok q (List.mem_of_getElem? hq)
  obtain ⟨q1, q2, q3, q4⟩ := q
  simp only [Prod.mk.injEq] at he
  obtain ⟨rfl, rfl, rfl⟩ := he
  simp only [CTc, Bool.and_eq_true, decide_eq_true_eq] at hc
  exact ⟨mg hc.1 rfl, hc.2⟩
theorem W_new {ci idx ix : Nat} (cx : CX p R s m args meth c A H0 b sf S r d) (hC : (CT[ix]?).map (fun q => (q.1, q.2.1, q.2.2.1)) = some (r.2.2.2.2.1, idx, ci)) (hd : decode r.2.1 pc = .ok (.new idx, 3)) (hp : p_new ci (NF ci) (pc + 3) ls st M = some (.inl (pc', ls', st', M'))) (pt : PT D A H0 s b r.2.2.1 sf a ca M ls st lc H locs) (hcl : cl' + M.1.length = cl + M'.1.length) (hsl : sl' + slt M.1 = sl + slt M'.1) (hRc : cl' ≤ R.cells) (hRs : sl' ≤ R.slots) (K : KG p l e R s m args below meth c Q D A H0 b r.2.2.1 sf a M.1.length cl' sl' pc' ls' st' M') : W p l e R s m args below meth c H locs cl sl Q (F0 m pc lc (st.map (cv a b))) := by
  obtain ⟨hlink, hci⟩ := CT_use hC
  obtain ⟨hx, hb, hml, hown, hts, hN, hnm, hfr, hlo, hA, hX, -⟩ := cx
  have hp : go (pc + 3) ls (.inr (.inl M.1.length) :: st) (nw M (ci, NF ci)) = some (.inl (pc', ls', st', M')) := hp
  obtain ⟨rfl, rfl, rfl, rfl⟩ := go_inv2 hp
  rw [nw_len] at hcl
  rw [nw_slt] at hsl
  obtain rfl : cl' = cl + 1 := by omega
  have hsl : sl' + slt M.1 = sl + (slt M.1 + NF ci) := hsl
  obtain rfl : sl' = sl + NF ci := by omega
  have pt0 := pt
  obtain ⟨hP, hD, hS, hK, hM, hls, hst, hL⟩ := pt
  refine va_new (ci := ci) (C := RS ci) (T := TT ci) (N := NF ci) (fs := (List.range (NF ci)).map (fun j => fldv a (fun _ => 0) (fun _ => none) ci j)) hx hb hts (lays_in ci hci) (tyT ci) (ty_ok ci hci) hown (hts _ hlink) (hts _ (mg (inst_ok ci hci) rfl)) (hts _ (mg (init_ok ci hci) rfl)) hK.1 hP hD hS hA (cls_ok ci hci) (fun j hj => ?_) hRc hRs hd (fun x H1 h1 h2 h3 => ?_)
  · rw [dflt_obj (a := a) (ty_all ci hci j hj)]
    simp [vp_V, hj]
  · have hv : ce (fun k => if k = M.1.length then x else a k) (fun k => if k = M.1.length then 0 else ca k) (nw M (ci, NF ci)) M.1.length = .inr (ci, (List.range (NF ci)).map (fun j => fldv a (fun _ => 0) (fun _ => none) ci j)) := by
      rw [ce_obj (M := nw M (ci, NF ci)) (ci := ci) tg_new hci]
      congr 2
      apply List.map_congr_left
      intro j _
      have e3 : (nw M (ci, NF ci)).2.1 M.1.length = fun _ => 0 := by funext z; simp [nw, clr]
      have e4 : (nw M (ci, NF ci)).2.2 M.1.length = fun _ => none := by funext z; simp [nw, clr]
      rw [e3, e4]
      exact fldv_ext (n := 0) (fun k hk => absurd hk (by omega)) (fun r hr => by cases hr)
    have hpt := PT_new (q := (ci, NF ci)) (cA := 0) pt0 hst (Or.inl ⟨hci, rfl⟩) hv (fun h => absurd h (by show ¬ 10 ≤ ci; omega)) h1 h2 h3
    have hk := K _ _ H1 locs lc hpt (fun k hk => if_neg (by omega))
    have e5 : List.map (cv (fun k => if k = M.1.length then x else a k) b) (Sum.inr (Sum.inl M.1.length) :: st) = .ref x :: st.map (cv a b) := by
      rw [List.map_cons, cvs_ext (a := a) (fun k hk => if_neg (by omega)) hst]
      simp [cv]
    rw [e5] at hk
    exact hk
theorem W_newa (cx : CX p R s m args meth c A H0 b sf S r d) (hd : decode r.2.1 pc = .ok (.newarray .int, 2)) (hp : p_newa (pc + 2) ls st M = some (.inl (pc', ls', st', M'))) (pt : PT D A H0 s b r.2.2.1 sf a ca M ls st lc H locs) (hcl : cl' + M.1.length = cl + M'.1.length) (hsl : sl' + slt M.1 = sl + slt M'.1) (hRc : cl' ≤ R.cells) (hRs : sl' ≤ R.slots) (K : KG p l e R s m args below meth c Q D A H0 b r.2.2.1 sf a M.1.length cl' sl' pc' ls' st' M') : W p l e R s m args below meth c H locs cl sl Q (F0 m pc lc (st.map (cv a b))) := by
  obtain ⟨hx, hb, hml, hown, hts, hN, hnm, hfr, hlo, hA, hX, -⟩ := cx
  unfold p_newa at hp
  split at hp
  next z rr =>
    split at hp
    next hz =>
      have hp : go (pc + 2) ls (.inr (.inl M.1.length) :: rr) (nw M (100, z.toNat)) = some (.inl (pc', ls', st', M')) := hp
      obtain ⟨rfl, rfl, rfl, rfl⟩ := go_inv2 hp
      rw [nw_len] at hcl
      rw [nw_slt] at hsl
      obtain rfl : cl' = cl + 1 := by omega
      have hsl : sl' + slt M.1 = sl + (slt M.1 + z.toNat) := hsl
      obtain rfl : sl' = sl + z.toNat := by omega
      have pt0 := pt
      obtain ⟨hP, hD, hS, hK, hM, hls, hst, hL⟩ := pt
      have hzr : InR z := hst (.inl z) List.mem_cons_self
      have hrr : ∀ v ∈ rr, okV sf M.1.length v := fun v hv => hst v (List.mem_cons_of_mem _ hv)
      refine va_newa (atype := .int) (ty := .int) (N' := z.toNat) (a0 := (z.toNat, .inl (fun _ => 0))) hx hb (hts _ (mg (xw_ok 5 (by decide)) rfl)) rfl hK.1 hP hD hS hA (fun cA => rfl) (fun h => by rw [← of_0, of_lt hzr in0] at h; omega) (of_clamp hzr) ?_ hRc hRs hd (fun x cA H1 hK1 h1 h2 h3 => ?_)
      · show z.toNat * 4 ≤ 536870912
        omega
      · have hv : ce (fun k => if k = M.1.length then x else a k) (fun k => if k = M.1.length then cA else ca k) (nw M (100, z.toNat)) M.1.length = .inl (cA, z.toNat, .inl (fun _ => 0)) := by
          rw [ce_int (M := nw M (100, z.toNat)) tg_new]
          have e2 : ln (nw M (100, z.toNat)).1 M.1.length = z.toNat := ln_new
          have e3 : (nw M (100, z.toNat)).2.1 M.1.length = fun _ => 0 := by funext z; simp [nw, clr]
          rw [e2, e3, if_pos rfl]
          rfl
        have hpt := PT_new (q := (100, z.toNat)) (cA := cA) pt0 hrr (Or.inr (Or.inl rfl)) hv (fun _ => hK1.2 0 (cA, .int) rfl) h1 h2 h3
        have hk := K _ _ H1 locs lc hpt (fun k hk => if_neg (by omega))
        have e5 : List.map (cv (fun k => if k = M.1.length then x else a k) b) (Sum.inr (Sum.inl M.1.length) :: rr) = .ref x :: rr.map (cv a b) := by
          rw [List.map_cons, cvs_ext (a := a) (fun k hk => if_neg (by omega)) hrr]
          simp [cv]
        rw [e5] at hk
        exact hk
    next => cases hp
  next => cases hp
theorem W_anew {ci idx ix ox : Nat} (cx : CX p R s m args meth c A H0 b sf S r d) (hC : (CT[ix]?).map (fun q => (q.1, q.2.1, q.2.2.1)) = some (r.2.2.2.2.1, idx, ci)) (hO : (overP[ox]?).map (fun q => q.1) = some ci) (hd : decode r.2.1 pc = .ok (.anewarray idx, 3)) (hp : p_anew ci (pc + 3) ls st M = some (.inl (pc', ls', st', M'))) (pt : PT D A H0 s b r.2.2.1 sf a ca M ls st lc H locs) (hcl : cl' + M.1.length = cl + M'.1.length) (hsl : sl' + slt M.1 = sl + slt M'.1) (hRc : cl' ≤ R.cells) (hRs : sl' ≤ R.slots) (K : KG p l e R s m args below meth c Q D A H0 b r.2.2.1 sf a M.1.length cl' sl' pc' ls' st' M') : W p l e R s m args below meth c H locs cl sl Q (F0 m pc lc (st.map (cv a b))) := by
  obtain ⟨hlink, hci⟩ := CT_use hC
  obtain ⟨hx, hb, hml, hown, hts, hN, hnm, hfr, hlo, hA, hX, -⟩ := cx
  have hover : va_AO (RS ci) s := by
    obtain ⟨q, hq, heq⟩ := Option.map_eq_some_iff.mp hO
    rw [← heq]
    exact hN.2 q (List.mem_of_getElem? hq)
  unfold p_anew at hp
  split at hp
  next z rr =>
    split at hp
    next hz =>
      have hp : go (pc + 3) ls (.inr (.inl M.1.length) :: rr) (nw M (200 + ci, z.toNat)) = some (.inl (pc', ls', st', M')) := hp
      obtain ⟨rfl, rfl, rfl, rfl⟩ := go_inv2 hp
      rw [nw_len] at hcl
      rw [nw_slt] at hsl
      obtain rfl : cl' = cl + 1 := by omega
      have hsl : sl' + slt M.1 = sl + (slt M.1 + z.toNat) := hsl
      obtain rfl : sl' = sl + z.toNat := by omega
      have pt0 := pt
      obtain ⟨hP, hD, hS, hK, hM, hls, hst, hL⟩ := pt
      have hzr : InR z := hst (.inl z) List.mem_cons_self
      have hrr : ∀ v ∈ rr, okV sf M.1.length v := fun v hv => hst v (List.mem_cons_of_mem _ hv)
      refine va_newq (N' := z.toNat) hx hb hown (hts _ hlink) hover hK.1 hP hD hS hA (fun h => by rw [← of_0, of_lt hzr in0] at h; omega) (of_clamp hzr) (by omega) hRc hRs hd (fun x cA H1 hK1 h1 h2 h3 => ?_)
      have hv : ce (fun k => if k = M.1.length then x else a k) (fun k => if k = M.1.length then cA else ca k) (nw M (200 + ci, z.toNat)) M.1.length = .inl (cA, z.toNat, .inr (.inr (.inr (.inr (fun _ => none))))) := by
        have e1 : tg (nw M (200 + ci, z.toNat)).1 M.1.length = 200 + ci := tg_new
        rw [ce_ref (M := nw M (200 + ci, z.toNat)) (by rw [e1]; omega)]
        have e2 : ln (nw M (200 + ci, z.toNat)).1 M.1.length = z.toNat := ln_new
        have e4 : (nw M (200 + ci, z.toNat)).2.2 M.1.length = fun _ => none := by funext z; simp [nw, clr]
        rw [e2, e4, if_pos rfl]
        rfl
      have hpt := PT_new (q := (200 + ci, z.toNat)) (cA := cA) pt0 hrr (Or.inr (Or.inr ⟨by show 200 ≤ 200 + ci; omega, by show 200 + ci < 210; omega⟩)) hv (fun _ => by
        have e := hK1.2 0 (cA, .object (RS ci)) rfl
        rw [aty_ref (by show 200 ≤ 200 + ci; omega)]
        have e6 : (200 + ci, z.toNat).1 - 200 = ci := by show 200 + ci - 200 = ci; omega
        rw [e6]
        exact e) h1 h2 h3
      have hk := K _ _ H1 locs lc hpt (fun k hk => if_neg (by omega))
      have e5 : List.map (cv (fun k => if k = M.1.length then x else a k) b) (Sum.inr (Sum.inl M.1.length) :: rr) = .ref x :: rr.map (cv a b) := by
        rw [List.map_cons, cvs_ext (a := a) (fun k hk => if_neg (by omega)) hrr]
        simp [cv]
      rw [e5] at hk
      exact hk
    next => cases hp
  next => cases hp
end MEMS
