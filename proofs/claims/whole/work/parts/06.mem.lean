/-! INSTRUCTIONS THAT READ AND WRITE CELLS -/
theorem go_inv2 {n pc' : Nat} {ls st ls' st' : List AV} {M M' : Mem} (h : go n ls st M = some (.inl (pc', ls', st', M'))) : n = pc' ∧ ls = ls' ∧ st = st' ∧ M = M' := by
  simp only [go, Option.some.injEq, Sum.inl.injEq, Prod.mk.injEq] at h
  exact h
theorem tyOK_not {t : Nat} {ty : FieldType} (h : tyOK t ty = true) (ht : t ≠ 1) : ¬ tyOK 1 ty = true := by
  cases ty <;> simp_all [tyOK]
theorem up_at {α : Type} (f : Nat → Int → α) (k : Nat) (j : Int) (v : α) (i : Int) : up f k j v k i = if i = j then v else f k i := by
  simp [up]
theorem ce_obj {a : Nat → Nat} {ca : Nat → ClassId} {M : Mem} {k ci : Nat} (ht : tg M.1 k = ci) (hci : ci < 10) : ce a ca M k = .inr (ci, (List.range (NF ci)).map (fun j => fldv a (M.2.1 k) (M.2.2 k) ci j)) := by
  unfold ce
  rw [ht, if_pos hci]
theorem ce_int {a : Nat → Nat} {ca : Nat → ClassId} {M : Mem} {k : Nat} (ht : tg M.1 k = 100) : ce a ca M k = .inl (ca k, ln M.1 k, .inl (fun j => Int32.ofInt (M.2.1 k j))) := by
  unfold ce
  rw [ht, if_neg (by decide), if_pos rfl]
theorem ce_ref {a : Nat → Nat} {ca : Nat → ClassId} {M : Mem} {k : Nat} (ht : 200 ≤ tg M.1 k) : ce a ca M k = .inl (ca k, ln M.1 k, .inr (.inr (.inr (.inr (fun j => (M.2.2 k j).map a))))) := by
  unfold ce
  rw [if_neg (by omega), if_neg (by omega)]
theorem ce_upI {a : Nat → Nat} {ca : Nat → ClassId} {M : Mem} {k i : Nat} {j x : Int} (h : i ≠ k) : ce a ca (M.1, up M.2.1 k j x, M.2.2) i = ce a ca M i := by
  unfold ce
  simp only [up_ne h]
theorem ce_upR {a : Nat → Nat} {ca : Nat → ClassId} {M : Mem} {k i : Nat} {j : Int} {x : Option Nat} (h : i ≠ k) : ce a ca (M.1, M.2.1, up M.2.2 k j x) i = ce a ca M i := by
  unfold ce
  simp only [up_ne h]
theorem ce_putI {a : Nat → Nat} {ca : Nat → ClassId} {M : Mem} {k ci j : Nat} {x : Int} (ht : tg M.1 k = ci) (hci : ci < 10) (hty : ¬ tyOK 1 (tyT ci j) = true) : ce a ca (M.1, up M.2.1 k j x, M.2.2) k = .inr (ci, ((List.range (NF ci)).map (fun j => fldv a (M.2.1 k) (M.2.2 k) ci j)).set j (.int (Int32.ofInt x))) := by
  rw [ce_obj (M := (M.1, up M.2.1 k j x, M.2.2)) ht hci, ← map_set]
  congr 2
  apply List.map_congr_left
  intro i _
  dsimp only
  by_cases hij : i = j
  · subst hij
    rw [if_pos rfl]
    unfold fldv
    rw [if_neg hty, up_at, if_pos rfl]
  · have hc : ¬ ((i : Int) = (j : Int)) := by omega
    rw [if_neg hij]
    simp only [fldv, up_at, if_neg hc]
theorem ce_putR {a : Nat → Nat} {ca : Nat → ClassId} {M : Mem} {k ci j : Nat} {x : Option Nat} (ht : tg M.1 k = ci) (hci : ci < 10) (hty : tyOK 1 (tyT ci j) = true) : ce a ca (M.1, M.2.1, up M.2.2 k j x) k = .inr (ci, ((List.range (NF ci)).map (fun j => fldv a (M.2.1 k) (M.2.2 k) ci j)).set j (va_rf (x.map a))) := by
  rw [ce_obj (M := (M.1, M.2.1, up M.2.2 k j x)) ht hci, ← map_set]
  congr 2
  apply List.map_congr_left
  intro i _
  dsimp only
  by_cases hij : i = j
  · subst hij
    rw [if_pos rfl]
    unfold fldv
    rw [if_pos hty, up_at, if_pos rfl]
  · have hc : ¬ ((i : Int) = (j : Int)) := by omega
    rw [if_neg hij]
    simp only [fldv, up_at, if_neg hc]
theorem okM.upI {M : Mem} {k : Nat} {j x : Int} (h : okM M) (hx : InR x) : okM (M.1, up M.2.1 k j x, M.2.2) := by
  refine ⟨fun k' j' => ?_, h.2.1, h.2.2⟩
  show InR (if k' = k ∧ j' = j then x else M.2.1 k' j')
  split
  · exact hx
  · exact h.1 k' j'
theorem okM.upR {M : Mem} {k : Nat} {j : Int} {x : Option Nat} (h : okM M) (hx : ∀ r, x = some r → r < M.1.length) : okM (M.1, M.2.1, up M.2.2 k j x) := by
  refine ⟨h.1, fun k' j' r hr => ?_, h.2.2⟩
  have hr : (if k' = k ∧ j' = j then x else M.2.2 k' j') = some r := hr
  split at hr
  · exact hx r hr
  · exact h.2.1 k' j' r hr
theorem cv_rv (a : Nat → Nat) (b : Nat) (r : Option Nat) : cv a b (rv r) = va_rf (r.map a) := by
  cases r <;> rfl
theorem okV_rv {sf : Prop} {M : Mem} (h : okM M) (k : Nat) (j : Int) : okV sf M.1.length (rv (M.2.2 k j)) := by
  cases hr : M.2.2 k j with
  | none => trivial
  | some r => exact h.2.1 k j r hr
section MEMS
variable {p : Program} {l : Launch} {e : Env} {R : Room} {s : State} {m : MethodId} {args : Array Value} {below : List Frame} {meth : Method} {c : Code} {Q : State → Prop} {D : va_G} {A : Nat → Prop} {H0 H : Heap} {b : Nat} {sf : Prop} {a : Nat → Nat} {ca : Nat → ClassId} {cl sl cl' sl' pc pc' : Nat} {ls st ls' st' : List AV} {M M' : Mem} {lc : Array Slot} {locs : List Loc} {S : Scr} {r : MR} {d : Nat}
theorem W_get {ci j t idx ix : Nat} (cx : CX p R s m args meth c A H0 b sf S r d) (hF : (FT[ix]?).map (fun q => (q.1, q.2.1, q.2.2.1, q.2.2.2.1, q.2.2.2.2.1)) = some (r.2.2.2.2.1, idx, ci, j, t)) (hd : decode r.2.1 pc = .ok (.getfield idx, 3)) (hp : p_get ci j t (pc + 3) ls st M = some (.inl (pc', ls', st', M'))) (pt : PT D A H0 s b r.2.2.1 sf a ca M ls st lc H locs) (hcl : cl' + M.1.length = cl + M'.1.length) (hsl : sl' + slt M.1 = sl + slt M'.1) (K : KG p l e R s m args below meth c Q D A H0 b r.2.2.1 sf a M.1.length cl' sl' pc' ls' st' M') : W p l e R s m args below meth c H locs cl sl Q (F0 m pc lc (st.map (cv a b))) := by
  obtain ⟨hlink, hci, hj, hty, hdecl⟩ := FT_use hF
  obtain ⟨hx, hb, hml, hown, hts, hN, hnm, hfr, hlo, hA, hX⟩ := cx
  unfold p_get at hp
  split at hp
  next k rr =>
    split at hp
    next ht =>
      obtain ⟨hP, hD, hS, hK, hM, hls, hst, hL⟩ := pt
      have hkl := tg_lt ht (by omega)
      have he : (cells a ca M)[k]? = some (a k, .inr (ci, (List.range (NF ci)).map (fun j => fldv a (M.2.1 k) (M.2.2 k) ci j))) := by
        rw [cells_get hkl, ce_obj ht hci]
      have hv : ((List.range (NF ci)).map (fun j => fldv a (M.2.1 k) (M.2.2 k) ci j))[j]? = some (fldv a (M.2.1 k) (M.2.2 k) ci j) := by simp [hj]
      refine va_get (D := D) (ci := ci) (C := RS ci) (T := TT ci) (N := NF ci) (ref := RS ci) hx hb hts (lays_in ci hci) hown hK.1 hP k he (cls_ok ci hci) j hj (hts _ hlink) (fun x h => by rw [hdecl] at h; exact h) hv hd ?_
      split at hp
      next ht1 =>
        obtain ⟨rfl, rfl, rfl, rfl⟩ := go_inv2 hp
        obtain rfl : cl' = cl := by omega
        obtain rfl : sl' = sl := by omega
        have e1 : fldv a (M.2.1 k) (M.2.2 k) ci j = cv a b (rv (M.2.2 k j)) := by
          unfold fldv
          rw [if_pos (by rw [← ht1]; exact hty), cv_rv]
        rw [e1]
        exact K a ca H locs lc ⟨hP, hD, hS, hK, hM, hls, List.forall_mem_cons.mpr ⟨okV_rv hM _ _, fun v hv => hst v (List.mem_cons_of_mem _ hv)⟩, hL⟩ (fun _ _ => rfl)
      next ht1 =>
        obtain ⟨rfl, rfl, rfl, rfl⟩ := go_inv2 hp
        obtain rfl : cl' = cl := by omega
        obtain rfl : sl' = sl := by omega
        have e1 : fldv a (M.2.1 k) (M.2.2 k) ci j = cv a b (.inl (M.2.1 k j)) := by
          unfold fldv
          rw [if_neg (tyOK_not hty ht1)]
          rfl
        rw [e1]
        exact K a ca H locs lc ⟨hP, hD, hS, hK, hM, hls, List.forall_mem_cons.mpr ⟨hM.1 _ _, fun v hv => hst v (List.mem_cons_of_mem _ hv)⟩, hL⟩ (fun _ _ => rfl)
    next => cases hp
  next => cases hp
/-- a store into a field, final or not -/
theorem W_putv {ci j idx : Nat} {k : Nat} {v : Value} {rest : List Value} (cx : CX p R s m args meth c A H0 b sf S r d) (hlink : Cond.fieldLink (RS r.2.2.2.2.1) idx (RS ci) (TT ci j).2.1 (TT ci j).2.2.1 ∈ gtbl) (hci : ci < 10) (hj : j < NF ci) (hdecl : (TT ci j).1 = RS ci) (hfinal : (TT ci j).2.2.2 = true → r.1.name = "<init>" ∧ r.2.2.2.2.1 = ci) (hd : decode r.2.1 pc = .ok (.putfield idx, 3)) (ht : tg M.1 k = ci) (hn : narrow (tyT ci j) v = v) (hfit : fits (tyT ci j) v = true) (hP : va_P D CLS (cells a ca M) H) (hD : va_D A (cells a ca M)) (hS : va_S A H0 H locs) (hK : WK D ca M s)
    (hsh : M'.1 = M.1) (hoth : ∀ i, i ≠ k → ce a ca M' i = ce a ca M i) (hself : ce a ca M' k = .inr (ci, ((List.range (NF ci)).map (fun j => fldv a (M.2.1 k) (M.2.2 k) ci j)).set j v))
    (kk : ∀ (H1 : Heap) (locs1 : List Loc), va_P D CLS (cells a ca M') H1 → va_D A (cells a ca M') → va_S A H0 H1 locs1 → W p l e R s m args below meth c H1 locs1 cl sl Q (F0 m (pc + 3) lc rest)) : W p l e R s m args below meth c H locs cl sl Q (F0 m pc lc (v :: .ref (a k) :: rest)) := by
  obtain ⟨hx, hb, hml, hown, hts, hN, hnm, hfr, hlo, hA, hX⟩ := cx
  have hkl := tg_lt ht (by omega)
  have he : (cells a ca M)[k]? = some (a k, .inr (ci, (List.range (NF ci)).map (fun j => fldv a (M.2.1 k) (M.2.2 k) ci j))) := by
    rw [cells_get hkl, ce_obj ht hci]
  have hset : (cells a ca M).set k (a k, .inr (ci, ((List.range (NF ci)).map (fun j => fldv a (M.2.1 k) (M.2.2 k) ci j)).set j v)) = cells a ca M' := by
    rw [← hself]
    exact cells_set hsh (fun i _ h => hoth i h)
  by_cases hf : (TT ci j).2.2.2 = true
  · obtain ⟨hf1, hf2⟩ := hfinal hf
    refine va_putF (D := D) (ci := ci) (C := RS ci) (T := TT ci) (N := NF ci) (ref := RS ci) (own := RS r.2.2.2.2.1) hx hb hts (lays_in ci hci) (tyT ci) (ty_ok ci hci) (nm_ok ci hci) hown hK.1 hP hD hS k he (cls_ok ci hci) j hj (hts _ hlink) (fun x h => by rw [hdecl] at h; exact h) hf (hnm hf1) (by rw [hdecl, hf2]) (ty_ok ci hci j hj) hn hfit (by simp [hj]) hd (fun H1 locs1 h1 h2 h3 => ?_)
    rw [hset] at h1 h2
    exact kk H1 locs1 h1 h2 h3
  · refine va_put (D := D) (ci := ci) (C := RS ci) (T := TT ci) (N := NF ci) (ref := RS ci) (own := RS r.2.2.2.2.1) hx hb hts (lays_in ci hci) (tyT ci) (ty_ok ci hci) (nm_ok ci hci) hown hK.1 hP hD hS k he (cls_ok ci hci) j hj (hts _ hlink) (fun x h => by rw [hdecl] at h; exact h) (by simpa using hf) (ty_ok ci hci j hj) hn hfit (by simp [hj]) hd (fun H1 locs1 h1 h2 h3 => ?_)
    rw [hset] at h1 h2
    exact kk H1 locs1 h1 h2 h3
end MEMS
