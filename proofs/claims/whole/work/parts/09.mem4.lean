/-! COPIES AND MATH -/
theorem ce_cp {a : Nat → Nat} {ca : Nat → ClassId} {M : Mem} {k0 k1 i : Nat} {sp dp n : Int} (h : i ≠ k1) : ce a ca (M.1, cp M.2.1 k0 sp k1 dp n, M.2.2) i = ce a ca M i := by
  unfold ce
  simp only [cp_ne h]
theorem okM_cp {M : Mem} {k0 k1 : Nat} {sp dp n : Int} (h : okM M) : okM (M.1, cp M.2.1 k0 sp k1 dp n, M.2.2) := by
  refine ⟨fun k' j' => ?_, h.2.1, h.2.2⟩
  show InR (if _ then _ else _)
  split
  · exact h.1 _ _
  · exact h.1 _ _
theorem HT_use {own idx w ix : Nat} (h : (HT[ix]?).map (fun q => (q.1, q.2.1, q.2.2.1)) = some (own, idx, w)) : Cond.methodLink (RS own) idx (mthN w) ∈ gtbl := by
  obtain ⟨q, hq, he⟩ := Option.map_eq_some_iff.mp h
  have hc := List.all_eq_true.mp HT_ok q (List.mem_of_getElem? hq)
  obtain ⟨q1, q2, q3, q4⟩ := q
  simp only [Prod.mk.injEq] at he
  obtain ⟨rfl, rfl, rfl⟩ := he
  simp only [HTc, decide_eq_true_eq] at hc
  exact mg hc rfl
section MEMS
variable {p : Program} {l : Launch} {e : Env} {R : Room} {s : State} {m : MethodId} {args : Array Value} {below : List Frame} {meth : Method} {c : Code} {Q : State → Prop} {D : va_G} {A : Nat → Prop} {H0 H : Heap} {b : Nat} {sf : Prop} {a : Nat → Nat} {ca : Nat → ClassId} {cl sl cl' sl' pc pc' : Nat} {ls st ls' st' : List AV} {M M' : Mem} {lc : Array Slot} {locs : List Loc} {S : Scr} {r : MR} {d : Nat}
theorem W_acopy {idx ix : Nat} (cx : CX p R s m args meth c A H0 b sf S r d) (hY : (YT[ix]?).map (fun q => (q.1, q.2.1)) = some (r.2.2.2.2.1, idx)) (hd : decode r.2.1 pc = .ok (.invokestatic idx, 3)) (hp : p_acopy (pc + 3) ls st M = some (.inl (pc', ls', st', M'))) (pt : PT D A H0 s b r.2.2.1 sf a ca M ls st lc H locs) (hcl : cl' + M.1.length = cl + M'.1.length) (hsl : sl' + slt M.1 = sl + slt M'.1) (K : KG p l e R s m args below meth c Q D A H0 b r.2.2.1 sf a M.1.length cl' sl' pc' ls' st' M') : W p l e R s m args below meth c H locs cl sl Q (F0 m pc lc (st.map (cv a b))) := by
  obtain ⟨hx, hb, hml, hown, hts, hN, hnm, hfr, hlo, hA, hX, -⟩ := cx
  obtain ⟨hP, hD, hS, hK, hM, hls, hst, hL⟩ := pt
  have hlink : Cond.methodLink (RS r.2.2.2.2.1) idx arraycopyName ∈ gtbl := by
    obtain ⟨q, hq, heq⟩ := Option.map_eq_some_iff.mp hY
    have hc := List.all_eq_true.mp YT_ok q (List.mem_of_getElem? hq)
    obtain ⟨q1, q2, q3⟩ := q
    simp only [Prod.mk.injEq] at heq
    obtain ⟨rfl, rfl⟩ := heq
    simp only [YTc, decide_eq_true_eq] at hc
    exact mg hc rfl
  unfold p_acopy at hp
  split at hp
  next nn dp k1 sp k0 rr =>
    have hnr : InR nn := hst (.inl nn) List.mem_cons_self
    have hdr : InR dp := hst (.inl dp) (List.mem_cons_of_mem _ List.mem_cons_self)
    have hsr : InR sp := hst (.inl sp) (List.mem_cons_of_mem _ (List.mem_cons_of_mem _ (List.mem_cons_of_mem _ List.mem_cons_self)))
    split at hp
    next hc =>
      obtain ⟨t0, t1, hne, s0, s1, s2, s3, s4, hr⟩ := hc
      obtain ⟨rfl, rfl, rfl, rfl⟩ := go_inv2 hp
      have hcl : cl' + M.1.length = cl + M.1.length := hcl
      have hsl : sl' + slt M.1 = sl + slt M.1 := hsl
      obtain rfl : cl' = cl := by omega
      obtain rfl : sl' = sl := by omega
      have hk0 := tg_lt t0 (by decide)
      have hk1 := tg_lt t1 (by decide)
      have he0 : (cells a ca M)[k0]? = some (a k0, .inl (ca k0, ln M.1 k0, .inl (fun j => Int32.ofInt (M.2.1 k0 j)))) := by rw [cells_get hk0, ce_int t0]
      have he1 : (cells a ca M)[k1]? = some (a k1, .inl (ca k1, ln M.1 k1, .inl (fun j => Int32.ofInt (M.2.1 k1 j)))) := by rw [cells_get hk1, ce_int t1]
      have hKK : va_K D CLS [(ca k0, .int), (ca k1, .int)] s := by
        have g0 := (hK.2 k0 hk0 (by omega))
        have g1 := (hK.2 k1 hk1 (by omega))
        rw [t0] at g0
        rw [t1] at g1
        refine ⟨hK.1.1, fun i q hi => ?_⟩
        have hz : i < 2 := (List.getElem?_eq_some_iff.mp hi).1
        rcases (show i = 0 ∨ i = 1 by omega) with rfl | rfl
        · cases hi; exact g0
        · cases hi; exact g1
      have neg : ∀ z, InR z → 0 ≤ z → ¬ Int32.ofInt z < 0 := fun z hz h0 h => by rw [← of_0, of_lt hz in0] at h; omega
      refine va_copyi hx hb (hml.trans hL.2.1.1.symm) hown (hts _ hlink) (hts _ (mg (xw_ok 2 (by decide)) rfl)) (hts _ (mg (xw_ok 3 (by decide)) rfl)) (hts _ (mg (xw_ok 4 (by decide)) rfl)) hKK hP hD hS k0 k1 0 1 (ty := .int) he0 he1 rfl rfl rfl (neg sp hsr s0) (neg dp hdr s1) (neg nn hnr s2) (by rw [of_clamp hsr, of_clamp hnr]; omega) (by rw [of_clamp hdr, of_clamp hnr]; omega) (fun i _ => rfl) (by omega) ?_ hd (fun H1 locs1 g1 g2 g3 => ?_)
      · rw [sum_cat]
        have : nativeFrameWords "java/lang/System" "arraycopy" 5 + 11 ≤ 40 := by decide +kernel
        omega
      · have e1 : va_cpy (fun j : Nat => Int32.ofInt (M.2.1 k0 j)) (fun j : Nat => Int32.ofInt (M.2.1 k1 j)) (Int32.ofInt sp).toNatClampNeg (Int32.ofInt dp).toNatClampNeg (Int32.ofInt nn).toNatClampNeg = (fun j : Nat => Int32.ofInt (cp M.2.1 k0 sp k1 dp nn k1 j)) := by
          funext j
          unfold va_cpy cp
          rw [of_clamp hsr, of_clamp hdr, of_clamp hnr]
          by_cases hj : dp ≤ (j : Int) ∧ (j : Int) < dp + nn
          · have e7 : ((sp.toNat + (j - dp.toNat) : Nat) : Int) = sp + ((j : Int) - dp) := by omega
            rw [if_pos (by omega), if_pos ⟨rfl, hj⟩]
            dsimp only
            rw [e7]
          · rw [if_neg (by omega), if_neg (fun h => hj h.2)]
        have hset : (cells a ca M).set k1 (a k1, .inl (ca k1, ln M.1 k1, .inl (va_cpy (fun j : Nat => Int32.ofInt (M.2.1 k0 j)) (fun j : Nat => Int32.ofInt (M.2.1 k1 j)) (Int32.ofInt sp).toNatClampNeg (Int32.ofInt dp).toNatClampNeg (Int32.ofInt nn).toNatClampNeg))) = cells a ca (M.1, cp M.2.1 k0 sp k1 dp nn, M.2.2) := by
          rw [e1, ← ce_int (a := a) (M := (M.1, cp M.2.1 k0 sp k1 dp nn, M.2.2)) t1]
          exact cells_set rfl (fun j _ h => ce_cp h)
        rw [hset] at g1 g2
        exact K a ca H1 locs1 lc ⟨g1, g2, g3, hK, okM_cp hM, hls, fun v hv => hst v (List.mem_cons_of_mem _ (List.mem_cons_of_mem _ (List.mem_cons_of_mem _ (List.mem_cons_of_mem _ (List.mem_cons_of_mem _ hv))))), hL⟩ (fun _ _ => rfl)
    next => cases hp
  next => cases hp
theorem W_math {w idx ix : Nat} (cx : CX p R s m args meth c A H0 b sf S r d) (hH : (HT[ix]?).map (fun q => (q.1, q.2.1, q.2.2.1)) = some (r.2.2.2.2.1, idx, w)) (hd : decode r.2.1 pc = .ok (.invokestatic idx, 3)) (hRc : cl ≤ R.cells) (hRs : sl ≤ R.slots) (hp : p_math w (pc + 3) ls st M = some (.inl (pc', ls', st', M'))) (pt : PT D A H0 s b r.2.2.1 sf a ca M ls st lc H locs) (hcl : cl' + M.1.length = cl + M'.1.length) (hsl : sl' + slt M.1 = sl + slt M'.1) (K : KG p l e R s m args below meth c Q D A H0 b r.2.2.1 sf a M.1.length cl' sl' pc' ls' st' M') : W p l e R s m args below meth c H locs cl sl Q (F0 m pc lc (st.map (cv a b))) := by
  have hlink := HT_use hH
  obtain ⟨hx, hb, hml, hown, hts, hN, hnm, hfr, hlo, hA, hX, -⟩ := cx
  obtain ⟨hP, hD, hS, hK, hM, hls, hst, hL⟩ := pt
  have hini := hts _ (mg (hw_ok 6 (by decide)) rfl)
  unfold p_math at hp
  split at hp
  next y x rr =>
    have hyr : InR y := hst (.inl y) List.mem_cons_self
    have hxr : InR x := hst (.inl x) (List.mem_cons_of_mem _ List.mem_cons_self)
    split at hp
    next hr =>
      obtain ⟨rfl, rfl, rfl, rfl⟩ := go_inv2 hp
      obtain rfl : cl' = cl := by omega
      obtain rfl : sl' = sl := by omega
      refine va_mmax hx hb (hml.trans hL.2.1.1.symm) hown (hts _ hlink) (hts _ (mg (hw_ok 0 (by decide)) rfl)) hini (hts _ (mg (hw_ok 1 (by decide)) rfl)) (by omega) (by rw [sum_cat]; omega) hRc hRs (x := Int32.ofInt x) (y := Int32.ofInt y) hd ?_
      have e1 : (if Int32.ofInt x < Int32.ofInt y then Int32.ofInt y else Int32.ofInt x) = Int32.ofInt (if x < y then y else x) := by
        by_cases h : x < y
        · rw [if_pos h, if_pos ((of_lt hxr hyr).mpr h)]
        · rw [if_neg h, if_neg (fun h2 => h ((of_lt hxr hyr).mp h2))]
      rw [e1]
      exact K a ca H locs lc ⟨hP, hD, hS, hK, hM, hls, List.forall_mem_cons.mpr ⟨by show InR _; split <;> assumption, fun v hv => hst v (List.mem_cons_of_mem _ (List.mem_cons_of_mem _ hv))⟩, hL⟩ (fun _ _ => rfl)
    next => cases hp
  next y x rr =>
    have hyr : InR y := hst (.inl y) List.mem_cons_self
    have hxr : InR x := hst (.inl x) (List.mem_cons_of_mem _ List.mem_cons_self)
    split at hp
    next hr =>
      obtain ⟨rfl, rfl, rfl, rfl⟩ := go_inv2 hp
      obtain rfl : cl' = cl := by omega
      obtain rfl : sl' = sl := by omega
      refine va_mmin hx hb (hml.trans hL.2.1.1.symm) hown (hts _ hlink) (hts _ (mg (hw_ok 2 (by decide)) rfl)) hini (hts _ (mg (hw_ok 3 (by decide)) rfl)) (by omega) (by rw [sum_cat]; omega) hRc hRs (x := Int32.ofInt x) (y := Int32.ofInt y) hd ?_
      have e1 : (if Int32.ofInt y < Int32.ofInt x then Int32.ofInt y else Int32.ofInt x) = Int32.ofInt (if y < x then y else x) := by
        by_cases h : y < x
        · rw [if_pos h, if_pos ((of_lt hyr hxr).mpr h)]
        · rw [if_neg h, if_neg (fun h2 => h ((of_lt hyr hxr).mp h2))]
      rw [e1]
      exact K a ca H locs lc ⟨hP, hD, hS, hK, hM, hls, List.forall_mem_cons.mpr ⟨by show InR _; split <;> assumption, fun v hv => hst v (List.mem_cons_of_mem _ (List.mem_cons_of_mem _ hv))⟩, hL⟩ (fun _ _ => rfl)
    next => cases hp
  next x rr =>
    have hxr : InR x := hst (.inl x) List.mem_cons_self
    split at hp
    next hr =>
      obtain ⟨rfl, rfl, rfl, rfl⟩ := go_inv2 hp
      obtain rfl : cl' = cl := by omega
      obtain rfl : sl' = sl := by omega
      refine va_mabs hx hb (hml.trans hL.2.1.1.symm) hown (hts _ hlink) (hts _ (mg (hw_ok 4 (by decide)) rfl)) hini (hts _ (mg (hw_ok 5 (by decide)) rfl)) (by omega) (by rw [sum_cat]; omega) hRc hRs (x := Int32.ofInt x) hd ?_
      have e1 : (if 0 ≤ Int32.ofInt x then Int32.ofInt x else 0 - Int32.ofInt x) = Int32.ofInt (if 0 ≤ x then x else wr (0 - x)) := by
        rw [← of_0]
        by_cases h : 0 ≤ x
        · rw [if_pos h, if_pos ((of_le in0 hxr).mpr h)]
        · rw [if_neg h, if_neg (fun h2 => h ((of_le in0 hxr).mp h2)), of_sub]
      rw [e1]
      exact K a ca H locs lc ⟨hP, hD, hS, hK, hM, hls, List.forall_mem_cons.mpr ⟨by show InR _; split; assumption; exact wr_in _, fun v hv => hst v (List.mem_cons_of_mem _ hv)⟩, hL⟩ (fun _ _ => rfl)
    next => cases hp
  next => cases hp
end MEMS
