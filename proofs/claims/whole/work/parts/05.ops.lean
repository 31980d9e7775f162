/-! ONE INSTRUCTION OF THE SMALL MACHINE IS ONE OF THE JAVA MACHINE -/
def slt (sh : Shp) : Nat := (sh.map (fun q => q.2)).sum
def KG (p : Program) (l : Launch) (e : Env) (R : Room) (s : State) (m : MethodId) (args : Array Value) (below : List Frame) (meth : Method) (c : Code) (Q : State → Prop) (D : va_G) (A : Nat → Prop) (H0 : Heap) (b nL : Nat) (sf : Prop) (a : Nat → Nat) (n0 cl sl pc' : Nat) (ls' st' : List AV) (M' : Mem) : Prop :=
  ∀ (a' : Nat → Nat) (ca' : Nat → ClassId) (H' : Heap) (locs' : List Loc) (lc' : Array Slot), PT D A H0 s b nL sf a' ca' M' ls' st' lc' H' locs' → (∀ k, k < n0 → a' k = a k) → W p l e R s m args below meth c H' locs' cl sl Q (F0 m pc' lc' (st'.map (cv a' b)))
section OPS
variable {p : Program} {l : Launch} {e : Env} {R : Room} {s : State} {m : MethodId} {args : Array Value} {below : List Frame} {meth : Method} {c : Code} {Q : State → Prop} {D : va_G} {A : Nat → Prop} {H0 H : Heap} {b nL : Nat} {sf : Prop} {a : Nat → Nat} {ca : Nat → ClassId} {cl sl cl' sl' pc pc' n : Nat} {ls st ls' st' : List AV} {M M' : Mem} {lc : Array Slot} {locs : List Loc}
theorem go_inv {n pc' : Nat} {ls st ls' st' : List AV} {M M' : Mem} (h : go n ls st M = some (.inl (pc', ls', st', M'))) : pc' = n ∧ ls' = ls ∧ st' = st ∧ M' = M := by
  simp only [go, Option.some.injEq, Sum.inl.injEq, Prod.mk.injEq] at h
  exact ⟨h.1.symm, h.2.1.symm, h.2.2.1.symm, h.2.2.2.symm⟩
theorem W_const {z : Int} (hp : go n ls (.inl z :: st) M = some (.inl (pc', ls', st', M'))) (hz : InR z) (pt : PT D A H0 s b nL sf a ca M ls st lc H locs) (hcl : cl' + M.1.length = cl + M'.1.length) (hsl : sl' + slt M.1 = sl + slt M'.1) (K : KG p l e R s m args below meth c Q D A H0 b nL sf a M.1.length cl' sl' pc' ls' st' M')
    (row : W p l e R s m args below meth c H locs cl sl Q (F0 m n lc (.int (Int32.ofInt z) :: st.map (cv a b))) → W p l e R s m args below meth c H locs cl sl Q (F0 m pc lc (st.map (cv a b)))) : W p l e R s m args below meth c H locs cl sl Q (F0 m pc lc (st.map (cv a b))) := by
  obtain ⟨rfl, rfl, rfl, rfl⟩ := go_inv hp
  obtain rfl : cl' = cl := by omega
  obtain rfl : sl' = sl := by omega
  obtain ⟨hP, hD, hS, hK, hM, hls, hst, hL⟩ := pt
  exact row (K a ca H locs lc ⟨hP, hD, hS, hK, hM, hls, List.forall_mem_cons.mpr ⟨hz, hst⟩, hL⟩ (fun _ _ => rfl))
theorem W_null (hp : go n ls (.inr (.inr 0) :: st) M = some (.inl (pc', ls', st', M'))) (pt : PT D A H0 s b nL sf a ca M ls st lc H locs) (hcl : cl' + M.1.length = cl + M'.1.length) (hsl : sl' + slt M.1 = sl + slt M'.1) (K : KG p l e R s m args below meth c Q D A H0 b nL sf a M.1.length cl' sl' pc' ls' st' M')
    (row : W p l e R s m args below meth c H locs cl sl Q (F0 m n lc (.null :: st.map (cv a b))) → W p l e R s m args below meth c H locs cl sl Q (F0 m pc lc (st.map (cv a b)))) : W p l e R s m args below meth c H locs cl sl Q (F0 m pc lc (st.map (cv a b))) := by
  obtain ⟨rfl, rfl, rfl, rfl⟩ := go_inv hp
  obtain rfl : cl' = cl := by omega
  obtain rfl : sl' = sl := by omega
  obtain ⟨hP, hD, hS, hK, hM, hls, hst, hL⟩ := pt
  exact row (K a ca H locs lc ⟨hP, hD, hS, hK, hM, hls, List.forall_mem_cons.mpr ⟨trivial, hst⟩, hL⟩ (fun _ _ => rfl))
theorem W_iload {k : Nat} (hp : p_iload k n ls st M = some (.inl (pc', ls', st', M'))) (pt : PT D A H0 s b nL sf a ca M ls st lc H locs) (hcl : cl' + M.1.length = cl + M'.1.length) (hsl : sl' + slt M.1 = sl + slt M'.1) (K : KG p l e R s m args below meth c Q D A H0 b nL sf a M.1.length cl' sl' pc' ls' st' M')
    (row : ∀ x : Int32, lc[k]? = some (.val (.int x)) → W p l e R s m args below meth c H locs cl sl Q (F0 m n lc (.int x :: st.map (cv a b))) → W p l e R s m args below meth c H locs cl sl Q (F0 m pc lc (st.map (cv a b)))) : W p l e R s m args below meth c H locs cl sl Q (F0 m pc lc (st.map (cv a b))) := by
  unfold p_iload at hp
  split at hp
  next x hx =>
    obtain ⟨rfl, rfl, rfl, rfl⟩ := go_inv hp
    obtain rfl : cl' = cl := by omega
    obtain rfl : sl' = sl := by omega
    obtain ⟨hP, hD, hS, hK, hM, hls, hst, hL⟩ := pt
    have hg := nth_get hx (by simp)
    exact row _ (hL.2.2 k _ hg (by simp)) (K a ca H locs lc ⟨hP, hD, hS, hK, hM, hls, List.forall_mem_cons.mpr ⟨hls _ (List.mem_of_getElem? hg), hst⟩, hL⟩ (fun _ _ => rfl))
  next => cases hp
theorem W_aload {k : Nat} (hp : p_aload k n ls st M = some (.inl (pc', ls', st', M'))) (pt : PT D A H0 s b nL sf a ca M ls st lc H locs) (hcl : cl' + M.1.length = cl + M'.1.length) (hsl : sl' + slt M.1 = sl + slt M'.1) (K : KG p l e R s m args below meth c Q D A H0 b nL sf a M.1.length cl' sl' pc' ls' st' M')
    (row : ∀ x : Nat, lc[k]? = some (.val (.ref x)) → W p l e R s m args below meth c H locs cl sl Q (F0 m n lc (.ref x :: st.map (cv a b))) → W p l e R s m args below meth c H locs cl sl Q (F0 m pc lc (st.map (cv a b))))
    (rowN : lc[k]? = some (.val .null) → W p l e R s m args below meth c H locs cl sl Q (F0 m n lc (.null :: st.map (cv a b))) → W p l e R s m args below meth c H locs cl sl Q (F0 m pc lc (st.map (cv a b)))) : W p l e R s m args below meth c H locs cl sl Q (F0 m pc lc (st.map (cv a b))) := by
  unfold p_aload at hp
  split at hp
  next x hx =>
    obtain ⟨rfl, rfl, rfl, rfl⟩ := go_inv hp
    obtain rfl : cl' = cl := by omega
    obtain rfl : sl' = sl := by omega
    obtain ⟨hP, hD, hS, hK, hM, hls, hst, hL⟩ := pt
    have hg := nth_get hx (by simp)
    exact row _ (hL.2.2 k _ hg (by simp)) (K a ca H locs lc ⟨hP, hD, hS, hK, hM, hls, List.forall_mem_cons.mpr ⟨hls _ (List.mem_of_getElem? hg), hst⟩, hL⟩ (fun _ _ => rfl))
  next hx =>
    obtain ⟨rfl, rfl, rfl, rfl⟩ := go_inv hp
    obtain rfl : cl' = cl := by omega
    obtain rfl : sl' = sl := by omega
    obtain ⟨hP, hD, hS, hK, hM, hls, hst, hL⟩ := pt
    have hg := nth_get hx (by simp)
    exact rowN (hL.2.2 k _ hg (by simp)) (K a ca H locs lc ⟨hP, hD, hS, hK, hM, hls, List.forall_mem_cons.mpr ⟨hls _ (List.mem_of_getElem? hg), hst⟩, hL⟩ (fun _ _ => rfl))
  next hx =>
    obtain ⟨rfl, rfl, rfl, rfl⟩ := go_inv hp
    obtain rfl : cl' = cl := by omega
    obtain rfl : sl' = sl := by omega
    obtain ⟨hP, hD, hS, hK, hM, hls, hst, hL⟩ := pt
    have hg := nth_get hx (by simp)
    exact row _ (hL.2.2 k _ hg (by simp)) (K a ca H locs lc ⟨hP, hD, hS, hK, hM, hls, List.forall_mem_cons.mpr ⟨hls _ (List.mem_of_getElem? hg), hst⟩, hL⟩ (fun _ _ => rfl))
  next => cases hp
theorem W_istore {k : Nat} (hp : p_istore k n ls st M = some (.inl (pc', ls', st', M'))) (pt : PT D A H0 s b nL sf a ca M ls st lc H locs) (hcl : cl' + M.1.length = cl + M'.1.length) (hsl : sl' + slt M.1 = sl + slt M'.1) (K : KG p l e R s m args below meth c Q D A H0 b nL sf a M.1.length cl' sl' pc' ls' st' M')
    (row : ∀ (x : Int32) (rest : List Value), k < nL → (∀ lc' : Array Slot, lv_has lc' nL ((k, .int x) :: (lvl a b ls).filter (fun q => !(q.1 == k) && !(q.1 + 1 == k && q.2.category == 2))) → W p l e R s m args below meth c H locs cl sl Q (F0 m n lc' rest)) → W p l e R s m args below meth c H locs cl sl Q (F0 m pc lc (.int x :: rest))) : W p l e R s m args below meth c H locs cl sl Q (F0 m pc lc (st.map (cv a b))) := by
  unfold p_istore at hp
  split at hp
  next x r =>
    split at hp
    next hk =>
      obtain ⟨rfl, rfl, rfl, rfl⟩ := go_inv hp
      obtain rfl : cl' = cl := by omega
      obtain rfl : sl' = sl := by omega
      obtain ⟨hP, hD, hS, hK, hM, hls, hst, hL⟩ := pt
      refine row (Int32.ofInt x) _ (by rw [← hL.1]; exact hk) (fun lc' h' => ?_)
      refine K a ca H locs lc' ⟨hP, hD, hS, hK, hM, ?_, fun v hv => hst v (List.mem_cons_of_mem _ hv), LR.store (v := .inl x) hL hk h'⟩ (fun _ _ => rfl)
      intro v hv
      rcases stl_mem hv with rfl | hv
      · exact hst _ List.mem_cons_self
      · exact hls v hv
    next => cases hp
  next => cases hp
theorem W_astore {k : Nat} (hp : p_astore k n ls st M = some (.inl (pc', ls', st', M'))) (pt : PT D A H0 s b nL sf a ca M ls st lc H locs) (hcl : cl' + M.1.length = cl + M'.1.length) (hsl : sl' + slt M.1 = sl + slt M'.1) (K : KG p l e R s m args below meth c Q D A H0 b nL sf a M.1.length cl' sl' pc' ls' st' M')
    (row : ∀ (x : Nat) (rest : List Value), k < nL → (∀ lc' : Array Slot, lv_has lc' nL ((k, .ref x) :: (lvl a b ls).filter (fun q => !(q.1 == k) && !(q.1 + 1 == k && q.2.category == 2))) → W p l e R s m args below meth c H locs cl sl Q (F0 m n lc' rest)) → W p l e R s m args below meth c H locs cl sl Q (F0 m pc lc (.ref x :: rest)))
    (rowN : ∀ (rest : List Value), k < nL → (∀ lc' : Array Slot, lv_has lc' nL ((k, .null) :: (lvl a b ls).filter (fun q => !(q.1 == k) && !(q.1 + 1 == k && q.2.category == 2))) → W p l e R s m args below meth c H locs cl sl Q (F0 m n lc' rest)) → W p l e R s m args below meth c H locs cl sl Q (F0 m pc lc (.null :: rest))) : W p l e R s m args below meth c H locs cl sl Q (F0 m pc lc (st.map (cv a b))) := by
  unfold p_astore at hp
  split at hp
  next x r =>
    split at hp
    next hk =>
      obtain ⟨rfl, rfl, rfl, rfl⟩ := go_inv hp
      obtain rfl : cl' = cl := by omega
      obtain rfl : sl' = sl := by omega
      obtain ⟨hP, hD, hS, hK, hM, hls, hst, hL⟩ := pt
      refine row (a x) _ (by rw [← hL.1]; exact hk) (fun lc' h' => ?_)
      refine K a ca H locs lc' ⟨hP, hD, hS, hK, hM, ?_, fun v hv => hst v (List.mem_cons_of_mem _ hv), LR.store (v := .inr (.inl x)) hL hk h'⟩ (fun _ _ => rfl)
      intro v hv
      rcases stl_mem hv with rfl | hv
      · exact hst _ List.mem_cons_self
      · exact hls v hv
    next => cases hp
  next r =>
    split at hp
    next hk =>
      obtain ⟨rfl, rfl, rfl, rfl⟩ := go_inv hp
      obtain rfl : cl' = cl := by omega
      obtain rfl : sl' = sl := by omega
      obtain ⟨hP, hD, hS, hK, hM, hls, hst, hL⟩ := pt
      refine rowN _ (by rw [← hL.1]; exact hk) (fun lc' h' => ?_)
      refine K a ca H locs lc' ⟨hP, hD, hS, hK, hM, ?_, fun v hv => hst v (List.mem_cons_of_mem _ hv), LR.store (v := .inr (.inr 0)) hL hk h'⟩ (fun _ _ => rfl)
      intro v hv
      rcases stl_mem hv with rfl | hv
      · exact hst _ List.mem_cons_self
      · exact hls v hv
    next => cases hp
  next => cases hp
theorem W_iinc {k : Nat} {z : Int} (hp : p_iinc k z n ls st M = some (.inl (pc', ls', st', M'))) (pt : PT D A H0 s b nL sf a ca M ls st lc H locs) (hcl : cl' + M.1.length = cl + M'.1.length) (hsl : sl' + slt M.1 = sl + slt M'.1) (K : KG p l e R s m args below meth c Q D A H0 b nL sf a M.1.length cl' sl' pc' ls' st' M')
    (row : ∀ (i : Nat) (x : Int32), (lvl a b ls)[i]? = some (k, .int x) → k < nL → (∀ lc' : Array Slot, lv_has lc' nL ((k, .int (x + Int32.ofInt z)) :: (lvl a b ls).filter (fun q => !(q.1 == k) && !(q.1 + 1 == k && q.2.category == 2))) → W p l e R s m args below meth c H locs cl sl Q (F0 m n lc' (st.map (cv a b)))) → W p l e R s m args below meth c H locs cl sl Q (F0 m pc lc (st.map (cv a b)))) : W p l e R s m args below meth c H locs cl sl Q (F0 m pc lc (st.map (cv a b))) := by
  unfold p_iinc at hp
  split at hp
  next x hx =>
    split at hp
    next hk =>
      obtain ⟨rfl, rfl, rfl, rfl⟩ := go_inv hp
      obtain rfl : cl' = cl := by omega
      obtain rfl : sl' = sl := by omega
      obtain ⟨hP, hD, hS, hK, hM, hls, hst, hL⟩ := pt
      have hg := nth_get hx (by simp)
      obtain ⟨i, hi⟩ := List.getElem?_of_mem (mem_lvl (a := a) (b := b) hg (by simp))
      refine row i (Int32.ofInt x) hi (by rw [← hL.1]; exact hk) (fun lc' h' => ?_)
      rw [of_add] at h'
      refine K a ca H locs lc' ⟨hP, hD, hS, hK, hM, ?_, hst, LR.store (v := .inl (wr (x + z))) hL hk h'⟩ (fun _ _ => rfl)
      intro v hv
      rcases stl_mem hv with rfl | hv
      · exact wr_in _
      · exact hls v hv
    next => cases hp
  next => cases hp
theorem W_bin {f : Int → Int → Int} (f32 : Int32 → Int32 → Int32) (hf : ∀ x y, f32 (Int32.ofInt x) (Int32.ofInt y) = Int32.ofInt (f x y)) (hin : ∀ x y, InR (f x y)) (hp : p_bin f n ls st M = some (.inl (pc', ls', st', M'))) (pt : PT D A H0 s b nL sf a ca M ls st lc H locs) (hcl : cl' + M.1.length = cl + M'.1.length) (hsl : sl' + slt M.1 = sl + slt M'.1) (K : KG p l e R s m args below meth c Q D A H0 b nL sf a M.1.length cl' sl' pc' ls' st' M')
    (row : ∀ (x y : Int32) (rest : List Value), W p l e R s m args below meth c H locs cl sl Q (F0 m n lc (.int (f32 x y) :: rest)) → W p l e R s m args below meth c H locs cl sl Q (F0 m pc lc (.int y :: .int x :: rest))) : W p l e R s m args below meth c H locs cl sl Q (F0 m pc lc (st.map (cv a b))) := by
  unfold p_bin at hp
  split at hp
  next y x r =>
    obtain ⟨rfl, rfl, rfl, rfl⟩ := go_inv hp
    obtain rfl : cl' = cl := by omega
    obtain rfl : sl' = sl := by omega
    obtain ⟨hP, hD, hS, hK, hM, hls, hst, hL⟩ := pt
    refine row (Int32.ofInt x) (Int32.ofInt y) (r.map (cv a b)) ?_
    rw [hf]
    exact K a ca H locs lc ⟨hP, hD, hS, hK, hM, hls, List.forall_mem_cons.mpr ⟨hin _ _, fun v hv => hst v (List.mem_cons_of_mem _ (List.mem_cons_of_mem _ hv))⟩, hL⟩ (fun _ _ => rfl)
  next => cases hp
theorem W_div {f : Int → Int → Int} (f32 : Int32 → Int32 → Int32) (hf : ∀ x y, f32 (Int32.ofInt x) (Int32.ofInt y) = Int32.ofInt (f x y)) (hin : ∀ x y, InR (f x y)) (hp : p_div f n ls st M = some (.inl (pc', ls', st', M'))) (pt : PT D A H0 s b nL sf a ca M ls st lc H locs) (hcl : cl' + M.1.length = cl + M'.1.length) (hsl : sl' + slt M.1 = sl + slt M'.1) (K : KG p l e R s m args below meth c Q D A H0 b nL sf a M.1.length cl' sl' pc' ls' st' M')
    (row : ∀ (x y : Int32) (rest : List Value), ¬ y = 0 → W p l e R s m args below meth c H locs cl sl Q (F0 m n lc (.int (f32 x y) :: rest)) → W p l e R s m args below meth c H locs cl sl Q (F0 m pc lc (.int y :: .int x :: rest))) : W p l e R s m args below meth c H locs cl sl Q (F0 m pc lc (st.map (cv a b))) := by
  unfold p_div at hp
  split at hp
  next y x r =>
    split at hp
    next => cases hp
    next hy =>
      obtain ⟨rfl, rfl, rfl, rfl⟩ := go_inv hp
      obtain rfl : cl' = cl := by omega
      obtain rfl : sl' = sl := by omega
      obtain ⟨hP, hD, hS, hK, hM, hls, hst, hL⟩ := pt
      have hyr : InR y := hst (.inl y) List.mem_cons_self
      refine row (Int32.ofInt x) (Int32.ofInt y) (r.map (cv a b)) (fun h => hy ((of_eq hyr in0).mp (h.trans of_0.symm))) ?_
      rw [hf]
      exact K a ca H locs lc ⟨hP, hD, hS, hK, hM, hls, List.forall_mem_cons.mpr ⟨hin _ _, fun v hv => hst v (List.mem_cons_of_mem _ (List.mem_cons_of_mem _ hv))⟩, hL⟩ (fun _ _ => rfl)
  next => cases hp
theorem W_neg (hp : p_neg n ls st M = some (.inl (pc', ls', st', M'))) (pt : PT D A H0 s b nL sf a ca M ls st lc H locs) (hcl : cl' + M.1.length = cl + M'.1.length) (hsl : sl' + slt M.1 = sl + slt M'.1) (K : KG p l e R s m args below meth c Q D A H0 b nL sf a M.1.length cl' sl' pc' ls' st' M')
    (row : ∀ (x : Int32) (rest : List Value), W p l e R s m args below meth c H locs cl sl Q (F0 m n lc (.int (-x) :: rest)) → W p l e R s m args below meth c H locs cl sl Q (F0 m pc lc (.int x :: rest))) : W p l e R s m args below meth c H locs cl sl Q (F0 m pc lc (st.map (cv a b))) := by
  unfold p_neg at hp
  split at hp
  next x r =>
    obtain ⟨rfl, rfl, rfl, rfl⟩ := go_inv hp
    obtain rfl : cl' = cl := by omega
    obtain rfl : sl' = sl := by omega
    obtain ⟨hP, hD, hS, hK, hM, hls, hst, hL⟩ := pt
    refine row (Int32.ofInt x) (r.map (cv a b)) ?_
    rw [of_neg]
    exact K a ca H locs lc ⟨hP, hD, hS, hK, hM, hls, List.forall_mem_cons.mpr ⟨wr_in _, fun v hv => hst v (List.mem_cons_of_mem _ hv)⟩, hL⟩ (fun _ _ => rfl)
  next => cases hp
theorem W_dup (hp : p_dup n ls st M = some (.inl (pc', ls', st', M'))) (pt : PT D A H0 s b nL sf a ca M ls st lc H locs) (hcl : cl' + M.1.length = cl + M'.1.length) (hsl : sl' + slt M.1 = sl + slt M'.1) (K : KG p l e R s m args below meth c Q D A H0 b nL sf a M.1.length cl' sl' pc' ls' st' M')
    (row : ∀ (x : Value) (rest : List Value), x.category = 1 → W p l e R s m args below meth c H locs cl sl Q (F0 m n lc (x :: x :: rest)) → W p l e R s m args below meth c H locs cl sl Q (F0 m pc lc (x :: rest))) : W p l e R s m args below meth c H locs cl sl Q (F0 m pc lc (st.map (cv a b))) := by
  unfold p_dup at hp
  split at hp
  next x r =>
    obtain ⟨rfl, rfl, rfl, rfl⟩ := go_inv hp
    obtain rfl : cl' = cl := by omega
    obtain rfl : sl' = sl := by omega
    obtain ⟨hP, hD, hS, hK, hM, hls, hst, hL⟩ := pt
    exact row (cv a b x) (r.map (cv a b)) (cv_cat a b x) (K a ca H locs lc ⟨hP, hD, hS, hK, hM, hls, List.forall_mem_cons.mpr ⟨hst x List.mem_cons_self, hst⟩, hL⟩ (fun _ _ => rfl))
  next => cases hp
theorem W_dup2 (hp : p_dup2 n ls st M = some (.inl (pc', ls', st', M'))) (pt : PT D A H0 s b nL sf a ca M ls st lc H locs) (hcl : cl' + M.1.length = cl + M'.1.length) (hsl : sl' + slt M.1 = sl + slt M'.1) (K : KG p l e R s m args below meth c Q D A H0 b nL sf a M.1.length cl' sl' pc' ls' st' M')
    (row : ∀ (y x : Value) (rest : List Value), y.category = 1 → x.category = 1 → W p l e R s m args below meth c H locs cl sl Q (F0 m n lc (y :: x :: y :: x :: rest)) → W p l e R s m args below meth c H locs cl sl Q (F0 m pc lc (y :: x :: rest))) : W p l e R s m args below meth c H locs cl sl Q (F0 m pc lc (st.map (cv a b))) := by
  unfold p_dup2 at hp
  split at hp
  next y x r =>
    obtain ⟨rfl, rfl, rfl, rfl⟩ := go_inv hp
    obtain rfl : cl' = cl := by omega
    obtain rfl : sl' = sl := by omega
    obtain ⟨hP, hD, hS, hK, hM, hls, hst, hL⟩ := pt
    exact row (cv a b y) (cv a b x) (r.map (cv a b)) (cv_cat a b y) (cv_cat a b x) (K a ca H locs lc ⟨hP, hD, hS, hK, hM, hls, List.forall_mem_cons.mpr ⟨hst y List.mem_cons_self, List.forall_mem_cons.mpr ⟨hst x (List.mem_cons_of_mem _ List.mem_cons_self), hst⟩⟩, hL⟩ (fun _ _ => rfl))
  next => cases hp
theorem W_pop (hp : p_pop n ls st M = some (.inl (pc', ls', st', M'))) (pt : PT D A H0 s b nL sf a ca M ls st lc H locs) (hcl : cl' + M.1.length = cl + M'.1.length) (hsl : sl' + slt M.1 = sl + slt M'.1) (K : KG p l e R s m args below meth c Q D A H0 b nL sf a M.1.length cl' sl' pc' ls' st' M')
    (row : ∀ (x : Value) (rest : List Value), x.category = 1 → W p l e R s m args below meth c H locs cl sl Q (F0 m n lc rest) → W p l e R s m args below meth c H locs cl sl Q (F0 m pc lc (x :: rest))) : W p l e R s m args below meth c H locs cl sl Q (F0 m pc lc (st.map (cv a b))) := by
  unfold p_pop at hp
  split at hp
  next x r =>
    obtain ⟨rfl, rfl, rfl, rfl⟩ := go_inv hp
    obtain rfl : cl' = cl := by omega
    obtain rfl : sl' = sl := by omega
    obtain ⟨hP, hD, hS, hK, hM, hls, hst, hL⟩ := pt
    exact row (cv a b x) _ (cv_cat a b x) (K a ca H locs lc ⟨hP, hD, hS, hK, hM, hls, fun v hv => hst v (List.mem_cons_of_mem _ hv), hL⟩ (fun _ _ => rfl))
  next => cases hp
theorem W_goto {t : Nat} (hp : go t ls st M = some (.inl (pc', ls', st', M'))) (pt : PT D A H0 s b nL sf a ca M ls st lc H locs) (hcl : cl' + M.1.length = cl + M'.1.length) (hsl : sl' + slt M.1 = sl + slt M'.1) (K : KG p l e R s m args below meth c Q D A H0 b nL sf a M.1.length cl' sl' pc' ls' st' M')
    (row : W p l e R s m args below meth c H locs cl sl Q (F0 m t lc (st.map (cv a b))) → W p l e R s m args below meth c H locs cl sl Q (F0 m pc lc (st.map (cv a b)))) : W p l e R s m args below meth c H locs cl sl Q (F0 m pc lc (st.map (cv a b))) := by
  obtain ⟨rfl, rfl, rfl, rfl⟩ := go_inv hp
  obtain rfl : cl' = cl := by omega
  obtain rfl : sl' = sl := by omega
  exact row (K a ca H locs lc pt (fun _ _ => rfl))
theorem W_if {cd : ClassFile.Cond} {t : Nat} (hp : p_if cd t n ls st M = some (.inl (pc', ls', st', M'))) (pt : PT D A H0 s b nL sf a ca M ls st lc H locs) (hcl : cl' + M.1.length = cl + M'.1.length) (hsl : sl' + slt M.1 = sl + slt M'.1) (K : KG p l e R s m args below meth c Q D A H0 b nL sf a M.1.length cl' sl' pc' ls' st' M')
    (row : ∀ (x : Int) (rest : List Value), InR x → (cnd cd x 0 = true → W p l e R s m args below meth c H locs cl sl Q (F0 m t lc rest)) → (¬ cnd cd x 0 = true → W p l e R s m args below meth c H locs cl sl Q (F0 m n lc rest)) → W p l e R s m args below meth c H locs cl sl Q (F0 m pc lc (.int (Int32.ofInt x) :: rest))) : W p l e R s m args below meth c H locs cl sl Q (F0 m pc lc (st.map (cv a b))) := by
  unfold p_if at hp
  split at hp
  next x r =>
    obtain ⟨hP, hD, hS, hK, hM, hls, hst, hL⟩ := pt
    refine row x (r.map (cv a b)) (hst (.inl x) List.mem_cons_self) (fun h => ?_) (fun h => ?_)
    · rw [if_pos h] at hp
      obtain ⟨rfl, rfl, rfl, rfl⟩ := go_inv hp
      obtain rfl : cl' = cl := by omega
      obtain rfl : sl' = sl := by omega
      exact K a ca H locs lc ⟨hP, hD, hS, hK, hM, hls, fun v hv => hst v (List.mem_cons_of_mem _ hv), hL⟩ (fun _ _ => rfl)
    · rw [if_neg h] at hp
      obtain ⟨rfl, rfl, rfl, rfl⟩ := go_inv hp
      obtain rfl : cl' = cl := by omega
      obtain rfl : sl' = sl := by omega
      exact K a ca H locs lc ⟨hP, hD, hS, hK, hM, hls, fun v hv => hst v (List.mem_cons_of_mem _ hv), hL⟩ (fun _ _ => rfl)
  next => cases hp
theorem W_icmp {cd : ClassFile.Cond} {t : Nat} (hp : p_icmp cd t n ls st M = some (.inl (pc', ls', st', M'))) (pt : PT D A H0 s b nL sf a ca M ls st lc H locs) (hcl : cl' + M.1.length = cl + M'.1.length) (hsl : sl' + slt M.1 = sl + slt M'.1) (K : KG p l e R s m args below meth c Q D A H0 b nL sf a M.1.length cl' sl' pc' ls' st' M')
    (row : ∀ (x y : Int) (rest : List Value), InR x → InR y → (cnd cd x y = true → W p l e R s m args below meth c H locs cl sl Q (F0 m t lc rest)) → (¬ cnd cd x y = true → W p l e R s m args below meth c H locs cl sl Q (F0 m n lc rest)) → W p l e R s m args below meth c H locs cl sl Q (F0 m pc lc (.int (Int32.ofInt y) :: .int (Int32.ofInt x) :: rest))) : W p l e R s m args below meth c H locs cl sl Q (F0 m pc lc (st.map (cv a b))) := by
  unfold p_icmp at hp
  split at hp
  next y x r =>
    obtain ⟨hP, hD, hS, hK, hM, hls, hst, hL⟩ := pt
    have hr : ∀ v ∈ r, okV sf M.1.length v := fun v hv => hst v (List.mem_cons_of_mem _ (List.mem_cons_of_mem _ hv))
    refine row x y (r.map (cv a b)) (hst (.inl x) (List.mem_cons_of_mem _ List.mem_cons_self)) (hst (.inl y) List.mem_cons_self) (fun h => ?_) (fun h => ?_)
    · rw [if_pos h] at hp
      obtain ⟨rfl, rfl, rfl, rfl⟩ := go_inv hp
      obtain rfl : cl' = cl := by omega
      obtain rfl : sl' = sl := by omega
      exact K a ca H locs lc ⟨hP, hD, hS, hK, hM, hls, hr, hL⟩ (fun _ _ => rfl)
    · rw [if_neg h] at hp
      obtain ⟨rfl, rfl, rfl, rfl⟩ := go_inv hp
      obtain rfl : cl' = cl := by omega
      obtain rfl : sl' = sl := by omega
      exact K a ca H locs lc ⟨hP, hD, hS, hK, hM, hls, hr, hL⟩ (fun _ _ => rfl)
  next => cases hp
theorem W_ifnull {t : Nat} (hp : p_ifnull t n ls st M = some (.inl (pc', ls', st', M'))) (pt : PT D A H0 s b nL sf a ca M ls st lc H locs) (hcl : cl' + M.1.length = cl + M'.1.length) (hsl : sl' + slt M.1 = sl + slt M'.1) (K : KG p l e R s m args below meth c Q D A H0 b nL sf a M.1.length cl' sl' pc' ls' st' M')
    (row : ∀ (x : Nat) (rest : List Value), W p l e R s m args below meth c H locs cl sl Q (F0 m n lc rest) → W p l e R s m args below meth c H locs cl sl Q (F0 m pc lc (.ref x :: rest)))
    (rowN : ∀ (rest : List Value), W p l e R s m args below meth c H locs cl sl Q (F0 m t lc rest) → W p l e R s m args below meth c H locs cl sl Q (F0 m pc lc (.null :: rest))) : W p l e R s m args below meth c H locs cl sl Q (F0 m pc lc (st.map (cv a b))) := by
  unfold p_ifnull at hp
  split at hp
  next x r =>
    obtain ⟨rfl, rfl, rfl, rfl⟩ := go_inv hp
    obtain rfl : cl' = cl := by omega
    obtain rfl : sl' = sl := by omega
    obtain ⟨hP, hD, hS, hK, hM, hls, hst, hL⟩ := pt
    exact row (a x) _ (K a ca H locs lc ⟨hP, hD, hS, hK, hM, hls, fun v hv => hst v (List.mem_cons_of_mem _ hv), hL⟩ (fun _ _ => rfl))
  next r =>
    obtain ⟨rfl, rfl, rfl, rfl⟩ := go_inv hp
    obtain rfl : cl' = cl := by omega
    obtain rfl : sl' = sl := by omega
    obtain ⟨hP, hD, hS, hK, hM, hls, hst, hL⟩ := pt
    exact rowN _ (K a ca H locs lc ⟨hP, hD, hS, hK, hM, hls, fun v hv => hst v (List.mem_cons_of_mem _ hv), hL⟩ (fun _ _ => rfl))
  next => cases hp
theorem W_switch {d : Nat} {tb : List Nat} (hp : p_switch d tb ls st M = some (.inl (pc', ls', st', M'))) (pt : PT D A H0 s b nL sf a ca M ls st lc H locs) (hcl : cl' + M.1.length = cl + M'.1.length) (hsl : sl' + slt M.1 = sl + slt M'.1) (K : KG p l e R s m args below meth c Q D A H0 b nL sf a M.1.length cl' sl' pc' ls' st' M')
    (row : ∀ (x : Int) (rest : List Value), InR x → W p l e R s m args below meth c H locs cl sl Q (F0 m (swt d x tb) lc rest) → W p l e R s m args below meth c H locs cl sl Q (F0 m pc lc (.int (Int32.ofInt x) :: rest))) : W p l e R s m args below meth c H locs cl sl Q (F0 m pc lc (st.map (cv a b))) := by
  unfold p_switch at hp
  split at hp
  next x r =>
    obtain ⟨rfl, rfl, rfl, rfl⟩ := go_inv hp
    obtain rfl : cl' = cl := by omega
    obtain rfl : sl' = sl := by omega
    obtain ⟨hP, hD, hS, hK, hM, hls, hst, hL⟩ := pt
    exact row x _ (hst (.inl x) List.mem_cons_self) (K a ca H locs lc ⟨hP, hD, hS, hK, hM, hls, fun v hv => hst v (List.mem_cons_of_mem _ hv), hL⟩ (fun _ _ => rfl))
  next => cases hp
end OPS
