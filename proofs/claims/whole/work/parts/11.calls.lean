/-! CALLS, ENDS -/
/-- a run makes no cell less -/
def actOK (M : Mem) (x : Act) : Prop := match x with
  | none => True
  | some (.inl (_, _, _, M')) => M.1.length ≤ M'.1.length ∧ slt M.1 ≤ slt M'.1
  | some (.inr (.inl (_, _, _, _, _, M'))) => M' = M
  | some (.inr (.inr (_, M'))) => M' = M
theorem aOK_go {M M' : Mem} {n : Nat} {ls st : List AV} (h : M'.1 = M.1) : actOK M (go n ls st M') := by
  show M.1.length ≤ M'.1.length ∧ slt M.1 ≤ slt M'.1
  rw [h]
  exact ⟨Nat.le_refl _, Nat.le_refl _⟩
theorem aOK_nw {M : Mem} {n : Nat} {ls st : List AV} {q : Nat × Nat} : actOK M (go n ls st (nw M q)) := by
  show M.1.length ≤ (nw M q).1.length ∧ slt M.1 ≤ slt (nw M q).1
  rw [nw_len, nw_slt]
  exact ⟨by omega, by omega⟩
theorem aOK_none {M : Mem} : actOK M none := trivial
theorem pre_ok (S : Scr) (e : Ent) (ls st : List AV) (M : Mem) : actOK M (pre S e ls st M) := by
  unfold pre
  dsimp only
  split
  all_goals first
    | exact aOK_go rfl
    | exact aOK_none
    | exact aOK_nw
    | (unfold p_iload; split <;> first | exact aOK_go rfl | exact aOK_none)
    | (unfold p_aload; split <;> first | exact aOK_go rfl | exact aOK_none)
    | (unfold p_istore; (repeat' split) <;> first | exact aOK_go rfl | exact aOK_none)
    | (unfold p_astore; (repeat' split) <;> first | exact aOK_go rfl | exact aOK_none)
    | (unfold p_iinc; (repeat' split) <;> first | exact aOK_go rfl | exact aOK_none)
    | (unfold p_bin; (repeat' split) <;> first | exact aOK_go rfl | exact aOK_none)
    | (unfold p_div; (repeat' split) <;> first | exact aOK_go rfl | exact aOK_none)
    | (unfold p_neg; (repeat' split) <;> first | exact aOK_go rfl | exact aOK_none)
    | (unfold p_dup; (repeat' split) <;> first | exact aOK_go rfl | exact aOK_none)
    | (unfold p_dup2; (repeat' split) <;> first | exact aOK_go rfl | exact aOK_none)
    | (unfold p_pop; (repeat' split) <;> first | exact aOK_go rfl | exact aOK_none)
    | (unfold p_if; (repeat' split) <;> first | exact aOK_go rfl | exact aOK_none)
    | (unfold p_icmp; (repeat' split) <;> first | exact aOK_go rfl | exact aOK_none)
    | (unfold p_ifnull; (repeat' split) <;> first | exact aOK_go rfl | exact aOK_none)
    | (unfold p_switch; (repeat' split) <;> first | exact aOK_go rfl | exact aOK_none)
    | (unfold p_get; (repeat' split) <;> first | exact aOK_go rfl | exact aOK_none)
    | (unfold p_put; (repeat' split) <;> first | exact aOK_go rfl | exact aOK_none)
    | (unfold p_iald; (repeat' split) <;> first | exact aOK_go rfl | exact aOK_none)
    | (unfold p_iast; (repeat' split) <;> first | exact aOK_go rfl | exact aOK_none)
    | (unfold p_aald; (repeat' split) <;> first | exact aOK_go rfl | exact aOK_none)
    | (unfold p_aast; (repeat' split) <;> first | exact aOK_go rfl | exact aOK_none)
    | (unfold p_alen; (repeat' split) <;> first | exact aOK_go rfl | exact aOK_none)
    | (unfold p_newa; (repeat' split) <;> first | exact aOK_nw | exact aOK_none)
    | (unfold p_anew; (repeat' split) <;> first | exact aOK_nw | exact aOK_none)
    | (unfold p_virt; (repeat' split) <;> first | exact (rfl : M = M) | exact aOK_none)
    | (unfold p_call; (repeat' split) <;> first | exact (rfl : M = M) | exact aOK_none)
    | (unfold p_objinit; (repeat' split) <;> first | exact aOK_go rfl | exact aOK_none)
    | (unfold p_acopy; (repeat' split) <;> first | exact aOK_go rfl | exact aOK_none)
    | (unfold p_math; (repeat' split) <;> first | exact aOK_go rfl | exact aOK_none)
    | (unfold p_iret; (repeat' split) <;> first | exact (rfl : M = M) | exact aOK_none)
    | (unfold p_aret; (repeat' split) <;> first | exact (rfl : M = M) | exact aOK_none)
    | (unfold p_vret; (repeat' split) <;> first | exact (rfl : M = M) | exact aOK_none)
theorem run_len : ∀ (f : Nat) (S : Scr) (d mid pc : Nat) (ls st : List AV) (M : Mem) (r : Res), run f S d mid pc ls st M = some r → M.1.length ≤ r.2.1.length ∧ slt M.1 ≤ slt r.2.1 := by
  intro f
  induction f with
  | zero => intro S d mid pc ls st M r h; simp [run] at h
  | succ f ih =>
    intro S d mid pc ls st M r h
    unfold run at h
    cases hf : fetch mid pc with
    | none => rw [hf] at h; exact absurd h (by simp)
    | some e =>
      rw [hf] at h
      dsimp only at h
      have hok := pre_ok S e ls st M
      cases hp : pre S e ls st M with
      | none => rw [hp] at h; exact absurd h (by simp)
      | some x =>
        rw [hp] at h hok
        match x, h, hok with
        | .inl (pc', ls', st', M'), h, hok =>
          have h1 := ih _ _ _ _ _ _ _ _ h
          have hok : M.1.length ≤ M'.1.length ∧ slt M.1 ≤ slt M'.1 := hok
          exact ⟨Nat.le_trans hok.1 h1.1, Nat.le_trans hok.2 h1.2⟩
        | .inr (.inr r'), h, hok =>
          have hok : r'.2 = M := hok
          have h : some r' = some r := h
          cases h
          rw [hok]
          exact ⟨Nat.le_refl _, Nat.le_refl _⟩
        | .inr (.inl (mid', as, n, ls', r', M')), h, hok =>
          have hok : M' = M := hok
          subst hok
          dsimp only at h
          cases d with
          | zero => exact absurd h (by simp)
          | succ d' =>
            dsimp only at h
            by_cases hl : as.length ≤ maxOf mid'
            · rw [if_pos hl] at h
              cases hr : run f S0 d' mid' 0 (ini mid' as) [] M' with
              | none => rw [hr] at h; exact absurd h (by simp)
              | some q =>
                rw [hr] at h
                obtain ⟨v, M2⟩ := q
                have h1 := ih _ _ _ _ _ _ _ _ hr
                have h2 := ih _ _ _ _ _ _ _ _ h
                exact ⟨Nat.le_trans h1.1 h2.1, Nat.le_trans h1.2 h2.2⟩
            · rw [if_neg hl] at h; exact absurd h (by simp)
theorem pops_inv : ∀ (n : Nat) (acc st as r : List AV), pops n acc st = some (as, r) → ∃ bs, as = bs.reverse ++ acc ∧ st = bs ++ r ∧ bs.length = n
  | 0, acc, st, as, r, h => by
    simp only [pops, Option.some.injEq, Prod.mk.injEq] at h
    obtain ⟨rfl, rfl⟩ := h
    exact ⟨[], rfl, rfl, rfl⟩
  | n + 1, acc, [], as, r, h => by simp [pops] at h
  | n + 1, acc, v :: st, as, r, h => by
    simp only [pops] at h
    obtain ⟨bs, h1, h2, h3⟩ := pops_inv n (v :: acc) st as r h
    refine ⟨v :: bs, ?_, ?_, ?_⟩
    · rw [h1]; simp
    · rw [h2]; rfl
    · simp [h3]
theorem pops_ok {n : Nat} {st as r : List AV} (h : pops n [] st = some (as, r)) : as.length = n ∧ st = as.reverse ++ r := by
  obtain ⟨bs, h1, h2, h3⟩ := pops_inv n [] st as r h
  rw [List.append_nil] at h1
  subst h1
  exact ⟨by simp [h3], by simp [h2]⟩
theorem noS_ok : ∀ {n : Nat} {sf : Prop} {as : List AV}, noS as = true → (∀ v ∈ as, okV sf n v) → ∀ v ∈ as, okV False n v
  | n, sf, [], _, _ => fun v hv => by cases hv
  | n, sf, w :: as, h, hv => by
    have hw : okV False n w ∧ noS as = true := by
      rcases w with x | x | x
      · exact ⟨hv (.inl x) List.mem_cons_self, h⟩
      · exact ⟨hv (.inr (.inl x)) List.mem_cons_self, h⟩
      · by_cases hx : x = 2
        · subst hx
          simp [noS] at h
        · have h1 : okV False n (.inr (.inr x)) := by
            unfold okV
            split <;> simp_all
          refine ⟨h1, ?_⟩
          unfold noS at h
          split at h <;> simp_all
    exact List.forall_mem_cons.mpr ⟨hw.1, noS_ok hw.2 (fun v h2 => hv v (List.mem_cons_of_mem _ h2))⟩
theorem okV_any {n : Nat} {sf : Prop} {v : AV} (h : okV False n v) : okV sf n v := by
  rcases v with x | x | x
  · exact h
  · exact h
  · by_cases hx : x = 2
    · subst hx
      exact absurd h id
    · unfold okV
      split <;> simp_all
theorem lg_cv (a : Nat → Nat) (b : Nat) : ∀ as : List AV, lg_sl (as.map (cv a b)) = as.map (fun v => Slot.val (cv a b v))
  | [] => rfl
  | v :: as => by
    have ih := lg_cv a b as
    unfold lg_sl at ih ⊢
    rw [List.map_cons, List.flatMap_cons, ih, if_neg (by rw [cv_cat]; decide)]
    rfl
theorem LR_ini {a : Nat → Nat} {b mid nL : Nat} {as : List AV} (hm : maxOf mid = nL) (hl : as.length ≤ nL) : LR a b (ini mid as) ((lg_sl (as.map (cv a b)) ++ List.replicate (nL - (lg_sl (as.map (cv a b))).length) Slot.unset).toArray) nL := by
  have hlen : (lg_sl (as.map (cv a b))).length = as.length := by rw [lg_cv]; simp
  have h0 := lv_entry (as.map (cv a b)) (n := nL) (by rw [hlen]; exact hl)
  refine ⟨by simp only [ini, hm, List.length_append, List.length_replicate]; omega, ⟨h0.1, h0.2.1, fun q hq => by cases hq⟩, fun i v hi hv => ?_⟩
  by_cases hia : i < as.length
  · unfold ini at hi
    rw [List.getElem?_append_left hia] at hi
    rw [List.getElem?_toArray, List.getElem?_append_left (by rw [hlen]; exact hia), lg_cv, List.getElem?_map, hi]
    rfl
  · unfold ini at hi
    rw [List.getElem?_append_right (by omega)] at hi
    have := List.mem_of_getElem? hi
    exact absurd (List.eq_of_mem_replicate this) hv
theorem ini_ok {sf : Prop} {n mid : Nat} {as : List AV} (h : ∀ v ∈ as, okV sf n v) : ∀ v ∈ ini mid as, okV sf n v := by
  intro v hv
  rcases List.mem_append.mp hv with h1 | h1
  · exact h v h1
  · rw [List.eq_of_mem_replicate h1]
    trivial
theorem gin {ws : List Cond} (h : ∀ w ∈ ws, w ∈ gtbl) : GoodIn gtbl ws := fun w hw => ⟨h w hw, good_of_word (List.mem_filter.mp (h w hw)).2⟩
/-- a method's end, as the caller sees it -/
def QC (D : va_G) (b : Nat) (a : Nat → Nat) (M M2 : Mem) (v : Option AV) (A1 : Nat → Prop) : Array Value → State → Outcome → State → Prop := fun _ st oc t =>
  (∃ (a' : Nat → Nat) (ca' : Nat → ClassId), (∀ k, k < M.1.length → a' k = a k) ∧ oc = .returned (v.map (cv a' b)) ∧ va_P D CLS (cells a' ca' M2) t.heap ∧ WK D ca' M2 t ∧ va_D A1 (cells a' ca' M2) ∧ okM M2 ∧ ∀ w, v = some w → okV False M2.1.length w) ∧ va_F A1 st t
/-- a method's start -/
def BC (D : va_G) (a : Nat → Nat) (ca : Nat → ClassId) (M : Mem) (sz : Nat) (U : State) : Prop := U.heap.size = sz ∧ va_P D CLS (cells a ca M) U.heap ∧ WK D ca M U ∧ WN U ∧ va_D (fun _ => True) (cells a ca M)
theorem BC_blind {D : va_G} {a : Nat → Nat} {ca : Nat → ClassId} {M : Mem} {sz : Nat} {av : List Value} : FrameBlind (va_Pc av (BC D a ca M sz)) := fun _ U _ _ q => ⟨q.1, q.2.1, q.2.2.1, q.2.2.2.1.moved (Vm.Alike.refl U.vm), ⟨fun w hw => va_Nw.same rfl rfl (q.2.2.2.2.1.1 w hw), fun w hw => (q.2.2.2.2.1.2 w hw).moved (Vm.Alike.refl U.vm)⟩, q.2.2.2.2.2⟩
section CALLM
variable {p : Program} {l : Launch} {e : Env} {R : Room} {s : State} {m : MethodId} {args : Array Value} {below : List Frame} {meth : Method} {c : Code} {H : Heap} {locs : List Loc} {cells' slots : Nat} {Q : State → Prop}
variable {pc : Nat} {ls : Array Slot} {rest st0 : List Value} {av : Array Value} {A0 A1 : Nat → Prop} {H0 : Heap} {mc ms : Nat} {free : Addr → Prop} {D : va_G} {b : Nat} {a : Nat → Nat} {M M2 : Mem} {v : Option AV}
theorem W_callM (hr : va_Run p l e R s m args below meth c H locs cells' slots mc ms (F0 m pc ls st0) rest (QC D b a M M2 v A1 av) free) (hS : va_S A0 H0 H locs) (hA : ∀ q, q < H.size → A1 q → A0 q) (hf : ∀ q, free q → A0 q)
    (kk : ∀ (a' : Nat → Nat) (ca' : Nat → ClassId) (t : State) (H1 : Heap) (locs1 : List Loc), t.heap = H1 → s.vm.Alike t.vm → (∀ k, k < M.1.length → a' k = a k) → va_P D CLS (cells a' ca' M2) H1 → WK D ca' M2 t → va_D A1 (cells a' ca' M2) → okM M2 → (∀ w, v = some w → okV False M2.1.length w) → H.size ≤ H1.size → va_S A0 H0 H1 locs1 → W p l e R s m args below meth c H1 locs1 (cells' + mc) (slots + ms) Q (F0 m (pc + 3) ls ((v.map (cv a' b)).toList ++ rest))) : W p l e R s m args below meth c H locs cells' slots Q (F0 m pc ls st0) := by
  intro T hT X
  obtain ⟨v1, st₀, t, T', L, h0, X', hL, e1, e2, ⟨⟨a', ca', g1, hv, g2, g3, g4, g5, g6⟩, hz, hk⟩, st⟩ := hr T hT X
  cases hv
  rw [h0] at hz hk
  obtain ⟨t2, a1, b1⟩ := kk a' ca' t T'.heap (locs ++ L) e1.symm (by rw [← e2]; exact X'.warmed.alike) g1 (by rw [e1]; exact g2) g3 g4 g5 g6 (by rw [e1]; exact hz)
    ⟨Nat.le_trans hS.1 (by rw [e1]; exact hz), fun q h1 h2 => by rw [e1, hk q (Nat.lt_of_lt_of_le h1 hS.1) (fun z => h2 (hA q (Nat.lt_of_lt_of_le h1 hS.1) z))]; exact hS.2.1 q h1 h2, fun q hq => by
      rcases List.mem_append.mp hq with h | h
      · exact hS.2.2 q h
      · exact hf _ (hL q h)⟩ T' rfl X'
  exact ⟨t2, st t2 a1, b1⟩
end CALLM
