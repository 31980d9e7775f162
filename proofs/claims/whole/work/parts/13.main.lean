/-! .. AND SO ARE THE CALLS -/
theorem LT_use {own i mid na kind ix : Nat} (h : (LT[ix]?).map (fun q => (q.1, q.2.1, q.2.2.1, q.2.2.2.1, q.2.2.2.2.1)) = some (own, i, mid, na, kind)) : mid < 209 ∧ Cond.initialized (yOf mid).cls ∈ gtbl ∧ (parseMethodDescriptor (yOf mid).desc).map (fun d => d.parameters.length) = some na ∧
    (kind = 0 → Cond.methodLink (RS own) i (yOf mid) ∈ gtbl ∧ Cond.instanceMethod (yOf mid) ∈ gtbl ∧ Cond.selects (yOf mid).cls (yOf mid) (yOf mid) ∈ gtbl ∧ ownOf mid < 10) ∧
    (kind = 1 → Cond.methodLink (RS own) i (yOf mid) ∈ gtbl ∧ Cond.static (yOf mid) ∈ gtbl) ∧
    (kind = 2 → Cond.methodLink (RS own) i (yOf mid) ∈ gtbl ∧ Cond.instanceMethod (yOf mid) ∈ gtbl ∧ (yOf mid).name = "<init>") ∧
    (kind = 3 → (∃ q ∈ NT, nestW q = Cond.methodLinkNest (RS own) i (yOf mid) "GraphSaver") ∧ Cond.static (yOf mid) ∈ gtbl) ∧
    (kind = 4 → (∃ q ∈ NT, nestW q = Cond.methodLinkNest (RS own) i (yOf mid) "GraphSaver") ∧ Cond.instanceMethod (yOf mid) ∈ gtbl ∧ (yOf mid).name = "<init>") := by
  obtain ⟨q, hq, he⟩ := Option.map_eq_some_iff.mp h
  have hc := List.all_eq_true.mp LT_ok q (List.mem_of_getElem? hq)
  obtain ⟨q1, q2, q3, q4, q5, q6, q7, q8, q9⟩ := q
  simp only [Prod.mk.injEq] at he
  obtain ⟨rfl, rfl, rfl, rfl, rfl⟩ := he
  simp only [LTc, Bool.and_eq_true, decide_eq_true_eq] at hc
  obtain ⟨⟨⟨h1, h2⟩, h3⟩, h4⟩ := hc
  have nst : (NT[q6]?).map (fun q => (q.1, q.2.1, q.2.2.1)) = some (q1, q2, q3) → ∃ q ∈ NT, nestW q = Cond.methodLinkNest (RS q1) q2 (yOf q3) "GraphSaver" := by
    intro hn
    obtain ⟨w, hw, hwe⟩ := Option.map_eq_some_iff.mp hn
    obtain ⟨w1, w2, w3, w4⟩ := w
    simp only [Prod.mk.injEq] at hwe
    obtain ⟨rfl, rfl, rfl⟩ := hwe
    exact ⟨_, List.mem_of_getElem? hw, rfl⟩
  refine ⟨h1, mg h2 rfl, h3, fun hk => ?_, fun hk => ?_, fun hk => ?_, fun hk => ?_, fun hk => ?_⟩
  · subst hk
    simp only [if_true, Bool.and_eq_true, decide_eq_true_eq] at h4
    obtain ⟨⟨⟨g1, g2⟩, g3⟩, g4⟩ := h4
    exact ⟨mg g1 rfl, mg g2 rfl, mg g3 rfl, g4⟩
  · subst hk
    rw [if_neg (by decide), if_pos rfl] at h4
    simp only [Bool.and_eq_true, decide_eq_true_eq] at h4
    exact ⟨mg h4.1 rfl, mg h4.2 rfl⟩
  · subst hk
    rw [if_neg (by decide), if_neg (by decide), if_pos rfl] at h4
    simp only [Bool.and_eq_true, decide_eq_true_eq] at h4
    exact ⟨mg h4.1.1 rfl, mg h4.1.2 rfl, h4.2⟩
  · subst hk
    rw [if_neg (by decide), if_neg (by decide), if_neg (by decide), if_pos rfl] at h4
    simp only [Bool.and_eq_true, decide_eq_true_eq] at h4
    exact ⟨nst h4.1, mg h4.2 rfl⟩
  · subst hk
    rw [if_neg (by decide), if_neg (by decide), if_neg (by decide), if_neg (by decide), if_pos rfl] at h4
    simp only [Bool.and_eq_true, decide_eq_true_eq] at h4
    exact ⟨nst h4.1.1, mg h4.1.2 rfl, h4.2⟩
set_option maxRecDepth 100000 in
theorem MT_len : MT.length = 210 := by decide +kernel
theorem MT_get {i : Nat} (h : i < 209) : ∃ r, MT[i]? = some r := ⟨_, List.getElem?_eq_getElem (by rw [MT_len]; omega)⟩
set_option maxRecDepth 100000 in
theorem LT_ret : LT.all (fun q => !(q.2.2.2.2.1 == 2 || q.2.2.2.2.1 == 4) || decide ((MT[q.2.2.1]?).map (fun r => r.2.2.2.1) = some none)) = true := by decide +kernel
theorem LT_void {own i mid na kind ix : Nat} {r : MR} (h : (LT[ix]?).map (fun q => (q.1, q.2.1, q.2.2.1, q.2.2.2.1, q.2.2.2.2.1)) = some (own, i, mid, na, kind)) (hk : kind = 2 ∨ kind = 4) (hr : MT[mid]? = some r) : r.2.2.2.1 = none := by
  obtain ⟨q, hq, he⟩ := Option.map_eq_some_iff.mp h
  have hc := List.all_eq_true.mp LT_ret q (List.mem_of_getElem? hq)
  obtain ⟨q1, q2, q3, q4, q5, q6⟩ := q
  simp only [Prod.mk.injEq] at he
  obtain ⟨rfl, rfl, rfl, rfl, rfl⟩ := he
  simp only [Bool.or_eq_true, Bool.not_eq_true', decide_eq_true_eq, hr, Option.map_some, Option.some.injEq] at hc
  rcases hc with hc | hc
  · rcases hk with rfl | rfl <;> simp at hc
  · exact hc
theorem yOf_eq {i : Nat} {r : MR} (h : MT[i]? = some r) : yOf i = r.1 := by
  unfold yOf
  rw [h]
theorem ownOf_eq {i : Nat} {r : MR} (h : MT[i]? = some r) : ownOf i = r.2.2.2.2.1 := by
  unfold ownOf
  rw [h]
theorem map_psh {a' : Nat → Nat} {b : Nat} {v : Option AV} {r : List AV} : (psh v r).map (cv a' b) = (v.map (cv a' b)).toList ++ r.map (cv a' b) := by
  cases v <;> rfl
theorem snd_run (hg : MTgood) : ∀ f, SND f := by
  intro f
  induction f with
  | zero => intro S d mid pc ls st M v M' h; simp [run] at h
  | succ f ih =>
    intro S d mid pc ls st M v M' hrun p l e R s m args below meth c Q D A H0 H b sf a ca cl sl cl' sl' lc locs r hr cx pt hcl hsl hRc hRs KR
    have hlen0 := run_len _ _ _ _ _ _ _ _ _ hrun
    dsimp only at hlen0
    unfold run at hrun
    cases hf : fetch mid pc with
    | none => rw [hf] at hrun; exact absurd hrun (by simp)
    | some ent =>
      rw [hf] at hrun
      dsimp only at hrun
      have hf2 := hf
      unfold fetch at hf2
      rw [hr] at hf2
      obtain ⟨hmem, hpc⟩ := lk_mem hf2
      have hck := hg.1 mid r hr ent hmem
      have hok := pre_ok S ent ls st M
      obtain ⟨pc0, ins, len, aux, z⟩ := ent
      dsimp only at hpc
      subst hpc
      cases hp : pre S (pc0, ins, len, aux, z) ls st M with
      | none => rw [hp] at hrun; exact absurd hrun (by simp)
      | some x =>
        rw [hp] at hrun hok
        match x, hp, hrun, hok with
        | .inl (pc1, ls1, st1, M1), hp, hrun, hok =>
          have hok : M.1.length ≤ M1.1.length ∧ slt M.1 ≤ slt M1.1 := hok
          have hrun : run f S d mid pc1 ls1 st1 M1 = some (v, M') := hrun
          have hlen1 := run_len _ _ _ _ _ _ _ _ _ hrun
          dsimp only at hlen1
          refine stepW (cl' := cl + (M1.1.length - M.1.length)) (sl' := sl + (slt M1.1 - slt M.1)) hp hck cx pt (by omega) (by omega) ⟨by omega, by omega⟩ (by omega) (by omega) ?_
          intro a1 ca1 H1 locs1 lc1 pt1 hext1
          refine ih S d mid pc1 ls1 st1 M1 v M' hrun p l e R s m args below meth c Q D A H0 H1 b sf a1 ca1 _ _ cl' sl' lc1 locs1 r hr cx pt1 (by omega) (by omega) hRc hRs ?_
          intro pc' a' ca' H' locs' lc' ls' hri hpt hext
          exact KR pc' a' ca' H' locs' lc' ls' hri hpt (fun k hk => (hext k (by omega)).trans (hext1 k hk))
        | .inr (.inr (v1, M1)), hp, hrun, hok =>
          have hrun : some (v1, M1) = some (v, M') := hrun
          cases hrun
          obtain ⟨hri, hst, rfl⟩ := pre_ret hck hp
          obtain rfl : cl' = cl := by omega
          obtain rfl : sl' = sl := by omega
          have k := KR pc0 a ca H locs lc ls hri (by rw [← hst]; exact pt) (fun _ _ => rfl)
          rw [hst]
          exact k
        | .inr (.inl (mid2, as, n, ls1, rr, M1)), hp, hrun, hok =>
          have hok : M1 = M := hok
          subst hok
          dsimp only at hrun
          cases d with
          | zero => exact absurd hrun (by simp)
          | succ d =>
            dsimp only at hrun
            by_cases hl : as.length ≤ maxOf mid2
            · rw [if_pos hl] at hrun
              cases hc1 : run f S0 d mid2 0 (ini mid2 as) [] M1 with
              | none => rw [hc1] at hrun; exact absurd hrun (by simp)
              | some q =>
                rw [hc1] at hrun
                obtain ⟨v1, M2⟩ := q
                dsimp only at hrun
                have hlen1 := run_len _ _ _ _ _ _ _ _ _ hc1
                have hlen2 := run_len _ _ _ _ _ _ _ _ _ hrun
                dsimp only at hlen1 hlen2
                obtain ⟨hx, hb, hml, hown, hts, hN, hnm, hfr, hlo, hA, hX, hret, hlk⟩ := id cx
                obtain ⟨hP, hD, hS, hK, hM, hls, hst, hL⟩ := id pt
                obtain ⟨hdec, hckE⟩ := chkX_inv hck
                have hFr : ∀ q, va_A (cells a ca M1) H.size q → A q := by
                  intro q h
                  rcases h with ⟨k, en, h⟩ | h
                  · exact hD.2 k (q, en) h
                  · exact hA q (Nat.le_trans hS.1 h)
                -- what is left behind any call
                have fin : ∀ (rm : Room) (stk : List Value) (av : Array Value), rm = ({ frames := d + 1, cells := M2.1.length - M1.1.length, slots := slt M2.1 - slt M1.1, locals := 64 * (d + 1) } : Room) → (∀ w ∈ rr, okV sf M1.1.length w) → n = pc0 + 3 → ls1 = ls →
                    va_Run p l e R s m args below meth c H locs cl sl (M2.1.length - M1.1.length) (slt M2.1 - slt M1.1) (F0 m pc0 lc stk) (rr.map (cv a b)) (QC D b a M1 M2 v1 (va_A (cells a ca M1) H.size) av) (va_A (cells a ca M1) H.size) → W p l e R s m args below meth c H locs cl sl Q (F0 m pc0 lc stk) := by
                  intro rm stk av hrm hrr hn hls1 hrn
                  subst hn; subst hls1
                  refine W_callM hrn hS (fun q _ h => hFr q h) hFr (fun a1 ca1 t H1 locs1 ht hvm hext1 hP1 hK1 hD1 hM1 hv1 hz1 hS1 => ?_)
                  have e1 : (psh v1 rr).map (cv a1 b) = (v1.map (cv a1 b)).toList ++ rr.map (cv a b) := by
                    rw [map_psh, cvs_ext hext1 hrr]
                  rw [← e1]
                  refine ih S (d + 1) mid (pc0 + 3) ls1 (psh v1 rr) M2 v M' hrun p l e R s m args below meth c Q D A H0 H1 b sf a1 ca1 _ _ cl' sl' lc locs1 r hr cx ⟨hP1, ⟨hD1.1, fun k q hq => hFr _ (hD1.2 k q hq)⟩, hS1, hK1.moved hvm.symm, hM1, fun w hw => (hls w hw).mono hlen1.1, fun w hw => ?_, hL.ext hext1 hls⟩ (by omega) (by omega) hRc hRs ?_
                  · cases v1 with
                    | none => exact (hrr w hw).mono hlen1.1
                    | some v1 =>
                      rcases List.mem_cons.mp hw with rfl | hw
                      · exact okV_any (hv1 w rfl)
                      · exact (hrr w hw).mono hlen1.1
                  · intro pc' a' ca' H' locs' lc' ls' hri hpt hext
                    exact KR pc' a' ca' H' locs' lc' ls' hri hpt (fun k hk => (hext k (by omega)).trans (hext1 k hk))
                have hBC : ∀ U : State, U.heap = H → s.WarmedH U.vm → BC D a ca M1 H.size U := fun U hU hW => ⟨by rw [hU], by rw [hU]; exact hP, hK.moved hW.alike, hN.warm hW, hD.weaken (fun _ _ _ _ => trivial)⟩
                rcases pre_kind S (pc0, ins, len, aux, z) ls st M1 _ hp with g | ⟨i, mid3, na, ix, hins, haux, g⟩ | ⟨i, mid3, na, ix, hins, haux, g⟩ | ⟨zz, h1, h2, g⟩ | ⟨h1, g⟩ | ⟨h1, g⟩
                · exact absurd g id
                · dsimp only at hins haux g
                  subst haux
                  unfold p_virt at g
                  split at g
                  next as1 k r1 hpop =>
                    split at g
                    next hcond =>
                      obtain ⟨htk, hns, hr8⟩ := hcond
                      simp only [Option.some.injEq, Sum.inr.injEq, Sum.inl.injEq, Prod.mk.injEq] at g
                      obtain ⟨rfl, rfl, rfl, rfl, rfl, -⟩ := g
                      obtain ⟨hlen3, hst3⟩ := pops_ok hpop
                      subst hst3
                      have hk : k < M1.1.length := hst (.inr (.inl k)) (by simp)
                      have hrr : ∀ w ∈ rr, okV sf M1.1.length w := fun w hw => hst w (by simp [hw])
                      have has : ∀ w ∈ (Sum.inr (Sum.inl k) :: as1 : List AV), okV False M1.1.length w := List.forall_mem_cons.mpr ⟨hk, noS_ok hns (fun w hw => hst w (by simp [hw]))⟩
                      have hstk : ((as1.reverse ++ Sum.inr (Sum.inl k) :: rr).map (cv a b)) = (as1.map (cv a b)).reverse ++ Value.ref (a k) :: rr.map (cv a b) := by
                        simp [cv]
                      have facts : ∀ kind, (LT[ix]?).map (fun q => (q.1, q.2.1, q.2.2.1, q.2.2.2.1, q.2.2.2.2.1)) = some (r.2.2.2.2.1, i, mid2, na, kind) → len = 3 → (kind = 0 ∧ ins = .invokevirtual i) ∨ ((kind = 2 ∨ kind = 4) ∧ ins = .invokespecial i) → W p l e R s m args below meth c H locs cl sl Q (F0 m pc0 lc ((as1.reverse ++ Sum.inr (Sum.inl k) :: rr).map (cv a b))) := by
                        intro kind hLT hlen4 hkind
                        subst hlen4
                        obtain ⟨hlt, hini, hpar, k0, k1, k2, k3, k4⟩ := LT_use hLT
                        obtain ⟨r2, hr2⟩ : ∃ r2, MT[mid2]? = some r2 := MT_get hlt
                        obtain ⟨hcls, hplain, hmx, hnm1, hnm2⟩ := MT_head hr2
                        have hy := yOf_eq hr2
                        rw [hy] at hini hpar k0 k1 k2 k3 k4
                        rw [maxOf_eq hr2] at hl
                        have hcode := hg.2 mid2 r2 hlt hr2
                        have hws : ∀ w ∈ (Cond.code r2.1 r2.2.1 r2.2.2.1 r2.2.2.2.1 :: gtbl), w ∈ gtbl := List.forall_mem_cons.mpr ⟨hcode, fun w hw => hw⟩
                        have hMet := metC ih hc1 hr2 hl hM has l D a ca b H.size _ rfl
                        have hR2 : d + 1 + 1 ≤ R.frames ∧ 8 + (r2.2.2.1 + 11) + 64 * (d + 1) ≤ R.locals := ⟨by omega, by omega⟩
                        rw [hstk]
                        refine fin _ _ (Value.ref (a k) :: as1.map (cv a b)).toArray rfl hrr rfl rfl ?_
                        rcases hkind with ⟨rfl, hi⟩ | ⟨hk2 | hk4, hi⟩
                        · obtain ⟨g1, g2, g3, g4⟩ := k0 rfl
                          subst hi
                          rw [ownOf_eq hr2] at htk g4
                          have hT : GoodIn gtbl (wsV (RS r.2.2.2.2.1) i r2.1.cls r2.1 (Cond.code r2.1 r2.2.1 r2.2.2.1 r2.2.2.2.1 :: gtbl)) := gin (fun w hw => by
                            rcases List.mem_append.mp hw with hw | hw
                            · simp only [List.mem_cons, List.not_mem_nil, or_false] at hw
                              rcases hw with rfl | rfl | rfl | rfl
                              · exact g1
                              · exact g2
                              · exact g3
                              · exact hini
                            · exact hws w hw)
                          exact va_runV (C := r2.1.cls) (b := a k) (As := as1.map (cv a b)) (rest := rr.map (cv a b)) (g := F0 m pc0 lc _) ⟨hx, hb, hml, hown, hts⟩ hMet (cwV na hts hT rfl rfl rfl ⟨rfl, hnm1, hnm2, hpar⟩ hR2)
                            ⟨BC_blind, by rw [hcls]; exact va_recv (q := (RS r2.2.2.2.2.1, TT r2.2.2.2.2.1, NF r2.2.2.2.2.1)) hK.1 hP (cls_ok _ g4) (by rw [cells_get hk, ce_obj htk g4]), fun U hU hW => ⟨rfl, hBC U hU hW⟩⟩ rfl (by simp [hlen3]) hL.2.1.1 rfl (lv_room (by rw [sum_cat]; exact hr8)) hdec ⟨by omega, by omega⟩
                        · obtain ⟨g1, g2, g3⟩ := k2 hk2
                          subst hi
                          have hret2 : r2.2.2.2.1 = none := LT_void hLT (Or.inl hk2) hr2
                          rw [hret2] at hMet hcode hws
                          exact va_runI (b := a k) (As := as1.map (cv a b)) (rest := rr.map (cv a b)) (g := F0 m pc0 lc _) ⟨hx, hb, hml, hown, hts⟩ hMet (cwI na hts (gin hws) rfl rfl rfl (hts _ hini) (hts _ g1) (hts _ g2) g3 ⟨hnm1, hnm2, hpar⟩ hR2)
                            ⟨BC_blind, fun U hU hW => ⟨rfl, hBC U hU hW⟩⟩ rfl (by simp [hlen3]) hL.2.1.1 rfl (lv_room (by rw [sum_cat]; exact hr8)) hdec ⟨by omega, by omega⟩
                        · obtain ⟨⟨qn, hqn, hqe⟩, g2, g3⟩ := k4 hk4
                          subst hi
                          have hret2 : r2.2.2.2.1 = none := LT_void hLT (Or.inr hk4) hr2
                          rw [hret2] at hMet hcode hws
                          have hnl : va_Nw (Cond.methodLinkNest (RS r.2.2.2.2.1) i r2.1 "GraphSaver") s := by rw [← hqe]; exact hN.1 qn hqn
                          exact va_runIN (b := a k) (As := as1.map (cv a b)) (rest := rr.map (cv a b)) (g := F0 m pc0 lc _) ⟨hx, hb, hml, hown, hts⟩ hMet ⟨va_cnB na hts (gin hws) rfl rfl rfl hnl (hts _ hini) ⟨hnm1, hnm2, hpar⟩ hR2, g3, hts _ g2⟩
                            ⟨BC_blind, fun U hU hW => ⟨rfl, hBC U hU hW⟩⟩ rfl (by simp [hlen3]) hL.2.1.1 rfl (lv_room (by rw [sum_cat]; exact hr8)) hdec ⟨by omega, by omega⟩
                      rcases hins with rfl | rfl
                      · simp only [chkE, Bool.and_eq_true, decide_eq_true_eq] at hckE
                        exact facts 0 hckE.1 hckE.2 (Or.inl ⟨rfl, rfl⟩)
                      · simp only [chkE, Bool.and_eq_true, Bool.or_eq_true, decide_eq_true_eq] at hckE
                        rcases hckE.1 with h | h
                        · exact facts 2 h hckE.2 (Or.inr ⟨Or.inl rfl, rfl⟩)
                        · exact facts 4 h hckE.2 (Or.inr ⟨Or.inr rfl, rfl⟩)
                    next => cases g
                  next => cases g
                · dsimp only at hins haux g
                  subst haux; subst hins
                  unfold p_call at g
                  split at g
                  next as1 r1 hpop =>
                    split at g
                    next hcond =>
                      obtain ⟨hns, hr8⟩ := hcond
                      simp only [Option.some.injEq, Sum.inr.injEq, Sum.inl.injEq, Prod.mk.injEq] at g
                      obtain ⟨rfl, rfl, rfl, rfl, rfl, -⟩ := g
                      obtain ⟨hlen3, hst3⟩ := pops_ok hpop
                      subst hst3
                      have hrr : ∀ w ∈ rr, okV sf M1.1.length w := fun w hw => hst w (by simp [hw])
                      have has : ∀ w ∈ as, okV False M1.1.length w := noS_ok hns (fun w hw => hst w (by simp [hw]))
                      have hstk : ((as.reverse ++ rr).map (cv a b)) = (as.map (cv a b)).reverse ++ rr.map (cv a b) := by simp
                      simp only [chkE, Bool.and_eq_true, Bool.or_eq_true, decide_eq_true_eq] at hckE
                      obtain ⟨hLT, rfl⟩ := hckE
                      have facts : ∀ kind, (LT[ix]?).map (fun q => (q.1, q.2.1, q.2.2.1, q.2.2.2.1, q.2.2.2.2.1)) = some (r.2.2.2.2.1, i, mid2, na, kind) → kind = 1 ∨ kind = 3 → W p l e R s m args below meth c H locs cl sl Q (F0 m pc0 lc ((as.reverse ++ rr).map (cv a b))) := by
                        intro kind hLT hkind
                        obtain ⟨hlt, hini, hpar, k0, k1, k2, k3, k4⟩ := LT_use hLT
                        obtain ⟨r2, hr2⟩ : ∃ r2, MT[mid2]? = some r2 := MT_get hlt
                        obtain ⟨hcls, hplain, hmx, hnm1, hnm2⟩ := MT_head hr2
                        have hy := yOf_eq hr2
                        rw [hy] at hini hpar k0 k1 k2 k3 k4
                        rw [maxOf_eq hr2] at hl
                        have hcode := hg.2 mid2 r2 hlt hr2
                        have hws : ∀ w ∈ (Cond.code r2.1 r2.2.1 r2.2.2.1 r2.2.2.2.1 :: gtbl), w ∈ gtbl := List.forall_mem_cons.mpr ⟨hcode, fun w hw => hw⟩
                        have hMet := metC ih hc1 hr2 hl hM has l D a ca b H.size _ rfl
                        have hR2 : d + 1 + 1 ≤ R.frames ∧ 8 + (r2.2.2.1 + 11) + 64 * (d + 1) ≤ R.locals := ⟨by omega, by omega⟩
                        rw [hstk]
                        refine fin _ _ (as.map (cv a b)).toArray rfl hrr rfl rfl ?_
                        rcases hkind with rfl | rfl
                        · obtain ⟨g1, g2⟩ := k1 rfl
                          have hT : GoodIn gtbl (va_wsS (RS r.2.2.2.2.1) i r2.1 (Cond.code r2.1 r2.2.1 r2.2.2.1 r2.2.2.2.1 :: gtbl)) := gin (fun w hw => by
                            rcases List.mem_append.mp hw with hw | hw
                            · simp only [List.mem_cons, List.not_mem_nil, or_false] at hw
                              rcases hw with rfl | rfl | rfl
                              · exact g1
                              · exact g2
                              · exact hini
                            · exact hws w hw)
                          exact va_runS (As := as.map (cv a b)) (rest := rr.map (cv a b)) (g := F0 m pc0 lc _) ⟨hx, hb, hml, hown, hts⟩ hMet (va_cwS na hts hT rfl rfl rfl ⟨hnm1, hnm2, hpar⟩ hR2)
                            ⟨BC_blind, fun U hU hW => ⟨rfl, hBC U hU hW⟩⟩ rfl (by simp [hlen3]) hL.2.1.1 rfl (lv_room (by rw [sum_cat]; exact hr8)) hdec ⟨by omega, by omega⟩
                        · obtain ⟨⟨qn, hqn, hqe⟩, g2⟩ := k3 rfl
                          have hnl : va_Nw (Cond.methodLinkNest (RS r.2.2.2.2.1) i r2.1 "GraphSaver") s := by rw [← hqe]; exact hN.1 qn hqn
                          exact va_runSN (As := as.map (cv a b)) (rest := rr.map (cv a b)) (g := F0 m pc0 lc _) ⟨hx, hb, hml, hown, hts⟩ hMet ⟨va_cnB na hts (gin hws) rfl rfl rfl hnl (hts _ hini) ⟨hnm1, hnm2, hpar⟩ hR2, hts _ g2, trivial⟩
                            ⟨BC_blind, fun U hU hW => ⟨rfl, hBC U hU hW⟩⟩ rfl (by simp [hlen3]) hL.2.1.1 rfl (lv_room (by rw [sum_cat]; exact hr8)) hdec ⟨by omega, by omega⟩
                      rcases hLT with h | h
                      · exact facts 1 h (Or.inl rfl)
                      · exact facts 3 h (Or.inr rfl)
                    next => cases g
                  next => cases g
                · unfold p_iret at g
                  split at g
                  · split at g <;> cases g
                  · cases g
                · unfold p_aret at g
                  split at g <;> cases g
                · unfold p_vret at g
                  split at g <;> cases g
            · rw [if_neg hl] at hrun; exact absurd hrun (by simp)
