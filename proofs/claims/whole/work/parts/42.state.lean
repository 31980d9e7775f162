/-! THE WHOLE STATE: world, image, whether there is one, shelves, handles, the last fail -/
abbrev ST : Type := WD × WD × Int × (Nat → Option (List Int)) × (Nat → Int) × FL
def stW (s : ST) (w : WD) : ST := (w, s.2)
def stS (s : ST) (q : Nat) (v : Option (List Int)) : ST := (s.1, s.2.1, s.2.2.1, fun i => if i = q then v else s.2.2.2.1 i, s.2.2.2.2)
def stH (s : ST) (q : Nat) (v : Int) : ST := (s.1, s.2.1, s.2.2.1, s.2.2.2.1, fun i => if i = q then v else s.2.2.2.2.1 i, s.2.2.2.2.2)
def stF (s : ST) (fl : FL) : ST := (s.1, s.2.1, s.2.2.1, s.2.2.2.1, s.2.2.2.2.1, fl)
def zW (w : WD) : Prop := ∀ i : Nat, i < 30 → (w.1 i).1 = 0 → w.1 i = (0, 0, [], [])
def okT (t : List Int) : Prop := t.length ≤ 200 ∧ ∀ c ∈ t, 0 ≤ c ∧ c ≤ 255
def okS (s : ST) : Prop := okW s.1 ∧ zW s.1 ∧ okW s.2.1 ∧ zW s.2.1 ∧ (s.2.2.1 = 0 ∨ s.2.2.1 = 1) ∧ (∀ q : Nat, q < 4 → ∀ t, s.2.2.2.1 q = some t → okT t) ∧ (∀ q : Nat, q < 8 → livN s.1 (s.2.2.2.2.1 q)) ∧ s.2.2.2.2.2.length ≤ 13
def isSh (I : IM) (q : Nat) (o : Option (List Int)) : Prop := match o with
  | none => I (384 + 2 * q) 1 = -1
  | some t => isSg I (384 + 2 * q) t
def cFl (I : IM) (fl : FL) : Prop := I 374 2 = (fl.length : Int) ∧ ∀ (j : Nat) (p : Int × Int), fl[j]? = some p → I 375 (j : Int) = p.1 ∧ I 376 (j : Int) = p.2
/-- what the class's memory says -/
def cR (I : IM) (s : ST) : Prop := isW I 1 s.1 ∧ isW I 182 s.2.1 ∧ I 0 8 = s.2.2.1 ∧ (∀ q : Nat, q < 4 → isSh I q (s.2.2.2.1 q)) ∧ (∀ q : Nat, q < 8 → I 382 (q : Int) = s.2.2.2.2.1 q) ∧ cFl I s.2.2.2.2.2 ∧ I 377 0 = 6
def scr (k : Nat) : Prop := (363 ≤ k ∧ k ≤ 373) ∨ (377 ≤ k ∧ k ≤ 381) ∨ k = 383 ∨ 392 ≤ k
theorem isSh.cong {I I' : IM} {q : Nat} {o : Option (List Int)} (h : isSh I q o) (h0 : I' (384 + 2 * q) = I (384 + 2 * q)) (h1 : I' (384 + 2 * q + 1) = I (384 + 2 * q + 1)) : isSh I' q o := by
  cases o with
  | none => show I' (384 + 2 * q) 1 = -1; rw [h0]; exact h
  | some t => exact isSg.cong h h0 h1
theorem cFl.cong {I I' : IM} {fl : FL} (h : cFl I fl) (h0 : I' 374 = I 374) (h1 : I' 375 = I 375) (h2 : I' 376 = I 376) : cFl I' fl := ⟨by rw [h0]; exact h.1, fun j p hp => by rw [h1, h2]; exact h.2 j p hp⟩
theorem cR.cong {I I' : IM} {s : ST} (h : cR I s) (hf : ∀ k, ¬ scr k → I' k = I k) (h7 : I' 377 0 = I 377 0) : cR I' s := by
  obtain ⟨a1, a2, a3, a4, a5, a6, a7⟩ := h
  refine ⟨a1.cong (fun k a b => hf k (by unfold scr; omega)), a2.cong (fun k a b => hf k (by unfold scr; omega)), by rw [hf _ (by unfold scr; omega)]; exact a3, fun q hq => (a4 q hq).cong (hf _ (by unfold scr; omega)) (hf _ (by unfold scr; omega)), fun q hq => by rw [hf _ (by unfold scr; omega)]; exact a5 q hq, a6.cong (hf _ (by unfold scr; omega)) (hf _ (by unfold scr; omega)) (hf _ (by unfold scr; omega)), by rw [h7]; exact a7⟩
theorem cR.frK {I I' : IM} {s : ST} (h : cR I s) (hf : FrK I I') : cR I' s := h.cong (fun k hk => hf k (by unfold scr at hk; omega)) (by rw [hf _ (by omega)])
theorem cR.wr {I I' : IM} {s : ST} {w : WD} (h : cR I s) (hw : isW I' 1 w) (hf : FrW 1 I I') : cR I' (stW s w) := by
  obtain ⟨a1, a2, a3, a4, a5, a6, a7⟩ := h
  exact ⟨hw, a2.cong (fun k a b => hf k (by omega)), by rw [hf _ (by omega)]; exact a3, fun q hq => (a4 q hq).cong (hf _ (by omega)) (hf _ (by omega)), fun q hq => by rw [hf _ (by omega)]; exact a5 q hq, a6.cong (hf _ (by omega)) (hf _ (by omega)) (hf _ (by omega)), by rw [hf _ (by omega)]; exact a7⟩
def PS (sh : Shp) (R : RM) : Prop := tg sh 369 = 4 ∧ R 369 0 = some 1 ∧ R 369 1 = some 370 ∧ R 369 2 = some 371 ∧ R 369 3 = some 372 ∧ tg sh 370 = 100 ∧ ln sh 370 = 30 ∧ tg sh 371 = 100 ∧ ln sh 371 = 30 ∧ tg sh 372 = 100 ∧ ln sh 372 = 30
def LdS (sh : Shp) (R : RM) : Prop := tg sh 373 = 2 ∧ R 373 0 = some 1 ∧ R 373 1 = some 374 ∧ R 373 2 = some 377 ∧ R 373 3 = some 380 ∧ tg sh 374 = 0 ∧ R 374 0 = some 375 ∧ R 374 1 = some 376 ∧ tg sh 375 = 100 ∧ ln sh 375 = 13 ∧ tg sh 376 = 100 ∧ ln sh 376 = 13 ∧ FS sh R 377 ∧ tg sh 380 = 100 ∧ ln sh 380 = 30
/-- how the class's memory is laid out -/
def CS (sh : Shp) (R : RM) : Prop := HS sh R ∧ (R 0 1 = some 182 ∧ WS sh R 182) ∧ (R 0 2 = some 363 ∧ KS sh R) ∧ (R 0 3 = some 369 ∧ PS sh R) ∧ (R 0 4 = some 373 ∧ LdS sh R) ∧ (R 0 5 = some 381 ∧ tg sh 381 = 205 ∧ ln sh 381 = 4 ∧ ∀ q : Nat, q < 4 → R 381 (q : Int) = some (384 + 2 * q) ∧ SgS sh R (384 + 2 * q)) ∧ (R 0 6 = some 382 ∧ tg sh 382 = 100 ∧ ln sh 382 = 8) ∧ (R 0 7 = some 383 ∧ tg sh 383 = 100 ∧ ln sh 383 = 30)
/-- the model's shelves, fail -/
def isShM (I : IM) (q : Nat) (o : Option (List Int)) : Prop := match o with
  | none => I 397 (q : Int) = -1
  | some t => I 397 (q : Int) = (t.length : Int) ∧ ∀ (j : Nat) (c : Int), t[j]? = some c → I 398 (200 * (q : Int) + (j : Int)) = c
def mFlm (I : IM) (fl : FL) : Prop := I 392 15 = (fl.length : Int) ∧ ∀ (j : Nat) (p : Int × Int), fl[j]? = some p → I 403 (j : Int) = p.1 ∧ I 404 (j : Int) = p.2
def mR (I : IM) (s : ST) : Prop := isM I 393 s.1 ∧ I 392 3 = s.2.2.1 ∧ (s.2.2.1 = 1 → isM I 395 s.2.1) ∧ (∀ q : Nat, q < 4 → isShM I q (s.2.2.2.1 q)) ∧ (∀ q : Nat, q < 8 → I 396 (q : Int) = s.2.2.2.2.1 q) ∧ mFlm I s.2.2.2.2.2
theorem isShM.cong {I I' : IM} {q : Nat} {o : Option (List Int)} (h : isShM I q o) (h0 : I' 397 = I 397) (h1 : I' 398 = I 398) : isShM I' q o := by
  cases o with
  | none => show I' 397 q = -1; rw [h0]; exact h
  | some t => exact ⟨by rw [h0]; exact h.1, fun j c hc => by rw [h1]; exact h.2 j c hc⟩
theorem mFlm.cong {I I' : IM} {fl : FL} (h : mFlm I fl) (h0 : I' 392 15 = I 392 15) (h1 : I' 403 = I 403) (h2 : I' 404 = I 404) : mFlm I' fl := ⟨by rw [h0]; exact h.1, fun j p hp => by rw [h1, h2]; exact h.2 j p hp⟩
theorem isMc.cong {I I' : IM} {c c' : Nat} {w : WD} (h : isM I c w) (h0 : I' c' = I c) : isM I' c' w := by
  unfold isM mN mRf mFl mSc at h ⊢
  rw [h0]
  exact h
def mscr (k : Nat) : Prop := k < 392 ∨ k = 394 ∨ (399 ≤ k ∧ k ≤ 402) ∨ 405 ≤ k
theorem mR.cong {I I' : IM} {s : ST} (h : mR I s) (hf : ∀ k, k ≠ 392 → ¬ mscr k → I' k = I k) (h3 : I' 392 3 = I 392 3) (h15 : I' 392 15 = I 392 15) : mR I' s := by
  obtain ⟨a1, a2, a3, a4, a5, a6⟩ := h
  refine ⟨isMc.cong a1 (hf _ (by decide) (by unfold mscr; omega)), by rw [h3]; exact a2, fun q => isMc.cong (a3 q) (hf _ (by decide) (by unfold mscr; omega)), fun q hq => (a4 q hq).cong (hf _ (by decide) (by unfold mscr; omega)) (hf _ (by decide) (by unfold mscr; omega)), fun q hq => by rw [hf _ (by decide) (by unfold mscr; omega)]; exact a5 q hq, a6.cong h15 (hf _ (by decide) (by unfold mscr; omega)) (hf _ (by decide) (by unfold mscr; omega))⟩
theorem mR.frT {I I' : IM} {s : ST} (h : mR I s) (hf : FrT I I') : mR I' s := h.cong (fun k a b => hf.1 k a (by unfold mscr at b; omega) (by unfold mscr at b; omega) (by unfold mscr at b; omega)) (hf.2 _ (by decide) (by decide)) (hf.2 _ (by decide) (by decide))
theorem mR.wr {I I' : IM} {s : ST} {w : WD} (h : mR I s) (hw : isM I' 393 w) (hf : Fr3 I I') : mR I' (stW s w) := by
  obtain ⟨a1, a2, a3, a4, a5, a6⟩ := h
  exact ⟨hw, by rw [hf _ (by decide)]; exact a2, fun q => isMc.cong (a3 q) (hf _ (by decide)), fun q hq => (a4 q hq).cong (hf _ (by decide)) (hf _ (by decide)), fun q hq => by rw [hf _ (by decide)]; exact a5 q hq, a6.cong (by rw [hf _ (by decide)]) (hf _ (by decide)) (hf _ (by decide))⟩
def CE (sh : Shp) (R : RM) (I : IM) (d mid : Nat) (args : List AV) (r : Int × ST) : Prop := ∃ I', cl d mid (.inr (.inl 0) :: args) (sh, I, R) = some (some (.inl r.1), (sh, I', R)) ∧ cR I' r.2 ∧ ∀ k, 392 ≤ k → I' k = I k
def ME (sh : Shp) (R : RM) (I : IM) (d mid : Nat) (args : List AV) (r : Int × ST) : Prop := ∃ I', cl d mid (.inr (.inl 392) :: args) (sh, I, R) = some (some (.inl r.1), (sh, I', R)) ∧ mR I' r.2 ∧ ∀ k, k < 392 → I' k = I k
/-- nothing but the answer -/
theorem CE.same {sh : Shp} {R : RM} {I : IM} {d mid : Nat} {args : List AV} {s : ST} {r : Int} (hc : cR I s) (h : cl d mid (.inr (.inl 0) :: args) (sh, I, R) = some (some (.inl r), (sh, I, R))) : CE sh R I d mid args (r, s) := ⟨I, h, hc, fun _ _ => rfl⟩
theorem ME.same {sh : Shp} {R : RM} {I : IM} {d mid : Nat} {args : List AV} {s : ST} {r : Int} (hc : mR I s) (h : cl d mid (.inr (.inl 392) :: args) (sh, I, R) = some (some (.inl r), (sh, I, R))) : ME sh R I d mid args (r, s) := ⟨I, h, hc, fun _ _ => rfl⟩
abbrev isq (q : Int) : Prop := 0 ≤ q ∧ q < 4
abbrev ish (q : Int) : Prop := 0 ≤ q ∧ q < 8
def b_shelf (s : ST) (q n : Int) : Int × ST := if ¬ isq q then (-1, s) else if 200 < n then (-1, s) else if n < -1 then (-14, s) else (1, stS s q.toNat (if n = -1 then none else some (List.replicate n.toNat 0)))
def b_put (s : ST) (q i c : Int) : Int × ST := if ¬ isq q then (-1, s) else if ¬ (0 ≤ c ∧ c ≤ 255) then (-1, s) else match s.2.2.2.1 q.toNat with
  | none => (-11, s)
  | some t => if ¬ (0 ≤ i ∧ i < (t.length : Int)) then (-13, s) else (t.getD i.toNat 0, stS s q.toNat (some (t.set i.toNat c)))
def b_sign (s : ST) (q i : Int) : Int := if ¬ isq q then -1 else match s.2.2.2.1 q.toNat with
  | none => -11
  | some t => if i = -1 then (t.length : Int) else if ¬ (0 ≤ i ∧ i < (t.length : Int)) then -13 else t.getD i.toNat 0
def b_hold (s : ST) (h o : Int) : Int × ST := if ¬ ish h then (-1, s) else if ¬ livN s.1 o then (-1, s) else (1, stH s h.toNat o)
def b_held (s : ST) (h : Int) : Int := if ¬ ish h then -1 else nT (s.2.2.2.2.1 h.toNat)
def b_save (s : ST) (q o : Int) : Int × ST := if ¬ isq q then (-1, s) else if ¬ livN s.1 o then (-1, s) else if ¬ (thr s.1 o).2.length ≤ 200 then (-3, s) else (((thr s.1 o).2.length : Int), stS s q.toNat (some (thr s.1 o).2))
def fot : List Int → List Int → Nat → Int
  | [], [], _ => -2
  | [], _ :: _, j => (j : Int)
  | _ :: _, [], j => (j : Int)
  | a :: t, b :: u, j => if a = b then fot t u (j + 1) else (j : Int)
def b_judge (s : ST) (q o : Int) : Int := if ¬ isq q then -1 else if ¬ livN s.1 o then -1 else match s.2.2.2.1 q.toNat with
  | none => -11
  | some t => if ¬ (thr s.1 o).2.length ≤ 200 then -3 else fot t (thr s.1 o).2 0
def b_stream (s : ST) (o k : Int) : Int := if ¬ liv s.1 o then -1 else if k < 0 then -1 else if ¬ (thr s.1 o).2.length ≤ 200 then -3 else if k < ((thr s.1 o).2.length : Int) then (thr s.1 o).2.getD k.toNat 0 else -2
def b_cause (s : ST) (i q : Int) : Int := if i < 0 then -1 else if ¬ (0 ≤ q ∧ q ≤ 1) then -1 else if (s.2.2.2.2.2.length : Int) ≤ i then -2 else if q = 0 then (s.2.2.2.2.2.getD (s.2.2.2.2.2.length - 1 - i.toNat) (0, 0)).1 else (s.2.2.2.2.2.getD (s.2.2.2.2.2.length - 1 - i.toNat) (0, 0)).2
def b_image (s : ST) : Int × ST := (((30 - cntK s.1 0 : Nat) : Int), (s.1, s.1, 1, s.2.2.2))
def b_back (s : ST) : Int × ST := if s.2.2.1 = 0 then (-5, s) else (((30 - cntK s.2.1 0 : Nat) : Int), (s.2.1, s.2.1, s.2.2.1, s.2.2.2.1, fun h => if liv s.2.1 (s.2.2.2.2.1 h) then s.2.2.2.2.1 h else -1, s.2.2.2.2.2))
def b_tells (s : ST) (h q : Int) : Int := if ¬ ish h then -1 else if ¬ (0 ≤ q ∧ q ≤ 4) then -1 else if s.2.2.2.2.1 h.toNat = -1 then -11 else
  if q = 1 then (if (s.1.1 (s.2.2.2.2.1 h.toNat).toNat).1 = 1 then ((s.1.1 (s.2.2.2.2.1 h.toNat).toNat).2.2.2.length : Int) else -12) else
  if q = 2 then (if (s.1.1 (s.2.2.2.2.1 h.toNat).toNat).1 = 2 ∨ (s.1.1 (s.2.2.2.2.1 h.toNat).toNat).1 = 3 then nT ((s.1.1 (s.2.2.2.2.1 h.toNat).toNat).2.2.1.getD 0 0) else -12) else
  if q = 3 then (if (s.1.1 (s.2.2.2.2.1 h.toNat).toNat).1 = 3 then nT ((s.1.1 (s.2.2.2.2.1 h.toNat).toNat).2.2.1.getD 2 0) else -12) else
  if q = 4 then (if (s.1.1 (s.2.2.2.2.1 h.toNat).toNat).1 = 4 then 10 * (s.1.1 (s.2.2.2.2.1 h.toNat).toNat).2.1 + ((s.1.1 (s.2.2.2.2.1 h.toNat).toNat).2.2.1.length : Int) else -12) else (s.1.1 (s.2.2.2.2.1 h.toNat).toNat).1
def usdH (s : ST) : Nat := sumN (fun i => if s.2.2.2.2.1 i = -1 then 0 else 1) 8
def usdS (s : ST) : Nat := sumN (fun i => if s.2.2.2.1 i = none then 0 else 1) 4
def b_count (s : ST) (q : Int) : Int := if q = 0 then ((30 - cntK s.1 0 : Nat) : Int) else if q = 1 then ((cntK s.1 1 : Nat) : Int) else if q = 2 then ((cntK s.1 2 + cntK s.1 3 : Nat) : Int) else if q = 3 then ((cntK s.1 4 : Nat) : Int) else if q = 4 then ((cntF s.1 : Nat) : Int) else if q = 5 then ((cntR s.1 : Nat) : Int) else if q = 6 then ((cntS s.1 : Nat) : Int) else if q = 7 then ((usdH s : Nat) : Int) else if q = 8 then ((usdS s : Nat) : Int) else -1
