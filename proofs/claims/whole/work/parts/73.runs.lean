/-! THE LAW RUNS -/
set_option maxRecDepth 100000 in
theorem SH_len : SH.length = 411 ∧ slt SH ≤ 10000 := by decide +kernel
section RUNS
variable {S : Scr} {d : Nat} {a0 a1 a2 a3 : AV} {st : List AV} {sh : Shp} {I : IM} {R : RM}
theorem u_209_0w : ev S d 209 0 [a0, a1, a2, a3] st (sh, I, R) = ev S d 209 3 [a0, a1, a2, a3] (.inr (.inl sh.length) :: st) (sh ++ [(8, 9)], clr I sh.length 0, clr R sh.length none) := (ev_eq f_209_0).trans rfl
theorem u_209_8w : ev S d 209 8 [a0, a1, a2, a3] st (sh, I, R) = ev S d 209 11 [a0, a1, a2, a3] (.inr (.inl sh.length) :: st) (sh ++ [(9, 27)], clr I sh.length 0, clr R sh.length none) := (ev_eq f_209_8).trans rfl
end RUNS
theorem law_runs : LawRuns := by
  intro xs L hL hin
  obtain ⟨M1, I, R, c1, c2, c3, c4, c5⟩ := ctors
  obtain ⟨sh1, I1, R1⟩ := M1
  have c2 : sh1.length = 392 := c2
  have k1 : cl 60 84 [.inr (.inl 0)] (nw M00 (8, 9)) = some (none, (sh1, I1, R1)) := by
    rw [c_84]
    exact ev_run.mpr ⟨3000, c1⟩
  have k2 : cl 60 128 [.inr (.inl 392)] (nw (sh1, I1, R1) (9, 27)) = some (none, (SH, I, R)) := by
    rw [c_128]
    exact ev_run.mpr ⟨3000, c3⟩
  have hinv : INV SH R I s00 := ⟨cs_init c4, mx_init c4, cr_init c5, mr_init c5, ok_s00⟩
  obtain ⟨I', R', e⟩ := lw_loop (S := (xs, L)) hL L 0 I R s00 (by show ((L : Nat) : Int) - 5 * ((0 : Nat) : Int) ≤ 5 * ((L : Nat) : Int); omega) (by omega) hinv
  have e : ev (xs, L) 60 209 18 [.inr (.inr 2), .inr (.inl 0), .inr (.inl 392), .inl 0] [] (SH, I, R) = some (some (.inl 1), (SH, I', R')) := e
  refine ⟨60, (SH, I', R'), by decide, ?_, by show SH.length ≤ 600000; rw [SH_len.1]; decide, Nat.le_trans SH_len.2 (by decide)⟩
  have e0 : ini 209 [.inr (.inr 2)] = [.inr (.inr 2), .inr (.inr 1), .inr (.inr 1), .inr (.inr 1)] := rfl
  have m0 : M00 = ([], fun _ _ => 0, fun _ _ => none) := rfl
  have t8 : tg (([] : Shp) ++ [(8, 9)]) 0 = 8 := rfl
  have t9 : tg (sh1 ++ [(9, 27)]) 392 = 9 := by
    unfold tg
    rw [List.getElem?_append_right (by omega), c2]
    rfl
  have k1 : cl 60 84 [.inr (.inl 0)] (([] : Shp) ++ [(8, 9)], clr (fun _ _ => 0) ([] : Shp).length 0, clr (fun _ _ => none) ([] : Shp).length none) = some (none, (sh1, I1, R1)) := k1
  have k2 : cl 60 128 [.inr (.inl 392)] (sh1 ++ [(9, 27)], clr I1 sh1.length 0, clr R1 sh1.length none) = some (none, (SH, I, R)) := k2
  rw [e0, m0, u_209_0w, u_209_3]
  show ev (xs, L) 60 209 4 _ [.inr (.inl 0), .inr (.inl 0)] _ = _
  rw [u_209_4 t8 (by simp), k1, bnd_some, psh_none, u_209_7, u_209_8w, u_209_11, c2, u_209_12 t9 (by simp)]
  rw [c2] at k2
  rw [k2, bnd_some, psh_none, u_209_15, u_209_16, u_209_17]
  exact e
