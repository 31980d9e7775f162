/-! THE LAW: every call of both answers alike -/
def INV (sh : Shp) (R : RM) (I : IM) (s : ST) : Prop := CS sh R ∧ MX sh R ∧ cR I s ∧ mR I s ∧ okS s
section LAW
variable {sh : Shp} {R : RM} {I : IM} {d mid A B : Nat} {s : ST} {args : List AV} {r : Int} {q : Int × ST} {S : Scr} {i : Int}
theorem cR.keep {I' : IM} (h : cR I s) (hf : ∀ k, k < 392 → I' k = I k) : cR I' s := h.cong (fun k hk => hf k (by unfold scr at hk; omega)) (by rw [hf _ (by decide)])
theorem mR.keep {I' : IM} (h : mR I s) (hf : ∀ k, 392 ≤ k → I' k = I k) : mR I' s := h.cong (fun k _ hk => hf k (by unfold mscr at hk; omega)) (by rw [hf _ (by decide)]) (by rw [hf _ (by decide)])
theorem CE.ofW {w' : WD} (hc : cR I s) (h : ∃ I', cl d mid (.inr (.inl 0) :: args) (sh, I, R) = some (some (.inl r), (sh, I', R)) ∧ isW I' 1 w' ∧ FrW 1 I I') : CE sh R I d mid args (r, stW s w') := by
  obtain ⟨I', h1, h2, h3⟩ := h
  exact ⟨I', h1, hc.wr h2 h3, fun k hk => h3 k (by omega)⟩
theorem ME.ofW {w' : WD} (hm : mR I s) (h : ∃ I', cl d mid (.inr (.inl 392) :: args) (sh, I, R) = some (some (.inl r), (sh, I', R)) ∧ isM I' 393 w' ∧ Fr3 I I') : ME sh R I d mid args (r, stW s w') := by
  obtain ⟨I', h1, h2, h3⟩ := h
  exact ⟨I', h1, hm.wr h2 h3, fun k hk => h3 k (by omega)⟩
theorem pr_of (hc : CE sh R I 60 A args q) (hm : mR I s) (hM : ∀ I1, mR I1 s → ME sh R I1 60 B args q) : ∃ I1 I2, cl 60 A (.inr (.inl 0) :: args) (sh, I, R) = some (some (.inl q.1), (sh, I1, R)) ∧ cl 60 B (.inr (.inl 392) :: args) (sh, I1, R) = some (some (.inl q.1), (sh, I2, R)) ∧ cR I2 q.2 ∧ mR I2 q.2 := by
  obtain ⟨I1, h1, h2, h3⟩ := hc
  obtain ⟨I2, g1, g2, g3⟩ := hM I1 (hm.keep h3)
  exact ⟨I1, I2, h1, g1, h2.keep g3, g2⟩
theorem CS.upR {v : Option Nat} (h : CS sh R) : CS sh (up R 373 5 v) := by
  have k1 : ∀ k, k ≠ 373 → up R 373 5 v k = R k := fun k hk => upf hk
  have k2 : ∀ z, z ≠ 5 → up R 373 5 v 373 z = R 373 z := fun z hz => upj hz
  have hws : ∀ B, B + 180 < 373 → WS sh R B → WS sh (up R 373 5 v) B := by
    intro B hB ⟨b1, b2, b3, b4, b5, b6, b7, b8, b9, b10, b11, b12⟩
    refine ⟨b1, by rw [k1 _ (by omega)]; exact b2, by rw [k1 _ (by omega)]; exact b3, by rw [k1 _ (by omega)]; exact b4, b5, b6, b7, b8, b9, b10, fun i hi => ?_, fun j hj => ?_⟩
    · obtain ⟨c1, c2, c3, c4, ⟨z1, z2, z3, z4, z5, z6, z7⟩, c6, c7⟩ := b11 i hi
      exact ⟨by rw [k1 _ (by omega)]; exact c1, c2, by rw [k1 _ (by omega)]; exact c3, by rw [k1 _ (by omega)]; exact c4, ⟨z1, z2, z3, z4, z5, by rw [k1 _ (by omega)]; exact z6, by rw [k1 _ (by omega)]; exact z7⟩, c6, c7⟩
    · obtain ⟨c1, ⟨z1, z2, z3, z4, z5, z6, z7⟩⟩ := b12 j hj
      exact ⟨by rw [k1 _ (by omega)]; exact c1, z1, z2, z3, z4, z5, by rw [k1 _ (by omega)]; exact z6, by rw [k1 _ (by omega)]; exact z7⟩
  obtain ⟨⟨a1, a2, a3⟩, ⟨b1, b2⟩, ⟨c1, ⟨x1, x2, x3, x4, x5, x6, ⟨y1, y2, y3, y4⟩, x7⟩⟩, ⟨e1, ⟨f1, f2, f3, f4, f5, f6⟩⟩, ⟨g1, ⟨h1, h2, h3, h4, h5, h6, h7, h8, h9, h10, h11, h12, ⟨z1, z2, z3, z4, z5, z6, z7⟩, h14⟩⟩, ⟨i1, i2, i3, i4⟩, ⟨j1, j2⟩, ⟨l1, l2⟩⟩ := h
  refine ⟨⟨a1, by rw [k1 _ (by decide)]; exact a2, hws 1 (by decide) a3⟩, ⟨by rw [k1 _ (by decide)]; exact b1, hws 182 (by decide) b2⟩, ⟨by rw [k1 _ (by decide)]; exact c1, x1, by rw [k1 _ (by decide)]; exact x2, by rw [k1 _ (by decide)]; exact x3, by rw [k1 _ (by decide)]; exact x4, by rw [k1 _ (by decide)]; exact x5, by rw [k1 _ (by decide)]; exact x6, ⟨y1, by rw [k1 _ (by decide)]; exact y2, y3, y4⟩, x7⟩, ⟨by rw [k1 _ (by decide)]; exact e1, f1, by rw [k1 _ (by decide)]; exact f2, by rw [k1 _ (by decide)]; exact f3, by rw [k1 _ (by decide)]; exact f4, by rw [k1 _ (by decide)]; exact f5, f6⟩, ⟨by rw [k1 _ (by decide)]; exact g1, h1, by rw [k2 _ (by decide)]; exact h2, by rw [k2 _ (by decide)]; exact h3, by rw [k2 _ (by decide)]; exact h4, by rw [k2 _ (by decide)]; exact h5, h6, by rw [k1 _ (by decide)]; exact h7, by rw [k1 _ (by decide)]; exact h8, h9, h10, h11, h12, ⟨z1, z2, z3, z4, z5, by rw [k1 _ (by decide)]; exact z6, by rw [k1 _ (by decide)]; exact z7⟩, h14⟩, ⟨by rw [k1 _ (by decide)]; exact i1, i2, i3, fun q hq => ?_⟩, ⟨by rw [k1 _ (by decide)]; exact j1, j2⟩, ⟨by rw [k1 _ (by decide)]; exact l1, l2⟩⟩
  obtain ⟨m1, m2, m3, m4, m5⟩ := i4 q hq
  exact ⟨by rw [k1 _ (by decide)]; exact m1, m2, by rw [k1 _ (by omega)]; exact m3, m4, m5⟩
theorem MX.upR {v : Option Nat} (h : MX sh R) : MX sh (up R 373 5 v) := by
  obtain ⟨⟨a1, a2, a3, a4⟩, b⟩ := h
  exact ⟨⟨a1, by rw [upk (by decide)]; exact a2, a3, a4⟩, fun p hp => ⟨by rw [upk (by decide)]; exact (b p hp).1, (b p hp).2⟩⟩
theorem lw_c0 (hL : S.2 ≤ 2560) (hi0 : 0 ≤ i) (hi : i + 5 ≤ (S.2 : Int)) (h : INV sh R I s) : ∃ I' R' s', ev S 60 209 176 [.inr (.inr 2), .inr (.inl 0), .inr (.inl 392), .inl i] [] (sh, I, R) = ev S 60 209 1172 [.inr (.inr 2), .inr (.inl 0), .inr (.inl 392), .inl i] [] (sh, I', R') ∧ INV sh R' I' s' := by
  obtain ⟨hC, hX, hc, hm, hs⟩ := h
  have t0 := hC.1.1
  have t9 := hX.1.1
  obtain ⟨I1, I2, e1, e2, e3, e4⟩ := pr_of (A := 85) (B := 148) (s := s) (args := [.inl (S.1 (i + 1)), .inl (S.1 (i + 2)), .inl (S.1 (i + 3)), .inl (S.1 (i + 4))]) (q := ((a_schema s.1 (S.1 (i + 1)) (S.1 (i + 2)) (S.1 (i + 3)) (S.1 (i + 4))).1, stW s (a_schema s.1 (S.1 (i + 1)) (S.1 (i + 2)) (S.1 (i + 3)) (S.1 (i + 4))).2)) (CE.ofW hc (C_schema (d := 56) hC.1 hc.1 hs.1)) hm (fun I1 h1 => ME.ofW h1 (M_schema (d := 56) hX.1 h1.1 hs.1))
  refine ⟨I2, R, _, ?_, hC, hX, e3, e4, hs.w (g_schema hs)⟩
  simp (disch := first | assumption | omega | exact Nat.le_of_ble_eq_true rfl | decide) only [u_209_176, u_209_177s, u_209_178, u_209_179, u_209_180, u_209_181s, u_209_182s, u_209_183, u_209_184, u_209_185, u_209_186s, u_209_187s, u_209_188, u_209_189, u_209_190, u_209_191s, u_209_192s, u_209_193, u_209_194, u_209_195, u_209_196s, u_209_197, u_209_200, u_209_201s, u_209_202, u_209_203, u_209_204, u_209_205s, u_209_206s, u_209_207, u_209_208, u_209_209, u_209_210s, u_209_211s, u_209_212, u_209_213, u_209_214, u_209_215s, u_209_216s, u_209_217, u_209_218, u_209_219, u_209_220s, u_209_221, u_209_224, u_209_227, u_209_228, wrI, e1, e2, bnd_some, psh_some, if_true]
theorem lw_c1 (hL : S.2 ≤ 2560) (hi0 : 0 ≤ i) (hi : i + 5 ≤ (S.2 : Int)) (h : INV sh R I s) : ∃ I' R' s', ev S 60 209 229 [.inr (.inr 2), .inr (.inl 0), .inr (.inl 392), .inl i] [] (sh, I, R) = ev S 60 209 1172 [.inr (.inr 2), .inr (.inl 0), .inr (.inl 392), .inl i] [] (sh, I', R') ∧ INV sh R' I' s' := by
  obtain ⟨hC, hX, hc, hm, hs⟩ := h
  have t0 := hC.1.1
  have t9 := hX.1.1
  obtain ⟨I1, I2, e1, e2, e3, e4⟩ := pr_of (A := 86) (B := 149) (s := s) (args := [.inl (S.1 (i + 1)), .inl (S.1 (i + 2))]) (q := ((a_version s.1 (S.1 (i + 1)) (S.1 (i + 2))).1, stW s (a_version s.1 (S.1 (i + 1)) (S.1 (i + 2))).2)) (CE.ofW hc (C_version (d := 58) hC.1 hc.1 hs.1)) hm (fun I1 h1 => ME.ofW h1 (M_version (d := 57) hX.1 h1.1 hs.1))
  refine ⟨I2, R, _, ?_, hC, hX, e3, e4, hs.w (g_version hs)⟩
  simp (disch := first | assumption | omega | exact Nat.le_of_ble_eq_true rfl | decide) only [u_209_229, u_209_230s, u_209_231, u_209_232, u_209_233, u_209_234s, u_209_235s, u_209_236, u_209_237, u_209_238, u_209_239s, u_209_240, u_209_243, u_209_244s, u_209_245, u_209_246, u_209_247, u_209_248s, u_209_249s, u_209_250, u_209_251, u_209_252, u_209_253s, u_209_254, u_209_257, u_209_260, u_209_261, wrI, e1, e2, bnd_some, psh_some, if_true]
theorem lw_c2 (hL : S.2 ≤ 2560) (hi0 : 0 ≤ i) (hi : i + 5 ≤ (S.2 : Int)) (h : INV sh R I s) : ∃ I' R' s', ev S 60 209 262 [.inr (.inr 2), .inr (.inl 0), .inr (.inl 392), .inl i] [] (sh, I, R) = ev S 60 209 1172 [.inr (.inr 2), .inr (.inl 0), .inr (.inl 392), .inl i] [] (sh, I', R') ∧ INV sh R' I' s' := by
  obtain ⟨hC, hX, hc, hm, hs⟩ := h
  have t0 := hC.1.1
  have t9 := hX.1.1
  obtain ⟨I1, I2, e1, e2, e3, e4⟩ := pr_of (A := 87) (B := 150) (s := s) (args := [.inl (S.1 (i + 1)), .inl (S.1 (i + 2)), .inl (S.1 (i + 3))]) (q := (a_byDef s.1 (S.1 (i + 1)) (S.1 (i + 2)) (S.1 (i + 3)), s)) (CE.same hc (C_byDef (d := 57) hC.1 hc.1 hs.1)) hm (fun I1 h1 => ME.same h1 (M_byDef (d := 57) hX.1 h1.1 hs.1))
  refine ⟨I2, R, _, ?_, hC, hX, e3, e4, hs⟩
  simp (disch := first | assumption | omega | exact Nat.le_of_ble_eq_true rfl | decide) only [u_209_262, u_209_263s, u_209_264, u_209_265, u_209_266, u_209_267s, u_209_268s, u_209_269, u_209_270, u_209_271, u_209_272s, u_209_273s, u_209_274, u_209_275, u_209_276, u_209_277s, u_209_278, u_209_281, u_209_282s, u_209_283, u_209_284, u_209_285, u_209_286s, u_209_287s, u_209_288, u_209_289, u_209_290, u_209_291s, u_209_292s, u_209_293, u_209_294, u_209_295, u_209_296s, u_209_297, u_209_300, u_209_303, u_209_304, wrI, e1, e2, bnd_some, psh_some, if_true]
theorem lw_c3 (hL : S.2 ≤ 2560) (hi0 : 0 ≤ i) (hi : i + 5 ≤ (S.2 : Int)) (h : INV sh R I s) : ∃ I' R' s', ev S 60 209 305 [.inr (.inr 2), .inr (.inl 0), .inr (.inl 392), .inl i] [] (sh, I, R) = ev S 60 209 1172 [.inr (.inr 2), .inr (.inl 0), .inr (.inl 392), .inl i] [] (sh, I', R') ∧ INV sh R' I' s' := by
  obtain ⟨hC, hX, hc, hm, hs⟩ := h
  have t0 := hC.1.1
  have t9 := hX.1.1
  obtain ⟨I1, I2, e1, e2, e3, e4⟩ := pr_of (A := 88) (B := 152) (s := s) (args := [.inl (S.1 (i + 1))]) (q := ((a_object s.1 (S.1 (i + 1))).1, stW s (a_object s.1 (S.1 (i + 1))).2)) (CE.ofW hc (C_object (d := 55) hC.1 hc.1 hs.1)) hm (fun I1 h1 => ME.ofW h1 (M_object (d := 56) hX.1 h1.1 hs.1))
  refine ⟨I2, R, _, ?_, hC, hX, e3, e4, hs.w (g_object hs)⟩
  simp (disch := first | assumption | omega | exact Nat.le_of_ble_eq_true rfl | decide) only [u_209_305, u_209_306s, u_209_307, u_209_308, u_209_309, u_209_310s, u_209_311, u_209_314, u_209_315s, u_209_316, u_209_317, u_209_318, u_209_319s, u_209_320, u_209_323, u_209_326, u_209_327, wrI, e1, e2, bnd_some, psh_some, if_true]
theorem lw_c4 (hL : S.2 ≤ 2560) (hi0 : 0 ≤ i) (hi : i + 5 ≤ (S.2 : Int)) (h : INV sh R I s) : ∃ I' R' s', ev S 60 209 328 [.inr (.inr 2), .inr (.inl 0), .inr (.inl 392), .inl i] [] (sh, I, R) = ev S 60 209 1172 [.inr (.inr 2), .inr (.inl 0), .inr (.inl 392), .inl i] [] (sh, I', R') ∧ INV sh R' I' s' := by
  obtain ⟨hC, hX, hc, hm, hs⟩ := h
  have t0 := hC.1.1
  have t9 := hX.1.1
  obtain ⟨I1, I2, e1, e2, e3, e4⟩ := pr_of (A := 89) (B := 153) (s := s) (args := [.inl (S.1 (i + 1)), .inl (S.1 (i + 2))]) (q := ((a_row s.1 (S.1 (i + 1)) (S.1 (i + 2))).1, stW s (a_row s.1 (S.1 (i + 1)) (S.1 (i + 2))).2)) (CE.ofW hc (C_row (d := 56) hC.1 hc.1 hs.1)) hm (fun I1 h1 => ME.ofW h1 (M_row (d := 57) hX.1 h1.1 hs.1))
  refine ⟨I2, R, _, ?_, hC, hX, e3, e4, hs.w (g_row hs)⟩
  simp (disch := first | assumption | omega | exact Nat.le_of_ble_eq_true rfl | decide) only [u_209_328, u_209_329s, u_209_330, u_209_331, u_209_332, u_209_333s, u_209_334s, u_209_335, u_209_336, u_209_337, u_209_338s, u_209_339, u_209_342, u_209_343s, u_209_344, u_209_345, u_209_346, u_209_347s, u_209_348s, u_209_349, u_209_350, u_209_351, u_209_352s, u_209_353, u_209_356, u_209_359, u_209_360, wrI, e1, e2, bnd_some, psh_some, if_true]
theorem lw_c5 (hL : S.2 ≤ 2560) (hi0 : 0 ≤ i) (hi : i + 5 ≤ (S.2 : Int)) (h : INV sh R I s) : ∃ I' R' s', ev S 60 209 361 [.inr (.inr 2), .inr (.inl 0), .inr (.inl 392), .inl i] [] (sh, I, R) = ev S 60 209 1172 [.inr (.inr 2), .inr (.inl 0), .inr (.inl 392), .inl i] [] (sh, I', R') ∧ INV sh R' I' s' := by
  obtain ⟨hC, hX, hc, hm, hs⟩ := h
  have t0 := hC.1.1
  have t9 := hX.1.1
  obtain ⟨I1, I2, e1, e2, e3, e4⟩ := pr_of (A := 90) (B := 155) (s := s) (args := [.inl (S.1 (i + 1)), .inl (S.1 (i + 2)), .inl (S.1 (i + 3))]) (q := ((a_write s.1 (S.1 (i + 1)) (S.1 (i + 2)) (S.1 (i + 3))).1, stW s (a_write s.1 (S.1 (i + 1)) (S.1 (i + 2)) (S.1 (i + 3))).2)) (CE.ofW hc (C_write (d := 56) hC.1 hc.1 hs.1)) hm (fun I1 h1 => ME.ofW h1 (M_write (d := 56) hX.1 h1.1 hs.1))
  refine ⟨I2, R, _, ?_, hC, hX, e3, e4, hs.w (g_write hs)⟩
  simp (disch := first | assumption | omega | exact Nat.le_of_ble_eq_true rfl | decide) only [u_209_361, u_209_362s, u_209_363, u_209_364, u_209_365, u_209_366s, u_209_367s, u_209_368, u_209_369, u_209_370, u_209_371s, u_209_372s, u_209_373, u_209_374, u_209_375, u_209_376s, u_209_377, u_209_380, u_209_381s, u_209_382, u_209_383, u_209_384, u_209_385s, u_209_386s, u_209_387, u_209_388, u_209_389, u_209_390s, u_209_391s, u_209_392, u_209_393, u_209_394, u_209_395s, u_209_396, u_209_399, u_209_402, u_209_403, wrI, e1, e2, bnd_some, psh_some, if_true]
theorem lw_c6 (hL : S.2 ≤ 2560) (hi0 : 0 ≤ i) (hi : i + 5 ≤ (S.2 : Int)) (h : INV sh R I s) : ∃ I' R' s', ev S 60 209 404 [.inr (.inr 2), .inr (.inl 0), .inr (.inl 392), .inl i] [] (sh, I, R) = ev S 60 209 1172 [.inr (.inr 2), .inr (.inl 0), .inr (.inl 392), .inl i] [] (sh, I', R') ∧ INV sh R' I' s' := by
  obtain ⟨hC, hX, hc, hm, hs⟩ := h
  have t0 := hC.1.1
  have t9 := hX.1.1
  obtain ⟨I1, I2, e1, e2, e3, e4⟩ := pr_of (A := 91) (B := 156) (s := s) (args := [.inl (S.1 (i + 1)), .inl (S.1 (i + 2))]) (q := (a_read s.1 (S.1 (i + 1)) (S.1 (i + 2)), s)) (CE.same hc (C_read (d := 57) hC.1 hc.1 hs.1)) hm (fun I1 h1 => ME.same h1 (M_read (d := 56) hX.1 h1.1 hs.1))
  refine ⟨I2, R, _, ?_, hC, hX, e3, e4, hs⟩
  simp (disch := first | assumption | omega | exact Nat.le_of_ble_eq_true rfl | decide) only [u_209_404, u_209_405s, u_209_406, u_209_407, u_209_408, u_209_409s, u_209_410s, u_209_411, u_209_412, u_209_413, u_209_414s, u_209_415, u_209_418, u_209_419s, u_209_420, u_209_421, u_209_422, u_209_423s, u_209_424s, u_209_425, u_209_426, u_209_427, u_209_428s, u_209_429, u_209_432, u_209_435, u_209_436, wrI, e1, e2, bnd_some, psh_some, if_true]
theorem lw_c7 (hL : S.2 ≤ 2560) (hi0 : 0 ≤ i) (hi : i + 5 ≤ (S.2 : Int)) (h : INV sh R I s) : ∃ I' R' s', ev S 60 209 437 [.inr (.inr 2), .inr (.inl 0), .inr (.inl 392), .inl i] [] (sh, I, R) = ev S 60 209 1172 [.inr (.inr 2), .inr (.inl 0), .inr (.inl 392), .inl i] [] (sh, I', R') ∧ INV sh R' I' s' := by
  obtain ⟨hC, hX, hc, hm, hs⟩ := h
  have t0 := hC.1.1
  have t9 := hX.1.1
  obtain ⟨I1, I2, e1, e2, e3, e4⟩ := pr_of (A := 92) (B := 157) (s := s) (args := [.inl (S.1 (i + 1)), .inl (S.1 (i + 2))]) (q := ((a_forget s.1 (S.1 (i + 1)) (S.1 (i + 2))).1, stW s (a_forget s.1 (S.1 (i + 1)) (S.1 (i + 2))).2)) (CE.ofW hc (C_forget (d := 57) hC.1 hc.1 hs.1)) hm (fun I1 h1 => ME.ofW h1 (M_forget (d := 56) hX.1 h1.1 hs.1))
  refine ⟨I2, R, _, ?_, hC, hX, e3, e4, hs.w (g_forget hs)⟩
  simp (disch := first | assumption | omega | exact Nat.le_of_ble_eq_true rfl | decide) only [u_209_437, u_209_438s, u_209_439, u_209_440, u_209_441, u_209_442s, u_209_443s, u_209_444, u_209_445, u_209_446, u_209_447s, u_209_448, u_209_451, u_209_452s, u_209_453, u_209_454, u_209_455, u_209_456s, u_209_457s, u_209_458, u_209_459, u_209_460, u_209_461s, u_209_462, u_209_465, u_209_468, u_209_469, wrI, e1, e2, bnd_some, psh_some, if_true]
theorem lw_c8 (hL : S.2 ≤ 2560) (hi0 : 0 ≤ i) (hi : i + 5 ≤ (S.2 : Int)) (h : INV sh R I s) : ∃ I' R' s', ev S 60 209 470 [.inr (.inr 2), .inr (.inl 0), .inr (.inl 392), .inl i] [] (sh, I, R) = ev S 60 209 1172 [.inr (.inr 2), .inr (.inl 0), .inr (.inl 392), .inl i] [] (sh, I', R') ∧ INV sh R' I' s' := by
  obtain ⟨hC, hX, hc, hm, hs⟩ := h
  have t0 := hC.1.1
  have t9 := hX.1.1
  obtain ⟨I1, I2, e1, e2, e3, e4⟩ := pr_of (A := 93) (B := 158) (s := s) (args := [.inl (S.1 (i + 1)), .inl (S.1 (i + 2)), .inl (S.1 (i + 3))]) (q := ((a_graft s.1 (S.1 (i + 1)) (S.1 (i + 2)) (S.1 (i + 3))).1, stW s (a_graft s.1 (S.1 (i + 1)) (S.1 (i + 2)) (S.1 (i + 3))).2)) (CE.ofW hc (C_graft (d := 57) hC.1 hc.1 hs.1)) hm (fun I1 h1 => ME.ofW h1 (M_graft (d := 56) hX.1 h1.1 hs.1))
  refine ⟨I2, R, _, ?_, hC, hX, e3, e4, hs.w (g_graft hs)⟩
  simp (disch := first | assumption | omega | exact Nat.le_of_ble_eq_true rfl | decide) only [u_209_470, u_209_471s, u_209_472, u_209_473, u_209_474, u_209_475s, u_209_476s, u_209_477, u_209_478, u_209_479, u_209_480s, u_209_481s, u_209_482, u_209_483, u_209_484, u_209_485s, u_209_486, u_209_489, u_209_490s, u_209_491, u_209_492, u_209_493, u_209_494s, u_209_495s, u_209_496, u_209_497, u_209_498, u_209_499s, u_209_500s, u_209_501, u_209_502, u_209_503, u_209_504s, u_209_505, u_209_508, u_209_511, u_209_512, wrI, e1, e2, bnd_some, psh_some, if_true]
theorem lw_c9 (hL : S.2 ≤ 2560) (hi0 : 0 ≤ i) (hi : i + 5 ≤ (S.2 : Int)) (h : INV sh R I s) : ∃ I' R' s', ev S 60 209 513 [.inr (.inr 2), .inr (.inl 0), .inr (.inl 392), .inl i] [] (sh, I, R) = ev S 60 209 1172 [.inr (.inr 2), .inr (.inl 0), .inr (.inl 392), .inl i] [] (sh, I', R') ∧ INV sh R' I' s' := by
  obtain ⟨hC, hX, hc, hm, hs⟩ := h
  have t0 := hC.1.1
  have t9 := hX.1.1
  obtain ⟨I1, I2, e1, e2, e3, e4⟩ := pr_of (A := 94) (B := 159) (s := s) (args := [.inl (S.1 (i + 1)), .inl (S.1 (i + 2))]) (q := (a_ref s.1 (S.1 (i + 1)) (S.1 (i + 2)), s)) (CE.same hc (C_ref (d := 58) hC.1 hc.1 hs.1)) hm (fun I1 h1 => ME.same h1 (M_ref (d := 56) hX.1 h1.1 hs.1))
  refine ⟨I2, R, _, ?_, hC, hX, e3, e4, hs⟩
  simp (disch := first | assumption | omega | exact Nat.le_of_ble_eq_true rfl | decide) only [u_209_513, u_209_514s, u_209_515, u_209_516, u_209_517, u_209_518s, u_209_519s, u_209_520, u_209_521, u_209_522, u_209_523s, u_209_524, u_209_527, u_209_528s, u_209_529, u_209_530, u_209_531, u_209_532s, u_209_533s, u_209_534, u_209_535, u_209_536, u_209_537s, u_209_538, u_209_541, u_209_544, u_209_545, wrI, e1, e2, bnd_some, psh_some, if_true]
theorem lw_c10 (hL : S.2 ≤ 2560) (hi0 : 0 ≤ i) (hi : i + 5 ≤ (S.2 : Int)) (h : INV sh R I s) : ∃ I' R' s', ev S 60 209 546 [.inr (.inr 2), .inr (.inl 0), .inr (.inl 392), .inl i] [] (sh, I, R) = ev S 60 209 1172 [.inr (.inr 2), .inr (.inl 0), .inr (.inl 392), .inl i] [] (sh, I', R') ∧ INV sh R' I' s' := by
  obtain ⟨hC, hX, hc, hm, hs⟩ := h
  have t0 := hC.1.1
  have t9 := hX.1.1
  obtain ⟨I1, I2, e1, e2, e3, e4⟩ := pr_of (A := 95) (B := 161) (s := s) (args := [.inl (S.1 (i + 1)), .inl (S.1 (i + 2))]) (q := (a_of s.1 (S.1 (i + 1)) (S.1 (i + 2)), s)) (CE.same hc (C_of (d := 55) hC.1 hc.1 hs.1)) hm (fun I1 h1 => ME.same h1 (M_of (d := 56) hX.1 h1.1 hs.1))
  refine ⟨I2, R, _, ?_, hC, hX, e3, e4, hs⟩
  simp (disch := first | assumption | omega | exact Nat.le_of_ble_eq_true rfl | decide) only [u_209_546, u_209_547s, u_209_548, u_209_549, u_209_550, u_209_551s, u_209_552s, u_209_553, u_209_554, u_209_555, u_209_556s, u_209_557, u_209_560, u_209_561s, u_209_562, u_209_563, u_209_564, u_209_565s, u_209_566s, u_209_567, u_209_568, u_209_569, u_209_570s, u_209_571, u_209_574, u_209_577, u_209_578, wrI, e1, e2, bnd_some, psh_some, if_true]
theorem lw_c11 (hL : S.2 ≤ 2560) (hi0 : 0 ≤ i) (hi : i + 5 ≤ (S.2 : Int)) (h : INV sh R I s) : ∃ I' R' s', ev S 60 209 579 [.inr (.inr 2), .inr (.inl 0), .inr (.inl 392), .inl i] [] (sh, I, R) = ev S 60 209 1172 [.inr (.inr 2), .inr (.inl 0), .inr (.inl 392), .inl i] [] (sh, I', R') ∧ INV sh R' I' s' := by
  obtain ⟨hC, hX, hc, hm, hs⟩ := h
  have t0 := hC.1.1
  have t9 := hX.1.1
  obtain ⟨I1, I2, e1, e2, e3, e4⟩ := pr_of (A := 96) (B := 162) (s := s) (args := [.inl (S.1 (i + 1)), .inl (S.1 (i + 2))]) (q := (a_name s.1 (S.1 (i + 1)) (S.1 (i + 2)), s)) (CE.same hc (C_name (d := 58) hC.1 hc.1 hs.1)) hm (fun I1 h1 => ME.same h1 (M_name (d := 56) hX.1 h1.1 hs.1))
  refine ⟨I2, R, _, ?_, hC, hX, e3, e4, hs⟩
  simp (disch := first | assumption | omega | exact Nat.le_of_ble_eq_true rfl | decide) only [u_209_579, u_209_580s, u_209_581, u_209_582, u_209_583, u_209_584s, u_209_585s, u_209_586, u_209_587, u_209_588, u_209_589s, u_209_590, u_209_593, u_209_594s, u_209_595, u_209_596, u_209_597, u_209_598s, u_209_599s, u_209_600, u_209_601, u_209_602, u_209_603s, u_209_604, u_209_607, u_209_610, u_209_611, wrI, e1, e2, bnd_some, psh_some, if_true]
theorem lw_c12 (hL : S.2 ≤ 2560) (hi0 : 0 ≤ i) (hi : i + 5 ≤ (S.2 : Int)) (h : INV sh R I s) : ∃ I' R' s', ev S 60 209 612 [.inr (.inr 2), .inr (.inl 0), .inr (.inl 392), .inl i] [] (sh, I, R) = ev S 60 209 1172 [.inr (.inr 2), .inr (.inl 0), .inr (.inl 392), .inl i] [] (sh, I', R') ∧ INV sh R' I' s' := by
  obtain ⟨hC, hX, hc, hm, hs⟩ := h
  have t0 := hC.1.1
  have t9 := hX.1.1
  obtain ⟨I1, I2, e1, e2, e3, e4⟩ := pr_of (A := 97) (B := 163) (s := s) (args := [.inl (S.1 (i + 1))]) (q := ((a_copy s.1 (S.1 (i + 1))).1, stW s (a_copy s.1 (S.1 (i + 1))).2)) (CE.ofW hc (C_copy (d := 54) hC.1 hc.1 hs.1)) hm (fun I1 h1 => ME.ofW h1 (M_copy (d := 56) hX.1 h1.1 hs.1))
  refine ⟨I2, R, _, ?_, hC, hX, e3, e4, hs.w (g_copy hs)⟩
  simp (disch := first | assumption | omega | exact Nat.le_of_ble_eq_true rfl | decide) only [u_209_612, u_209_613s, u_209_614, u_209_615, u_209_616, u_209_617s, u_209_618, u_209_621, u_209_622s, u_209_623, u_209_624, u_209_625, u_209_626s, u_209_627, u_209_630, u_209_633, u_209_634, wrI, e1, e2, bnd_some, psh_some, if_true]
theorem lw_c13 (hL : S.2 ≤ 2560) (hi0 : 0 ≤ i) (hi : i + 5 ≤ (S.2 : Int)) (h : INV sh R I s) : ∃ I' R' s', ev S 60 209 635 [.inr (.inr 2), .inr (.inl 0), .inr (.inl 392), .inl i] [] (sh, I, R) = ev S 60 209 1172 [.inr (.inr 2), .inr (.inl 0), .inr (.inl 392), .inl i] [] (sh, I', R') ∧ INV sh R' I' s' := by
  obtain ⟨hC, hX, hc, hm, hs⟩ := h
  have t0 := hC.1.1
  have t9 := hX.1.1
  obtain ⟨I1, I2, e1, e2, e3, e4⟩ := pr_of (A := 98) (B := 167) (s := s) (args := [.inl (S.1 (i + 1))]) (q := b_graph s (S.1 (i + 1))) (CC_graph (d := 18) hC hc hs) hm (fun I1 h1 => MM_graph (d := 26) hX h1 hs)
  refine ⟨I2, R, _, ?_, hC, hX, e3, e4, ok_graph hs⟩
  simp (disch := first | assumption | omega | exact Nat.le_of_ble_eq_true rfl | decide) only [u_209_635, u_209_636s, u_209_637, u_209_638, u_209_639, u_209_640s, u_209_641, u_209_644, u_209_645s, u_209_646, u_209_647, u_209_648, u_209_649s, u_209_650, u_209_653, u_209_656, u_209_657, wrI, e1, e2, bnd_some, psh_some, if_true]
theorem lw_c14 (hL : S.2 ≤ 2560) (hi0 : 0 ≤ i) (hi : i + 5 ≤ (S.2 : Int)) (h : INV sh R I s) : ∃ I' R' s', ev S 60 209 658 [.inr (.inr 2), .inr (.inl 0), .inr (.inl 392), .inl i] [] (sh, I, R) = ev S 60 209 1172 [.inr (.inr 2), .inr (.inl 0), .inr (.inl 392), .inl i] [] (sh, I', R') ∧ INV sh R' I' s' := by
  obtain ⟨hC, hX, hc, hm, hs⟩ := h
  have t0 := hC.1.1
  have t9 := hX.1.1
  obtain ⟨I1, I2, e1, e2, e3, e4⟩ := pr_of (A := 99) (B := 168) (s := s) (args := []) (q := b_sweep s) (CC_sweep (d := 19) hC hc hs) hm (fun I1 h1 => MM_sweep (d := 56) hX h1 hs)
  refine ⟨I2, R, _, ?_, hC, hX, e3, e4, ok_sweep hs⟩
  simp (disch := first | assumption | omega | exact Nat.le_of_ble_eq_true rfl | decide) only [u_209_658, u_209_659, u_209_662, u_209_663, u_209_666, u_209_669, u_209_670, wrI, e1, e2, bnd_some, psh_some, if_true]
theorem lw_c15 (hL : S.2 ≤ 2560) (hi0 : 0 ≤ i) (hi : i + 5 ≤ (S.2 : Int)) (h : INV sh R I s) : ∃ I' R' s', ev S 60 209 671 [.inr (.inr 2), .inr (.inl 0), .inr (.inl 392), .inl i] [] (sh, I, R) = ev S 60 209 1172 [.inr (.inr 2), .inr (.inl 0), .inr (.inl 392), .inl i] [] (sh, I', R') ∧ INV sh R' I' s' := by
  obtain ⟨hC, hX, hc, hm, hs⟩ := h
  have t0 := hC.1.1
  have t9 := hX.1.1
  obtain ⟨I1, I2, e1, e2, e3, e4⟩ := pr_of (A := 100) (B := 170) (s := s) (args := [.inl (S.1 (i + 1)), .inl (S.1 (i + 2))]) (q := b_shelf s (S.1 (i + 1)) (S.1 (i + 2))) (CC_shelf (d := 58) hC hc) hm (fun I1 h1 => MM_shelf (d := 57) hX h1 hs)
  refine ⟨I2, R, _, ?_, hC, hX, e3, e4, ok_shelf hs⟩
  simp (disch := first | assumption | omega | exact Nat.le_of_ble_eq_true rfl | decide) only [u_209_671, u_209_672s, u_209_673, u_209_674, u_209_675, u_209_676s, u_209_677s, u_209_678, u_209_679, u_209_680, u_209_681s, u_209_682, u_209_685, u_209_686s, u_209_687, u_209_688, u_209_689, u_209_690s, u_209_691s, u_209_692, u_209_693, u_209_694, u_209_695s, u_209_696, u_209_699, u_209_702, u_209_703, wrI, e1, e2, bnd_some, psh_some, if_true]
theorem lw_c16 (hL : S.2 ≤ 2560) (hi0 : 0 ≤ i) (hi : i + 5 ≤ (S.2 : Int)) (h : INV sh R I s) : ∃ I' R' s', ev S 60 209 704 [.inr (.inr 2), .inr (.inl 0), .inr (.inl 392), .inl i] [] (sh, I, R) = ev S 60 209 1172 [.inr (.inr 2), .inr (.inl 0), .inr (.inl 392), .inl i] [] (sh, I', R') ∧ INV sh R' I' s' := by
  obtain ⟨hC, hX, hc, hm, hs⟩ := h
  have t0 := hC.1.1
  have t9 := hX.1.1
  obtain ⟨I1, I2, e1, e2, e3, e4⟩ := pr_of (A := 101) (B := 171) (s := s) (args := [.inl (S.1 (i + 1)), .inl (S.1 (i + 2)), .inl (S.1 (i + 3))]) (q := b_put s (S.1 (i + 1)) (S.1 (i + 2)) (S.1 (i + 3))) (CC_put (d := 58) hC hc hs) hm (fun I1 h1 => MM_put (d := 57) hX h1 hs)
  refine ⟨I2, R, _, ?_, hC, hX, e3, e4, ok_put hs⟩
  simp (disch := first | assumption | omega | exact Nat.le_of_ble_eq_true rfl | decide) only [u_209_704, u_209_705s, u_209_706, u_209_707, u_209_708, u_209_709s, u_209_710s, u_209_711, u_209_712, u_209_713, u_209_714s, u_209_715s, u_209_716, u_209_717, u_209_718, u_209_719s, u_209_720, u_209_723, u_209_724s, u_209_725, u_209_726, u_209_727, u_209_728s, u_209_729s, u_209_730, u_209_731, u_209_732, u_209_733s, u_209_734s, u_209_735, u_209_736, u_209_737, u_209_738s, u_209_739, u_209_742, u_209_745, u_209_746, wrI, e1, e2, bnd_some, psh_some, if_true]
theorem lw_c17 (hL : S.2 ≤ 2560) (hi0 : 0 ≤ i) (hi : i + 5 ≤ (S.2 : Int)) (h : INV sh R I s) : ∃ I' R' s', ev S 60 209 747 [.inr (.inr 2), .inr (.inl 0), .inr (.inl 392), .inl i] [] (sh, I, R) = ev S 60 209 1172 [.inr (.inr 2), .inr (.inl 0), .inr (.inl 392), .inl i] [] (sh, I', R') ∧ INV sh R' I' s' := by
  obtain ⟨hC, hX, hc, hm, hs⟩ := h
  have t0 := hC.1.1
  have t9 := hX.1.1
  obtain ⟨I1, I2, e1, e2, e3, e4⟩ := pr_of (A := 102) (B := 172) (s := s) (args := [.inl (S.1 (i + 1)), .inl (S.1 (i + 2))]) (q := (b_sign s (S.1 (i + 1)) (S.1 (i + 2)), s)) (CC_sign (d := 58) hC hc hs) hm (fun I1 h1 => MM_sign (d := 57) hX h1 hs)
  refine ⟨I2, R, _, ?_, hC, hX, e3, e4, hs⟩
  simp (disch := first | assumption | omega | exact Nat.le_of_ble_eq_true rfl | decide) only [u_209_747, u_209_748s, u_209_749, u_209_750, u_209_751, u_209_752s, u_209_753s, u_209_754, u_209_755, u_209_756, u_209_757s, u_209_758, u_209_761, u_209_762s, u_209_763, u_209_764, u_209_765, u_209_766s, u_209_767s, u_209_768, u_209_769, u_209_770, u_209_771s, u_209_772, u_209_775, u_209_778, u_209_779, wrI, e1, e2, bnd_some, psh_some, if_true]
theorem lw_c18 (hL : S.2 ≤ 2560) (hi0 : 0 ≤ i) (hi : i + 5 ≤ (S.2 : Int)) (h : INV sh R I s) : ∃ I' R' s', ev S 60 209 780 [.inr (.inr 2), .inr (.inl 0), .inr (.inl 392), .inl i] [] (sh, I, R) = ev S 60 209 1172 [.inr (.inr 2), .inr (.inl 0), .inr (.inl 392), .inl i] [] (sh, I', R') ∧ INV sh R' I' s' := by
  obtain ⟨hC, hX, hc, hm, hs⟩ := h
  have t0 := hC.1.1
  have t9 := hX.1.1
  obtain ⟨I1, I2, e1, e2, e3, e4⟩ := pr_of (A := 103) (B := 177) (s := s) (args := [.inl (S.1 (i + 1)), .inl (S.1 (i + 2))]) (q := b_save s (S.1 (i + 1)) (S.1 (i + 2))) (CC_save (d := 18) hC hc hs) hm (fun I1 h1 => MM_save (d := 19) hX h1 hs)
  refine ⟨I2, R, _, ?_, hC, hX, e3, e4, ok_save hs⟩
  simp (disch := first | assumption | omega | exact Nat.le_of_ble_eq_true rfl | decide) only [u_209_780, u_209_781s, u_209_782, u_209_783, u_209_784, u_209_785s, u_209_786s, u_209_787, u_209_788, u_209_789, u_209_790s, u_209_791, u_209_794, u_209_795s, u_209_796, u_209_797, u_209_798, u_209_799s, u_209_800s, u_209_801, u_209_802, u_209_803, u_209_804s, u_209_805, u_209_808, u_209_811, u_209_812, wrI, e1, e2, bnd_some, psh_some, if_true]
theorem lw_c19 (hL : S.2 ≤ 2560) (hi0 : 0 ≤ i) (hi : i + 5 ≤ (S.2 : Int)) (h : INV sh R I s) : ∃ I' R' s', ev S 60 209 813 [.inr (.inr 2), .inr (.inl 0), .inr (.inl 392), .inl i] [] (sh, I, R) = ev S 60 209 1172 [.inr (.inr 2), .inr (.inl 0), .inr (.inl 392), .inl i] [] (sh, I', R') ∧ INV sh R' I' s' := by
  obtain ⟨hC, hX, hc, hm, hs⟩ := h
  have t0 := hC.1.1
  have t9 := hX.1.1
  obtain ⟨I1, v, e1, e5, e6⟩ := CC_load (d := 26) (x := S.1 (i + 1)) hC hc hs
  obtain ⟨I2, e2, e4, e7⟩ := MM_load (d := 42) (x := S.1 (i + 1)) hX.upR (hm.keep e6) hs (R := up R 373 5 v)
  have e1 : cl 60 104 [.inr (.inl 0), .inl (S.1 (i + 1))] (sh, I, R) = some (some (.inl (b_load s (S.1 (i + 1))).1), (sh, I1, up R 373 5 v)) := e1
  have e2 : cl 60 187 [.inr (.inl 392), .inl (S.1 (i + 1))] (sh, I1, up R 373 5 v) = some (some (.inl (b_load s (S.1 (i + 1))).1), (sh, I2, up R 373 5 v)) := e2
  refine ⟨I2, up R 373 5 v, _, ?_, hC.upR, hX.upR, e5.keep e7, e4, ok_load hs⟩
  simp (disch := first | assumption | omega | exact Nat.le_of_ble_eq_true rfl | decide) only [u_209_813, u_209_814s, u_209_815, u_209_816, u_209_817, u_209_818s, u_209_819, u_209_822, u_209_823s, u_209_824, u_209_825, u_209_826, u_209_827s, u_209_828, u_209_831, u_209_834, u_209_835, wrI, e1, e2, bnd_some, psh_some, if_true]
theorem lw_c20 (hL : S.2 ≤ 2560) (hi0 : 0 ≤ i) (hi : i + 5 ≤ (S.2 : Int)) (h : INV sh R I s) : ∃ I' R' s', ev S 60 209 836 [.inr (.inr 2), .inr (.inl 0), .inr (.inl 392), .inl i] [] (sh, I, R) = ev S 60 209 1172 [.inr (.inr 2), .inr (.inl 0), .inr (.inl 392), .inl i] [] (sh, I', R') ∧ INV sh R' I' s' := by
  obtain ⟨hC, hX, hc, hm, hs⟩ := h
  have t0 := hC.1.1
  have t9 := hX.1.1
  obtain ⟨I1, I2, e1, e2, e3, e4⟩ := pr_of (A := 105) (B := 188) (s := s) (args := [.inl (S.1 (i + 1)), .inl (S.1 (i + 2))]) (q := (b_cause s (S.1 (i + 1)) (S.1 (i + 2)), s)) (CC_cause (d := 58) hC hc hs) hm (fun I1 h1 => MM_cause (d := 58) hX h1 hs)
  refine ⟨I2, R, _, ?_, hC, hX, e3, e4, hs⟩
  simp (disch := first | assumption | omega | exact Nat.le_of_ble_eq_true rfl | decide) only [u_209_836, u_209_837s, u_209_838, u_209_839, u_209_840, u_209_841s, u_209_842s, u_209_843, u_209_844, u_209_845, u_209_846s, u_209_847, u_209_850, u_209_851s, u_209_852, u_209_853, u_209_854, u_209_855s, u_209_856s, u_209_857, u_209_858, u_209_859, u_209_860s, u_209_861, u_209_864, u_209_867, u_209_868, wrI, e1, e2, bnd_some, psh_some, if_true]
theorem lw_c21 (hL : S.2 ≤ 2560) (hi0 : 0 ≤ i) (hi : i + 5 ≤ (S.2 : Int)) (h : INV sh R I s) : ∃ I' R' s', ev S 60 209 869 [.inr (.inr 2), .inr (.inl 0), .inr (.inl 392), .inl i] [] (sh, I, R) = ev S 60 209 1172 [.inr (.inr 2), .inr (.inl 0), .inr (.inl 392), .inl i] [] (sh, I', R') ∧ INV sh R' I' s' := by
  obtain ⟨hC, hX, hc, hm, hs⟩ := h
  have t0 := hC.1.1
  have t9 := hX.1.1
  obtain ⟨I1, I2, e1, e2, e3, e4⟩ := pr_of (A := 106) (B := 189) (s := s) (args := [.inl (S.1 (i + 1)), .inl (S.1 (i + 2))]) (q := (b_judge s (S.1 (i + 1)) (S.1 (i + 2)), s)) (CC_judge (d := 18) hC hc hs) hm (fun I1 h1 => MM_judge (d := 19) hX h1 hs)
  refine ⟨I2, R, _, ?_, hC, hX, e3, e4, hs⟩
  simp (disch := first | assumption | omega | exact Nat.le_of_ble_eq_true rfl | decide) only [u_209_869, u_209_870s, u_209_871, u_209_872, u_209_873, u_209_874s, u_209_875s, u_209_876, u_209_877, u_209_878, u_209_879s, u_209_880, u_209_883, u_209_884s, u_209_885, u_209_886, u_209_887, u_209_888s, u_209_889s, u_209_890, u_209_891, u_209_892, u_209_893s, u_209_894, u_209_897, u_209_900, u_209_901, wrI, e1, e2, bnd_some, psh_some, if_true]
theorem lw_c22 (hL : S.2 ≤ 2560) (hi0 : 0 ≤ i) (hi : i + 5 ≤ (S.2 : Int)) (h : INV sh R I s) : ∃ I' R' s', ev S 60 209 902 [.inr (.inr 2), .inr (.inl 0), .inr (.inl 392), .inl i] [] (sh, I, R) = ev S 60 209 1172 [.inr (.inr 2), .inr (.inl 0), .inr (.inl 392), .inl i] [] (sh, I', R') ∧ INV sh R' I' s' := by
  obtain ⟨hC, hX, hc, hm, hs⟩ := h
  have t0 := hC.1.1
  have t9 := hX.1.1
  obtain ⟨I1, I2, e1, e2, e3, e4⟩ := pr_of (A := 107) (B := 194) (s := s) (args := [.inl (S.1 (i + 1)), .inl (S.1 (i + 2))]) (q := (b_told s (S.1 (i + 1)) (S.1 (i + 2)), s)) (CC_told (d := 18) hC hc hs) hm (fun I1 h1 => MM_told (d := 19) hX h1 hs)
  refine ⟨I2, R, _, ?_, hC, hX, e3, e4, hs⟩
  simp (disch := first | assumption | omega | exact Nat.le_of_ble_eq_true rfl | decide) only [u_209_902, u_209_903s, u_209_904, u_209_905, u_209_906, u_209_907s, u_209_908s, u_209_909, u_209_910, u_209_911, u_209_912s, u_209_913, u_209_916, u_209_917s, u_209_918, u_209_919, u_209_920, u_209_921s, u_209_922s, u_209_923, u_209_924, u_209_925, u_209_926s, u_209_927, u_209_930, u_209_933, u_209_934, wrI, e1, e2, bnd_some, psh_some, if_true]
theorem lw_c23 (hL : S.2 ≤ 2560) (hi0 : 0 ≤ i) (hi : i + 5 ≤ (S.2 : Int)) (h : INV sh R I s) : ∃ I' R' s', ev S 60 209 935 [.inr (.inr 2), .inr (.inl 0), .inr (.inl 392), .inl i] [] (sh, I, R) = ev S 60 209 1172 [.inr (.inr 2), .inr (.inl 0), .inr (.inl 392), .inl i] [] (sh, I', R') ∧ INV sh R' I' s' := by
  obtain ⟨hC, hX, hc, hm, hs⟩ := h
  have t0 := hC.1.1
  have t9 := hX.1.1
  obtain ⟨I1, I2, e1, e2, e3, e4⟩ := pr_of (A := 108) (B := 195) (s := s) (args := [.inl (S.1 (i + 1)), .inl (S.1 (i + 2))]) (q := (b_reaches s (S.1 (i + 1)) (S.1 (i + 2)), s)) (CC_reaches (d := 18) hC hc hs) hm (fun I1 h1 => MM_reaches (d := 56) hX h1 hs)
  refine ⟨I2, R, _, ?_, hC, hX, e3, e4, hs⟩
  simp (disch := first | assumption | omega | exact Nat.le_of_ble_eq_true rfl | decide) only [u_209_935, u_209_936s, u_209_937, u_209_938, u_209_939, u_209_940s, u_209_941s, u_209_942, u_209_943, u_209_944, u_209_945s, u_209_946, u_209_949, u_209_950s, u_209_951, u_209_952, u_209_953, u_209_954s, u_209_955s, u_209_956, u_209_957, u_209_958, u_209_959s, u_209_960, u_209_963, u_209_966, u_209_967, wrI, e1, e2, bnd_some, psh_some, if_true]
theorem lw_c24 (hL : S.2 ≤ 2560) (hi0 : 0 ≤ i) (hi : i + 5 ≤ (S.2 : Int)) (h : INV sh R I s) : ∃ I' R' s', ev S 60 209 968 [.inr (.inr 2), .inr (.inl 0), .inr (.inl 392), .inl i] [] (sh, I, R) = ev S 60 209 1172 [.inr (.inr 2), .inr (.inl 0), .inr (.inl 392), .inl i] [] (sh, I', R') ∧ INV sh R' I' s' := by
  obtain ⟨hC, hX, hc, hm, hs⟩ := h
  have t0 := hC.1.1
  have t9 := hX.1.1
  obtain ⟨I1, I2, e1, e2, e3, e4⟩ := pr_of (A := 109) (B := 198) (s := s) (args := [.inl (S.1 (i + 1)), .inl (S.1 (i + 2))]) (q := (b_alike s (S.1 (i + 1)) (S.1 (i + 2)), s)) (CC_alike (d := 54) hC hc hs) hm (fun I1 h1 => MM_alike (d := 57) hX h1 hs)
  refine ⟨I2, R, _, ?_, hC, hX, e3, e4, hs⟩
  simp (disch := first | assumption | omega | exact Nat.le_of_ble_eq_true rfl | decide) only [u_209_968, u_209_969s, u_209_970, u_209_971, u_209_972, u_209_973s, u_209_974s, u_209_975, u_209_976, u_209_977, u_209_978s, u_209_979, u_209_982, u_209_983s, u_209_984, u_209_985, u_209_986, u_209_987s, u_209_988s, u_209_989, u_209_990, u_209_991, u_209_992s, u_209_993, u_209_996, u_209_999, u_209_1000, wrI, e1, e2, bnd_some, psh_some, if_true]
theorem lw_c25 (hL : S.2 ≤ 2560) (hi0 : 0 ≤ i) (hi : i + 5 ≤ (S.2 : Int)) (h : INV sh R I s) : ∃ I' R' s', ev S 60 209 1001 [.inr (.inr 2), .inr (.inl 0), .inr (.inl 392), .inl i] [] (sh, I, R) = ev S 60 209 1172 [.inr (.inr 2), .inr (.inl 0), .inr (.inl 392), .inl i] [] (sh, I', R') ∧ INV sh R' I' s' := by
  obtain ⟨hC, hX, hc, hm, hs⟩ := h
  have t0 := hC.1.1
  have t9 := hX.1.1
  obtain ⟨I1, I2, e1, e2, e3, e4⟩ := pr_of (A := 110) (B := 199) (s := s) (args := [.inl (S.1 (i + 1)), .inl (S.1 (i + 2))]) (q := (b_stream s (S.1 (i + 1)) (S.1 (i + 2)), s)) (CC_stream (d := 18) hC hc hs) hm (fun I1 h1 => MM_stream (d := 19) hX h1 hs)
  refine ⟨I2, R, _, ?_, hC, hX, e3, e4, hs⟩
  simp (disch := first | assumption | omega | exact Nat.le_of_ble_eq_true rfl | decide) only [u_209_1001, u_209_1002s, u_209_1003, u_209_1004, u_209_1005, u_209_1006s, u_209_1007s, u_209_1008, u_209_1009, u_209_1010, u_209_1011s, u_209_1012, u_209_1015, u_209_1016s, u_209_1017, u_209_1018, u_209_1019, u_209_1020s, u_209_1021s, u_209_1022, u_209_1023, u_209_1024, u_209_1025s, u_209_1026, u_209_1029, u_209_1032, u_209_1033, wrI, e1, e2, bnd_some, psh_some, if_true]
theorem lw_c26 (hL : S.2 ≤ 2560) (hi0 : 0 ≤ i) (hi : i + 5 ≤ (S.2 : Int)) (h : INV sh R I s) : ∃ I' R' s', ev S 60 209 1034 [.inr (.inr 2), .inr (.inl 0), .inr (.inl 392), .inl i] [] (sh, I, R) = ev S 60 209 1172 [.inr (.inr 2), .inr (.inl 0), .inr (.inl 392), .inl i] [] (sh, I', R') ∧ INV sh R' I' s' := by
  obtain ⟨hC, hX, hc, hm, hs⟩ := h
  have t0 := hC.1.1
  have t9 := hX.1.1
  obtain ⟨I1, I2, e1, e2, e3, e4⟩ := pr_of (A := 111) (B := 200) (s := s) (args := []) (q := b_image s) (CC_image (d := 54) hC hc hs) hm (fun I1 h1 => MM_image (d := 58) hX h1 hs)
  refine ⟨I2, R, _, ?_, hC, hX, e3, e4, ok_image hs⟩
  simp (disch := first | assumption | omega | exact Nat.le_of_ble_eq_true rfl | decide) only [u_209_1034, u_209_1035, u_209_1038, u_209_1039, u_209_1042, u_209_1045, u_209_1046, wrI, e1, e2, bnd_some, psh_some, if_true]
theorem lw_c27 (hL : S.2 ≤ 2560) (hi0 : 0 ≤ i) (hi : i + 5 ≤ (S.2 : Int)) (h : INV sh R I s) : ∃ I' R' s', ev S 60 209 1047 [.inr (.inr 2), .inr (.inl 0), .inr (.inl 392), .inl i] [] (sh, I, R) = ev S 60 209 1172 [.inr (.inr 2), .inr (.inl 0), .inr (.inl 392), .inl i] [] (sh, I', R') ∧ INV sh R' I' s' := by
  obtain ⟨hC, hX, hc, hm, hs⟩ := h
  have t0 := hC.1.1
  have t9 := hX.1.1
  obtain ⟨I1, I2, e1, e2, e3, e4⟩ := pr_of (A := 112) (B := 201) (s := s) (args := []) (q := b_back s) (CC_back (d := 54) hC hc hs) hm (fun I1 h1 => MM_back (d := 57) hX h1 hs)
  refine ⟨I2, R, _, ?_, hC, hX, e3, e4, ok_back hs⟩
  simp (disch := first | assumption | omega | exact Nat.le_of_ble_eq_true rfl | decide) only [u_209_1047, u_209_1048, u_209_1051, u_209_1052, u_209_1055, u_209_1058, u_209_1059, wrI, e1, e2, bnd_some, psh_some, if_true]
theorem lw_c28 (hL : S.2 ≤ 2560) (hi0 : 0 ≤ i) (hi : i + 5 ≤ (S.2 : Int)) (h : INV sh R I s) : ∃ I' R' s', ev S 60 209 1060 [.inr (.inr 2), .inr (.inl 0), .inr (.inl 392), .inl i] [] (sh, I, R) = ev S 60 209 1172 [.inr (.inr 2), .inr (.inl 0), .inr (.inl 392), .inl i] [] (sh, I', R') ∧ INV sh R' I' s' := by
  obtain ⟨hC, hX, hc, hm, hs⟩ := h
  have t0 := hC.1.1
  have t9 := hX.1.1
  obtain ⟨I1, I2, e1, e2, e3, e4⟩ := pr_of (A := 113) (B := 203) (s := s) (args := [.inl (S.1 (i + 1)), .inl (S.1 (i + 2))]) (q := b_hold s (S.1 (i + 1)) (S.1 (i + 2))) (CC_hold (d := 57) hC hc) hm (fun I1 h1 => MM_hold (d := 56) hX h1)
  refine ⟨I2, R, _, ?_, hC, hX, e3, e4, ok_hold hs⟩
  simp (disch := first | assumption | omega | exact Nat.le_of_ble_eq_true rfl | decide) only [u_209_1060, u_209_1061s, u_209_1062, u_209_1063, u_209_1064, u_209_1065s, u_209_1066s, u_209_1067, u_209_1068, u_209_1069, u_209_1070s, u_209_1071, u_209_1074, u_209_1075s, u_209_1076, u_209_1077, u_209_1078, u_209_1079s, u_209_1080s, u_209_1081, u_209_1082, u_209_1083, u_209_1084s, u_209_1085, u_209_1088, u_209_1091, u_209_1092, wrI, e1, e2, bnd_some, psh_some, if_true]
theorem lw_c29 (hL : S.2 ≤ 2560) (hi0 : 0 ≤ i) (hi : i + 5 ≤ (S.2 : Int)) (h : INV sh R I s) : ∃ I' R' s', ev S 60 209 1093 [.inr (.inr 2), .inr (.inl 0), .inr (.inl 392), .inl i] [] (sh, I, R) = ev S 60 209 1172 [.inr (.inr 2), .inr (.inl 0), .inr (.inl 392), .inl i] [] (sh, I', R') ∧ INV sh R' I' s' := by
  obtain ⟨hC, hX, hc, hm, hs⟩ := h
  have t0 := hC.1.1
  have t9 := hX.1.1
  obtain ⟨I1, I2, e1, e2, e3, e4⟩ := pr_of (A := 114) (B := 204) (s := s) (args := [.inl (S.1 (i + 1))]) (q := (b_held s (S.1 (i + 1)), s)) (CC_held (d := 58) hC hc) hm (fun I1 h1 => MM_held (d := 57) hX h1 hs)
  refine ⟨I2, R, _, ?_, hC, hX, e3, e4, hs⟩
  simp (disch := first | assumption | omega | exact Nat.le_of_ble_eq_true rfl | decide) only [u_209_1093, u_209_1094s, u_209_1095, u_209_1096, u_209_1097, u_209_1098s, u_209_1099, u_209_1102, u_209_1103s, u_209_1104, u_209_1105, u_209_1106, u_209_1107s, u_209_1108, u_209_1111, u_209_1114, u_209_1115, wrI, e1, e2, bnd_some, psh_some, if_true]
theorem lw_c30 (hL : S.2 ≤ 2560) (hi0 : 0 ≤ i) (hi : i + 5 ≤ (S.2 : Int)) (h : INV sh R I s) : ∃ I' R' s', ev S 60 209 1116 [.inr (.inr 2), .inr (.inl 0), .inr (.inl 392), .inl i] [] (sh, I, R) = ev S 60 209 1172 [.inr (.inr 2), .inr (.inl 0), .inr (.inl 392), .inl i] [] (sh, I', R') ∧ INV sh R' I' s' := by
  obtain ⟨hC, hX, hc, hm, hs⟩ := h
  have t0 := hC.1.1
  have t9 := hX.1.1
  obtain ⟨I1, I2, e1, e2, e3, e4⟩ := pr_of (A := 115) (B := 205) (s := s) (args := [.inl (S.1 (i + 1)), .inl (S.1 (i + 2))]) (q := (b_tells s (S.1 (i + 1)) (S.1 (i + 2)), s)) (CC_tells (d := 58) hC hc hs) hm (fun I1 h1 => MM_tells (d := 57) hX h1 hs)
  refine ⟨I2, R, _, ?_, hC, hX, e3, e4, hs⟩
  simp (disch := first | assumption | omega | exact Nat.le_of_ble_eq_true rfl | decide) only [u_209_1116, u_209_1117s, u_209_1118, u_209_1119, u_209_1120, u_209_1121s, u_209_1122s, u_209_1123, u_209_1124, u_209_1125, u_209_1126s, u_209_1127, u_209_1130, u_209_1131s, u_209_1132, u_209_1133, u_209_1134, u_209_1135s, u_209_1136s, u_209_1137, u_209_1138, u_209_1139, u_209_1140s, u_209_1141, u_209_1144, u_209_1147, u_209_1148, wrI, e1, e2, bnd_some, psh_some, if_true]
theorem lw_c31 (hL : S.2 ≤ 2560) (hi0 : 0 ≤ i) (hi : i + 5 ≤ (S.2 : Int)) (h : INV sh R I s) : ∃ I' R' s', ev S 60 209 1149 [.inr (.inr 2), .inr (.inl 0), .inr (.inl 392), .inl i] [] (sh, I, R) = ev S 60 209 1172 [.inr (.inr 2), .inr (.inl 0), .inr (.inl 392), .inl i] [] (sh, I', R') ∧ INV sh R' I' s' := by
  obtain ⟨hC, hX, hc, hm, hs⟩ := h
  have t0 := hC.1.1
  have t9 := hX.1.1
  obtain ⟨I1, I2, e1, e2, e3, e4⟩ := pr_of (A := 116) (B := 207) (s := s) (args := [.inl (S.1 (i + 1))]) (q := (b_count s (S.1 (i + 1)), s)) (CC_count (d := 57) hC hc hs) hm (fun I1 h1 => MM_count (d := 57) hX h1 hs)
  refine ⟨I2, R, _, ?_, hC, hX, e3, e4, hs⟩
  simp (disch := first | assumption | omega | exact Nat.le_of_ble_eq_true rfl | decide) only [u_209_1149, u_209_1150s, u_209_1151, u_209_1152, u_209_1153, u_209_1154s, u_209_1155, u_209_1158, u_209_1159s, u_209_1160, u_209_1161, u_209_1162, u_209_1163s, u_209_1164, u_209_1167, u_209_1170, u_209_1171, wrI, e1, e2, bnd_some, psh_some, if_true]
theorem lw_step (hL : S.2 ≤ 2560) (hi0 : 0 ≤ i) (hi : i + 5 ≤ (S.2 : Int)) (h : INV sh R I s) : ∃ I' R' s', ev S 60 209 26 [.inr (.inr 2), .inr (.inl 0), .inr (.inl 392), .inl i] [] (sh, I, R) = ev S 60 209 1172 [.inr (.inr 2), .inr (.inl 0), .inr (.inl 392), .inl i] [] (sh, I', R') ∧ INV sh R' I' s' := by
  have e : ev S 60 209 26 [.inr (.inr 2), .inr (.inl 0), .inr (.inl 392), .inl i] [] (sh, I, R) = ev S 60 209 32 [.inr (.inr 2), .inr (.inl 0), .inr (.inl 392), .inl i] [.inl (b32 (fun x y => x &&& y) (S.1 i) 31)] (sh, I, R) := by
    simp (disch := first | assumption | omega | exact Nat.le_of_ble_eq_true rfl | decide) only [u_209_26s, u_209_27, u_209_28s, u_209_29, u_209_31]
  rw [e]
  generalize b32 (fun x y => x &&& y) (S.1 i) 31 = c
  rw [u_209_32]
  by_cases h0 : c = 0
  · rw [if_pos h0]
    exact lw_c0 hL hi0 hi h
  rw [if_neg h0]
  by_cases h1 : c = 1
  · rw [if_pos h1]
    exact lw_c1 hL hi0 hi h
  rw [if_neg h1]
  by_cases h2 : c = 2
  · rw [if_pos h2]
    exact lw_c2 hL hi0 hi h
  rw [if_neg h2]
  by_cases h3 : c = 3
  · rw [if_pos h3]
    exact lw_c3 hL hi0 hi h
  rw [if_neg h3]
  by_cases h4 : c = 4
  · rw [if_pos h4]
    exact lw_c4 hL hi0 hi h
  rw [if_neg h4]
  by_cases h5 : c = 5
  · rw [if_pos h5]
    exact lw_c5 hL hi0 hi h
  rw [if_neg h5]
  by_cases h6 : c = 6
  · rw [if_pos h6]
    exact lw_c6 hL hi0 hi h
  rw [if_neg h6]
  by_cases h7 : c = 7
  · rw [if_pos h7]
    exact lw_c7 hL hi0 hi h
  rw [if_neg h7]
  by_cases h8 : c = 8
  · rw [if_pos h8]
    exact lw_c8 hL hi0 hi h
  rw [if_neg h8]
  by_cases h9 : c = 9
  · rw [if_pos h9]
    exact lw_c9 hL hi0 hi h
  rw [if_neg h9]
  by_cases h10 : c = 10
  · rw [if_pos h10]
    exact lw_c10 hL hi0 hi h
  rw [if_neg h10]
  by_cases h11 : c = 11
  · rw [if_pos h11]
    exact lw_c11 hL hi0 hi h
  rw [if_neg h11]
  by_cases h12 : c = 12
  · rw [if_pos h12]
    exact lw_c12 hL hi0 hi h
  rw [if_neg h12]
  by_cases h13 : c = 13
  · rw [if_pos h13]
    exact lw_c13 hL hi0 hi h
  rw [if_neg h13]
  by_cases h14 : c = 14
  · rw [if_pos h14]
    exact lw_c14 hL hi0 hi h
  rw [if_neg h14]
  by_cases h15 : c = 15
  · rw [if_pos h15]
    exact lw_c15 hL hi0 hi h
  rw [if_neg h15]
  by_cases h16 : c = 16
  · rw [if_pos h16]
    exact lw_c16 hL hi0 hi h
  rw [if_neg h16]
  by_cases h17 : c = 17
  · rw [if_pos h17]
    exact lw_c17 hL hi0 hi h
  rw [if_neg h17]
  by_cases h18 : c = 18
  · rw [if_pos h18]
    exact lw_c18 hL hi0 hi h
  rw [if_neg h18]
  by_cases h19 : c = 19
  · rw [if_pos h19]
    exact lw_c19 hL hi0 hi h
  rw [if_neg h19]
  by_cases h20 : c = 20
  · rw [if_pos h20]
    exact lw_c20 hL hi0 hi h
  rw [if_neg h20]
  by_cases h21 : c = 21
  · rw [if_pos h21]
    exact lw_c21 hL hi0 hi h
  rw [if_neg h21]
  by_cases h22 : c = 22
  · rw [if_pos h22]
    exact lw_c22 hL hi0 hi h
  rw [if_neg h22]
  by_cases h23 : c = 23
  · rw [if_pos h23]
    exact lw_c23 hL hi0 hi h
  rw [if_neg h23]
  by_cases h24 : c = 24
  · rw [if_pos h24]
    exact lw_c24 hL hi0 hi h
  rw [if_neg h24]
  by_cases h25 : c = 25
  · rw [if_pos h25]
    exact lw_c25 hL hi0 hi h
  rw [if_neg h25]
  by_cases h26 : c = 26
  · rw [if_pos h26]
    exact lw_c26 hL hi0 hi h
  rw [if_neg h26]
  by_cases h27 : c = 27
  · rw [if_pos h27]
    exact lw_c27 hL hi0 hi h
  rw [if_neg h27]
  by_cases h28 : c = 28
  · rw [if_pos h28]
    exact lw_c28 hL hi0 hi h
  rw [if_neg h28]
  by_cases h29 : c = 29
  · rw [if_pos h29]
    exact lw_c29 hL hi0 hi h
  rw [if_neg h29]
  by_cases h30 : c = 30
  · rw [if_pos h30]
    exact lw_c30 hL hi0 hi h
  rw [if_neg h30]
  by_cases h31 : c = 31
  · rw [if_pos h31]
    exact lw_c31 hL hi0 hi h
  rw [if_neg h31]
  exact ⟨I, R, s, rfl, h⟩
theorem lw_loop (hL : S.2 ≤ 2560) : ∀ (n j : Nat) (I : IM) (R : RM) (s : ST), (S.2 : Int) - 5 * (j : Int) ≤ 5 * (n : Int) → 5 * (j : Int) ≤ 2570 → INV sh R I s → ∃ I' R', ev S 60 209 18 [.inr (.inr 2), .inr (.inl 0), .inr (.inl 392), .inl (5 * (j : Int))] [] (sh, I, R) = some (some (.inl 1), (sh, I', R')) := by
  intro n
  induction n with
  | zero =>
    intro j I R s hn hj h
    have hgt : (S.2 : Int) - 5 < 5 * (j : Int) := by omega
    refine ⟨I, R, ?_⟩
    simp (disch := first | assumption | omega | exact Nat.le_of_ble_eq_true rfl | decide) only [u_209_18, u_209_19s, u_209_20, u_209_21, u_209_22, u_209_23, u_209_1178, u_209_1179, wrI, if_pos hgt]
  | succ n ih =>
    intro j I R s hn hj h
    by_cases hgt : (S.2 : Int) - 5 < 5 * (j : Int)
    · refine ⟨I, R, ?_⟩
      simp (disch := first | assumption | omega | exact Nat.le_of_ble_eq_true rfl | decide) only [u_209_18, u_209_19s, u_209_20, u_209_21, u_209_22, u_209_23, u_209_1178, u_209_1179, wrI, if_pos hgt]
    · obtain ⟨I1, R1, s1, e1, e2⟩ := lw_step (i := 5 * (j : Int)) hL (by omega) (by omega) h
      obtain ⟨I2, R2, f1⟩ := ih (j + 1) I1 R1 s1 (by omega) (by omega) e2
      refine ⟨I2, R2, ?_⟩
      have hj1 : 5 * (j : Int) + 5 = 5 * ((j + 1 : Nat) : Int) := by omega
      rw [u_209_18]
      simp (disch := first | assumption | omega | exact Nat.le_of_ble_eq_true rfl | decide) only [u_209_19s, u_209_20, u_209_21, u_209_22, u_209_23, wrI, if_neg hgt]
      rw [e1]
      simp (disch := first | assumption | omega | exact Nat.le_of_ble_eq_true rfl | decide) only [u_209_1172, u_209_1175, wrI, hj1, f1]
end LAW
