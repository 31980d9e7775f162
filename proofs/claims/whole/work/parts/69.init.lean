/-! HOW IT BEGINS -/
def rm (k j v : Nat) : Bool := RL.any (fun q => decide (q.1 = k) && decide (q.2.1 = j) && decide (q.2.2 = v))
def nm8 (k j : Nat) (v : Int) : Bool := NL.any (fun q => decide (q.1 = k) && decide (q.2.1 = j) && decide (q.2.2 = v))
section INIT
variable {R : RM} {I : IM}
theorem rlq (hR : ∀ q ∈ RL, R q.1 (q.2.1 : Int) = some q.2.2) {k j v : Nat} (h : rm k j v = true) : R k (j : Int) = some v := by
  unfold rm at h
  obtain ⟨q, hq, e⟩ := List.any_eq_true.mp h
  rw [Bool.and_eq_true, Bool.and_eq_true] at e
  obtain ⟨⟨e1, e2⟩, e3⟩ := e
  have := hR q hq
  rw [of_decide_eq_true e1, of_decide_eq_true e2, of_decide_eq_true e3] at this
  exact this
theorem nlq (hN : ∀ q ∈ NL, I q.1 (q.2.1 : Int) = q.2.2) {k j : Nat} {v : Int} (h : nm8 k j v = true) : I k (j : Int) = v := by
  unfold nm8 at h
  obtain ⟨q, hq, e⟩ := List.any_eq_true.mp h
  rw [Bool.and_eq_true, Bool.and_eq_true] at e
  obtain ⟨⟨e1, e2⟩, e3⟩ := e
  have := hN q hq
  rw [of_decide_eq_true e1, of_decide_eq_true e2, of_decide_eq_true e3] at this
  exact this

set_option maxRecDepth 100000 in
theorem rl_w1 : (∀ i < 30, rm (1 + 1) (i) (1 + 4 + 5 * i) = true ∧ rm (1 + 4 + 5 * i) (0) (1 + 4 + 5 * i + 1) = true ∧ rm (1 + 4 + 5 * i) (1) (1 + 4 + 5 * i + 4) = true ∧ rm (1 + 4 + 5 * i + 1) (1) (1 + 4 + 5 * i + 1 + 1) = true ∧ rm (1 + 4 + 5 * i + 1) (2) (1 + 4 + 5 * i + 1 + 2) = true) ∧ (∀ j < 9, rm (1 + 2) (j) (1 + 154 + 3 * j) = true ∧ rm (1 + 154 + 3 * j) (1) (1 + 154 + 3 * j + 1) = true ∧ rm (1 + 154 + 3 * j) (2) (1 + 154 + 3 * j + 2) = true) ∧ rm (1) (0) (1 + 1) = true ∧ rm (1) (1) (1 + 2) = true ∧ rm (1) (2) (1 + 3) = true := by decide +kernel
set_option maxRecDepth 100000 in
theorem sh_w1 : (∀ i < 30, tg SH (1 + 4 + 5 * i) = 3 ∧ tg SH (1 + 4 + 5 * i + 1) = 1 ∧ tg SH (1 + 4 + 5 * i + 1 + 1) = 100 ∧ ln SH (1 + 4 + 5 * i + 1 + 1) = 6 ∧ tg SH (1 + 4 + 5 * i + 1 + 2) = 100 ∧ ln SH (1 + 4 + 5 * i + 1 + 2) = 6 ∧ tg SH (1 + 4 + 5 * i + 4) = 100 ∧ ln SH (1 + 4 + 5 * i + 4) = 6) ∧ (∀ j < 9, tg SH (1 + 154 + 3 * j) = 1 ∧ tg SH (1 + 154 + 3 * j + 1) = 100 ∧ ln SH (1 + 154 + 3 * j + 1) = 6 ∧ tg SH (1 + 154 + 3 * j + 2) = 100 ∧ ln SH (1 + 154 + 3 * j + 2) = 6) ∧ tg SH 1 = 7 ∧ tg SH (1 + 1) = 203 ∧ ln SH (1 + 1) = 30 ∧ tg SH (1 + 2) = 201 ∧ ln SH (1 + 2) = 9 ∧ tg SH (1 + 3) = 100 ∧ ln SH (1 + 3) = 4 := by decide +kernel
theorem ws_1 (hR : ∀ q ∈ RL, R q.1 (q.2.1 : Int) = some q.2.2) : WS SH R 1 := by
  obtain ⟨a1, a2, a3, a4, a5⟩ := rl_w1
  obtain ⟨b1, b2, b3, b4, b5, b6, b7, b8, b9⟩ := sh_w1
  refine ⟨b3, rlq hR a3, rlq hR a4, rlq hR a5, b4, b5, b6, b7, b8, b9, fun i hi => ?_, fun j hj => ?_⟩
  · obtain ⟨c1, c2, c3, c4, c5⟩ := a1 i hi
    obtain ⟨e1, e2, e3, e4, e5, e6, e7, e8⟩ := b1 i hi
    exact ⟨rlq hR c1, e1, rlq hR c2, rlq hR c3, ⟨e2, e3, e4, e5, e6, rlq hR c4, rlq hR c5⟩, e7, e8⟩
  · obtain ⟨c1, c2, c3⟩ := a2 j hj
    obtain ⟨e1, e2, e3, e4, e5⟩ := b2 j hj
    exact ⟨rlq hR c1, e1, e2, e3, e4, e5, rlq hR c2, rlq hR c3⟩
set_option maxRecDepth 100000 in
theorem nl_w1 : (∀ i < 30, nm8 (1 + 4 + 5 * i) (2) (0) = true ∧ nm8 (1 + 4 + 5 * i) (3) (0) = true ∧ nm8 (1 + 4 + 5 * i) (4) (0) = true ∧ nm8 (1 + 4 + 5 * i + 1) (3) (0) = true ∧ nm8 (1 + 4 + 5 * i + 1) (0) (6) = true) ∧ (∀ j < 9, nm8 (1 + 154 + 3 * j) (3) (0) = true ∧ nm8 (1 + 154 + 3 * j) (0) (4) = true) ∧ ∀ k < 4, 1 ≤ k → nm8 (1 + 3) (k) (1) = true := by decide +kernel
set_option maxRecDepth 100000 in
theorem rl_w182 : (∀ i < 30, rm (182 + 1) (i) (182 + 4 + 5 * i) = true ∧ rm (182 + 4 + 5 * i) (0) (182 + 4 + 5 * i + 1) = true ∧ rm (182 + 4 + 5 * i) (1) (182 + 4 + 5 * i + 4) = true ∧ rm (182 + 4 + 5 * i + 1) (1) (182 + 4 + 5 * i + 1 + 1) = true ∧ rm (182 + 4 + 5 * i + 1) (2) (182 + 4 + 5 * i + 1 + 2) = true) ∧ (∀ j < 9, rm (182 + 2) (j) (182 + 154 + 3 * j) = true ∧ rm (182 + 154 + 3 * j) (1) (182 + 154 + 3 * j + 1) = true ∧ rm (182 + 154 + 3 * j) (2) (182 + 154 + 3 * j + 2) = true) ∧ rm (182) (0) (182 + 1) = true ∧ rm (182) (1) (182 + 2) = true ∧ rm (182) (2) (182 + 3) = true := by decide +kernel
set_option maxRecDepth 100000 in
theorem sh_w182 : (∀ i < 30, tg SH (182 + 4 + 5 * i) = 3 ∧ tg SH (182 + 4 + 5 * i + 1) = 1 ∧ tg SH (182 + 4 + 5 * i + 1 + 1) = 100 ∧ ln SH (182 + 4 + 5 * i + 1 + 1) = 6 ∧ tg SH (182 + 4 + 5 * i + 1 + 2) = 100 ∧ ln SH (182 + 4 + 5 * i + 1 + 2) = 6 ∧ tg SH (182 + 4 + 5 * i + 4) = 100 ∧ ln SH (182 + 4 + 5 * i + 4) = 6) ∧ (∀ j < 9, tg SH (182 + 154 + 3 * j) = 1 ∧ tg SH (182 + 154 + 3 * j + 1) = 100 ∧ ln SH (182 + 154 + 3 * j + 1) = 6 ∧ tg SH (182 + 154 + 3 * j + 2) = 100 ∧ ln SH (182 + 154 + 3 * j + 2) = 6) ∧ tg SH 182 = 7 ∧ tg SH (182 + 1) = 203 ∧ ln SH (182 + 1) = 30 ∧ tg SH (182 + 2) = 201 ∧ ln SH (182 + 2) = 9 ∧ tg SH (182 + 3) = 100 ∧ ln SH (182 + 3) = 4 := by decide +kernel
theorem ws_182 (hR : ∀ q ∈ RL, R q.1 (q.2.1 : Int) = some q.2.2) : WS SH R 182 := by
  obtain ⟨a1, a2, a3, a4, a5⟩ := rl_w182
  obtain ⟨b1, b2, b3, b4, b5, b6, b7, b8, b9⟩ := sh_w182
  refine ⟨b3, rlq hR a3, rlq hR a4, rlq hR a5, b4, b5, b6, b7, b8, b9, fun i hi => ?_, fun j hj => ?_⟩
  · obtain ⟨c1, c2, c3, c4, c5⟩ := a1 i hi
    obtain ⟨e1, e2, e3, e4, e5, e6, e7, e8⟩ := b1 i hi
    exact ⟨rlq hR c1, e1, rlq hR c2, rlq hR c3, ⟨e2, e3, e4, e5, e6, rlq hR c4, rlq hR c5⟩, e7, e8⟩
  · obtain ⟨c1, c2, c3⟩ := a2 j hj
    obtain ⟨e1, e2, e3, e4, e5⟩ := b2 j hj
    exact ⟨rlq hR c1, e1, e2, e3, e4, e5, rlq hR c2, rlq hR c3⟩
set_option maxRecDepth 100000 in
theorem nl_w182 : (∀ i < 30, nm8 (182 + 4 + 5 * i) (2) (0) = true ∧ nm8 (182 + 4 + 5 * i) (3) (0) = true ∧ nm8 (182 + 4 + 5 * i) (4) (0) = true ∧ nm8 (182 + 4 + 5 * i + 1) (3) (0) = true ∧ nm8 (182 + 4 + 5 * i + 1) (0) (6) = true) ∧ (∀ j < 9, nm8 (182 + 154 + 3 * j) (3) (0) = true ∧ nm8 (182 + 154 + 3 * j) (0) (4) = true) ∧ ∀ k < 4, 1 ≤ k → nm8 (182 + 3) (k) (1) = true := by decide +kernel
def w00 : WD := (fun _ => (0, 0, [], []), fun _ => [], fun _ => 1)
def s00 : ST := (w00, w00, 0, fun _ => none, fun _ => -1, [])
theorem iw_1 (hN : ∀ q ∈ NL, I q.1 (q.2.1 : Int) = q.2.2) : isW I 1 w00 := by
  obtain ⟨a1, a2, a3⟩ := nl_w1
  refine ⟨fun i hi => ?_, fun j hj => ?_, fun k x y => ?_⟩
  · obtain ⟨c1, c2, c3, c4, c5⟩ := a1 i hi
    exact ⟨nlq hN c1, nlq hN c2, nlq hN c3, (fun j s hs => by cases hs), ⟨nlq hN c4, fun j p hp => by cases hp⟩, nlq hN c5⟩
  · obtain ⟨c1, c2⟩ := a2 j hj
    exact ⟨⟨nlq hN c1, fun j p hp => by cases hp⟩, nlq hN c2⟩
  · exact nlq hN (a3 k (by omega) x)
theorem iw_182 (hN : ∀ q ∈ NL, I q.1 (q.2.1 : Int) = q.2.2) : isW I 182 w00 := by
  obtain ⟨a1, a2, a3⟩ := nl_w182
  refine ⟨fun i hi => ?_, fun j hj => ?_, fun k x y => ?_⟩
  · obtain ⟨c1, c2, c3, c4, c5⟩ := a1 i hi
    exact ⟨nlq hN c1, nlq hN c2, nlq hN c3, (fun j s hs => by cases hs), ⟨nlq hN c4, fun j p hp => by cases hp⟩, nlq hN c5⟩
  · obtain ⟨c1, c2⟩ := a2 j hj
    exact ⟨⟨nlq hN c1, fun j p hp => by cases hp⟩, nlq hN c2⟩
  · exact nlq hN (a3 k (by omega) x)
theorem ok_w00 : okW w00 := by
  have h0 : ∀ z : Int, z = 0 → 0 ≤ z ∧ z ≤ 3 ∧ z ≤ 4 := fun z hz => by omega
  have hk : ∀ k, w00.2.2 k = 1 := fun _ => rfl
  refine ⟨fun i hi => ?_, fun j hj => ⟨Nat.zero_le _, fun p hp => by cases hp⟩, fun k a b => ⟨by rw [hk]; decide, by rw [hk]; decide⟩⟩
  have e : w00.1 i = (0, 0, [], []) := rfl
  rw [e]
  refine ⟨(h0 0 rfl).1, (h0 0 rfl).2.2, fun _ => ⟨rfl, rfl⟩, fun _ => rfl, fun h => ?_, fun h => ?_, fun _ => rfl, Nat.zero_le _, Nat.zero_le _, (h0 0 rfl).1, (h0 0 rfl).2.1, (fun r hr => by cases hr), (fun r hr => by cases hr)⟩
  · have h : (0 : Int) = 2 := h
    omega
  · have h : (0 : Int) = 3 := h
    omega
theorem ok_s00 : okS s00 := ⟨ok_w00, fun _ _ _ => rfl, ok_w00, fun _ _ _ => rfl, Or.inl rfl, (fun q _ t ht => by cases ht), fun q _ => Or.inl rfl, Nat.zero_le _⟩
set_option maxRecDepth 100000 in
theorem rl_c : rm (0) (0) (1) = true ∧ rm (0) (1) (182) = true ∧ rm (0) (2) (363) = true ∧ rm (0) (3) (369) = true ∧ rm (0) (4) (373) = true ∧ rm (0) (5) (381) = true ∧ rm (0) (6) (382) = true ∧ rm (0) (7) (383) = true ∧ rm (363) (0) (1) = true ∧ rm (363) (1) (364) = true ∧ rm (363) (2) (366) = true ∧ rm (363) (3) (367) = true ∧ rm (363) (4) (368) = true ∧ rm (364) (0) (365) = true ∧ rm (369) (0) (1) = true ∧ rm (369) (1) (370) = true ∧ rm (369) (2) (371) = true ∧ rm (369) (3) (372) = true ∧ rm (373) (0) (1) = true ∧ rm (373) (1) (374) = true ∧ rm (373) (2) (377) = true ∧ rm (373) (3) (380) = true ∧ rm (374) (0) (375) = true ∧ rm (374) (1) (376) = true ∧ rm (377) (1) (378) = true ∧ rm (377) (2) (379) = true := by decide +kernel
set_option maxRecDepth 100000 in
theorem sh_c : tg SH 0 = 8 ∧ tg SH 363 = 6 ∧ tg SH 364 = 5 ∧ tg SH 365 = 100 ∧ ln SH 365 = 200 ∧ tg SH 366 = 100 ∧ ln SH 366 = 30 ∧ tg SH 367 = 100 ∧ ln SH 367 = 30 ∧ tg SH 368 = 100 ∧ ln SH 368 = 30 ∧ tg SH 369 = 4 ∧ tg SH 370 = 100 ∧ ln SH 370 = 30 ∧ tg SH 371 = 100 ∧ ln SH 371 = 30 ∧ tg SH 372 = 100 ∧ ln SH 372 = 30 ∧ tg SH 373 = 2 ∧ tg SH 374 = 0 ∧ tg SH 375 = 100 ∧ ln SH 375 = 13 ∧ tg SH 376 = 100 ∧ ln SH 376 = 13 ∧ tg SH 377 = 1 ∧ tg SH 378 = 100 ∧ ln SH 378 = 6 ∧ tg SH 379 = 100 ∧ ln SH 379 = 6 ∧ tg SH 380 = 100 ∧ ln SH 380 = 30 ∧ tg SH 381 = 205 ∧ ln SH 381 = 4 ∧ tg SH 382 = 100 ∧ ln SH 382 = 8 ∧ tg SH 383 = 100 ∧ ln SH 383 = 30 := by decide +kernel
set_option maxRecDepth 100000 in
theorem rl_q : ∀ q < 4, rm (381) (q) (384 + 2 * q) = true ∧ rm (384 + 2 * q) (0) (384 + 2 * q + 1) = true ∧ tg SH (384 + 2 * q) = 5 ∧ tg SH (384 + 2 * q + 1) = 100 ∧ ln SH (384 + 2 * q + 1) = 200 := by decide +kernel
theorem cs_init (hR : ∀ q ∈ RL, R q.1 (q.2.1 : Int) = some q.2.2) : CS SH R := by
  obtain ⟨a1, a2, a3, a4, a5, a6, a7, a8, a9, a10, a11, a12, a13, a14, a15, a16, a17, a18, a19, a20, a21, a22, a23, a24, a25, a26⟩ := rl_c
  obtain ⟨b1, b2, b3, b4, b5, b6, b7, b8, b9, b10, b11, b12, b13, b14, b15, b16, b17, b18, b19, b20, b21, b22, b23, b24, b25, b26, b27, b28, b29, b30, b31, b32_, b33, b34, b35, b36, b37⟩ := sh_c
  refine ⟨⟨b1, rlq hR a1, ws_1 hR⟩, ⟨rlq hR a2, ws_182 hR⟩, ⟨rlq hR a3, b2, rlq hR a9, rlq hR a10, rlq hR a11, rlq hR a12, rlq hR a13, ⟨b3, rlq hR a14, b4, b5⟩, b6, b7, b8, b9, b10, b11⟩, ⟨rlq hR a4, b12, rlq hR a15, rlq hR a16, rlq hR a17, rlq hR a18, b13, b14, b15, b16, b17, b18⟩, ⟨rlq hR a5, b19, rlq hR a19, rlq hR a20, rlq hR a21, rlq hR a22, b20, rlq hR a23, rlq hR a24, b21, b22, b23, b24, ⟨b25, b26, b27, b28, b29, rlq hR a25, rlq hR a26⟩, b30, b31⟩, ⟨rlq hR a6, b32_, b33, fun q hq => ?_⟩, ⟨rlq hR a7, b34, b35⟩, ⟨rlq hR a8, b36, b37⟩⟩
  obtain ⟨c1, c2, c3, c4, c5⟩ := rl_q q hq
  exact ⟨rlq hR c1, c3, rlq hR c2, c4, c5⟩
def MXn : List (Nat × Nat × Nat) := [(1, 394, 744), (2, 395, 744), (4, 396, 8), (5, 397, 4), (6, 398, 800), (7, 399, 30), (8, 400, 30), (9, 401, 30), (11, 402, 200), (13, 403, 16), (14, 404, 16), (20, 405, 30), (21, 406, 6), (22, 407, 6), (23, 408, 30), (24, 409, 30), (25, 410, 30)]
set_option maxRecDepth 100000 in
theorem mxn : ∀ p ∈ MXn, rm (392) (p.1) (p.2.1) = true ∧ tg SH p.2.1 = 100 ∧ ln SH p.2.1 = p.2.2 := by decide +kernel
theorem mxm : MXl = MXn.map (fun p => ((p.1 : Int), p.2.1, p.2.2)) := rfl
set_option maxRecDepth 100000 in
theorem rl_m : rm (392) (0) (393) = true ∧ tg SH 392 = 9 ∧ tg SH 393 = 100 ∧ ln SH 393 = 744 := by decide +kernel
theorem mx_init (hR : ∀ q ∈ RL, R q.1 (q.2.1 : Int) = some q.2.2) : MX SH R := by
  obtain ⟨a1, a2, a3, a4⟩ := rl_m
  refine ⟨⟨a2, rlq hR a1, a3, a4⟩, fun p hp => ?_⟩
  rw [mxm] at hp
  obtain ⟨p', hp', rfl⟩ := List.mem_map.mp hp
  obtain ⟨c1, c2, c3⟩ := mxn p' hp'
  exact ⟨rlq hR c1, c2, c3⟩
set_option maxRecDepth 100000 in
theorem nl_c : nm8 (0) (8) (0) = true ∧ nm8 (374) (2) (0) = true ∧ nm8 (377) (0) (6) = true ∧ nm8 (392) (3) (0) = true ∧ nm8 (392) (15) (0) = true ∧ (∀ q < 4, nm8 (384 + 2 * q) (1) (-1) = true ∧ nm8 (397) (q) (-1) = true) ∧ (∀ q < 8, nm8 (382) (q) (-1) = true ∧ nm8 (396) (q) (-1) = true) ∧ (∀ i < 30, nm8 (393) (i) (0) = true) ∧ (∀ i < 9, nm8 (393) (660 + i) (0) = true) ∧ ∀ k < 4, 1 ≤ k → nm8 (393) (740 + k) (1) = true := by decide +kernel
theorem cr_init (hN : ∀ q ∈ NL, I q.1 (q.2.1 : Int) = q.2.2) : cR I s00 := by
  obtain ⟨a1, a2, a3, a4, a5, a6, a7, a8, a9, a10⟩ := nl_c
  exact ⟨iw_1 hN, iw_182 hN, nlq hN a1, fun q hq => nlq hN (a6 q hq).1, fun q hq => nlq hN (a7 q hq).1, ⟨nlq hN a2, fun j p hp => by cases hp⟩, nlq hN a3⟩
theorem mr_init (hN : ∀ q ∈ NL, I q.1 (q.2.1 : Int) = q.2.2) : mR I s00 := by
  obtain ⟨a1, a2, a3, a4, a5, a6, a7, a8, a9, a10⟩ := nl_c
  refine ⟨⟨fun i hi => ⟨nlq hN (a8 i hi), fun h => absurd rfl h⟩, fun i hi => ⟨?_, fun j p hp => by cases hp⟩, fun k x y => ?_⟩, nlq hN a4, (fun h => absurd h (by decide)), fun q hq => nlq hN (a6 q hq).2, fun q hq => nlq hN (a7 q hq).2, nlq hN a5, fun j p hp => by cases hp⟩
  · have := nlq hN (a9 i hi)
    exact this
  · have := nlq hN (a10 k (by omega) x)
    exact this
end INIT
