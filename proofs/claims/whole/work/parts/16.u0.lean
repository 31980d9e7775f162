/-! one step each (by program): 0 GraphSaver$Fail.<init>, 1 GraphSaver$Fail.beginAt, 2 GraphSaver$Fail.passOn, 3 GraphSaver$Fail.tell, 4 GraphSaver$Fields.<init>, 5 GraphSaver$Fields.placeOf, 6 GraphSaver$Fields.has, 7 GraphSaver$Fields.numberOf, 8 GraphSaver$Fields.isFull, 9 GraphSaver$Fields.append, 10 GraphSaver$Fields.change, 11 GraphSaver$Fields.remove, 12 GraphSaver$Fields.clear, 13 GraphSaver$Fields.takeFrom, 14 GraphSaver$Fields.addMissing, 15 GraphSaver$Fields.howManyBeside, 16 GraphSaver$Fields.isSameAs, 17 GraphSaver$Loader.<init>, 18 GraphSaver$Loader.loadWhole, 19 GraphSaver$Loader.dropMade, 20 GraphSaver$Loader.signHere, 21 GraphSaver$Loader.loadPart, 22 GraphSaver$Loader.kindOf, 23 GraphSaver$Loader.whyNotTaken, 24 GraphSaver$Loader.loadMet, 25 GraphSaver$Loader.loadRowHead, 26 GraphSaver$Loader.loadHead, 27 GraphSaver$Loader.make, 28 GraphSaver$Loader.loadDigit, 29 GraphSaver$Loader.loadFields, 30 GraphSaver$Loader.whyNoField, 31 GraphSaver$Loader.loadNumber, 32 GraphSaver$Loader.loadRefs, 33 GraphSaver$Node.<init>, 34 GraphSaver$Node.become, 35 GraphSaver$Node.takeFrom, 36 GraphSaver$Node.hasPlace, 37 GraphSaver$Node.mayHold, 38 GraphSaver$Node.looksLike, 39 GraphSaver$Node.howManyRefs, 40 GraphSaver$Pairing.<init>, 41 GraphSaver$Pairing.fits, 42 GraphSaver$Pairing.bindRefs, 43 GraphSaver$Pairing.bind -/
theorem c_0 {d : Nat} {a0 : AV} {M : Mem} : cl (d + 1) 0 [a0] M = ev S0 d 0 0 [a0] [] M := (cl_eq (as := [a0]) (show 1 ≤ maxOf 0 by decide +kernel)).trans rfl
theorem mt_0 : MT[0]? = some m_0 := rfl
theorem fm_0 (pc : Nat) : fetch 0 pc = lk m_0.2.2.2.2.2 pc := by
  unfold fetch
  rw [mt_0]
theorem f_0_0 : fetch 0 0 = some (0, .aload_n 0, 1, [0], 0) := (fm_0 0).trans rfl
theorem u_0_0 {S : Scr} {d : Nat} {st : List AV} {sh : Shp} {I : IM} {R : RM} {x : Nat} : ev S d 0 0 [.inr (.inl x)] st (sh, I, R) = ev S d 0 1 [.inr (.inl x)] (.inr (.inl x) :: st) (sh, I, R) := (ev_eq f_0_0).trans rfl
theorem f_0_1 : fetch 0 1 = some (1, .invokespecial 3, 3, [0], 0) := (fm_0 1).trans rfl
theorem u_0_1 {S : Scr} {d : Nat} {a0 : AV} {st : List AV} {sh : Shp} {I : IM} {R : RM} {k : Nat} (hr : st.length ≤ 8) : ev S d 0 1 [a0] (.inr (.inl k) :: st) (sh, I, R) = ev S d 0 4 [a0] st (sh, I, R) := (ev_eq f_0_1).trans (congrArg (fin S d 0) (if_pos hr))
theorem f_0_4 : fetch 0 4 = some (4, .aload_n 0, 1, [0], 0) := (fm_0 4).trans rfl
theorem u_0_4 {S : Scr} {d : Nat} {st : List AV} {sh : Shp} {I : IM} {R : RM} {x : Nat} : ev S d 0 4 [.inr (.inl x)] st (sh, I, R) = ev S d 0 5 [.inr (.inl x)] (.inr (.inl x) :: st) (sh, I, R) := (ev_eq f_0_4).trans rfl
theorem f_0_5 : fetch 0 5 = some (5, .bipush 13, 2, [], 13) := (fm_0 5).trans rfl
theorem u_0_5 {S : Scr} {d : Nat} {a0 : AV} {st : List AV} {sh : Shp} {I : IM} {R : RM} : ev S d 0 5 [a0] st (sh, I, R) = ev S d 0 7 [a0] (.inl 13 :: st) (sh, I, R) := (ev_eq f_0_5).trans rfl
theorem f_0_7 : fetch 0 7 = some (7, .newarray .int, 2, [], 0) := (fm_0 7).trans rfl
theorem f_0_9 : fetch 0 9 = some (9, .putfield 9, 3, [0, 0, 1, 0], 0) := (fm_0 9).trans rfl
theorem u_0_9 {S : Scr} {d : Nat} {a0 : AV} {st : List AV} {sh : Shp} {I : IM} {R : RM} {k v : Nat} (h : tg sh k = 0) : ev S d 0 9 [a0] (.inr (.inl v) :: .inr (.inl k) :: st) (sh, I, R) = ev S d 0 12 [a0] st (sh, I, up R k 0 (some v)) := (ev_eq f_0_9).trans (congrArg (fin S d 0) (if_pos h))
theorem f_0_12 : fetch 0 12 = some (12, .aload_n 0, 1, [0], 0) := (fm_0 12).trans rfl
theorem u_0_12 {S : Scr} {d : Nat} {st : List AV} {sh : Shp} {I : IM} {R : RM} {x : Nat} : ev S d 0 12 [.inr (.inl x)] st (sh, I, R) = ev S d 0 13 [.inr (.inl x)] (.inr (.inl x) :: st) (sh, I, R) := (ev_eq f_0_12).trans rfl
theorem f_0_13 : fetch 0 13 = some (13, .bipush 13, 2, [], 13) := (fm_0 13).trans rfl
theorem u_0_13 {S : Scr} {d : Nat} {a0 : AV} {st : List AV} {sh : Shp} {I : IM} {R : RM} : ev S d 0 13 [a0] st (sh, I, R) = ev S d 0 15 [a0] (.inl 13 :: st) (sh, I, R) := (ev_eq f_0_13).trans rfl
theorem f_0_15 : fetch 0 15 = some (15, .newarray .int, 2, [], 0) := (fm_0 15).trans rfl
theorem f_0_17 : fetch 0 17 = some (17, .putfield 15, 3, [0, 1, 1, 1], 0) := (fm_0 17).trans rfl
theorem u_0_17 {S : Scr} {d : Nat} {a0 : AV} {st : List AV} {sh : Shp} {I : IM} {R : RM} {k v : Nat} (h : tg sh k = 0) : ev S d 0 17 [a0] (.inr (.inl v) :: .inr (.inl k) :: st) (sh, I, R) = ev S d 0 20 [a0] st (sh, I, up R k 1 (some v)) := (ev_eq f_0_17).trans (congrArg (fin S d 0) (if_pos h))
theorem f_0_20 : fetch 0 20 = some (20, .return_, 1, [], 0) := (fm_0 20).trans rfl
theorem u_0_20 {S : Scr} {d : Nat} {a0 : AV} {sh : Shp} {I : IM} {R : RM} : ev S d 0 20 [a0] [] (sh, I, R) = some (none, (sh, I, R)) := (ev_eq f_0_20).trans rfl
theorem c_1 {d : Nat} {a0 a1 a2 : AV} {M : Mem} : cl (d + 1) 1 [a0, a1, a2] M = ev S0 d 1 0 [a0, a1, a2] [] M := (cl_eq (as := [a0, a1, a2]) (show 3 ≤ maxOf 1 by decide +kernel)).trans rfl
theorem mt_1 : MT[1]? = some m_1 := rfl
theorem fm_1 (pc : Nat) : fetch 1 pc = lk m_1.2.2.2.2.2 pc := by
  unfold fetch
  rw [mt_1]
theorem f_1_0 : fetch 1 0 = some (0, .aload_n 0, 1, [0], 0) := (fm_1 0).trans rfl
theorem u_1_0 {S : Scr} {d : Nat} {a1 a2 : AV} {st : List AV} {sh : Shp} {I : IM} {R : RM} {x : Nat} : ev S d 1 0 [.inr (.inl x), a1, a2] st (sh, I, R) = ev S d 1 1 [.inr (.inl x), a1, a2] (.inr (.inl x) :: st) (sh, I, R) := (ev_eq f_1_0).trans rfl
theorem f_1_1 : fetch 1 1 = some (1, .getfield 9, 3, [0, 0, 1, 0], 0) := (fm_1 1).trans rfl
theorem u_1_1 {S : Scr} {d : Nat} {a0 a1 a2 : AV} {st : List AV} {sh : Shp} {I : IM} {R : RM} {k : Nat} (h : tg sh k = 0) : ev S d 1 1 [a0, a1, a2] (.inr (.inl k) :: st) (sh, I, R) = ev S d 1 4 [a0, a1, a2] (rv (R k 0) :: st) (sh, I, R) := (ev_eq f_1_1).trans (congrArg (fin S d 1) (if_pos h))
theorem f_1_4 : fetch 1 4 = some (4, .iconst 0, 1, [], 0) := (fm_1 4).trans rfl
theorem u_1_4 {S : Scr} {d : Nat} {a0 a1 a2 : AV} {st : List AV} {sh : Shp} {I : IM} {R : RM} : ev S d 1 4 [a0, a1, a2] st (sh, I, R) = ev S d 1 5 [a0, a1, a2] (.inl 0 :: st) (sh, I, R) := (ev_eq f_1_4).trans rfl
theorem f_1_5 : fetch 1 5 = some (5, .iload_n 2, 1, [2], 0) := (fm_1 5).trans rfl
theorem u_1_5 {S : Scr} {d : Nat} {a0 a1 : AV} {st : List AV} {sh : Shp} {I : IM} {R : RM} {x : Int} : ev S d 1 5 [a0, a1, .inl x] st (sh, I, R) = ev S d 1 6 [a0, a1, .inl x] (.inl x :: st) (sh, I, R) := (ev_eq f_1_5).trans rfl
theorem f_1_6 : fetch 1 6 = some (6, .iastore, 1, [], 0) := (fm_1 6).trans rfl
theorem u_1_6 {S : Scr} {d : Nat} {a0 a1 a2 : AV} {st : List AV} {sh : Shp} {I : IM} {R : RM} {k : Nat} {i x : Int} (h : tg sh k = 100) (h0 : 0 ≤ i) (h1 : i < ln sh k) : ev S d 1 6 [a0, a1, a2] (.inl x :: .inl i :: .inr (.inl k) :: st) (sh, I, R) = ev S d 1 7 [a0, a1, a2] st (sh, up I k i x, R) := (ev_eq f_1_6).trans (congrArg (fin S d 1) (if_pos ⟨h, h0, h1⟩))
theorem f_1_7 : fetch 1 7 = some (7, .aload_n 0, 1, [0], 0) := (fm_1 7).trans rfl
theorem u_1_7 {S : Scr} {d : Nat} {a1 a2 : AV} {st : List AV} {sh : Shp} {I : IM} {R : RM} {x : Nat} : ev S d 1 7 [.inr (.inl x), a1, a2] st (sh, I, R) = ev S d 1 8 [.inr (.inl x), a1, a2] (.inr (.inl x) :: st) (sh, I, R) := (ev_eq f_1_7).trans rfl
theorem f_1_8 : fetch 1 8 = some (8, .getfield 15, 3, [0, 1, 1, 1], 0) := (fm_1 8).trans rfl
theorem u_1_8 {S : Scr} {d : Nat} {a0 a1 a2 : AV} {st : List AV} {sh : Shp} {I : IM} {R : RM} {k : Nat} (h : tg sh k = 0) : ev S d 1 8 [a0, a1, a2] (.inr (.inl k) :: st) (sh, I, R) = ev S d 1 11 [a0, a1, a2] (rv (R k 1) :: st) (sh, I, R) := (ev_eq f_1_8).trans (congrArg (fin S d 1) (if_pos h))
theorem f_1_11 : fetch 1 11 = some (11, .iconst 0, 1, [], 0) := (fm_1 11).trans rfl
theorem u_1_11 {S : Scr} {d : Nat} {a0 a1 a2 : AV} {st : List AV} {sh : Shp} {I : IM} {R : RM} : ev S d 1 11 [a0, a1, a2] st (sh, I, R) = ev S d 1 12 [a0, a1, a2] (.inl 0 :: st) (sh, I, R) := (ev_eq f_1_11).trans rfl
theorem f_1_12 : fetch 1 12 = some (12, .iload_n 1, 1, [1], 0) := (fm_1 12).trans rfl
theorem u_1_12 {S : Scr} {d : Nat} {a0 a2 : AV} {st : List AV} {sh : Shp} {I : IM} {R : RM} {x : Int} : ev S d 1 12 [a0, .inl x, a2] st (sh, I, R) = ev S d 1 13 [a0, .inl x, a2] (.inl x :: st) (sh, I, R) := (ev_eq f_1_12).trans rfl
theorem f_1_13 : fetch 1 13 = some (13, .iastore, 1, [], 0) := (fm_1 13).trans rfl
theorem u_1_13 {S : Scr} {d : Nat} {a0 a1 a2 : AV} {st : List AV} {sh : Shp} {I : IM} {R : RM} {k : Nat} {i x : Int} (h : tg sh k = 100) (h0 : 0 ≤ i) (h1 : i < ln sh k) : ev S d 1 13 [a0, a1, a2] (.inl x :: .inl i :: .inr (.inl k) :: st) (sh, I, R) = ev S d 1 14 [a0, a1, a2] st (sh, up I k i x, R) := (ev_eq f_1_13).trans (congrArg (fin S d 1) (if_pos ⟨h, h0, h1⟩))
theorem f_1_14 : fetch 1 14 = some (14, .aload_n 0, 1, [0], 0) := (fm_1 14).trans rfl
theorem u_1_14 {S : Scr} {d : Nat} {a1 a2 : AV} {st : List AV} {sh : Shp} {I : IM} {R : RM} {x : Nat} : ev S d 1 14 [.inr (.inl x), a1, a2] st (sh, I, R) = ev S d 1 15 [.inr (.inl x), a1, a2] (.inr (.inl x) :: st) (sh, I, R) := (ev_eq f_1_14).trans rfl
theorem f_1_15 : fetch 1 15 = some (15, .iconst 1, 1, [], 1) := (fm_1 15).trans rfl
theorem u_1_15 {S : Scr} {d : Nat} {a0 a1 a2 : AV} {st : List AV} {sh : Shp} {I : IM} {R : RM} : ev S d 1 15 [a0, a1, a2] st (sh, I, R) = ev S d 1 16 [a0, a1, a2] (.inl 1 :: st) (sh, I, R) := (ev_eq f_1_15).trans rfl
theorem f_1_16 : fetch 1 16 = some (16, .putfield 18, 3, [0, 2, 0, 2], 0) := (fm_1 16).trans rfl
theorem u_1_16 {S : Scr} {d : Nat} {a0 a1 a2 : AV} {st : List AV} {sh : Shp} {I : IM} {R : RM} {k : Nat} {x : Int} (h : tg sh k = 0) : ev S d 1 16 [a0, a1, a2] (.inl x :: .inr (.inl k) :: st) (sh, I, R) = ev S d 1 19 [a0, a1, a2] st (sh, up I k 2 x, R) := (ev_eq f_1_16).trans (congrArg (fin S d 1) (if_pos h))
theorem f_1_19 : fetch 1 19 = some (19, .ldc 22, 2, [0], (-1000000)) := (fm_1 19).trans rfl
theorem u_1_19 {S : Scr} {d : Nat} {a0 a1 a2 : AV} {st : List AV} {sh : Shp} {I : IM} {R : RM} : ev S d 1 19 [a0, a1, a2] st (sh, I, R) = ev S d 1 21 [a0, a1, a2] (.inl (-1000000) :: st) (sh, I, R) := (ev_eq f_1_19).trans rfl
theorem f_1_21 : fetch 1 21 = some (21, .ireturn, 1, [0], 0) := (fm_1 21).trans rfl
theorem u_1_21 {S : Scr} {d : Nat} {a0 a1 a2 : AV} {sh : Shp} {I : IM} {R : RM} {x : Int} : ev S d 1 21 [a0, a1, a2] [.inl x] (sh, I, R) = some (some (.inl x), (sh, I, R)) := (ev_eq f_1_21).trans fin_iret0
theorem c_2 {d : Nat} {a0 a1 : AV} {M : Mem} : cl (d + 1) 2 [a0, a1] M = ev S0 d 2 0 [a0, a1] [] M := (cl_eq (as := [a0, a1]) (show 2 ≤ maxOf 2 by decide +kernel)).trans rfl
theorem mt_2 : MT[2]? = some m_2 := rfl
theorem fm_2 (pc : Nat) : fetch 2 pc = lk m_2.2.2.2.2.2 pc := by
  unfold fetch
  rw [mt_2]
theorem f_2_0 : fetch 2 0 = some (0, .aload_n 0, 1, [0], 0) := (fm_2 0).trans rfl
theorem u_2_0 {S : Scr} {d : Nat} {a1 : AV} {st : List AV} {sh : Shp} {I : IM} {R : RM} {x : Nat} : ev S d 2 0 [.inr (.inl x), a1] st (sh, I, R) = ev S d 2 1 [.inr (.inl x), a1] (.inr (.inl x) :: st) (sh, I, R) := (ev_eq f_2_0).trans rfl
theorem f_2_1 : fetch 2 1 = some (1, .getfield 18, 3, [0, 2, 0, 2], 0) := (fm_2 1).trans rfl
theorem u_2_1 {S : Scr} {d : Nat} {a0 a1 : AV} {st : List AV} {sh : Shp} {I : IM} {R : RM} {k : Nat} (h : tg sh k = 0) : ev S d 2 1 [a0, a1] (.inr (.inl k) :: st) (sh, I, R) = ev S d 2 4 [a0, a1] (.inl (I k 2) :: st) (sh, I, R) := (ev_eq f_2_1).trans (congrArg (fin S d 2) (if_pos h))
theorem f_2_4 : fetch 2 4 = some (4, .bipush 12, 2, [], 12) := (fm_2 4).trans rfl
theorem u_2_4 {S : Scr} {d : Nat} {a0 a1 : AV} {st : List AV} {sh : Shp} {I : IM} {R : RM} : ev S d 2 4 [a0, a1] st (sh, I, R) = ev S d 2 6 [a0, a1] (.inl 12 :: st) (sh, I, R) := (ev_eq f_2_4).trans rfl
theorem f_2_6 : fetch 2 6 = some (6, .if_icmp .gt 34, 3, [40], 0) := (fm_2 6).trans rfl
theorem u_2_6 {S : Scr} {d : Nat} {a0 a1 : AV} {st : List AV} {sh : Shp} {I : IM} {R : RM} {x y : Int} : ev S d 2 6 [a0, a1] (.inl y :: .inl x :: st) (sh, I, R) = if y < x then ev S d 2 40 [a0, a1] st (sh, I, R) else ev S d 2 9 [a0, a1] st (sh, I, R) := (ev_eq f_2_6).trans fin_icmp_gt
theorem f_2_9 : fetch 2 9 = some (9, .aload_n 0, 1, [0], 0) := (fm_2 9).trans rfl
theorem u_2_9 {S : Scr} {d : Nat} {a1 : AV} {st : List AV} {sh : Shp} {I : IM} {R : RM} {x : Nat} : ev S d 2 9 [.inr (.inl x), a1] st (sh, I, R) = ev S d 2 10 [.inr (.inl x), a1] (.inr (.inl x) :: st) (sh, I, R) := (ev_eq f_2_9).trans rfl
theorem f_2_10 : fetch 2 10 = some (10, .getfield 9, 3, [0, 0, 1, 0], 0) := (fm_2 10).trans rfl
theorem u_2_10 {S : Scr} {d : Nat} {a0 a1 : AV} {st : List AV} {sh : Shp} {I : IM} {R : RM} {k : Nat} (h : tg sh k = 0) : ev S d 2 10 [a0, a1] (.inr (.inl k) :: st) (sh, I, R) = ev S d 2 13 [a0, a1] (rv (R k 0) :: st) (sh, I, R) := (ev_eq f_2_10).trans (congrArg (fin S d 2) (if_pos h))
theorem f_2_13 : fetch 2 13 = some (13, .aload_n 0, 1, [0], 0) := (fm_2 13).trans rfl
theorem u_2_13 {S : Scr} {d : Nat} {a1 : AV} {st : List AV} {sh : Shp} {I : IM} {R : RM} {x : Nat} : ev S d 2 13 [.inr (.inl x), a1] st (sh, I, R) = ev S d 2 14 [.inr (.inl x), a1] (.inr (.inl x) :: st) (sh, I, R) := (ev_eq f_2_13).trans rfl
theorem f_2_14 : fetch 2 14 = some (14, .getfield 18, 3, [0, 2, 0, 2], 0) := (fm_2 14).trans rfl
theorem u_2_14 {S : Scr} {d : Nat} {a0 a1 : AV} {st : List AV} {sh : Shp} {I : IM} {R : RM} {k : Nat} (h : tg sh k = 0) : ev S d 2 14 [a0, a1] (.inr (.inl k) :: st) (sh, I, R) = ev S d 2 17 [a0, a1] (.inl (I k 2) :: st) (sh, I, R) := (ev_eq f_2_14).trans (congrArg (fin S d 2) (if_pos h))
theorem f_2_17 : fetch 2 17 = some (17, .bipush 8, 2, [], 8) := (fm_2 17).trans rfl
theorem u_2_17 {S : Scr} {d : Nat} {a0 a1 : AV} {st : List AV} {sh : Shp} {I : IM} {R : RM} : ev S d 2 17 [a0, a1] st (sh, I, R) = ev S d 2 19 [a0, a1] (.inl 8 :: st) (sh, I, R) := (ev_eq f_2_17).trans rfl
theorem f_2_19 : fetch 2 19 = some (19, .iastore, 1, [], 0) := (fm_2 19).trans rfl
theorem u_2_19 {S : Scr} {d : Nat} {a0 a1 : AV} {st : List AV} {sh : Shp} {I : IM} {R : RM} {k : Nat} {i x : Int} (h : tg sh k = 100) (h0 : 0 ≤ i) (h1 : i < ln sh k) : ev S d 2 19 [a0, a1] (.inl x :: .inl i :: .inr (.inl k) :: st) (sh, I, R) = ev S d 2 20 [a0, a1] st (sh, up I k i x, R) := (ev_eq f_2_19).trans (congrArg (fin S d 2) (if_pos ⟨h, h0, h1⟩))
theorem f_2_20 : fetch 2 20 = some (20, .aload_n 0, 1, [0], 0) := (fm_2 20).trans rfl
theorem u_2_20 {S : Scr} {d : Nat} {a1 : AV} {st : List AV} {sh : Shp} {I : IM} {R : RM} {x : Nat} : ev S d 2 20 [.inr (.inl x), a1] st (sh, I, R) = ev S d 2 21 [.inr (.inl x), a1] (.inr (.inl x) :: st) (sh, I, R) := (ev_eq f_2_20).trans rfl
theorem f_2_21 : fetch 2 21 = some (21, .getfield 15, 3, [0, 1, 1, 1], 0) := (fm_2 21).trans rfl
theorem u_2_21 {S : Scr} {d : Nat} {a0 a1 : AV} {st : List AV} {sh : Shp} {I : IM} {R : RM} {k : Nat} (h : tg sh k = 0) : ev S d 2 21 [a0, a1] (.inr (.inl k) :: st) (sh, I, R) = ev S d 2 24 [a0, a1] (rv (R k 1) :: st) (sh, I, R) := (ev_eq f_2_21).trans (congrArg (fin S d 2) (if_pos h))
theorem f_2_24 : fetch 2 24 = some (24, .aload_n 0, 1, [0], 0) := (fm_2 24).trans rfl
theorem u_2_24 {S : Scr} {d : Nat} {a1 : AV} {st : List AV} {sh : Shp} {I : IM} {R : RM} {x : Nat} : ev S d 2 24 [.inr (.inl x), a1] st (sh, I, R) = ev S d 2 25 [.inr (.inl x), a1] (.inr (.inl x) :: st) (sh, I, R) := (ev_eq f_2_24).trans rfl
theorem f_2_25 : fetch 2 25 = some (25, .getfield 18, 3, [0, 2, 0, 2], 0) := (fm_2 25).trans rfl
theorem u_2_25 {S : Scr} {d : Nat} {a0 a1 : AV} {st : List AV} {sh : Shp} {I : IM} {R : RM} {k : Nat} (h : tg sh k = 0) : ev S d 2 25 [a0, a1] (.inr (.inl k) :: st) (sh, I, R) = ev S d 2 28 [a0, a1] (.inl (I k 2) :: st) (sh, I, R) := (ev_eq f_2_25).trans (congrArg (fin S d 2) (if_pos h))
theorem f_2_28 : fetch 2 28 = some (28, .iload_n 1, 1, [1], 0) := (fm_2 28).trans rfl
theorem u_2_28 {S : Scr} {d : Nat} {a0 : AV} {st : List AV} {sh : Shp} {I : IM} {R : RM} {x : Int} : ev S d 2 28 [a0, .inl x] st (sh, I, R) = ev S d 2 29 [a0, .inl x] (.inl x :: st) (sh, I, R) := (ev_eq f_2_28).trans rfl
theorem f_2_29 : fetch 2 29 = some (29, .iastore, 1, [], 0) := (fm_2 29).trans rfl
theorem u_2_29 {S : Scr} {d : Nat} {a0 a1 : AV} {st : List AV} {sh : Shp} {I : IM} {R : RM} {k : Nat} {i x : Int} (h : tg sh k = 100) (h0 : 0 ≤ i) (h1 : i < ln sh k) : ev S d 2 29 [a0, a1] (.inl x :: .inl i :: .inr (.inl k) :: st) (sh, I, R) = ev S d 2 30 [a0, a1] st (sh, up I k i x, R) := (ev_eq f_2_29).trans (congrArg (fin S d 2) (if_pos ⟨h, h0, h1⟩))
theorem f_2_30 : fetch 2 30 = some (30, .aload_n 0, 1, [0], 0) := (fm_2 30).trans rfl
theorem u_2_30 {S : Scr} {d : Nat} {a1 : AV} {st : List AV} {sh : Shp} {I : IM} {R : RM} {x : Nat} : ev S d 2 30 [.inr (.inl x), a1] st (sh, I, R) = ev S d 2 31 [.inr (.inl x), a1] (.inr (.inl x) :: st) (sh, I, R) := (ev_eq f_2_30).trans rfl
theorem f_2_31 : fetch 2 31 = some (31, .dup, 1, [], 0) := (fm_2 31).trans rfl
theorem u_2_31 {S : Scr} {d : Nat} {a0 a1 : AV} {st : List AV} {sh : Shp} {I : IM} {R : RM} {x : AV} : ev S d 2 31 [a0, a1] (x :: st) (sh, I, R) = ev S d 2 32 [a0, a1] (x :: x :: st) (sh, I, R) := (ev_eq f_2_31).trans rfl
theorem f_2_32 : fetch 2 32 = some (32, .getfield 18, 3, [0, 2, 0, 2], 0) := (fm_2 32).trans rfl
theorem u_2_32 {S : Scr} {d : Nat} {a0 a1 : AV} {st : List AV} {sh : Shp} {I : IM} {R : RM} {k : Nat} (h : tg sh k = 0) : ev S d 2 32 [a0, a1] (.inr (.inl k) :: st) (sh, I, R) = ev S d 2 35 [a0, a1] (.inl (I k 2) :: st) (sh, I, R) := (ev_eq f_2_32).trans (congrArg (fin S d 2) (if_pos h))
theorem f_2_35 : fetch 2 35 = some (35, .iconst 1, 1, [], 1) := (fm_2 35).trans rfl
theorem u_2_35 {S : Scr} {d : Nat} {a0 a1 : AV} {st : List AV} {sh : Shp} {I : IM} {R : RM} : ev S d 2 35 [a0, a1] st (sh, I, R) = ev S d 2 36 [a0, a1] (.inl 1 :: st) (sh, I, R) := (ev_eq f_2_35).trans rfl
theorem f_2_36 : fetch 2 36 = some (36, .iadd, 1, [], 0) := (fm_2 36).trans rfl
theorem u_2_36 {S : Scr} {d : Nat} {a0 a1 : AV} {st : List AV} {sh : Shp} {I : IM} {R : RM} {x y : Int} : ev S d 2 36 [a0, a1] (.inl y :: .inl x :: st) (sh, I, R) = ev S d 2 37 [a0, a1] (.inl (wr (x + y)) :: st) (sh, I, R) := (ev_eq f_2_36).trans rfl
theorem f_2_37 : fetch 2 37 = some (37, .putfield 18, 3, [0, 2, 0, 2], 0) := (fm_2 37).trans rfl
theorem u_2_37 {S : Scr} {d : Nat} {a0 a1 : AV} {st : List AV} {sh : Shp} {I : IM} {R : RM} {k : Nat} {x : Int} (h : tg sh k = 0) : ev S d 2 37 [a0, a1] (.inl x :: .inr (.inl k) :: st) (sh, I, R) = ev S d 2 40 [a0, a1] st (sh, up I k 2 x, R) := (ev_eq f_2_37).trans (congrArg (fin S d 2) (if_pos h))
theorem f_2_40 : fetch 2 40 = some (40, .ldc 22, 2, [0], (-1000000)) := (fm_2 40).trans rfl
theorem u_2_40 {S : Scr} {d : Nat} {a0 a1 : AV} {st : List AV} {sh : Shp} {I : IM} {R : RM} : ev S d 2 40 [a0, a1] st (sh, I, R) = ev S d 2 42 [a0, a1] (.inl (-1000000) :: st) (sh, I, R) := (ev_eq f_2_40).trans rfl
theorem f_2_42 : fetch 2 42 = some (42, .ireturn, 1, [0], 0) := (fm_2 42).trans rfl
theorem u_2_42 {S : Scr} {d : Nat} {a0 a1 : AV} {sh : Shp} {I : IM} {R : RM} {x : Int} : ev S d 2 42 [a0, a1] [.inl x] (sh, I, R) = some (some (.inl x), (sh, I, R)) := (ev_eq f_2_42).trans fin_iret0
theorem c_3 {d : Nat} {a0 a1 a2 : AV} {M : Mem} : cl (d + 1) 3 [a0, a1, a2] M = ev S0 d 3 0 [a0, a1, a2] [] M := (cl_eq (as := [a0, a1, a2]) (show 3 ≤ maxOf 3 by decide +kernel)).trans rfl
theorem mt_3 : MT[3]? = some m_3 := rfl
theorem fm_3 (pc : Nat) : fetch 3 pc = lk m_3.2.2.2.2.2 pc := by
  unfold fetch
  rw [mt_3]
theorem f_3_0 : fetch 3 0 = some (0, .iload_n 1, 1, [1], 0) := (fm_3 0).trans rfl
theorem u_3_0 {S : Scr} {d : Nat} {a0 a2 : AV} {st : List AV} {sh : Shp} {I : IM} {R : RM} {x : Int} : ev S d 3 0 [a0, .inl x, a2] st (sh, I, R) = ev S d 3 1 [a0, .inl x, a2] (.inl x :: st) (sh, I, R) := (ev_eq f_3_0).trans rfl
theorem f_3_1 : fetch 3 1 = some (1, .ifCond .lt 11, 3, [12], 0) := (fm_3 1).trans rfl
theorem u_3_1 {S : Scr} {d : Nat} {a0 a1 a2 : AV} {st : List AV} {sh : Shp} {I : IM} {R : RM} {x : Int} : ev S d 3 1 [a0, a1, a2] (.inl x :: st) (sh, I, R) = if x < 0 then ev S d 3 12 [a0, a1, a2] st (sh, I, R) else ev S d 3 4 [a0, a1, a2] st (sh, I, R) := (ev_eq f_3_1).trans fin_if_lt
theorem f_3_4 : fetch 3 4 = some (4, .iload_n 1, 1, [1], 0) := (fm_3 4).trans rfl
theorem u_3_4 {S : Scr} {d : Nat} {a0 a2 : AV} {st : List AV} {sh : Shp} {I : IM} {R : RM} {x : Int} : ev S d 3 4 [a0, .inl x, a2] st (sh, I, R) = ev S d 3 5 [a0, .inl x, a2] (.inl x :: st) (sh, I, R) := (ev_eq f_3_4).trans rfl
theorem f_3_5 : fetch 3 5 = some (5, .aload_n 0, 1, [0], 0) := (fm_3 5).trans rfl
theorem u_3_5 {S : Scr} {d : Nat} {a1 a2 : AV} {st : List AV} {sh : Shp} {I : IM} {R : RM} {x : Nat} : ev S d 3 5 [.inr (.inl x), a1, a2] st (sh, I, R) = ev S d 3 6 [.inr (.inl x), a1, a2] (.inr (.inl x) :: st) (sh, I, R) := (ev_eq f_3_5).trans rfl
theorem f_3_6 : fetch 3 6 = some (6, .getfield 18, 3, [0, 2, 0, 2], 0) := (fm_3 6).trans rfl
theorem u_3_6 {S : Scr} {d : Nat} {a0 a1 a2 : AV} {st : List AV} {sh : Shp} {I : IM} {R : RM} {k : Nat} (h : tg sh k = 0) : ev S d 3 6 [a0, a1, a2] (.inr (.inl k) :: st) (sh, I, R) = ev S d 3 9 [a0, a1, a2] (.inl (I k 2) :: st) (sh, I, R) := (ev_eq f_3_6).trans (congrArg (fin S d 3) (if_pos h))
theorem f_3_9 : fetch 3 9 = some (9, .if_icmp .lt 6, 3, [15], 0) := (fm_3 9).trans rfl
theorem u_3_9 {S : Scr} {d : Nat} {a0 a1 a2 : AV} {st : List AV} {sh : Shp} {I : IM} {R : RM} {x y : Int} : ev S d 3 9 [a0, a1, a2] (.inl y :: .inl x :: st) (sh, I, R) = if x < y then ev S d 3 15 [a0, a1, a2] st (sh, I, R) else ev S d 3 12 [a0, a1, a2] st (sh, I, R) := (ev_eq f_3_9).trans fin_icmp_lt
theorem f_3_12 : fetch 3 12 = some (12, .bipush (-2), 2, [], (-2)) := (fm_3 12).trans rfl
theorem u_3_12 {S : Scr} {d : Nat} {a0 a1 a2 : AV} {st : List AV} {sh : Shp} {I : IM} {R : RM} : ev S d 3 12 [a0, a1, a2] st (sh, I, R) = ev S d 3 14 [a0, a1, a2] (.inl (-2) :: st) (sh, I, R) := (ev_eq f_3_12).trans rfl
theorem f_3_14 : fetch 3 14 = some (14, .ireturn, 1, [0], 0) := (fm_3 14).trans rfl
theorem u_3_14 {S : Scr} {d : Nat} {a0 a1 a2 : AV} {sh : Shp} {I : IM} {R : RM} {x : Int} : ev S d 3 14 [a0, a1, a2] [.inl x] (sh, I, R) = some (some (.inl x), (sh, I, R)) := (ev_eq f_3_14).trans fin_iret0
theorem f_3_15 : fetch 3 15 = some (15, .iload_n 2, 1, [2], 0) := (fm_3 15).trans rfl
theorem u_3_15 {S : Scr} {d : Nat} {a0 a1 : AV} {st : List AV} {sh : Shp} {I : IM} {R : RM} {x : Int} : ev S d 3 15 [a0, a1, .inl x] st (sh, I, R) = ev S d 3 16 [a0, a1, .inl x] (.inl x :: st) (sh, I, R) := (ev_eq f_3_15).trans rfl
theorem f_3_16 : fetch 3 16 = some (16, .ifCond .eq 19, 3, [35], 0) := (fm_3 16).trans rfl
theorem u_3_16 {S : Scr} {d : Nat} {a0 a1 a2 : AV} {st : List AV} {sh : Shp} {I : IM} {R : RM} {x : Int} : ev S d 3 16 [a0, a1, a2] (.inl x :: st) (sh, I, R) = if x = 0 then ev S d 3 35 [a0, a1, a2] st (sh, I, R) else ev S d 3 19 [a0, a1, a2] st (sh, I, R) := (ev_eq f_3_16).trans fin_if_eq
theorem f_3_19 : fetch 3 19 = some (19, .aload_n 0, 1, [0], 0) := (fm_3 19).trans rfl
theorem u_3_19 {S : Scr} {d : Nat} {a1 a2 : AV} {st : List AV} {sh : Shp} {I : IM} {R : RM} {x : Nat} : ev S d 3 19 [.inr (.inl x), a1, a2] st (sh, I, R) = ev S d 3 20 [.inr (.inl x), a1, a2] (.inr (.inl x) :: st) (sh, I, R) := (ev_eq f_3_19).trans rfl
theorem f_3_20 : fetch 3 20 = some (20, .getfield 9, 3, [0, 0, 1, 0], 0) := (fm_3 20).trans rfl
theorem u_3_20 {S : Scr} {d : Nat} {a0 a1 a2 : AV} {st : List AV} {sh : Shp} {I : IM} {R : RM} {k : Nat} (h : tg sh k = 0) : ev S d 3 20 [a0, a1, a2] (.inr (.inl k) :: st) (sh, I, R) = ev S d 3 23 [a0, a1, a2] (rv (R k 0) :: st) (sh, I, R) := (ev_eq f_3_20).trans (congrArg (fin S d 3) (if_pos h))
theorem f_3_23 : fetch 3 23 = some (23, .aload_n 0, 1, [0], 0) := (fm_3 23).trans rfl
theorem u_3_23 {S : Scr} {d : Nat} {a1 a2 : AV} {st : List AV} {sh : Shp} {I : IM} {R : RM} {x : Nat} : ev S d 3 23 [.inr (.inl x), a1, a2] st (sh, I, R) = ev S d 3 24 [.inr (.inl x), a1, a2] (.inr (.inl x) :: st) (sh, I, R) := (ev_eq f_3_23).trans rfl
theorem f_3_24 : fetch 3 24 = some (24, .getfield 18, 3, [0, 2, 0, 2], 0) := (fm_3 24).trans rfl
theorem u_3_24 {S : Scr} {d : Nat} {a0 a1 a2 : AV} {st : List AV} {sh : Shp} {I : IM} {R : RM} {k : Nat} (h : tg sh k = 0) : ev S d 3 24 [a0, a1, a2] (.inr (.inl k) :: st) (sh, I, R) = ev S d 3 27 [a0, a1, a2] (.inl (I k 2) :: st) (sh, I, R) := (ev_eq f_3_24).trans (congrArg (fin S d 3) (if_pos h))
theorem f_3_27 : fetch 3 27 = some (27, .iconst 1, 1, [], 1) := (fm_3 27).trans rfl
theorem u_3_27 {S : Scr} {d : Nat} {a0 a1 a2 : AV} {st : List AV} {sh : Shp} {I : IM} {R : RM} : ev S d 3 27 [a0, a1, a2] st (sh, I, R) = ev S d 3 28 [a0, a1, a2] (.inl 1 :: st) (sh, I, R) := (ev_eq f_3_27).trans rfl
theorem f_3_28 : fetch 3 28 = some (28, .isub, 1, [], 0) := (fm_3 28).trans rfl
theorem u_3_28 {S : Scr} {d : Nat} {a0 a1 a2 : AV} {st : List AV} {sh : Shp} {I : IM} {R : RM} {x y : Int} : ev S d 3 28 [a0, a1, a2] (.inl y :: .inl x :: st) (sh, I, R) = ev S d 3 29 [a0, a1, a2] (.inl (wr (x - y)) :: st) (sh, I, R) := (ev_eq f_3_28).trans rfl
theorem f_3_29 : fetch 3 29 = some (29, .iload_n 1, 1, [1], 0) := (fm_3 29).trans rfl
theorem u_3_29 {S : Scr} {d : Nat} {a0 a2 : AV} {st : List AV} {sh : Shp} {I : IM} {R : RM} {x : Int} : ev S d 3 29 [a0, .inl x, a2] st (sh, I, R) = ev S d 3 30 [a0, .inl x, a2] (.inl x :: st) (sh, I, R) := (ev_eq f_3_29).trans rfl
theorem f_3_30 : fetch 3 30 = some (30, .isub, 1, [], 0) := (fm_3 30).trans rfl
theorem u_3_30 {S : Scr} {d : Nat} {a0 a1 a2 : AV} {st : List AV} {sh : Shp} {I : IM} {R : RM} {x y : Int} : ev S d 3 30 [a0, a1, a2] (.inl y :: .inl x :: st) (sh, I, R) = ev S d 3 31 [a0, a1, a2] (.inl (wr (x - y)) :: st) (sh, I, R) := (ev_eq f_3_30).trans rfl
theorem f_3_31 : fetch 3 31 = some (31, .iaload, 1, [], 0) := (fm_3 31).trans rfl
theorem u_3_31 {S : Scr} {d : Nat} {a0 a1 a2 : AV} {st : List AV} {sh : Shp} {I : IM} {R : RM} {k : Nat} {i : Int} (h : tg sh k = 100) (h0 : 0 ≤ i) (h1 : i < ln sh k) : ev S d 3 31 [a0, a1, a2] (.inl i :: .inr (.inl k) :: st) (sh, I, R) = ev S d 3 32 [a0, a1, a2] (.inl (I k i) :: st) (sh, I, R) := (ev_eq f_3_31).trans (congrArg (fin S d 3) (if_pos ⟨h, h0, h1⟩))
theorem f_3_32 : fetch 3 32 = some (32, .goto 16, 3, [48], 0) := (fm_3 32).trans rfl
theorem u_3_32 {S : Scr} {d : Nat} {a0 a1 a2 : AV} {st : List AV} {sh : Shp} {I : IM} {R : RM} : ev S d 3 32 [a0, a1, a2] st (sh, I, R) = ev S d 3 48 [a0, a1, a2] st (sh, I, R) := (ev_eq f_3_32).trans rfl
theorem f_3_35 : fetch 3 35 = some (35, .aload_n 0, 1, [0], 0) := (fm_3 35).trans rfl
theorem u_3_35 {S : Scr} {d : Nat} {a1 a2 : AV} {st : List AV} {sh : Shp} {I : IM} {R : RM} {x : Nat} : ev S d 3 35 [.inr (.inl x), a1, a2] st (sh, I, R) = ev S d 3 36 [.inr (.inl x), a1, a2] (.inr (.inl x) :: st) (sh, I, R) := (ev_eq f_3_35).trans rfl
theorem f_3_36 : fetch 3 36 = some (36, .getfield 15, 3, [0, 1, 1, 1], 0) := (fm_3 36).trans rfl
theorem u_3_36 {S : Scr} {d : Nat} {a0 a1 a2 : AV} {st : List AV} {sh : Shp} {I : IM} {R : RM} {k : Nat} (h : tg sh k = 0) : ev S d 3 36 [a0, a1, a2] (.inr (.inl k) :: st) (sh, I, R) = ev S d 3 39 [a0, a1, a2] (rv (R k 1) :: st) (sh, I, R) := (ev_eq f_3_36).trans (congrArg (fin S d 3) (if_pos h))
theorem f_3_39 : fetch 3 39 = some (39, .aload_n 0, 1, [0], 0) := (fm_3 39).trans rfl
theorem u_3_39 {S : Scr} {d : Nat} {a1 a2 : AV} {st : List AV} {sh : Shp} {I : IM} {R : RM} {x : Nat} : ev S d 3 39 [.inr (.inl x), a1, a2] st (sh, I, R) = ev S d 3 40 [.inr (.inl x), a1, a2] (.inr (.inl x) :: st) (sh, I, R) := (ev_eq f_3_39).trans rfl
theorem f_3_40 : fetch 3 40 = some (40, .getfield 18, 3, [0, 2, 0, 2], 0) := (fm_3 40).trans rfl
theorem u_3_40 {S : Scr} {d : Nat} {a0 a1 a2 : AV} {st : List AV} {sh : Shp} {I : IM} {R : RM} {k : Nat} (h : tg sh k = 0) : ev S d 3 40 [a0, a1, a2] (.inr (.inl k) :: st) (sh, I, R) = ev S d 3 43 [a0, a1, a2] (.inl (I k 2) :: st) (sh, I, R) := (ev_eq f_3_40).trans (congrArg (fin S d 3) (if_pos h))
theorem f_3_43 : fetch 3 43 = some (43, .iconst 1, 1, [], 1) := (fm_3 43).trans rfl
theorem u_3_43 {S : Scr} {d : Nat} {a0 a1 a2 : AV} {st : List AV} {sh : Shp} {I : IM} {R : RM} : ev S d 3 43 [a0, a1, a2] st (sh, I, R) = ev S d 3 44 [a0, a1, a2] (.inl 1 :: st) (sh, I, R) := (ev_eq f_3_43).trans rfl
theorem f_3_44 : fetch 3 44 = some (44, .isub, 1, [], 0) := (fm_3 44).trans rfl
theorem u_3_44 {S : Scr} {d : Nat} {a0 a1 a2 : AV} {st : List AV} {sh : Shp} {I : IM} {R : RM} {x y : Int} : ev S d 3 44 [a0, a1, a2] (.inl y :: .inl x :: st) (sh, I, R) = ev S d 3 45 [a0, a1, a2] (.inl (wr (x - y)) :: st) (sh, I, R) := (ev_eq f_3_44).trans rfl
theorem f_3_45 : fetch 3 45 = some (45, .iload_n 1, 1, [1], 0) := (fm_3 45).trans rfl
theorem u_3_45 {S : Scr} {d : Nat} {a0 a2 : AV} {st : List AV} {sh : Shp} {I : IM} {R : RM} {x : Int} : ev S d 3 45 [a0, .inl x, a2] st (sh, I, R) = ev S d 3 46 [a0, .inl x, a2] (.inl x :: st) (sh, I, R) := (ev_eq f_3_45).trans rfl
theorem f_3_46 : fetch 3 46 = some (46, .isub, 1, [], 0) := (fm_3 46).trans rfl
theorem u_3_46 {S : Scr} {d : Nat} {a0 a1 a2 : AV} {st : List AV} {sh : Shp} {I : IM} {R : RM} {x y : Int} : ev S d 3 46 [a0, a1, a2] (.inl y :: .inl x :: st) (sh, I, R) = ev S d 3 47 [a0, a1, a2] (.inl (wr (x - y)) :: st) (sh, I, R) := (ev_eq f_3_46).trans rfl
theorem f_3_47 : fetch 3 47 = some (47, .iaload, 1, [], 0) := (fm_3 47).trans rfl
theorem u_3_47 {S : Scr} {d : Nat} {a0 a1 a2 : AV} {st : List AV} {sh : Shp} {I : IM} {R : RM} {k : Nat} {i : Int} (h : tg sh k = 100) (h0 : 0 ≤ i) (h1 : i < ln sh k) : ev S d 3 47 [a0, a1, a2] (.inl i :: .inr (.inl k) :: st) (sh, I, R) = ev S d 3 48 [a0, a1, a2] (.inl (I k i) :: st) (sh, I, R) := (ev_eq f_3_47).trans (congrArg (fin S d 3) (if_pos ⟨h, h0, h1⟩))
theorem f_3_48 : fetch 3 48 = some (48, .ireturn, 1, [0], 0) := (fm_3 48).trans rfl
theorem u_3_48 {S : Scr} {d : Nat} {a0 a1 a2 : AV} {sh : Shp} {I : IM} {R : RM} {x : Int} : ev S d 3 48 [a0, a1, a2] [.inl x] (sh, I, R) = some (some (.inl x), (sh, I, R)) := (ev_eq f_3_48).trans fin_iret0
theorem c_4 {d : Nat} {a0 a1 : AV} {M : Mem} : cl (d + 1) 4 [a0, a1] M = ev S0 d 4 0 [a0, a1] [] M := (cl_eq (as := [a0, a1]) (show 2 ≤ maxOf 4 by decide +kernel)).trans rfl
theorem mt_4 : MT[4]? = some m_4 := rfl
theorem fm_4 (pc : Nat) : fetch 4 pc = lk m_4.2.2.2.2.2 pc := by
  unfold fetch
  rw [mt_4]
theorem f_4_0 : fetch 4 0 = some (0, .aload_n 0, 1, [0], 0) := (fm_4 0).trans rfl
theorem u_4_0 {S : Scr} {d : Nat} {a1 : AV} {st : List AV} {sh : Shp} {I : IM} {R : RM} {x : Nat} : ev S d 4 0 [.inr (.inl x), a1] st (sh, I, R) = ev S d 4 1 [.inr (.inl x), a1] (.inr (.inl x) :: st) (sh, I, R) := (ev_eq f_4_0).trans rfl
theorem f_4_1 : fetch 4 1 = some (1, .invokespecial 3, 3, [1], 0) := (fm_4 1).trans rfl
theorem u_4_1 {S : Scr} {d : Nat} {a0 a1 : AV} {st : List AV} {sh : Shp} {I : IM} {R : RM} {k : Nat} (hr : st.length ≤ 8) : ev S d 4 1 [a0, a1] (.inr (.inl k) :: st) (sh, I, R) = ev S d 4 4 [a0, a1] st (sh, I, R) := (ev_eq f_4_1).trans (congrArg (fin S d 4) (if_pos hr))
theorem f_4_4 : fetch 4 4 = some (4, .aload_n 0, 1, [0], 0) := (fm_4 4).trans rfl
theorem u_4_4 {S : Scr} {d : Nat} {a1 : AV} {st : List AV} {sh : Shp} {I : IM} {R : RM} {x : Nat} : ev S d 4 4 [.inr (.inl x), a1] st (sh, I, R) = ev S d 4 5 [.inr (.inl x), a1] (.inr (.inl x) :: st) (sh, I, R) := (ev_eq f_4_4).trans rfl
theorem f_4_5 : fetch 4 5 = some (5, .bipush 6, 2, [], 6) := (fm_4 5).trans rfl
theorem u_4_5 {S : Scr} {d : Nat} {a0 a1 : AV} {st : List AV} {sh : Shp} {I : IM} {R : RM} : ev S d 4 5 [a0, a1] st (sh, I, R) = ev S d 4 7 [a0, a1] (.inl 6 :: st) (sh, I, R) := (ev_eq f_4_5).trans rfl
theorem f_4_7 : fetch 4 7 = some (7, .newarray .int, 2, [], 0) := (fm_4 7).trans rfl
theorem f_4_9 : fetch 4 9 = some (9, .putfield 9, 3, [1, 1, 1, 3], 0) := (fm_4 9).trans rfl
theorem u_4_9 {S : Scr} {d : Nat} {a0 a1 : AV} {st : List AV} {sh : Shp} {I : IM} {R : RM} {k v : Nat} (h : tg sh k = 1) : ev S d 4 9 [a0, a1] (.inr (.inl v) :: .inr (.inl k) :: st) (sh, I, R) = ev S d 4 12 [a0, a1] st (sh, I, up R k 1 (some v)) := (ev_eq f_4_9).trans (congrArg (fin S d 4) (if_pos h))
theorem f_4_12 : fetch 4 12 = some (12, .aload_n 0, 1, [0], 0) := (fm_4 12).trans rfl
theorem u_4_12 {S : Scr} {d : Nat} {a1 : AV} {st : List AV} {sh : Shp} {I : IM} {R : RM} {x : Nat} : ev S d 4 12 [.inr (.inl x), a1] st (sh, I, R) = ev S d 4 13 [.inr (.inl x), a1] (.inr (.inl x) :: st) (sh, I, R) := (ev_eq f_4_12).trans rfl
theorem f_4_13 : fetch 4 13 = some (13, .bipush 6, 2, [], 6) := (fm_4 13).trans rfl
theorem u_4_13 {S : Scr} {d : Nat} {a0 a1 : AV} {st : List AV} {sh : Shp} {I : IM} {R : RM} : ev S d 4 13 [a0, a1] st (sh, I, R) = ev S d 4 15 [a0, a1] (.inl 6 :: st) (sh, I, R) := (ev_eq f_4_13).trans rfl
theorem f_4_15 : fetch 4 15 = some (15, .newarray .int, 2, [], 0) := (fm_4 15).trans rfl
theorem f_4_17 : fetch 4 17 = some (17, .putfield 15, 3, [1, 2, 1, 4], 0) := (fm_4 17).trans rfl
theorem u_4_17 {S : Scr} {d : Nat} {a0 a1 : AV} {st : List AV} {sh : Shp} {I : IM} {R : RM} {k v : Nat} (h : tg sh k = 1) : ev S d 4 17 [a0, a1] (.inr (.inl v) :: .inr (.inl k) :: st) (sh, I, R) = ev S d 4 20 [a0, a1] st (sh, I, up R k 2 (some v)) := (ev_eq f_4_17).trans (congrArg (fin S d 4) (if_pos h))
theorem f_4_20 : fetch 4 20 = some (20, .aload_n 0, 1, [0], 0) := (fm_4 20).trans rfl
theorem u_4_20 {S : Scr} {d : Nat} {a1 : AV} {st : List AV} {sh : Shp} {I : IM} {R : RM} {x : Nat} : ev S d 4 20 [.inr (.inl x), a1] st (sh, I, R) = ev S d 4 21 [.inr (.inl x), a1] (.inr (.inl x) :: st) (sh, I, R) := (ev_eq f_4_20).trans rfl
theorem f_4_21 : fetch 4 21 = some (21, .iload_n 1, 1, [1], 0) := (fm_4 21).trans rfl
theorem u_4_21 {S : Scr} {d : Nat} {a0 : AV} {st : List AV} {sh : Shp} {I : IM} {R : RM} {x : Int} : ev S d 4 21 [a0, .inl x] st (sh, I, R) = ev S d 4 22 [a0, .inl x] (.inl x :: st) (sh, I, R) := (ev_eq f_4_21).trans rfl
theorem f_4_22 : fetch 4 22 = some (22, .bipush 6, 2, [], 6) := (fm_4 22).trans rfl
theorem u_4_22 {S : Scr} {d : Nat} {a0 a1 : AV} {st : List AV} {sh : Shp} {I : IM} {R : RM} : ev S d 4 22 [a0, a1] st (sh, I, R) = ev S d 4 24 [a0, a1] (.inl 6 :: st) (sh, I, R) := (ev_eq f_4_22).trans rfl
theorem f_4_24 : fetch 4 24 = some (24, .invokestatic 18, 3, [1, 0], 0) := (fm_4 24).trans rfl
theorem u_4_24 {S : Scr} {d : Nat} {a0 a1 : AV} {st : List AV} {sh : Shp} {I : IM} {R : RM} {x y : Int} (hr : st.length ≤ 8) : ev S d 4 24 [a0, a1] (.inl y :: .inl x :: st) (sh, I, R) = ev S d 4 27 [a0, a1] (.inl (if y < x then y else x) :: st) (sh, I, R) := (ev_eq f_4_24).trans (congrArg (fin S d 4) (if_pos hr))
theorem f_4_27 : fetch 4 27 = some (27, .putfield 24, 3, [1, 0, 0, 5], 0) := (fm_4 27).trans rfl
theorem u_4_27 {S : Scr} {d : Nat} {a0 a1 : AV} {st : List AV} {sh : Shp} {I : IM} {R : RM} {k : Nat} {x : Int} (h : tg sh k = 1) : ev S d 4 27 [a0, a1] (.inl x :: .inr (.inl k) :: st) (sh, I, R) = ev S d 4 30 [a0, a1] st (sh, up I k 0 x, R) := (ev_eq f_4_27).trans (congrArg (fin S d 4) (if_pos h))
theorem f_4_30 : fetch 4 30 = some (30, .return_, 1, [], 0) := (fm_4 30).trans rfl
theorem u_4_30 {S : Scr} {d : Nat} {a0 a1 : AV} {sh : Shp} {I : IM} {R : RM} : ev S d 4 30 [a0, a1] [] (sh, I, R) = some (none, (sh, I, R)) := (ev_eq f_4_30).trans rfl
theorem c_5 {d : Nat} {a0 a1 : AV} {M : Mem} : cl (d + 1) 5 [a0, a1] M = ev S0 d 5 0 [a0, a1, .inr (.inr 1)] [] M := (cl_eq (as := [a0, a1]) (show 2 ≤ maxOf 5 by decide +kernel)).trans rfl
theorem mt_5 : MT[5]? = some m_5 := rfl
theorem fm_5 (pc : Nat) : fetch 5 pc = lk m_5.2.2.2.2.2 pc := by
  unfold fetch
  rw [mt_5]
theorem f_5_0 : fetch 5 0 = some (0, .iconst 0, 1, [], 0) := (fm_5 0).trans rfl
theorem u_5_0 {S : Scr} {d : Nat} {a0 a1 a2 : AV} {st : List AV} {sh : Shp} {I : IM} {R : RM} : ev S d 5 0 [a0, a1, a2] st (sh, I, R) = ev S d 5 1 [a0, a1, a2] (.inl 0 :: st) (sh, I, R) := (ev_eq f_5_0).trans rfl
theorem f_5_1 : fetch 5 1 = some (1, .istore_n 2, 1, [2], 0) := (fm_5 1).trans rfl
theorem u_5_1 {S : Scr} {d : Nat} {a0 a1 a2 : AV} {st : List AV} {sh : Shp} {I : IM} {R : RM} {x : Int} : ev S d 5 1 [a0, a1, a2] (.inl x :: st) (sh, I, R) = ev S d 5 2 [a0, a1, .inl x] st (sh, I, R) := (ev_eq f_5_1).trans rfl
theorem f_5_2 : fetch 5 2 = some (2, .iload_n 2, 1, [2], 0) := (fm_5 2).trans rfl
theorem u_5_2 {S : Scr} {d : Nat} {a0 a1 : AV} {st : List AV} {sh : Shp} {I : IM} {R : RM} {x : Int} : ev S d 5 2 [a0, a1, .inl x] st (sh, I, R) = ev S d 5 3 [a0, a1, .inl x] (.inl x :: st) (sh, I, R) := (ev_eq f_5_2).trans rfl
theorem f_5_3 : fetch 5 3 = some (3, .aload_n 0, 1, [0], 0) := (fm_5 3).trans rfl
theorem u_5_3 {S : Scr} {d : Nat} {a1 a2 : AV} {st : List AV} {sh : Shp} {I : IM} {R : RM} {x : Nat} : ev S d 5 3 [.inr (.inl x), a1, a2] st (sh, I, R) = ev S d 5 4 [.inr (.inl x), a1, a2] (.inr (.inl x) :: st) (sh, I, R) := (ev_eq f_5_3).trans rfl
theorem f_5_4 : fetch 5 4 = some (4, .getfield 28, 3, [1, 3, 0, 6], 0) := (fm_5 4).trans rfl
theorem u_5_4 {S : Scr} {d : Nat} {a0 a1 a2 : AV} {st : List AV} {sh : Shp} {I : IM} {R : RM} {k : Nat} (h : tg sh k = 1) : ev S d 5 4 [a0, a1, a2] (.inr (.inl k) :: st) (sh, I, R) = ev S d 5 7 [a0, a1, a2] (.inl (I k 3) :: st) (sh, I, R) := (ev_eq f_5_4).trans (congrArg (fin S d 5) (if_pos h))
theorem f_5_7 : fetch 5 7 = some (7, .if_icmp .ge 21, 3, [28], 0) := (fm_5 7).trans rfl
theorem u_5_7 {S : Scr} {d : Nat} {a0 a1 a2 : AV} {st : List AV} {sh : Shp} {I : IM} {R : RM} {x y : Int} : ev S d 5 7 [a0, a1, a2] (.inl y :: .inl x :: st) (sh, I, R) = if y ≤ x then ev S d 5 28 [a0, a1, a2] st (sh, I, R) else ev S d 5 10 [a0, a1, a2] st (sh, I, R) := (ev_eq f_5_7).trans fin_icmp_ge
theorem f_5_10 : fetch 5 10 = some (10, .aload_n 0, 1, [0], 0) := (fm_5 10).trans rfl
theorem u_5_10 {S : Scr} {d : Nat} {a1 a2 : AV} {st : List AV} {sh : Shp} {I : IM} {R : RM} {x : Nat} : ev S d 5 10 [.inr (.inl x), a1, a2] st (sh, I, R) = ev S d 5 11 [.inr (.inl x), a1, a2] (.inr (.inl x) :: st) (sh, I, R) := (ev_eq f_5_10).trans rfl
theorem f_5_11 : fetch 5 11 = some (11, .getfield 9, 3, [1, 1, 1, 3], 0) := (fm_5 11).trans rfl
theorem u_5_11 {S : Scr} {d : Nat} {a0 a1 a2 : AV} {st : List AV} {sh : Shp} {I : IM} {R : RM} {k : Nat} (h : tg sh k = 1) : ev S d 5 11 [a0, a1, a2] (.inr (.inl k) :: st) (sh, I, R) = ev S d 5 14 [a0, a1, a2] (rv (R k 1) :: st) (sh, I, R) := (ev_eq f_5_11).trans (congrArg (fin S d 5) (if_pos h))
theorem f_5_14 : fetch 5 14 = some (14, .iload_n 2, 1, [2], 0) := (fm_5 14).trans rfl
theorem u_5_14 {S : Scr} {d : Nat} {a0 a1 : AV} {st : List AV} {sh : Shp} {I : IM} {R : RM} {x : Int} : ev S d 5 14 [a0, a1, .inl x] st (sh, I, R) = ev S d 5 15 [a0, a1, .inl x] (.inl x :: st) (sh, I, R) := (ev_eq f_5_14).trans rfl
theorem f_5_15 : fetch 5 15 = some (15, .iaload, 1, [], 0) := (fm_5 15).trans rfl
theorem u_5_15 {S : Scr} {d : Nat} {a0 a1 a2 : AV} {st : List AV} {sh : Shp} {I : IM} {R : RM} {k : Nat} {i : Int} (h : tg sh k = 100) (h0 : 0 ≤ i) (h1 : i < ln sh k) : ev S d 5 15 [a0, a1, a2] (.inl i :: .inr (.inl k) :: st) (sh, I, R) = ev S d 5 16 [a0, a1, a2] (.inl (I k i) :: st) (sh, I, R) := (ev_eq f_5_15).trans (congrArg (fin S d 5) (if_pos ⟨h, h0, h1⟩))
theorem f_5_16 : fetch 5 16 = some (16, .iload_n 1, 1, [1], 0) := (fm_5 16).trans rfl
theorem u_5_16 {S : Scr} {d : Nat} {a0 a2 : AV} {st : List AV} {sh : Shp} {I : IM} {R : RM} {x : Int} : ev S d 5 16 [a0, .inl x, a2] st (sh, I, R) = ev S d 5 17 [a0, .inl x, a2] (.inl x :: st) (sh, I, R) := (ev_eq f_5_16).trans rfl
theorem f_5_17 : fetch 5 17 = some (17, .if_icmp .ne 5, 3, [22], 0) := (fm_5 17).trans rfl
theorem u_5_17 {S : Scr} {d : Nat} {a0 a1 a2 : AV} {st : List AV} {sh : Shp} {I : IM} {R : RM} {x y : Int} : ev S d 5 17 [a0, a1, a2] (.inl y :: .inl x :: st) (sh, I, R) = if ¬ x = y then ev S d 5 22 [a0, a1, a2] st (sh, I, R) else ev S d 5 20 [a0, a1, a2] st (sh, I, R) := (ev_eq f_5_17).trans fin_icmp_ne
theorem f_5_20 : fetch 5 20 = some (20, .iload_n 2, 1, [2], 0) := (fm_5 20).trans rfl
theorem u_5_20 {S : Scr} {d : Nat} {a0 a1 : AV} {st : List AV} {sh : Shp} {I : IM} {R : RM} {x : Int} : ev S d 5 20 [a0, a1, .inl x] st (sh, I, R) = ev S d 5 21 [a0, a1, .inl x] (.inl x :: st) (sh, I, R) := (ev_eq f_5_20).trans rfl
theorem f_5_21 : fetch 5 21 = some (21, .ireturn, 1, [0], 0) := (fm_5 21).trans rfl
theorem u_5_21 {S : Scr} {d : Nat} {a0 a1 a2 : AV} {sh : Shp} {I : IM} {R : RM} {x : Int} : ev S d 5 21 [a0, a1, a2] [.inl x] (sh, I, R) = some (some (.inl x), (sh, I, R)) := (ev_eq f_5_21).trans fin_iret0
theorem f_5_22 : fetch 5 22 = some (22, .iinc 2 1, 3, [2], 1) := (fm_5 22).trans rfl
theorem u_5_22 {S : Scr} {d : Nat} {a0 a1 : AV} {st : List AV} {sh : Shp} {I : IM} {R : RM} {x : Int} : ev S d 5 22 [a0, a1, .inl x] st (sh, I, R) = ev S d 5 25 [a0, a1, .inl (wr (x + 1))] st (sh, I, R) := (ev_eq f_5_22).trans rfl
theorem f_5_25 : fetch 5 25 = some (25, .goto (-23), 3, [2], 0) := (fm_5 25).trans rfl
theorem u_5_25 {S : Scr} {d : Nat} {a0 a1 a2 : AV} {st : List AV} {sh : Shp} {I : IM} {R : RM} : ev S d 5 25 [a0, a1, a2] st (sh, I, R) = ev S d 5 2 [a0, a1, a2] st (sh, I, R) := (ev_eq f_5_25).trans rfl
theorem f_5_28 : fetch 5 28 = some (28, .iconst (-1), 1, [], (-1)) := (fm_5 28).trans rfl
theorem u_5_28 {S : Scr} {d : Nat} {a0 a1 a2 : AV} {st : List AV} {sh : Shp} {I : IM} {R : RM} : ev S d 5 28 [a0, a1, a2] st (sh, I, R) = ev S d 5 29 [a0, a1, a2] (.inl (-1) :: st) (sh, I, R) := (ev_eq f_5_28).trans rfl
theorem f_5_29 : fetch 5 29 = some (29, .ireturn, 1, [0], 0) := (fm_5 29).trans rfl
theorem u_5_29 {S : Scr} {d : Nat} {a0 a1 a2 : AV} {sh : Shp} {I : IM} {R : RM} {x : Int} : ev S d 5 29 [a0, a1, a2] [.inl x] (sh, I, R) = some (some (.inl x), (sh, I, R)) := (ev_eq f_5_29).trans fin_iret0
theorem c_6 {d : Nat} {a0 a1 : AV} {M : Mem} : cl (d + 1) 6 [a0, a1] M = ev S0 d 6 0 [a0, a1] [] M := (cl_eq (as := [a0, a1]) (show 2 ≤ maxOf 6 by decide +kernel)).trans rfl
theorem mt_6 : MT[6]? = some m_6 := rfl
theorem fm_6 (pc : Nat) : fetch 6 pc = lk m_6.2.2.2.2.2 pc := by
  unfold fetch
  rw [mt_6]
theorem f_6_0 : fetch 6 0 = some (0, .aload_n 0, 1, [0], 0) := (fm_6 0).trans rfl
theorem u_6_0 {S : Scr} {d : Nat} {a1 : AV} {st : List AV} {sh : Shp} {I : IM} {R : RM} {x : Nat} : ev S d 6 0 [.inr (.inl x), a1] st (sh, I, R) = ev S d 6 1 [.inr (.inl x), a1] (.inr (.inl x) :: st) (sh, I, R) := (ev_eq f_6_0).trans rfl
theorem f_6_1 : fetch 6 1 = some (1, .iload_n 1, 1, [1], 0) := (fm_6 1).trans rfl
theorem u_6_1 {S : Scr} {d : Nat} {a0 : AV} {st : List AV} {sh : Shp} {I : IM} {R : RM} {x : Int} : ev S d 6 1 [a0, .inl x] st (sh, I, R) = ev S d 6 2 [a0, .inl x] (.inl x :: st) (sh, I, R) := (ev_eq f_6_1).trans rfl
theorem f_6_2 : fetch 6 2 = some (2, .invokevirtual 31, 3, [5, 1, 0], 0) := (fm_6 2).trans rfl
theorem u_6_2 {S : Scr} {d : Nat} {a0 a1 : AV} {st : List AV} {sh : Shp} {I : IM} {R : RM} {x0 : Int} {k : Nat} (h : tg sh k = 1) (hr : st.length ≤ 8) : ev S d 6 2 [a0, a1] (.inl x0 :: .inr (.inl k) :: st) (sh, I, R) = bnd (cl d 5 [.inr (.inl k), .inl x0] (sh, I, R)) (fun v M => ev S d 6 5 [a0, a1] (psh v st) M) := (ev_eq f_6_2).trans (congrArg (fin S d 6) (if_pos ⟨h, rfl, hr⟩))
theorem f_6_5 : fetch 6 5 = some (5, .iconst (-1), 1, [], (-1)) := (fm_6 5).trans rfl
theorem u_6_5 {S : Scr} {d : Nat} {a0 a1 : AV} {st : List AV} {sh : Shp} {I : IM} {R : RM} : ev S d 6 5 [a0, a1] st (sh, I, R) = ev S d 6 6 [a0, a1] (.inl (-1) :: st) (sh, I, R) := (ev_eq f_6_5).trans rfl
theorem f_6_6 : fetch 6 6 = some (6, .if_icmp .eq 7, 3, [13], 0) := (fm_6 6).trans rfl
theorem u_6_6 {S : Scr} {d : Nat} {a0 a1 : AV} {st : List AV} {sh : Shp} {I : IM} {R : RM} {x y : Int} : ev S d 6 6 [a0, a1] (.inl y :: .inl x :: st) (sh, I, R) = if x = y then ev S d 6 13 [a0, a1] st (sh, I, R) else ev S d 6 9 [a0, a1] st (sh, I, R) := (ev_eq f_6_6).trans fin_icmp_eq
theorem f_6_9 : fetch 6 9 = some (9, .iconst 1, 1, [], 1) := (fm_6 9).trans rfl
theorem u_6_9 {S : Scr} {d : Nat} {a0 a1 : AV} {st : List AV} {sh : Shp} {I : IM} {R : RM} : ev S d 6 9 [a0, a1] st (sh, I, R) = ev S d 6 10 [a0, a1] (.inl 1 :: st) (sh, I, R) := (ev_eq f_6_9).trans rfl
theorem f_6_10 : fetch 6 10 = some (10, .goto 4, 3, [14], 0) := (fm_6 10).trans rfl
theorem u_6_10 {S : Scr} {d : Nat} {a0 a1 : AV} {st : List AV} {sh : Shp} {I : IM} {R : RM} : ev S d 6 10 [a0, a1] st (sh, I, R) = ev S d 6 14 [a0, a1] st (sh, I, R) := (ev_eq f_6_10).trans rfl
theorem f_6_13 : fetch 6 13 = some (13, .iconst 0, 1, [], 0) := (fm_6 13).trans rfl
theorem u_6_13 {S : Scr} {d : Nat} {a0 a1 : AV} {st : List AV} {sh : Shp} {I : IM} {R : RM} : ev S d 6 13 [a0, a1] st (sh, I, R) = ev S d 6 14 [a0, a1] (.inl 0 :: st) (sh, I, R) := (ev_eq f_6_13).trans rfl
theorem f_6_14 : fetch 6 14 = some (14, .ireturn, 1, [1], 0) := (fm_6 14).trans rfl
theorem u_6_14 {S : Scr} {d : Nat} {a0 a1 : AV} {sh : Shp} {I : IM} {R : RM} {x : Int} (h : x = 0 ∨ x = 1) : ev S d 6 14 [a0, a1] [.inl x] (sh, I, R) = some (some (.inl x), (sh, I, R)) := (ev_eq f_6_14).trans (fin_iret1 h)
theorem c_7 {d : Nat} {a0 a1 : AV} {M : Mem} : cl (d + 1) 7 [a0, a1] M = ev S0 d 7 0 [a0, a1, .inr (.inr 1)] [] M := (cl_eq (as := [a0, a1]) (show 2 ≤ maxOf 7 by decide +kernel)).trans rfl
theorem mt_7 : MT[7]? = some m_7 := rfl
theorem fm_7 (pc : Nat) : fetch 7 pc = lk m_7.2.2.2.2.2 pc := by
  unfold fetch
  rw [mt_7]
theorem f_7_0 : fetch 7 0 = some (0, .aload_n 0, 1, [0], 0) := (fm_7 0).trans rfl
theorem u_7_0 {S : Scr} {d : Nat} {a1 a2 : AV} {st : List AV} {sh : Shp} {I : IM} {R : RM} {x : Nat} : ev S d 7 0 [.inr (.inl x), a1, a2] st (sh, I, R) = ev S d 7 1 [.inr (.inl x), a1, a2] (.inr (.inl x) :: st) (sh, I, R) := (ev_eq f_7_0).trans rfl
theorem f_7_1 : fetch 7 1 = some (1, .iload_n 1, 1, [1], 0) := (fm_7 1).trans rfl
theorem u_7_1 {S : Scr} {d : Nat} {a0 a2 : AV} {st : List AV} {sh : Shp} {I : IM} {R : RM} {x : Int} : ev S d 7 1 [a0, .inl x, a2] st (sh, I, R) = ev S d 7 2 [a0, .inl x, a2] (.inl x :: st) (sh, I, R) := (ev_eq f_7_1).trans rfl
theorem f_7_2 : fetch 7 2 = some (2, .invokevirtual 31, 3, [5, 1, 0], 0) := (fm_7 2).trans rfl
theorem u_7_2 {S : Scr} {d : Nat} {a0 a1 a2 : AV} {st : List AV} {sh : Shp} {I : IM} {R : RM} {x0 : Int} {k : Nat} (h : tg sh k = 1) (hr : st.length ≤ 8) : ev S d 7 2 [a0, a1, a2] (.inl x0 :: .inr (.inl k) :: st) (sh, I, R) = bnd (cl d 5 [.inr (.inl k), .inl x0] (sh, I, R)) (fun v M => ev S d 7 5 [a0, a1, a2] (psh v st) M) := (ev_eq f_7_2).trans (congrArg (fin S d 7) (if_pos ⟨h, rfl, hr⟩))
theorem f_7_5 : fetch 7 5 = some (5, .istore_n 2, 1, [2], 0) := (fm_7 5).trans rfl
theorem u_7_5 {S : Scr} {d : Nat} {a0 a1 a2 : AV} {st : List AV} {sh : Shp} {I : IM} {R : RM} {x : Int} : ev S d 7 5 [a0, a1, a2] (.inl x :: st) (sh, I, R) = ev S d 7 6 [a0, a1, .inl x] st (sh, I, R) := (ev_eq f_7_5).trans rfl
theorem f_7_6 : fetch 7 6 = some (6, .iload_n 2, 1, [2], 0) := (fm_7 6).trans rfl
theorem u_7_6 {S : Scr} {d : Nat} {a0 a1 : AV} {st : List AV} {sh : Shp} {I : IM} {R : RM} {x : Int} : ev S d 7 6 [a0, a1, .inl x] st (sh, I, R) = ev S d 7 7 [a0, a1, .inl x] (.inl x :: st) (sh, I, R) := (ev_eq f_7_6).trans rfl
theorem f_7_7 : fetch 7 7 = some (7, .iconst (-1), 1, [], (-1)) := (fm_7 7).trans rfl
theorem u_7_7 {S : Scr} {d : Nat} {a0 a1 a2 : AV} {st : List AV} {sh : Shp} {I : IM} {R : RM} : ev S d 7 7 [a0, a1, a2] st (sh, I, R) = ev S d 7 8 [a0, a1, a2] (.inl (-1) :: st) (sh, I, R) := (ev_eq f_7_7).trans rfl
theorem f_7_8 : fetch 7 8 = some (8, .if_icmp .ne 8, 3, [16], 0) := (fm_7 8).trans rfl
theorem u_7_8 {S : Scr} {d : Nat} {a0 a1 a2 : AV} {st : List AV} {sh : Shp} {I : IM} {R : RM} {x y : Int} : ev S d 7 8 [a0, a1, a2] (.inl y :: .inl x :: st) (sh, I, R) = if ¬ x = y then ev S d 7 16 [a0, a1, a2] st (sh, I, R) else ev S d 7 11 [a0, a1, a2] st (sh, I, R) := (ev_eq f_7_8).trans fin_icmp_ne
theorem f_7_11 : fetch 7 11 = some (11, .ldc 35, 2, [1], (-2000000000)) := (fm_7 11).trans rfl
theorem u_7_11 {S : Scr} {d : Nat} {a0 a1 a2 : AV} {st : List AV} {sh : Shp} {I : IM} {R : RM} : ev S d 7 11 [a0, a1, a2] st (sh, I, R) = ev S d 7 13 [a0, a1, a2] (.inl (-2000000000) :: st) (sh, I, R) := (ev_eq f_7_11).trans rfl
theorem f_7_13 : fetch 7 13 = some (13, .goto 9, 3, [22], 0) := (fm_7 13).trans rfl
theorem u_7_13 {S : Scr} {d : Nat} {a0 a1 a2 : AV} {st : List AV} {sh : Shp} {I : IM} {R : RM} : ev S d 7 13 [a0, a1, a2] st (sh, I, R) = ev S d 7 22 [a0, a1, a2] st (sh, I, R) := (ev_eq f_7_13).trans rfl
theorem f_7_16 : fetch 7 16 = some (16, .aload_n 0, 1, [0], 0) := (fm_7 16).trans rfl
theorem u_7_16 {S : Scr} {d : Nat} {a1 a2 : AV} {st : List AV} {sh : Shp} {I : IM} {R : RM} {x : Nat} : ev S d 7 16 [.inr (.inl x), a1, a2] st (sh, I, R) = ev S d 7 17 [.inr (.inl x), a1, a2] (.inr (.inl x) :: st) (sh, I, R) := (ev_eq f_7_16).trans rfl
theorem f_7_17 : fetch 7 17 = some (17, .getfield 15, 3, [1, 2, 1, 4], 0) := (fm_7 17).trans rfl
theorem u_7_17 {S : Scr} {d : Nat} {a0 a1 a2 : AV} {st : List AV} {sh : Shp} {I : IM} {R : RM} {k : Nat} (h : tg sh k = 1) : ev S d 7 17 [a0, a1, a2] (.inr (.inl k) :: st) (sh, I, R) = ev S d 7 20 [a0, a1, a2] (rv (R k 2) :: st) (sh, I, R) := (ev_eq f_7_17).trans (congrArg (fin S d 7) (if_pos h))
theorem f_7_20 : fetch 7 20 = some (20, .iload_n 2, 1, [2], 0) := (fm_7 20).trans rfl
theorem u_7_20 {S : Scr} {d : Nat} {a0 a1 : AV} {st : List AV} {sh : Shp} {I : IM} {R : RM} {x : Int} : ev S d 7 20 [a0, a1, .inl x] st (sh, I, R) = ev S d 7 21 [a0, a1, .inl x] (.inl x :: st) (sh, I, R) := (ev_eq f_7_20).trans rfl
theorem f_7_21 : fetch 7 21 = some (21, .iaload, 1, [], 0) := (fm_7 21).trans rfl
theorem u_7_21 {S : Scr} {d : Nat} {a0 a1 a2 : AV} {st : List AV} {sh : Shp} {I : IM} {R : RM} {k : Nat} {i : Int} (h : tg sh k = 100) (h0 : 0 ≤ i) (h1 : i < ln sh k) : ev S d 7 21 [a0, a1, a2] (.inl i :: .inr (.inl k) :: st) (sh, I, R) = ev S d 7 22 [a0, a1, a2] (.inl (I k i) :: st) (sh, I, R) := (ev_eq f_7_21).trans (congrArg (fin S d 7) (if_pos ⟨h, h0, h1⟩))
theorem f_7_22 : fetch 7 22 = some (22, .ireturn, 1, [0], 0) := (fm_7 22).trans rfl
theorem u_7_22 {S : Scr} {d : Nat} {a0 a1 a2 : AV} {sh : Shp} {I : IM} {R : RM} {x : Int} : ev S d 7 22 [a0, a1, a2] [.inl x] (sh, I, R) = some (some (.inl x), (sh, I, R)) := (ev_eq f_7_22).trans fin_iret0
theorem c_8 {d : Nat} {a0 : AV} {M : Mem} : cl (d + 1) 8 [a0] M = ev S0 d 8 0 [a0] [] M := (cl_eq (as := [a0]) (show 1 ≤ maxOf 8 by decide +kernel)).trans rfl
theorem mt_8 : MT[8]? = some m_8 := rfl
theorem fm_8 (pc : Nat) : fetch 8 pc = lk m_8.2.2.2.2.2 pc := by
  unfold fetch
  rw [mt_8]
theorem f_8_0 : fetch 8 0 = some (0, .aload_n 0, 1, [0], 0) := (fm_8 0).trans rfl
theorem u_8_0 {S : Scr} {d : Nat} {st : List AV} {sh : Shp} {I : IM} {R : RM} {x : Nat} : ev S d 8 0 [.inr (.inl x)] st (sh, I, R) = ev S d 8 1 [.inr (.inl x)] (.inr (.inl x) :: st) (sh, I, R) := (ev_eq f_8_0).trans rfl
theorem f_8_1 : fetch 8 1 = some (1, .getfield 28, 3, [1, 3, 0, 6], 0) := (fm_8 1).trans rfl
theorem u_8_1 {S : Scr} {d : Nat} {a0 : AV} {st : List AV} {sh : Shp} {I : IM} {R : RM} {k : Nat} (h : tg sh k = 1) : ev S d 8 1 [a0] (.inr (.inl k) :: st) (sh, I, R) = ev S d 8 4 [a0] (.inl (I k 3) :: st) (sh, I, R) := (ev_eq f_8_1).trans (congrArg (fin S d 8) (if_pos h))
theorem f_8_4 : fetch 8 4 = some (4, .aload_n 0, 1, [0], 0) := (fm_8 4).trans rfl
theorem u_8_4 {S : Scr} {d : Nat} {st : List AV} {sh : Shp} {I : IM} {R : RM} {x : Nat} : ev S d 8 4 [.inr (.inl x)] st (sh, I, R) = ev S d 8 5 [.inr (.inl x)] (.inr (.inl x) :: st) (sh, I, R) := (ev_eq f_8_4).trans rfl
theorem f_8_5 : fetch 8 5 = some (5, .getfield 24, 3, [1, 0, 0, 5], 0) := (fm_8 5).trans rfl
theorem u_8_5 {S : Scr} {d : Nat} {a0 : AV} {st : List AV} {sh : Shp} {I : IM} {R : RM} {k : Nat} (h : tg sh k = 1) : ev S d 8 5 [a0] (.inr (.inl k) :: st) (sh, I, R) = ev S d 8 8 [a0] (.inl (I k 0) :: st) (sh, I, R) := (ev_eq f_8_5).trans (congrArg (fin S d 8) (if_pos h))
theorem f_8_8 : fetch 8 8 = some (8, .if_icmp .lt 7, 3, [15], 0) := (fm_8 8).trans rfl
theorem u_8_8 {S : Scr} {d : Nat} {a0 : AV} {st : List AV} {sh : Shp} {I : IM} {R : RM} {x y : Int} : ev S d 8 8 [a0] (.inl y :: .inl x :: st) (sh, I, R) = if x < y then ev S d 8 15 [a0] st (sh, I, R) else ev S d 8 11 [a0] st (sh, I, R) := (ev_eq f_8_8).trans fin_icmp_lt
theorem f_8_11 : fetch 8 11 = some (11, .iconst 1, 1, [], 1) := (fm_8 11).trans rfl
theorem u_8_11 {S : Scr} {d : Nat} {a0 : AV} {st : List AV} {sh : Shp} {I : IM} {R : RM} : ev S d 8 11 [a0] st (sh, I, R) = ev S d 8 12 [a0] (.inl 1 :: st) (sh, I, R) := (ev_eq f_8_11).trans rfl
theorem f_8_12 : fetch 8 12 = some (12, .goto 4, 3, [16], 0) := (fm_8 12).trans rfl
theorem u_8_12 {S : Scr} {d : Nat} {a0 : AV} {st : List AV} {sh : Shp} {I : IM} {R : RM} : ev S d 8 12 [a0] st (sh, I, R) = ev S d 8 16 [a0] st (sh, I, R) := (ev_eq f_8_12).trans rfl
theorem f_8_15 : fetch 8 15 = some (15, .iconst 0, 1, [], 0) := (fm_8 15).trans rfl
theorem u_8_15 {S : Scr} {d : Nat} {a0 : AV} {st : List AV} {sh : Shp} {I : IM} {R : RM} : ev S d 8 15 [a0] st (sh, I, R) = ev S d 8 16 [a0] (.inl 0 :: st) (sh, I, R) := (ev_eq f_8_15).trans rfl
theorem f_8_16 : fetch 8 16 = some (16, .ireturn, 1, [1], 0) := (fm_8 16).trans rfl
theorem u_8_16 {S : Scr} {d : Nat} {a0 : AV} {sh : Shp} {I : IM} {R : RM} {x : Int} (h : x = 0 ∨ x = 1) : ev S d 8 16 [a0] [.inl x] (sh, I, R) = some (some (.inl x), (sh, I, R)) := (ev_eq f_8_16).trans (fin_iret1 h)
theorem c_9 {d : Nat} {a0 a1 a2 : AV} {M : Mem} : cl (d + 1) 9 [a0, a1, a2] M = ev S0 d 9 0 [a0, a1, a2] [] M := (cl_eq (as := [a0, a1, a2]) (show 3 ≤ maxOf 9 by decide +kernel)).trans rfl
theorem mt_9 : MT[9]? = some m_9 := rfl
theorem fm_9 (pc : Nat) : fetch 9 pc = lk m_9.2.2.2.2.2 pc := by
  unfold fetch
  rw [mt_9]
theorem f_9_0 : fetch 9 0 = some (0, .aload_n 0, 1, [0], 0) := (fm_9 0).trans rfl
theorem u_9_0 {S : Scr} {d : Nat} {a1 a2 : AV} {st : List AV} {sh : Shp} {I : IM} {R : RM} {x : Nat} : ev S d 9 0 [.inr (.inl x), a1, a2] st (sh, I, R) = ev S d 9 1 [.inr (.inl x), a1, a2] (.inr (.inl x) :: st) (sh, I, R) := (ev_eq f_9_0).trans rfl
theorem f_9_1 : fetch 9 1 = some (1, .invokevirtual 36, 3, [8, 0, 1], 0) := (fm_9 1).trans rfl
theorem u_9_1 {S : Scr} {d : Nat} {a0 a1 a2 : AV} {st : List AV} {sh : Shp} {I : IM} {R : RM} {k : Nat} (h : tg sh k = 1) (hr : st.length ≤ 8) : ev S d 9 1 [a0, a1, a2] (.inr (.inl k) :: st) (sh, I, R) = bnd (cl d 8 [.inr (.inl k)] (sh, I, R)) (fun v M => ev S d 9 4 [a0, a1, a2] (psh v st) M) := (ev_eq f_9_1).trans (congrArg (fin S d 9) (if_pos ⟨h, rfl, hr⟩))
theorem f_9_4 : fetch 9 4 = some (4, .ifCond .eq 5, 3, [9], 0) := (fm_9 4).trans rfl
theorem u_9_4 {S : Scr} {d : Nat} {a0 a1 a2 : AV} {st : List AV} {sh : Shp} {I : IM} {R : RM} {x : Int} : ev S d 9 4 [a0, a1, a2] (.inl x :: st) (sh, I, R) = if x = 0 then ev S d 9 9 [a0, a1, a2] st (sh, I, R) else ev S d 9 7 [a0, a1, a2] st (sh, I, R) := (ev_eq f_9_4).trans fin_if_eq
theorem f_9_7 : fetch 9 7 = some (7, .iconst 0, 1, [], 0) := (fm_9 7).trans rfl
theorem u_9_7 {S : Scr} {d : Nat} {a0 a1 a2 : AV} {st : List AV} {sh : Shp} {I : IM} {R : RM} : ev S d 9 7 [a0, a1, a2] st (sh, I, R) = ev S d 9 8 [a0, a1, a2] (.inl 0 :: st) (sh, I, R) := (ev_eq f_9_7).trans rfl
theorem f_9_8 : fetch 9 8 = some (8, .ireturn, 1, [1], 0) := (fm_9 8).trans rfl
theorem u_9_8 {S : Scr} {d : Nat} {a0 a1 a2 : AV} {sh : Shp} {I : IM} {R : RM} {x : Int} (h : x = 0 ∨ x = 1) : ev S d 9 8 [a0, a1, a2] [.inl x] (sh, I, R) = some (some (.inl x), (sh, I, R)) := (ev_eq f_9_8).trans (fin_iret1 h)
theorem f_9_9 : fetch 9 9 = some (9, .aload_n 0, 1, [0], 0) := (fm_9 9).trans rfl
theorem u_9_9 {S : Scr} {d : Nat} {a1 a2 : AV} {st : List AV} {sh : Shp} {I : IM} {R : RM} {x : Nat} : ev S d 9 9 [.inr (.inl x), a1, a2] st (sh, I, R) = ev S d 9 10 [.inr (.inl x), a1, a2] (.inr (.inl x) :: st) (sh, I, R) := (ev_eq f_9_9).trans rfl
theorem f_9_10 : fetch 9 10 = some (10, .getfield 9, 3, [1, 1, 1, 3], 0) := (fm_9 10).trans rfl
theorem u_9_10 {S : Scr} {d : Nat} {a0 a1 a2 : AV} {st : List AV} {sh : Shp} {I : IM} {R : RM} {k : Nat} (h : tg sh k = 1) : ev S d 9 10 [a0, a1, a2] (.inr (.inl k) :: st) (sh, I, R) = ev S d 9 13 [a0, a1, a2] (rv (R k 1) :: st) (sh, I, R) := (ev_eq f_9_10).trans (congrArg (fin S d 9) (if_pos h))
theorem f_9_13 : fetch 9 13 = some (13, .aload_n 0, 1, [0], 0) := (fm_9 13).trans rfl
theorem u_9_13 {S : Scr} {d : Nat} {a1 a2 : AV} {st : List AV} {sh : Shp} {I : IM} {R : RM} {x : Nat} : ev S d 9 13 [.inr (.inl x), a1, a2] st (sh, I, R) = ev S d 9 14 [.inr (.inl x), a1, a2] (.inr (.inl x) :: st) (sh, I, R) := (ev_eq f_9_13).trans rfl
theorem f_9_14 : fetch 9 14 = some (14, .getfield 28, 3, [1, 3, 0, 6], 0) := (fm_9 14).trans rfl
theorem u_9_14 {S : Scr} {d : Nat} {a0 a1 a2 : AV} {st : List AV} {sh : Shp} {I : IM} {R : RM} {k : Nat} (h : tg sh k = 1) : ev S d 9 14 [a0, a1, a2] (.inr (.inl k) :: st) (sh, I, R) = ev S d 9 17 [a0, a1, a2] (.inl (I k 3) :: st) (sh, I, R) := (ev_eq f_9_14).trans (congrArg (fin S d 9) (if_pos h))
theorem f_9_17 : fetch 9 17 = some (17, .iload_n 1, 1, [1], 0) := (fm_9 17).trans rfl
theorem u_9_17 {S : Scr} {d : Nat} {a0 a2 : AV} {st : List AV} {sh : Shp} {I : IM} {R : RM} {x : Int} : ev S d 9 17 [a0, .inl x, a2] st (sh, I, R) = ev S d 9 18 [a0, .inl x, a2] (.inl x :: st) (sh, I, R) := (ev_eq f_9_17).trans rfl
theorem f_9_18 : fetch 9 18 = some (18, .iastore, 1, [], 0) := (fm_9 18).trans rfl
theorem u_9_18 {S : Scr} {d : Nat} {a0 a1 a2 : AV} {st : List AV} {sh : Shp} {I : IM} {R : RM} {k : Nat} {i x : Int} (h : tg sh k = 100) (h0 : 0 ≤ i) (h1 : i < ln sh k) : ev S d 9 18 [a0, a1, a2] (.inl x :: .inl i :: .inr (.inl k) :: st) (sh, I, R) = ev S d 9 19 [a0, a1, a2] st (sh, up I k i x, R) := (ev_eq f_9_18).trans (congrArg (fin S d 9) (if_pos ⟨h, h0, h1⟩))
theorem f_9_19 : fetch 9 19 = some (19, .aload_n 0, 1, [0], 0) := (fm_9 19).trans rfl
theorem u_9_19 {S : Scr} {d : Nat} {a1 a2 : AV} {st : List AV} {sh : Shp} {I : IM} {R : RM} {x : Nat} : ev S d 9 19 [.inr (.inl x), a1, a2] st (sh, I, R) = ev S d 9 20 [.inr (.inl x), a1, a2] (.inr (.inl x) :: st) (sh, I, R) := (ev_eq f_9_19).trans rfl
theorem f_9_20 : fetch 9 20 = some (20, .getfield 15, 3, [1, 2, 1, 4], 0) := (fm_9 20).trans rfl
theorem u_9_20 {S : Scr} {d : Nat} {a0 a1 a2 : AV} {st : List AV} {sh : Shp} {I : IM} {R : RM} {k : Nat} (h : tg sh k = 1) : ev S d 9 20 [a0, a1, a2] (.inr (.inl k) :: st) (sh, I, R) = ev S d 9 23 [a0, a1, a2] (rv (R k 2) :: st) (sh, I, R) := (ev_eq f_9_20).trans (congrArg (fin S d 9) (if_pos h))
theorem f_9_23 : fetch 9 23 = some (23, .aload_n 0, 1, [0], 0) := (fm_9 23).trans rfl
theorem u_9_23 {S : Scr} {d : Nat} {a1 a2 : AV} {st : List AV} {sh : Shp} {I : IM} {R : RM} {x : Nat} : ev S d 9 23 [.inr (.inl x), a1, a2] st (sh, I, R) = ev S d 9 24 [.inr (.inl x), a1, a2] (.inr (.inl x) :: st) (sh, I, R) := (ev_eq f_9_23).trans rfl
theorem f_9_24 : fetch 9 24 = some (24, .getfield 28, 3, [1, 3, 0, 6], 0) := (fm_9 24).trans rfl
theorem u_9_24 {S : Scr} {d : Nat} {a0 a1 a2 : AV} {st : List AV} {sh : Shp} {I : IM} {R : RM} {k : Nat} (h : tg sh k = 1) : ev S d 9 24 [a0, a1, a2] (.inr (.inl k) :: st) (sh, I, R) = ev S d 9 27 [a0, a1, a2] (.inl (I k 3) :: st) (sh, I, R) := (ev_eq f_9_24).trans (congrArg (fin S d 9) (if_pos h))
theorem f_9_27 : fetch 9 27 = some (27, .iload_n 2, 1, [2], 0) := (fm_9 27).trans rfl
theorem u_9_27 {S : Scr} {d : Nat} {a0 a1 : AV} {st : List AV} {sh : Shp} {I : IM} {R : RM} {x : Int} : ev S d 9 27 [a0, a1, .inl x] st (sh, I, R) = ev S d 9 28 [a0, a1, .inl x] (.inl x :: st) (sh, I, R) := (ev_eq f_9_27).trans rfl
theorem f_9_28 : fetch 9 28 = some (28, .iastore, 1, [], 0) := (fm_9 28).trans rfl
theorem u_9_28 {S : Scr} {d : Nat} {a0 a1 a2 : AV} {st : List AV} {sh : Shp} {I : IM} {R : RM} {k : Nat} {i x : Int} (h : tg sh k = 100) (h0 : 0 ≤ i) (h1 : i < ln sh k) : ev S d 9 28 [a0, a1, a2] (.inl x :: .inl i :: .inr (.inl k) :: st) (sh, I, R) = ev S d 9 29 [a0, a1, a2] st (sh, up I k i x, R) := (ev_eq f_9_28).trans (congrArg (fin S d 9) (if_pos ⟨h, h0, h1⟩))
theorem f_9_29 : fetch 9 29 = some (29, .aload_n 0, 1, [0], 0) := (fm_9 29).trans rfl
theorem u_9_29 {S : Scr} {d : Nat} {a1 a2 : AV} {st : List AV} {sh : Shp} {I : IM} {R : RM} {x : Nat} : ev S d 9 29 [.inr (.inl x), a1, a2] st (sh, I, R) = ev S d 9 30 [.inr (.inl x), a1, a2] (.inr (.inl x) :: st) (sh, I, R) := (ev_eq f_9_29).trans rfl
theorem f_9_30 : fetch 9 30 = some (30, .dup, 1, [], 0) := (fm_9 30).trans rfl
theorem u_9_30 {S : Scr} {d : Nat} {a0 a1 a2 : AV} {st : List AV} {sh : Shp} {I : IM} {R : RM} {x : AV} : ev S d 9 30 [a0, a1, a2] (x :: st) (sh, I, R) = ev S d 9 31 [a0, a1, a2] (x :: x :: st) (sh, I, R) := (ev_eq f_9_30).trans rfl
theorem f_9_31 : fetch 9 31 = some (31, .getfield 28, 3, [1, 3, 0, 6], 0) := (fm_9 31).trans rfl
theorem u_9_31 {S : Scr} {d : Nat} {a0 a1 a2 : AV} {st : List AV} {sh : Shp} {I : IM} {R : RM} {k : Nat} (h : tg sh k = 1) : ev S d 9 31 [a0, a1, a2] (.inr (.inl k) :: st) (sh, I, R) = ev S d 9 34 [a0, a1, a2] (.inl (I k 3) :: st) (sh, I, R) := (ev_eq f_9_31).trans (congrArg (fin S d 9) (if_pos h))
theorem f_9_34 : fetch 9 34 = some (34, .iconst 1, 1, [], 1) := (fm_9 34).trans rfl
theorem u_9_34 {S : Scr} {d : Nat} {a0 a1 a2 : AV} {st : List AV} {sh : Shp} {I : IM} {R : RM} : ev S d 9 34 [a0, a1, a2] st (sh, I, R) = ev S d 9 35 [a0, a1, a2] (.inl 1 :: st) (sh, I, R) := (ev_eq f_9_34).trans rfl
theorem f_9_35 : fetch 9 35 = some (35, .iadd, 1, [], 0) := (fm_9 35).trans rfl
theorem u_9_35 {S : Scr} {d : Nat} {a0 a1 a2 : AV} {st : List AV} {sh : Shp} {I : IM} {R : RM} {x y : Int} : ev S d 9 35 [a0, a1, a2] (.inl y :: .inl x :: st) (sh, I, R) = ev S d 9 36 [a0, a1, a2] (.inl (wr (x + y)) :: st) (sh, I, R) := (ev_eq f_9_35).trans rfl
theorem f_9_36 : fetch 9 36 = some (36, .putfield 28, 3, [1, 3, 0, 6], 0) := (fm_9 36).trans rfl
theorem u_9_36 {S : Scr} {d : Nat} {a0 a1 a2 : AV} {st : List AV} {sh : Shp} {I : IM} {R : RM} {k : Nat} {x : Int} (h : tg sh k = 1) : ev S d 9 36 [a0, a1, a2] (.inl x :: .inr (.inl k) :: st) (sh, I, R) = ev S d 9 39 [a0, a1, a2] st (sh, up I k 3 x, R) := (ev_eq f_9_36).trans (congrArg (fin S d 9) (if_pos h))
theorem f_9_39 : fetch 9 39 = some (39, .iconst 1, 1, [], 1) := (fm_9 39).trans rfl
theorem u_9_39 {S : Scr} {d : Nat} {a0 a1 a2 : AV} {st : List AV} {sh : Shp} {I : IM} {R : RM} : ev S d 9 39 [a0, a1, a2] st (sh, I, R) = ev S d 9 40 [a0, a1, a2] (.inl 1 :: st) (sh, I, R) := (ev_eq f_9_39).trans rfl
theorem f_9_40 : fetch 9 40 = some (40, .ireturn, 1, [1], 0) := (fm_9 40).trans rfl
theorem u_9_40 {S : Scr} {d : Nat} {a0 a1 a2 : AV} {sh : Shp} {I : IM} {R : RM} {x : Int} (h : x = 0 ∨ x = 1) : ev S d 9 40 [a0, a1, a2] [.inl x] (sh, I, R) = some (some (.inl x), (sh, I, R)) := (ev_eq f_9_40).trans (fin_iret1 h)
theorem c_10 {d : Nat} {a0 a1 a2 : AV} {M : Mem} : cl (d + 1) 10 [a0, a1, a2] M = ev S0 d 10 0 [a0, a1, a2, .inr (.inr 1), .inr (.inr 1)] [] M := (cl_eq (as := [a0, a1, a2]) (show 3 ≤ maxOf 10 by decide +kernel)).trans rfl
theorem mt_10 : MT[10]? = some m_10 := rfl
theorem fm_10 (pc : Nat) : fetch 10 pc = lk m_10.2.2.2.2.2 pc := by
  unfold fetch
  rw [mt_10]
theorem f_10_0 : fetch 10 0 = some (0, .aload_n 0, 1, [0], 0) := (fm_10 0).trans rfl
theorem u_10_0 {S : Scr} {d : Nat} {a1 a2 a3 a4 : AV} {st : List AV} {sh : Shp} {I : IM} {R : RM} {x : Nat} : ev S d 10 0 [.inr (.inl x), a1, a2, a3, a4] st (sh, I, R) = ev S d 10 1 [.inr (.inl x), a1, a2, a3, a4] (.inr (.inl x) :: st) (sh, I, R) := (ev_eq f_10_0).trans rfl
theorem f_10_1 : fetch 10 1 = some (1, .iload_n 1, 1, [1], 0) := (fm_10 1).trans rfl
theorem u_10_1 {S : Scr} {d : Nat} {a0 a2 a3 a4 : AV} {st : List AV} {sh : Shp} {I : IM} {R : RM} {x : Int} : ev S d 10 1 [a0, .inl x, a2, a3, a4] st (sh, I, R) = ev S d 10 2 [a0, .inl x, a2, a3, a4] (.inl x :: st) (sh, I, R) := (ev_eq f_10_1).trans rfl
theorem f_10_2 : fetch 10 2 = some (2, .invokevirtual 31, 3, [5, 1, 0], 0) := (fm_10 2).trans rfl
theorem u_10_2 {S : Scr} {d : Nat} {a0 a1 a2 a3 a4 : AV} {st : List AV} {sh : Shp} {I : IM} {R : RM} {x0 : Int} {k : Nat} (h : tg sh k = 1) (hr : st.length ≤ 8) : ev S d 10 2 [a0, a1, a2, a3, a4] (.inl x0 :: .inr (.inl k) :: st) (sh, I, R) = bnd (cl d 5 [.inr (.inl k), .inl x0] (sh, I, R)) (fun v M => ev S d 10 5 [a0, a1, a2, a3, a4] (psh v st) M) := (ev_eq f_10_2).trans (congrArg (fin S d 10) (if_pos ⟨h, rfl, hr⟩))
theorem f_10_5 : fetch 10 5 = some (5, .istore_n 3, 1, [3], 0) := (fm_10 5).trans rfl
theorem u_10_5 {S : Scr} {d : Nat} {a0 a1 a2 a3 a4 : AV} {st : List AV} {sh : Shp} {I : IM} {R : RM} {x : Int} : ev S d 10 5 [a0, a1, a2, a3, a4] (.inl x :: st) (sh, I, R) = ev S d 10 6 [a0, a1, a2, .inl x, a4] st (sh, I, R) := (ev_eq f_10_5).trans rfl
theorem f_10_6 : fetch 10 6 = some (6, .iload_n 3, 1, [3], 0) := (fm_10 6).trans rfl
theorem u_10_6 {S : Scr} {d : Nat} {a0 a1 a2 a4 : AV} {st : List AV} {sh : Shp} {I : IM} {R : RM} {x : Int} : ev S d 10 6 [a0, a1, a2, .inl x, a4] st (sh, I, R) = ev S d 10 7 [a0, a1, a2, .inl x, a4] (.inl x :: st) (sh, I, R) := (ev_eq f_10_6).trans rfl
theorem f_10_7 : fetch 10 7 = some (7, .iconst (-1), 1, [], (-1)) := (fm_10 7).trans rfl
theorem u_10_7 {S : Scr} {d : Nat} {a0 a1 a2 a3 a4 : AV} {st : List AV} {sh : Shp} {I : IM} {R : RM} : ev S d 10 7 [a0, a1, a2, a3, a4] st (sh, I, R) = ev S d 10 8 [a0, a1, a2, a3, a4] (.inl (-1) :: st) (sh, I, R) := (ev_eq f_10_7).trans rfl
theorem f_10_8 : fetch 10 8 = some (8, .if_icmp .ne 19, 3, [27], 0) := (fm_10 8).trans rfl
theorem u_10_8 {S : Scr} {d : Nat} {a0 a1 a2 a3 a4 : AV} {st : List AV} {sh : Shp} {I : IM} {R : RM} {x y : Int} : ev S d 10 8 [a0, a1, a2, a3, a4] (.inl y :: .inl x :: st) (sh, I, R) = if ¬ x = y then ev S d 10 27 [a0, a1, a2, a3, a4] st (sh, I, R) else ev S d 10 11 [a0, a1, a2, a3, a4] st (sh, I, R) := (ev_eq f_10_8).trans fin_icmp_ne
theorem f_10_11 : fetch 10 11 = some (11, .aload_n 0, 1, [0], 0) := (fm_10 11).trans rfl
theorem u_10_11 {S : Scr} {d : Nat} {a1 a2 a3 a4 : AV} {st : List AV} {sh : Shp} {I : IM} {R : RM} {x : Nat} : ev S d 10 11 [.inr (.inl x), a1, a2, a3, a4] st (sh, I, R) = ev S d 10 12 [.inr (.inl x), a1, a2, a3, a4] (.inr (.inl x) :: st) (sh, I, R) := (ev_eq f_10_11).trans rfl
theorem f_10_12 : fetch 10 12 = some (12, .iload_n 1, 1, [1], 0) := (fm_10 12).trans rfl
theorem u_10_12 {S : Scr} {d : Nat} {a0 a2 a3 a4 : AV} {st : List AV} {sh : Shp} {I : IM} {R : RM} {x : Int} : ev S d 10 12 [a0, .inl x, a2, a3, a4] st (sh, I, R) = ev S d 10 13 [a0, .inl x, a2, a3, a4] (.inl x :: st) (sh, I, R) := (ev_eq f_10_12).trans rfl
theorem f_10_13 : fetch 10 13 = some (13, .iload_n 2, 1, [2], 0) := (fm_10 13).trans rfl
theorem u_10_13 {S : Scr} {d : Nat} {a0 a1 a3 a4 : AV} {st : List AV} {sh : Shp} {I : IM} {R : RM} {x : Int} : ev S d 10 13 [a0, a1, .inl x, a3, a4] st (sh, I, R) = ev S d 10 14 [a0, a1, .inl x, a3, a4] (.inl x :: st) (sh, I, R) := (ev_eq f_10_13).trans rfl
theorem f_10_14 : fetch 10 14 = some (14, .invokevirtual 40, 3, [9, 2, 2], 0) := (fm_10 14).trans rfl
theorem u_10_14 {S : Scr} {d : Nat} {a0 a1 a2 a3 a4 : AV} {st : List AV} {sh : Shp} {I : IM} {R : RM} {x0 : Int} {x1 : Int} {k : Nat} (h : tg sh k = 1) (hr : st.length ≤ 8) : ev S d 10 14 [a0, a1, a2, a3, a4] (.inl x1 :: .inl x0 :: .inr (.inl k) :: st) (sh, I, R) = bnd (cl d 9 [.inr (.inl k), .inl x0, .inl x1] (sh, I, R)) (fun v M => ev S d 10 17 [a0, a1, a2, a3, a4] (psh v st) M) := (ev_eq f_10_14).trans (congrArg (fin S d 10) (if_pos ⟨h, rfl, hr⟩))
theorem f_10_17 : fetch 10 17 = some (17, .ifCond .eq 7, 3, [24], 0) := (fm_10 17).trans rfl
theorem u_10_17 {S : Scr} {d : Nat} {a0 a1 a2 a3 a4 : AV} {st : List AV} {sh : Shp} {I : IM} {R : RM} {x : Int} : ev S d 10 17 [a0, a1, a2, a3, a4] (.inl x :: st) (sh, I, R) = if x = 0 then ev S d 10 24 [a0, a1, a2, a3, a4] st (sh, I, R) else ev S d 10 20 [a0, a1, a2, a3, a4] st (sh, I, R) := (ev_eq f_10_17).trans fin_if_eq
theorem f_10_20 : fetch 10 20 = some (20, .iconst 0, 1, [], 0) := (fm_10 20).trans rfl
theorem u_10_20 {S : Scr} {d : Nat} {a0 a1 a2 a3 a4 : AV} {st : List AV} {sh : Shp} {I : IM} {R : RM} : ev S d 10 20 [a0, a1, a2, a3, a4] st (sh, I, R) = ev S d 10 21 [a0, a1, a2, a3, a4] (.inl 0 :: st) (sh, I, R) := (ev_eq f_10_20).trans rfl
theorem f_10_21 : fetch 10 21 = some (21, .goto 5, 3, [26], 0) := (fm_10 21).trans rfl
theorem u_10_21 {S : Scr} {d : Nat} {a0 a1 a2 a3 a4 : AV} {st : List AV} {sh : Shp} {I : IM} {R : RM} : ev S d 10 21 [a0, a1, a2, a3, a4] st (sh, I, R) = ev S d 10 26 [a0, a1, a2, a3, a4] st (sh, I, R) := (ev_eq f_10_21).trans rfl
theorem f_10_24 : fetch 10 24 = some (24, .ldc 35, 2, [1], (-2000000000)) := (fm_10 24).trans rfl
theorem u_10_24 {S : Scr} {d : Nat} {a0 a1 a2 a3 a4 : AV} {st : List AV} {sh : Shp} {I : IM} {R : RM} : ev S d 10 24 [a0, a1, a2, a3, a4] st (sh, I, R) = ev S d 10 26 [a0, a1, a2, a3, a4] (.inl (-2000000000) :: st) (sh, I, R) := (ev_eq f_10_24).trans rfl
theorem f_10_26 : fetch 10 26 = some (26, .ireturn, 1, [0], 0) := (fm_10 26).trans rfl
theorem u_10_26 {S : Scr} {d : Nat} {a0 a1 a2 a3 a4 : AV} {sh : Shp} {I : IM} {R : RM} {x : Int} : ev S d 10 26 [a0, a1, a2, a3, a4] [.inl x] (sh, I, R) = some (some (.inl x), (sh, I, R)) := (ev_eq f_10_26).trans fin_iret0
theorem f_10_27 : fetch 10 27 = some (27, .aload_n 0, 1, [0], 0) := (fm_10 27).trans rfl
theorem u_10_27 {S : Scr} {d : Nat} {a1 a2 a3 a4 : AV} {st : List AV} {sh : Shp} {I : IM} {R : RM} {x : Nat} : ev S d 10 27 [.inr (.inl x), a1, a2, a3, a4] st (sh, I, R) = ev S d 10 28 [.inr (.inl x), a1, a2, a3, a4] (.inr (.inl x) :: st) (sh, I, R) := (ev_eq f_10_27).trans rfl
theorem f_10_28 : fetch 10 28 = some (28, .getfield 15, 3, [1, 2, 1, 4], 0) := (fm_10 28).trans rfl
theorem u_10_28 {S : Scr} {d : Nat} {a0 a1 a2 a3 a4 : AV} {st : List AV} {sh : Shp} {I : IM} {R : RM} {k : Nat} (h : tg sh k = 1) : ev S d 10 28 [a0, a1, a2, a3, a4] (.inr (.inl k) :: st) (sh, I, R) = ev S d 10 31 [a0, a1, a2, a3, a4] (rv (R k 2) :: st) (sh, I, R) := (ev_eq f_10_28).trans (congrArg (fin S d 10) (if_pos h))
theorem f_10_31 : fetch 10 31 = some (31, .iload_n 3, 1, [3], 0) := (fm_10 31).trans rfl
theorem u_10_31 {S : Scr} {d : Nat} {a0 a1 a2 a4 : AV} {st : List AV} {sh : Shp} {I : IM} {R : RM} {x : Int} : ev S d 10 31 [a0, a1, a2, .inl x, a4] st (sh, I, R) = ev S d 10 32 [a0, a1, a2, .inl x, a4] (.inl x :: st) (sh, I, R) := (ev_eq f_10_31).trans rfl
theorem f_10_32 : fetch 10 32 = some (32, .iaload, 1, [], 0) := (fm_10 32).trans rfl
theorem u_10_32 {S : Scr} {d : Nat} {a0 a1 a2 a3 a4 : AV} {st : List AV} {sh : Shp} {I : IM} {R : RM} {k : Nat} {i : Int} (h : tg sh k = 100) (h0 : 0 ≤ i) (h1 : i < ln sh k) : ev S d 10 32 [a0, a1, a2, a3, a4] (.inl i :: .inr (.inl k) :: st) (sh, I, R) = ev S d 10 33 [a0, a1, a2, a3, a4] (.inl (I k i) :: st) (sh, I, R) := (ev_eq f_10_32).trans (congrArg (fin S d 10) (if_pos ⟨h, h0, h1⟩))
theorem f_10_33 : fetch 10 33 = some (33, .istore 4, 2, [4], 0) := (fm_10 33).trans rfl
theorem u_10_33 {S : Scr} {d : Nat} {a0 a1 a2 a3 a4 : AV} {st : List AV} {sh : Shp} {I : IM} {R : RM} {x : Int} : ev S d 10 33 [a0, a1, a2, a3, a4] (.inl x :: st) (sh, I, R) = ev S d 10 35 [a0, a1, a2, a3, .inl x] st (sh, I, R) := (ev_eq f_10_33).trans rfl
theorem f_10_35 : fetch 10 35 = some (35, .aload_n 0, 1, [0], 0) := (fm_10 35).trans rfl
theorem u_10_35 {S : Scr} {d : Nat} {a1 a2 a3 a4 : AV} {st : List AV} {sh : Shp} {I : IM} {R : RM} {x : Nat} : ev S d 10 35 [.inr (.inl x), a1, a2, a3, a4] st (sh, I, R) = ev S d 10 36 [.inr (.inl x), a1, a2, a3, a4] (.inr (.inl x) :: st) (sh, I, R) := (ev_eq f_10_35).trans rfl
theorem f_10_36 : fetch 10 36 = some (36, .getfield 15, 3, [1, 2, 1, 4], 0) := (fm_10 36).trans rfl
theorem u_10_36 {S : Scr} {d : Nat} {a0 a1 a2 a3 a4 : AV} {st : List AV} {sh : Shp} {I : IM} {R : RM} {k : Nat} (h : tg sh k = 1) : ev S d 10 36 [a0, a1, a2, a3, a4] (.inr (.inl k) :: st) (sh, I, R) = ev S d 10 39 [a0, a1, a2, a3, a4] (rv (R k 2) :: st) (sh, I, R) := (ev_eq f_10_36).trans (congrArg (fin S d 10) (if_pos h))
theorem f_10_39 : fetch 10 39 = some (39, .iload_n 3, 1, [3], 0) := (fm_10 39).trans rfl
theorem u_10_39 {S : Scr} {d : Nat} {a0 a1 a2 a4 : AV} {st : List AV} {sh : Shp} {I : IM} {R : RM} {x : Int} : ev S d 10 39 [a0, a1, a2, .inl x, a4] st (sh, I, R) = ev S d 10 40 [a0, a1, a2, .inl x, a4] (.inl x :: st) (sh, I, R) := (ev_eq f_10_39).trans rfl
theorem f_10_40 : fetch 10 40 = some (40, .iload_n 2, 1, [2], 0) := (fm_10 40).trans rfl
theorem u_10_40 {S : Scr} {d : Nat} {a0 a1 a3 a4 : AV} {st : List AV} {sh : Shp} {I : IM} {R : RM} {x : Int} : ev S d 10 40 [a0, a1, .inl x, a3, a4] st (sh, I, R) = ev S d 10 41 [a0, a1, .inl x, a3, a4] (.inl x :: st) (sh, I, R) := (ev_eq f_10_40).trans rfl
theorem f_10_41 : fetch 10 41 = some (41, .iastore, 1, [], 0) := (fm_10 41).trans rfl
theorem u_10_41 {S : Scr} {d : Nat} {a0 a1 a2 a3 a4 : AV} {st : List AV} {sh : Shp} {I : IM} {R : RM} {k : Nat} {i x : Int} (h : tg sh k = 100) (h0 : 0 ≤ i) (h1 : i < ln sh k) : ev S d 10 41 [a0, a1, a2, a3, a4] (.inl x :: .inl i :: .inr (.inl k) :: st) (sh, I, R) = ev S d 10 42 [a0, a1, a2, a3, a4] st (sh, up I k i x, R) := (ev_eq f_10_41).trans (congrArg (fin S d 10) (if_pos ⟨h, h0, h1⟩))
theorem f_10_42 : fetch 10 42 = some (42, .iload 4, 2, [4], 0) := (fm_10 42).trans rfl
theorem u_10_42 {S : Scr} {d : Nat} {a0 a1 a2 a3 : AV} {st : List AV} {sh : Shp} {I : IM} {R : RM} {x : Int} : ev S d 10 42 [a0, a1, a2, a3, .inl x] st (sh, I, R) = ev S d 10 44 [a0, a1, a2, a3, .inl x] (.inl x :: st) (sh, I, R) := (ev_eq f_10_42).trans rfl
theorem f_10_44 : fetch 10 44 = some (44, .ireturn, 1, [0], 0) := (fm_10 44).trans rfl
theorem u_10_44 {S : Scr} {d : Nat} {a0 a1 a2 a3 a4 : AV} {sh : Shp} {I : IM} {R : RM} {x : Int} : ev S d 10 44 [a0, a1, a2, a3, a4] [.inl x] (sh, I, R) = some (some (.inl x), (sh, I, R)) := (ev_eq f_10_44).trans fin_iret0
theorem c_11 {d : Nat} {a0 a1 : AV} {M : Mem} : cl (d + 1) 11 [a0, a1] M = ev S0 d 11 0 [a0, a1, .inr (.inr 1), .inr (.inr 1)] [] M := (cl_eq (as := [a0, a1]) (show 2 ≤ maxOf 11 by decide +kernel)).trans rfl
theorem mt_11 : MT[11]? = some m_11 := rfl
theorem fm_11 (pc : Nat) : fetch 11 pc = lk m_11.2.2.2.2.2 pc := by
  unfold fetch
  rw [mt_11]
theorem f_11_0 : fetch 11 0 = some (0, .aload_n 0, 1, [0], 0) := (fm_11 0).trans rfl
theorem u_11_0 {S : Scr} {d : Nat} {a1 a2 a3 : AV} {st : List AV} {sh : Shp} {I : IM} {R : RM} {x : Nat} : ev S d 11 0 [.inr (.inl x), a1, a2, a3] st (sh, I, R) = ev S d 11 1 [.inr (.inl x), a1, a2, a3] (.inr (.inl x) :: st) (sh, I, R) := (ev_eq f_11_0).trans rfl
theorem f_11_1 : fetch 11 1 = some (1, .iload_n 1, 1, [1], 0) := (fm_11 1).trans rfl
theorem u_11_1 {S : Scr} {d : Nat} {a0 a2 a3 : AV} {st : List AV} {sh : Shp} {I : IM} {R : RM} {x : Int} : ev S d 11 1 [a0, .inl x, a2, a3] st (sh, I, R) = ev S d 11 2 [a0, .inl x, a2, a3] (.inl x :: st) (sh, I, R) := (ev_eq f_11_1).trans rfl
theorem f_11_2 : fetch 11 2 = some (2, .invokevirtual 31, 3, [5, 1, 0], 0) := (fm_11 2).trans rfl
theorem u_11_2 {S : Scr} {d : Nat} {a0 a1 a2 a3 : AV} {st : List AV} {sh : Shp} {I : IM} {R : RM} {x0 : Int} {k : Nat} (h : tg sh k = 1) (hr : st.length ≤ 8) : ev S d 11 2 [a0, a1, a2, a3] (.inl x0 :: .inr (.inl k) :: st) (sh, I, R) = bnd (cl d 5 [.inr (.inl k), .inl x0] (sh, I, R)) (fun v M => ev S d 11 5 [a0, a1, a2, a3] (psh v st) M) := (ev_eq f_11_2).trans (congrArg (fin S d 11) (if_pos ⟨h, rfl, hr⟩))
theorem f_11_5 : fetch 11 5 = some (5, .istore_n 2, 1, [2], 0) := (fm_11 5).trans rfl
theorem u_11_5 {S : Scr} {d : Nat} {a0 a1 a2 a3 : AV} {st : List AV} {sh : Shp} {I : IM} {R : RM} {x : Int} : ev S d 11 5 [a0, a1, a2, a3] (.inl x :: st) (sh, I, R) = ev S d 11 6 [a0, a1, .inl x, a3] st (sh, I, R) := (ev_eq f_11_5).trans rfl
theorem f_11_6 : fetch 11 6 = some (6, .iload_n 2, 1, [2], 0) := (fm_11 6).trans rfl
theorem u_11_6 {S : Scr} {d : Nat} {a0 a1 a3 : AV} {st : List AV} {sh : Shp} {I : IM} {R : RM} {x : Int} : ev S d 11 6 [a0, a1, .inl x, a3] st (sh, I, R) = ev S d 11 7 [a0, a1, .inl x, a3] (.inl x :: st) (sh, I, R) := (ev_eq f_11_6).trans rfl
theorem f_11_7 : fetch 11 7 = some (7, .iconst (-1), 1, [], (-1)) := (fm_11 7).trans rfl
theorem u_11_7 {S : Scr} {d : Nat} {a0 a1 a2 a3 : AV} {st : List AV} {sh : Shp} {I : IM} {R : RM} : ev S d 11 7 [a0, a1, a2, a3] st (sh, I, R) = ev S d 11 8 [a0, a1, a2, a3] (.inl (-1) :: st) (sh, I, R) := (ev_eq f_11_7).trans rfl
theorem f_11_8 : fetch 11 8 = some (8, .if_icmp .ne 5, 3, [13], 0) := (fm_11 8).trans rfl
theorem u_11_8 {S : Scr} {d : Nat} {a0 a1 a2 a3 : AV} {st : List AV} {sh : Shp} {I : IM} {R : RM} {x y : Int} : ev S d 11 8 [a0, a1, a2, a3] (.inl y :: .inl x :: st) (sh, I, R) = if ¬ x = y then ev S d 11 13 [a0, a1, a2, a3] st (sh, I, R) else ev S d 11 11 [a0, a1, a2, a3] st (sh, I, R) := (ev_eq f_11_8).trans fin_icmp_ne
theorem f_11_11 : fetch 11 11 = some (11, .iconst 0, 1, [], 0) := (fm_11 11).trans rfl
theorem u_11_11 {S : Scr} {d : Nat} {a0 a1 a2 a3 : AV} {st : List AV} {sh : Shp} {I : IM} {R : RM} : ev S d 11 11 [a0, a1, a2, a3] st (sh, I, R) = ev S d 11 12 [a0, a1, a2, a3] (.inl 0 :: st) (sh, I, R) := (ev_eq f_11_11).trans rfl
theorem f_11_12 : fetch 11 12 = some (12, .ireturn, 1, [1], 0) := (fm_11 12).trans rfl
theorem u_11_12 {S : Scr} {d : Nat} {a0 a1 a2 a3 : AV} {sh : Shp} {I : IM} {R : RM} {x : Int} (h : x = 0 ∨ x = 1) : ev S d 11 12 [a0, a1, a2, a3] [.inl x] (sh, I, R) = some (some (.inl x), (sh, I, R)) := (ev_eq f_11_12).trans (fin_iret1 h)
theorem f_11_13 : fetch 11 13 = some (13, .aload_n 0, 1, [0], 0) := (fm_11 13).trans rfl
theorem u_11_13 {S : Scr} {d : Nat} {a1 a2 a3 : AV} {st : List AV} {sh : Shp} {I : IM} {R : RM} {x : Nat} : ev S d 11 13 [.inr (.inl x), a1, a2, a3] st (sh, I, R) = ev S d 11 14 [.inr (.inl x), a1, a2, a3] (.inr (.inl x) :: st) (sh, I, R) := (ev_eq f_11_13).trans rfl
theorem f_11_14 : fetch 11 14 = some (14, .dup, 1, [], 0) := (fm_11 14).trans rfl
theorem u_11_14 {S : Scr} {d : Nat} {a0 a1 a2 a3 : AV} {st : List AV} {sh : Shp} {I : IM} {R : RM} {x : AV} : ev S d 11 14 [a0, a1, a2, a3] (x :: st) (sh, I, R) = ev S d 11 15 [a0, a1, a2, a3] (x :: x :: st) (sh, I, R) := (ev_eq f_11_14).trans rfl
theorem f_11_15 : fetch 11 15 = some (15, .getfield 28, 3, [1, 3, 0, 6], 0) := (fm_11 15).trans rfl
theorem u_11_15 {S : Scr} {d : Nat} {a0 a1 a2 a3 : AV} {st : List AV} {sh : Shp} {I : IM} {R : RM} {k : Nat} (h : tg sh k = 1) : ev S d 11 15 [a0, a1, a2, a3] (.inr (.inl k) :: st) (sh, I, R) = ev S d 11 18 [a0, a1, a2, a3] (.inl (I k 3) :: st) (sh, I, R) := (ev_eq f_11_15).trans (congrArg (fin S d 11) (if_pos h))
theorem f_11_18 : fetch 11 18 = some (18, .iconst 1, 1, [], 1) := (fm_11 18).trans rfl
theorem u_11_18 {S : Scr} {d : Nat} {a0 a1 a2 a3 : AV} {st : List AV} {sh : Shp} {I : IM} {R : RM} : ev S d 11 18 [a0, a1, a2, a3] st (sh, I, R) = ev S d 11 19 [a0, a1, a2, a3] (.inl 1 :: st) (sh, I, R) := (ev_eq f_11_18).trans rfl
theorem f_11_19 : fetch 11 19 = some (19, .isub, 1, [], 0) := (fm_11 19).trans rfl
theorem u_11_19 {S : Scr} {d : Nat} {a0 a1 a2 a3 : AV} {st : List AV} {sh : Shp} {I : IM} {R : RM} {x y : Int} : ev S d 11 19 [a0, a1, a2, a3] (.inl y :: .inl x :: st) (sh, I, R) = ev S d 11 20 [a0, a1, a2, a3] (.inl (wr (x - y)) :: st) (sh, I, R) := (ev_eq f_11_19).trans rfl
theorem f_11_20 : fetch 11 20 = some (20, .putfield 28, 3, [1, 3, 0, 6], 0) := (fm_11 20).trans rfl
theorem u_11_20 {S : Scr} {d : Nat} {a0 a1 a2 a3 : AV} {st : List AV} {sh : Shp} {I : IM} {R : RM} {k : Nat} {x : Int} (h : tg sh k = 1) : ev S d 11 20 [a0, a1, a2, a3] (.inl x :: .inr (.inl k) :: st) (sh, I, R) = ev S d 11 23 [a0, a1, a2, a3] st (sh, up I k 3 x, R) := (ev_eq f_11_20).trans (congrArg (fin S d 11) (if_pos h))
theorem f_11_23 : fetch 11 23 = some (23, .iload_n 2, 1, [2], 0) := (fm_11 23).trans rfl
theorem u_11_23 {S : Scr} {d : Nat} {a0 a1 a3 : AV} {st : List AV} {sh : Shp} {I : IM} {R : RM} {x : Int} : ev S d 11 23 [a0, a1, .inl x, a3] st (sh, I, R) = ev S d 11 24 [a0, a1, .inl x, a3] (.inl x :: st) (sh, I, R) := (ev_eq f_11_23).trans rfl
theorem f_11_24 : fetch 11 24 = some (24, .istore_n 3, 1, [3], 0) := (fm_11 24).trans rfl
theorem u_11_24 {S : Scr} {d : Nat} {a0 a1 a2 a3 : AV} {st : List AV} {sh : Shp} {I : IM} {R : RM} {x : Int} : ev S d 11 24 [a0, a1, a2, a3] (.inl x :: st) (sh, I, R) = ev S d 11 25 [a0, a1, a2, .inl x] st (sh, I, R) := (ev_eq f_11_24).trans rfl
theorem f_11_25 : fetch 11 25 = some (25, .iload_n 3, 1, [3], 0) := (fm_11 25).trans rfl
theorem u_11_25 {S : Scr} {d : Nat} {a0 a1 a2 : AV} {st : List AV} {sh : Shp} {I : IM} {R : RM} {x : Int} : ev S d 11 25 [a0, a1, a2, .inl x] st (sh, I, R) = ev S d 11 26 [a0, a1, a2, .inl x] (.inl x :: st) (sh, I, R) := (ev_eq f_11_25).trans rfl
theorem f_11_26 : fetch 11 26 = some (26, .aload_n 0, 1, [0], 0) := (fm_11 26).trans rfl
theorem u_11_26 {S : Scr} {d : Nat} {a1 a2 a3 : AV} {st : List AV} {sh : Shp} {I : IM} {R : RM} {x : Nat} : ev S d 11 26 [.inr (.inl x), a1, a2, a3] st (sh, I, R) = ev S d 11 27 [.inr (.inl x), a1, a2, a3] (.inr (.inl x) :: st) (sh, I, R) := (ev_eq f_11_26).trans rfl
theorem f_11_27 : fetch 11 27 = some (27, .getfield 28, 3, [1, 3, 0, 6], 0) := (fm_11 27).trans rfl
theorem u_11_27 {S : Scr} {d : Nat} {a0 a1 a2 a3 : AV} {st : List AV} {sh : Shp} {I : IM} {R : RM} {k : Nat} (h : tg sh k = 1) : ev S d 11 27 [a0, a1, a2, a3] (.inr (.inl k) :: st) (sh, I, R) = ev S d 11 30 [a0, a1, a2, a3] (.inl (I k 3) :: st) (sh, I, R) := (ev_eq f_11_27).trans (congrArg (fin S d 11) (if_pos h))
theorem f_11_30 : fetch 11 30 = some (30, .if_icmp .ge 37, 3, [67], 0) := (fm_11 30).trans rfl
theorem u_11_30 {S : Scr} {d : Nat} {a0 a1 a2 a3 : AV} {st : List AV} {sh : Shp} {I : IM} {R : RM} {x y : Int} : ev S d 11 30 [a0, a1, a2, a3] (.inl y :: .inl x :: st) (sh, I, R) = if y ≤ x then ev S d 11 67 [a0, a1, a2, a3] st (sh, I, R) else ev S d 11 33 [a0, a1, a2, a3] st (sh, I, R) := (ev_eq f_11_30).trans fin_icmp_ge
theorem f_11_33 : fetch 11 33 = some (33, .aload_n 0, 1, [0], 0) := (fm_11 33).trans rfl
theorem u_11_33 {S : Scr} {d : Nat} {a1 a2 a3 : AV} {st : List AV} {sh : Shp} {I : IM} {R : RM} {x : Nat} : ev S d 11 33 [.inr (.inl x), a1, a2, a3] st (sh, I, R) = ev S d 11 34 [.inr (.inl x), a1, a2, a3] (.inr (.inl x) :: st) (sh, I, R) := (ev_eq f_11_33).trans rfl
theorem f_11_34 : fetch 11 34 = some (34, .getfield 9, 3, [1, 1, 1, 3], 0) := (fm_11 34).trans rfl
theorem u_11_34 {S : Scr} {d : Nat} {a0 a1 a2 a3 : AV} {st : List AV} {sh : Shp} {I : IM} {R : RM} {k : Nat} (h : tg sh k = 1) : ev S d 11 34 [a0, a1, a2, a3] (.inr (.inl k) :: st) (sh, I, R) = ev S d 11 37 [a0, a1, a2, a3] (rv (R k 1) :: st) (sh, I, R) := (ev_eq f_11_34).trans (congrArg (fin S d 11) (if_pos h))
theorem f_11_37 : fetch 11 37 = some (37, .iload_n 3, 1, [3], 0) := (fm_11 37).trans rfl
theorem u_11_37 {S : Scr} {d : Nat} {a0 a1 a2 : AV} {st : List AV} {sh : Shp} {I : IM} {R : RM} {x : Int} : ev S d 11 37 [a0, a1, a2, .inl x] st (sh, I, R) = ev S d 11 38 [a0, a1, a2, .inl x] (.inl x :: st) (sh, I, R) := (ev_eq f_11_37).trans rfl
theorem f_11_38 : fetch 11 38 = some (38, .aload_n 0, 1, [0], 0) := (fm_11 38).trans rfl
theorem u_11_38 {S : Scr} {d : Nat} {a1 a2 a3 : AV} {st : List AV} {sh : Shp} {I : IM} {R : RM} {x : Nat} : ev S d 11 38 [.inr (.inl x), a1, a2, a3] st (sh, I, R) = ev S d 11 39 [.inr (.inl x), a1, a2, a3] (.inr (.inl x) :: st) (sh, I, R) := (ev_eq f_11_38).trans rfl
theorem f_11_39 : fetch 11 39 = some (39, .getfield 9, 3, [1, 1, 1, 3], 0) := (fm_11 39).trans rfl
theorem u_11_39 {S : Scr} {d : Nat} {a0 a1 a2 a3 : AV} {st : List AV} {sh : Shp} {I : IM} {R : RM} {k : Nat} (h : tg sh k = 1) : ev S d 11 39 [a0, a1, a2, a3] (.inr (.inl k) :: st) (sh, I, R) = ev S d 11 42 [a0, a1, a2, a3] (rv (R k 1) :: st) (sh, I, R) := (ev_eq f_11_39).trans (congrArg (fin S d 11) (if_pos h))
theorem f_11_42 : fetch 11 42 = some (42, .iload_n 3, 1, [3], 0) := (fm_11 42).trans rfl
theorem u_11_42 {S : Scr} {d : Nat} {a0 a1 a2 : AV} {st : List AV} {sh : Shp} {I : IM} {R : RM} {x : Int} : ev S d 11 42 [a0, a1, a2, .inl x] st (sh, I, R) = ev S d 11 43 [a0, a1, a2, .inl x] (.inl x :: st) (sh, I, R) := (ev_eq f_11_42).trans rfl
theorem f_11_43 : fetch 11 43 = some (43, .iconst 1, 1, [], 1) := (fm_11 43).trans rfl
theorem u_11_43 {S : Scr} {d : Nat} {a0 a1 a2 a3 : AV} {st : List AV} {sh : Shp} {I : IM} {R : RM} : ev S d 11 43 [a0, a1, a2, a3] st (sh, I, R) = ev S d 11 44 [a0, a1, a2, a3] (.inl 1 :: st) (sh, I, R) := (ev_eq f_11_43).trans rfl
theorem f_11_44 : fetch 11 44 = some (44, .iadd, 1, [], 0) := (fm_11 44).trans rfl
theorem u_11_44 {S : Scr} {d : Nat} {a0 a1 a2 a3 : AV} {st : List AV} {sh : Shp} {I : IM} {R : RM} {x y : Int} : ev S d 11 44 [a0, a1, a2, a3] (.inl y :: .inl x :: st) (sh, I, R) = ev S d 11 45 [a0, a1, a2, a3] (.inl (wr (x + y)) :: st) (sh, I, R) := (ev_eq f_11_44).trans rfl
theorem f_11_45 : fetch 11 45 = some (45, .iaload, 1, [], 0) := (fm_11 45).trans rfl
theorem u_11_45 {S : Scr} {d : Nat} {a0 a1 a2 a3 : AV} {st : List AV} {sh : Shp} {I : IM} {R : RM} {k : Nat} {i : Int} (h : tg sh k = 100) (h0 : 0 ≤ i) (h1 : i < ln sh k) : ev S d 11 45 [a0, a1, a2, a3] (.inl i :: .inr (.inl k) :: st) (sh, I, R) = ev S d 11 46 [a0, a1, a2, a3] (.inl (I k i) :: st) (sh, I, R) := (ev_eq f_11_45).trans (congrArg (fin S d 11) (if_pos ⟨h, h0, h1⟩))
theorem f_11_46 : fetch 11 46 = some (46, .iastore, 1, [], 0) := (fm_11 46).trans rfl
theorem u_11_46 {S : Scr} {d : Nat} {a0 a1 a2 a3 : AV} {st : List AV} {sh : Shp} {I : IM} {R : RM} {k : Nat} {i x : Int} (h : tg sh k = 100) (h0 : 0 ≤ i) (h1 : i < ln sh k) : ev S d 11 46 [a0, a1, a2, a3] (.inl x :: .inl i :: .inr (.inl k) :: st) (sh, I, R) = ev S d 11 47 [a0, a1, a2, a3] st (sh, up I k i x, R) := (ev_eq f_11_46).trans (congrArg (fin S d 11) (if_pos ⟨h, h0, h1⟩))
theorem f_11_47 : fetch 11 47 = some (47, .aload_n 0, 1, [0], 0) := (fm_11 47).trans rfl
theorem u_11_47 {S : Scr} {d : Nat} {a1 a2 a3 : AV} {st : List AV} {sh : Shp} {I : IM} {R : RM} {x : Nat} : ev S d 11 47 [.inr (.inl x), a1, a2, a3] st (sh, I, R) = ev S d 11 48 [.inr (.inl x), a1, a2, a3] (.inr (.inl x) :: st) (sh, I, R) := (ev_eq f_11_47).trans rfl
theorem f_11_48 : fetch 11 48 = some (48, .getfield 15, 3, [1, 2, 1, 4], 0) := (fm_11 48).trans rfl
theorem u_11_48 {S : Scr} {d : Nat} {a0 a1 a2 a3 : AV} {st : List AV} {sh : Shp} {I : IM} {R : RM} {k : Nat} (h : tg sh k = 1) : ev S d 11 48 [a0, a1, a2, a3] (.inr (.inl k) :: st) (sh, I, R) = ev S d 11 51 [a0, a1, a2, a3] (rv (R k 2) :: st) (sh, I, R) := (ev_eq f_11_48).trans (congrArg (fin S d 11) (if_pos h))
theorem f_11_51 : fetch 11 51 = some (51, .iload_n 3, 1, [3], 0) := (fm_11 51).trans rfl
theorem u_11_51 {S : Scr} {d : Nat} {a0 a1 a2 : AV} {st : List AV} {sh : Shp} {I : IM} {R : RM} {x : Int} : ev S d 11 51 [a0, a1, a2, .inl x] st (sh, I, R) = ev S d 11 52 [a0, a1, a2, .inl x] (.inl x :: st) (sh, I, R) := (ev_eq f_11_51).trans rfl
theorem f_11_52 : fetch 11 52 = some (52, .aload_n 0, 1, [0], 0) := (fm_11 52).trans rfl
theorem u_11_52 {S : Scr} {d : Nat} {a1 a2 a3 : AV} {st : List AV} {sh : Shp} {I : IM} {R : RM} {x : Nat} : ev S d 11 52 [.inr (.inl x), a1, a2, a3] st (sh, I, R) = ev S d 11 53 [.inr (.inl x), a1, a2, a3] (.inr (.inl x) :: st) (sh, I, R) := (ev_eq f_11_52).trans rfl
theorem f_11_53 : fetch 11 53 = some (53, .getfield 15, 3, [1, 2, 1, 4], 0) := (fm_11 53).trans rfl
theorem u_11_53 {S : Scr} {d : Nat} {a0 a1 a2 a3 : AV} {st : List AV} {sh : Shp} {I : IM} {R : RM} {k : Nat} (h : tg sh k = 1) : ev S d 11 53 [a0, a1, a2, a3] (.inr (.inl k) :: st) (sh, I, R) = ev S d 11 56 [a0, a1, a2, a3] (rv (R k 2) :: st) (sh, I, R) := (ev_eq f_11_53).trans (congrArg (fin S d 11) (if_pos h))
theorem f_11_56 : fetch 11 56 = some (56, .iload_n 3, 1, [3], 0) := (fm_11 56).trans rfl
theorem u_11_56 {S : Scr} {d : Nat} {a0 a1 a2 : AV} {st : List AV} {sh : Shp} {I : IM} {R : RM} {x : Int} : ev S d 11 56 [a0, a1, a2, .inl x] st (sh, I, R) = ev S d 11 57 [a0, a1, a2, .inl x] (.inl x :: st) (sh, I, R) := (ev_eq f_11_56).trans rfl
theorem f_11_57 : fetch 11 57 = some (57, .iconst 1, 1, [], 1) := (fm_11 57).trans rfl
theorem u_11_57 {S : Scr} {d : Nat} {a0 a1 a2 a3 : AV} {st : List AV} {sh : Shp} {I : IM} {R : RM} : ev S d 11 57 [a0, a1, a2, a3] st (sh, I, R) = ev S d 11 58 [a0, a1, a2, a3] (.inl 1 :: st) (sh, I, R) := (ev_eq f_11_57).trans rfl
theorem f_11_58 : fetch 11 58 = some (58, .iadd, 1, [], 0) := (fm_11 58).trans rfl
theorem u_11_58 {S : Scr} {d : Nat} {a0 a1 a2 a3 : AV} {st : List AV} {sh : Shp} {I : IM} {R : RM} {x y : Int} : ev S d 11 58 [a0, a1, a2, a3] (.inl y :: .inl x :: st) (sh, I, R) = ev S d 11 59 [a0, a1, a2, a3] (.inl (wr (x + y)) :: st) (sh, I, R) := (ev_eq f_11_58).trans rfl
theorem f_11_59 : fetch 11 59 = some (59, .iaload, 1, [], 0) := (fm_11 59).trans rfl
theorem u_11_59 {S : Scr} {d : Nat} {a0 a1 a2 a3 : AV} {st : List AV} {sh : Shp} {I : IM} {R : RM} {k : Nat} {i : Int} (h : tg sh k = 100) (h0 : 0 ≤ i) (h1 : i < ln sh k) : ev S d 11 59 [a0, a1, a2, a3] (.inl i :: .inr (.inl k) :: st) (sh, I, R) = ev S d 11 60 [a0, a1, a2, a3] (.inl (I k i) :: st) (sh, I, R) := (ev_eq f_11_59).trans (congrArg (fin S d 11) (if_pos ⟨h, h0, h1⟩))
theorem f_11_60 : fetch 11 60 = some (60, .iastore, 1, [], 0) := (fm_11 60).trans rfl
theorem u_11_60 {S : Scr} {d : Nat} {a0 a1 a2 a3 : AV} {st : List AV} {sh : Shp} {I : IM} {R : RM} {k : Nat} {i x : Int} (h : tg sh k = 100) (h0 : 0 ≤ i) (h1 : i < ln sh k) : ev S d 11 60 [a0, a1, a2, a3] (.inl x :: .inl i :: .inr (.inl k) :: st) (sh, I, R) = ev S d 11 61 [a0, a1, a2, a3] st (sh, up I k i x, R) := (ev_eq f_11_60).trans (congrArg (fin S d 11) (if_pos ⟨h, h0, h1⟩))
theorem f_11_61 : fetch 11 61 = some (61, .iinc 3 1, 3, [3], 1) := (fm_11 61).trans rfl
theorem u_11_61 {S : Scr} {d : Nat} {a0 a1 a2 : AV} {st : List AV} {sh : Shp} {I : IM} {R : RM} {x : Int} : ev S d 11 61 [a0, a1, a2, .inl x] st (sh, I, R) = ev S d 11 64 [a0, a1, a2, .inl (wr (x + 1))] st (sh, I, R) := (ev_eq f_11_61).trans rfl
theorem f_11_64 : fetch 11 64 = some (64, .goto (-39), 3, [25], 0) := (fm_11 64).trans rfl
theorem u_11_64 {S : Scr} {d : Nat} {a0 a1 a2 a3 : AV} {st : List AV} {sh : Shp} {I : IM} {R : RM} : ev S d 11 64 [a0, a1, a2, a3] st (sh, I, R) = ev S d 11 25 [a0, a1, a2, a3] st (sh, I, R) := (ev_eq f_11_64).trans rfl
theorem f_11_67 : fetch 11 67 = some (67, .iconst 1, 1, [], 1) := (fm_11 67).trans rfl
theorem u_11_67 {S : Scr} {d : Nat} {a0 a1 a2 a3 : AV} {st : List AV} {sh : Shp} {I : IM} {R : RM} : ev S d 11 67 [a0, a1, a2, a3] st (sh, I, R) = ev S d 11 68 [a0, a1, a2, a3] (.inl 1 :: st) (sh, I, R) := (ev_eq f_11_67).trans rfl
theorem f_11_68 : fetch 11 68 = some (68, .ireturn, 1, [1], 0) := (fm_11 68).trans rfl
theorem u_11_68 {S : Scr} {d : Nat} {a0 a1 a2 a3 : AV} {sh : Shp} {I : IM} {R : RM} {x : Int} (h : x = 0 ∨ x = 1) : ev S d 11 68 [a0, a1, a2, a3] [.inl x] (sh, I, R) = some (some (.inl x), (sh, I, R)) := (ev_eq f_11_68).trans (fin_iret1 h)
theorem c_12 {d : Nat} {a0 : AV} {M : Mem} : cl (d + 1) 12 [a0] M = ev S0 d 12 0 [a0] [] M := (cl_eq (as := [a0]) (show 1 ≤ maxOf 12 by decide +kernel)).trans rfl
theorem mt_12 : MT[12]? = some m_12 := rfl
theorem fm_12 (pc : Nat) : fetch 12 pc = lk m_12.2.2.2.2.2 pc := by
  unfold fetch
  rw [mt_12]
theorem f_12_0 : fetch 12 0 = some (0, .aload_n 0, 1, [0], 0) := (fm_12 0).trans rfl
theorem u_12_0 {S : Scr} {d : Nat} {st : List AV} {sh : Shp} {I : IM} {R : RM} {x : Nat} : ev S d 12 0 [.inr (.inl x)] st (sh, I, R) = ev S d 12 1 [.inr (.inl x)] (.inr (.inl x) :: st) (sh, I, R) := (ev_eq f_12_0).trans rfl
theorem f_12_1 : fetch 12 1 = some (1, .iconst 0, 1, [], 0) := (fm_12 1).trans rfl
theorem u_12_1 {S : Scr} {d : Nat} {a0 : AV} {st : List AV} {sh : Shp} {I : IM} {R : RM} : ev S d 12 1 [a0] st (sh, I, R) = ev S d 12 2 [a0] (.inl 0 :: st) (sh, I, R) := (ev_eq f_12_1).trans rfl
theorem f_12_2 : fetch 12 2 = some (2, .putfield 28, 3, [1, 3, 0, 6], 0) := (fm_12 2).trans rfl
theorem u_12_2 {S : Scr} {d : Nat} {a0 : AV} {st : List AV} {sh : Shp} {I : IM} {R : RM} {k : Nat} {x : Int} (h : tg sh k = 1) : ev S d 12 2 [a0] (.inl x :: .inr (.inl k) :: st) (sh, I, R) = ev S d 12 5 [a0] st (sh, up I k 3 x, R) := (ev_eq f_12_2).trans (congrArg (fin S d 12) (if_pos h))
theorem f_12_5 : fetch 12 5 = some (5, .return_, 1, [], 0) := (fm_12 5).trans rfl
theorem u_12_5 {S : Scr} {d : Nat} {a0 : AV} {sh : Shp} {I : IM} {R : RM} : ev S d 12 5 [a0] [] (sh, I, R) = some (none, (sh, I, R)) := (ev_eq f_12_5).trans rfl
theorem c_13 {d : Nat} {a0 a1 : AV} {M : Mem} : cl (d + 1) 13 [a0, a1] M = ev S0 d 13 0 [a0, a1, .inr (.inr 1)] [] M := (cl_eq (as := [a0, a1]) (show 2 ≤ maxOf 13 by decide +kernel)).trans rfl
theorem mt_13 : MT[13]? = some m_13 := rfl
theorem fm_13 (pc : Nat) : fetch 13 pc = lk m_13.2.2.2.2.2 pc := by
  unfold fetch
  rw [mt_13]
theorem f_13_0 : fetch 13 0 = some (0, .aload_n 0, 1, [0], 0) := (fm_13 0).trans rfl
theorem u_13_0 {S : Scr} {d : Nat} {a1 a2 : AV} {st : List AV} {sh : Shp} {I : IM} {R : RM} {x : Nat} : ev S d 13 0 [.inr (.inl x), a1, a2] st (sh, I, R) = ev S d 13 1 [.inr (.inl x), a1, a2] (.inr (.inl x) :: st) (sh, I, R) := (ev_eq f_13_0).trans rfl
theorem f_13_1 : fetch 13 1 = some (1, .invokevirtual 44, 3, [12, 0, 3], 0) := (fm_13 1).trans rfl
theorem u_13_1 {S : Scr} {d : Nat} {a0 a1 a2 : AV} {st : List AV} {sh : Shp} {I : IM} {R : RM} {k : Nat} (h : tg sh k = 1) (hr : st.length ≤ 8) : ev S d 13 1 [a0, a1, a2] (.inr (.inl k) :: st) (sh, I, R) = bnd (cl d 12 [.inr (.inl k)] (sh, I, R)) (fun v M => ev S d 13 4 [a0, a1, a2] (psh v st) M) := (ev_eq f_13_1).trans (congrArg (fin S d 13) (if_pos ⟨h, rfl, hr⟩))
theorem f_13_4 : fetch 13 4 = some (4, .iconst 0, 1, [], 0) := (fm_13 4).trans rfl
theorem u_13_4 {S : Scr} {d : Nat} {a0 a1 a2 : AV} {st : List AV} {sh : Shp} {I : IM} {R : RM} : ev S d 13 4 [a0, a1, a2] st (sh, I, R) = ev S d 13 5 [a0, a1, a2] (.inl 0 :: st) (sh, I, R) := (ev_eq f_13_4).trans rfl
theorem f_13_5 : fetch 13 5 = some (5, .istore_n 2, 1, [2], 0) := (fm_13 5).trans rfl
theorem u_13_5 {S : Scr} {d : Nat} {a0 a1 a2 : AV} {st : List AV} {sh : Shp} {I : IM} {R : RM} {x : Int} : ev S d 13 5 [a0, a1, a2] (.inl x :: st) (sh, I, R) = ev S d 13 6 [a0, a1, .inl x] st (sh, I, R) := (ev_eq f_13_5).trans rfl
theorem f_13_6 : fetch 13 6 = some (6, .iload_n 2, 1, [2], 0) := (fm_13 6).trans rfl
theorem u_13_6 {S : Scr} {d : Nat} {a0 a1 : AV} {st : List AV} {sh : Shp} {I : IM} {R : RM} {x : Int} : ev S d 13 6 [a0, a1, .inl x] st (sh, I, R) = ev S d 13 7 [a0, a1, .inl x] (.inl x :: st) (sh, I, R) := (ev_eq f_13_6).trans rfl
theorem f_13_7 : fetch 13 7 = some (7, .aload_n 1, 1, [1], 0) := (fm_13 7).trans rfl
theorem u_13_7 {S : Scr} {d : Nat} {a0 a2 : AV} {st : List AV} {sh : Shp} {I : IM} {R : RM} {x : Nat} : ev S d 13 7 [a0, .inr (.inl x), a2] st (sh, I, R) = ev S d 13 8 [a0, .inr (.inl x), a2] (.inr (.inl x) :: st) (sh, I, R) := (ev_eq f_13_7).trans rfl
theorem u_13_7n {S : Scr} {d : Nat} {a0 a2 : AV} {st : List AV} {sh : Shp} {I : IM} {R : RM} : ev S d 13 7 [a0, .inr (.inr 0), a2] st (sh, I, R) = ev S d 13 8 [a0, .inr (.inr 0), a2] (.inr (.inr 0) :: st) (sh, I, R) := (ev_eq f_13_7).trans rfl
theorem f_13_8 : fetch 13 8 = some (8, .getfield 28, 3, [1, 3, 0, 6], 0) := (fm_13 8).trans rfl
theorem u_13_8 {S : Scr} {d : Nat} {a0 a1 a2 : AV} {st : List AV} {sh : Shp} {I : IM} {R : RM} {k : Nat} (h : tg sh k = 1) : ev S d 13 8 [a0, a1, a2] (.inr (.inl k) :: st) (sh, I, R) = ev S d 13 11 [a0, a1, a2] (.inl (I k 3) :: st) (sh, I, R) := (ev_eq f_13_8).trans (congrArg (fin S d 13) (if_pos h))
theorem f_13_11 : fetch 13 11 = some (11, .if_icmp .ge 26, 3, [37], 0) := (fm_13 11).trans rfl
theorem u_13_11 {S : Scr} {d : Nat} {a0 a1 a2 : AV} {st : List AV} {sh : Shp} {I : IM} {R : RM} {x y : Int} : ev S d 13 11 [a0, a1, a2] (.inl y :: .inl x :: st) (sh, I, R) = if y ≤ x then ev S d 13 37 [a0, a1, a2] st (sh, I, R) else ev S d 13 14 [a0, a1, a2] st (sh, I, R) := (ev_eq f_13_11).trans fin_icmp_ge
theorem f_13_14 : fetch 13 14 = some (14, .aload_n 0, 1, [0], 0) := (fm_13 14).trans rfl
theorem u_13_14 {S : Scr} {d : Nat} {a1 a2 : AV} {st : List AV} {sh : Shp} {I : IM} {R : RM} {x : Nat} : ev S d 13 14 [.inr (.inl x), a1, a2] st (sh, I, R) = ev S d 13 15 [.inr (.inl x), a1, a2] (.inr (.inl x) :: st) (sh, I, R) := (ev_eq f_13_14).trans rfl
theorem f_13_15 : fetch 13 15 = some (15, .aload_n 1, 1, [1], 0) := (fm_13 15).trans rfl
theorem u_13_15 {S : Scr} {d : Nat} {a0 a2 : AV} {st : List AV} {sh : Shp} {I : IM} {R : RM} {x : Nat} : ev S d 13 15 [a0, .inr (.inl x), a2] st (sh, I, R) = ev S d 13 16 [a0, .inr (.inl x), a2] (.inr (.inl x) :: st) (sh, I, R) := (ev_eq f_13_15).trans rfl
theorem u_13_15n {S : Scr} {d : Nat} {a0 a2 : AV} {st : List AV} {sh : Shp} {I : IM} {R : RM} : ev S d 13 15 [a0, .inr (.inr 0), a2] st (sh, I, R) = ev S d 13 16 [a0, .inr (.inr 0), a2] (.inr (.inr 0) :: st) (sh, I, R) := (ev_eq f_13_15).trans rfl
theorem f_13_16 : fetch 13 16 = some (16, .getfield 9, 3, [1, 1, 1, 3], 0) := (fm_13 16).trans rfl
theorem u_13_16 {S : Scr} {d : Nat} {a0 a1 a2 : AV} {st : List AV} {sh : Shp} {I : IM} {R : RM} {k : Nat} (h : tg sh k = 1) : ev S d 13 16 [a0, a1, a2] (.inr (.inl k) :: st) (sh, I, R) = ev S d 13 19 [a0, a1, a2] (rv (R k 1) :: st) (sh, I, R) := (ev_eq f_13_16).trans (congrArg (fin S d 13) (if_pos h))
theorem f_13_19 : fetch 13 19 = some (19, .iload_n 2, 1, [2], 0) := (fm_13 19).trans rfl
theorem u_13_19 {S : Scr} {d : Nat} {a0 a1 : AV} {st : List AV} {sh : Shp} {I : IM} {R : RM} {x : Int} : ev S d 13 19 [a0, a1, .inl x] st (sh, I, R) = ev S d 13 20 [a0, a1, .inl x] (.inl x :: st) (sh, I, R) := (ev_eq f_13_19).trans rfl
theorem f_13_20 : fetch 13 20 = some (20, .iaload, 1, [], 0) := (fm_13 20).trans rfl
theorem u_13_20 {S : Scr} {d : Nat} {a0 a1 a2 : AV} {st : List AV} {sh : Shp} {I : IM} {R : RM} {k : Nat} {i : Int} (h : tg sh k = 100) (h0 : 0 ≤ i) (h1 : i < ln sh k) : ev S d 13 20 [a0, a1, a2] (.inl i :: .inr (.inl k) :: st) (sh, I, R) = ev S d 13 21 [a0, a1, a2] (.inl (I k i) :: st) (sh, I, R) := (ev_eq f_13_20).trans (congrArg (fin S d 13) (if_pos ⟨h, h0, h1⟩))
theorem f_13_21 : fetch 13 21 = some (21, .aload_n 1, 1, [1], 0) := (fm_13 21).trans rfl
theorem u_13_21 {S : Scr} {d : Nat} {a0 a2 : AV} {st : List AV} {sh : Shp} {I : IM} {R : RM} {x : Nat} : ev S d 13 21 [a0, .inr (.inl x), a2] st (sh, I, R) = ev S d 13 22 [a0, .inr (.inl x), a2] (.inr (.inl x) :: st) (sh, I, R) := (ev_eq f_13_21).trans rfl
theorem u_13_21n {S : Scr} {d : Nat} {a0 a2 : AV} {st : List AV} {sh : Shp} {I : IM} {R : RM} : ev S d 13 21 [a0, .inr (.inr 0), a2] st (sh, I, R) = ev S d 13 22 [a0, .inr (.inr 0), a2] (.inr (.inr 0) :: st) (sh, I, R) := (ev_eq f_13_21).trans rfl
theorem f_13_22 : fetch 13 22 = some (22, .getfield 15, 3, [1, 2, 1, 4], 0) := (fm_13 22).trans rfl
theorem u_13_22 {S : Scr} {d : Nat} {a0 a1 a2 : AV} {st : List AV} {sh : Shp} {I : IM} {R : RM} {k : Nat} (h : tg sh k = 1) : ev S d 13 22 [a0, a1, a2] (.inr (.inl k) :: st) (sh, I, R) = ev S d 13 25 [a0, a1, a2] (rv (R k 2) :: st) (sh, I, R) := (ev_eq f_13_22).trans (congrArg (fin S d 13) (if_pos h))
theorem f_13_25 : fetch 13 25 = some (25, .iload_n 2, 1, [2], 0) := (fm_13 25).trans rfl
theorem u_13_25 {S : Scr} {d : Nat} {a0 a1 : AV} {st : List AV} {sh : Shp} {I : IM} {R : RM} {x : Int} : ev S d 13 25 [a0, a1, .inl x] st (sh, I, R) = ev S d 13 26 [a0, a1, .inl x] (.inl x :: st) (sh, I, R) := (ev_eq f_13_25).trans rfl
theorem f_13_26 : fetch 13 26 = some (26, .iaload, 1, [], 0) := (fm_13 26).trans rfl
theorem u_13_26 {S : Scr} {d : Nat} {a0 a1 a2 : AV} {st : List AV} {sh : Shp} {I : IM} {R : RM} {k : Nat} {i : Int} (h : tg sh k = 100) (h0 : 0 ≤ i) (h1 : i < ln sh k) : ev S d 13 26 [a0, a1, a2] (.inl i :: .inr (.inl k) :: st) (sh, I, R) = ev S d 13 27 [a0, a1, a2] (.inl (I k i) :: st) (sh, I, R) := (ev_eq f_13_26).trans (congrArg (fin S d 13) (if_pos ⟨h, h0, h1⟩))
theorem f_13_27 : fetch 13 27 = some (27, .invokevirtual 40, 3, [9, 2, 2], 0) := (fm_13 27).trans rfl
theorem u_13_27 {S : Scr} {d : Nat} {a0 a1 a2 : AV} {st : List AV} {sh : Shp} {I : IM} {R : RM} {x0 : Int} {x1 : Int} {k : Nat} (h : tg sh k = 1) (hr : st.length ≤ 8) : ev S d 13 27 [a0, a1, a2] (.inl x1 :: .inl x0 :: .inr (.inl k) :: st) (sh, I, R) = bnd (cl d 9 [.inr (.inl k), .inl x0, .inl x1] (sh, I, R)) (fun v M => ev S d 13 30 [a0, a1, a2] (psh v st) M) := (ev_eq f_13_27).trans (congrArg (fin S d 13) (if_pos ⟨h, rfl, hr⟩))
theorem f_13_30 : fetch 13 30 = some (30, .pop, 1, [], 0) := (fm_13 30).trans rfl
theorem u_13_30 {S : Scr} {d : Nat} {a0 a1 a2 : AV} {st : List AV} {sh : Shp} {I : IM} {R : RM} {x : AV} : ev S d 13 30 [a0, a1, a2] (x :: st) (sh, I, R) = ev S d 13 31 [a0, a1, a2] st (sh, I, R) := (ev_eq f_13_30).trans rfl
theorem f_13_31 : fetch 13 31 = some (31, .iinc 2 1, 3, [2], 1) := (fm_13 31).trans rfl
theorem u_13_31 {S : Scr} {d : Nat} {a0 a1 : AV} {st : List AV} {sh : Shp} {I : IM} {R : RM} {x : Int} : ev S d 13 31 [a0, a1, .inl x] st (sh, I, R) = ev S d 13 34 [a0, a1, .inl (wr (x + 1))] st (sh, I, R) := (ev_eq f_13_31).trans rfl
theorem f_13_34 : fetch 13 34 = some (34, .goto (-28), 3, [6], 0) := (fm_13 34).trans rfl
theorem u_13_34 {S : Scr} {d : Nat} {a0 a1 a2 : AV} {st : List AV} {sh : Shp} {I : IM} {R : RM} : ev S d 13 34 [a0, a1, a2] st (sh, I, R) = ev S d 13 6 [a0, a1, a2] st (sh, I, R) := (ev_eq f_13_34).trans rfl
theorem f_13_37 : fetch 13 37 = some (37, .return_, 1, [], 0) := (fm_13 37).trans rfl
theorem u_13_37 {S : Scr} {d : Nat} {a0 a1 a2 : AV} {sh : Shp} {I : IM} {R : RM} : ev S d 13 37 [a0, a1, a2] [] (sh, I, R) = some (none, (sh, I, R)) := (ev_eq f_13_37).trans rfl
theorem c_14 {d : Nat} {a0 a1 : AV} {M : Mem} : cl (d + 1) 14 [a0, a1] M = ev S0 d 14 0 [a0, a1, .inr (.inr 1)] [] M := (cl_eq (as := [a0, a1]) (show 2 ≤ maxOf 14 by decide +kernel)).trans rfl
theorem mt_14 : MT[14]? = some m_14 := rfl
theorem fm_14 (pc : Nat) : fetch 14 pc = lk m_14.2.2.2.2.2 pc := by
  unfold fetch
  rw [mt_14]
theorem f_14_0 : fetch 14 0 = some (0, .iconst 0, 1, [], 0) := (fm_14 0).trans rfl
theorem u_14_0 {S : Scr} {d : Nat} {a0 a1 a2 : AV} {st : List AV} {sh : Shp} {I : IM} {R : RM} : ev S d 14 0 [a0, a1, a2] st (sh, I, R) = ev S d 14 1 [a0, a1, a2] (.inl 0 :: st) (sh, I, R) := (ev_eq f_14_0).trans rfl
theorem f_14_1 : fetch 14 1 = some (1, .istore_n 2, 1, [2], 0) := (fm_14 1).trans rfl
theorem u_14_1 {S : Scr} {d : Nat} {a0 a1 a2 : AV} {st : List AV} {sh : Shp} {I : IM} {R : RM} {x : Int} : ev S d 14 1 [a0, a1, a2] (.inl x :: st) (sh, I, R) = ev S d 14 2 [a0, a1, .inl x] st (sh, I, R) := (ev_eq f_14_1).trans rfl
theorem f_14_2 : fetch 14 2 = some (2, .iload_n 2, 1, [2], 0) := (fm_14 2).trans rfl
theorem u_14_2 {S : Scr} {d : Nat} {a0 a1 : AV} {st : List AV} {sh : Shp} {I : IM} {R : RM} {x : Int} : ev S d 14 2 [a0, a1, .inl x] st (sh, I, R) = ev S d 14 3 [a0, a1, .inl x] (.inl x :: st) (sh, I, R) := (ev_eq f_14_2).trans rfl
theorem f_14_3 : fetch 14 3 = some (3, .aload_n 1, 1, [1], 0) := (fm_14 3).trans rfl
theorem u_14_3 {S : Scr} {d : Nat} {a0 a2 : AV} {st : List AV} {sh : Shp} {I : IM} {R : RM} {x : Nat} : ev S d 14 3 [a0, .inr (.inl x), a2] st (sh, I, R) = ev S d 14 4 [a0, .inr (.inl x), a2] (.inr (.inl x) :: st) (sh, I, R) := (ev_eq f_14_3).trans rfl
theorem u_14_3n {S : Scr} {d : Nat} {a0 a2 : AV} {st : List AV} {sh : Shp} {I : IM} {R : RM} : ev S d 14 3 [a0, .inr (.inr 0), a2] st (sh, I, R) = ev S d 14 4 [a0, .inr (.inr 0), a2] (.inr (.inr 0) :: st) (sh, I, R) := (ev_eq f_14_3).trans rfl
theorem f_14_4 : fetch 14 4 = some (4, .getfield 28, 3, [1, 3, 0, 6], 0) := (fm_14 4).trans rfl
theorem u_14_4 {S : Scr} {d : Nat} {a0 a1 a2 : AV} {st : List AV} {sh : Shp} {I : IM} {R : RM} {k : Nat} (h : tg sh k = 1) : ev S d 14 4 [a0, a1, a2] (.inr (.inl k) :: st) (sh, I, R) = ev S d 14 7 [a0, a1, a2] (.inl (I k 3) :: st) (sh, I, R) := (ev_eq f_14_4).trans (congrArg (fin S d 14) (if_pos h))
theorem f_14_7 : fetch 14 7 = some (7, .if_icmp .ge 39, 3, [46], 0) := (fm_14 7).trans rfl
theorem u_14_7 {S : Scr} {d : Nat} {a0 a1 a2 : AV} {st : List AV} {sh : Shp} {I : IM} {R : RM} {x y : Int} : ev S d 14 7 [a0, a1, a2] (.inl y :: .inl x :: st) (sh, I, R) = if y ≤ x then ev S d 14 46 [a0, a1, a2] st (sh, I, R) else ev S d 14 10 [a0, a1, a2] st (sh, I, R) := (ev_eq f_14_7).trans fin_icmp_ge
theorem f_14_10 : fetch 14 10 = some (10, .aload_n 0, 1, [0], 0) := (fm_14 10).trans rfl
theorem u_14_10 {S : Scr} {d : Nat} {a1 a2 : AV} {st : List AV} {sh : Shp} {I : IM} {R : RM} {x : Nat} : ev S d 14 10 [.inr (.inl x), a1, a2] st (sh, I, R) = ev S d 14 11 [.inr (.inl x), a1, a2] (.inr (.inl x) :: st) (sh, I, R) := (ev_eq f_14_10).trans rfl
theorem f_14_11 : fetch 14 11 = some (11, .aload_n 1, 1, [1], 0) := (fm_14 11).trans rfl
theorem u_14_11 {S : Scr} {d : Nat} {a0 a2 : AV} {st : List AV} {sh : Shp} {I : IM} {R : RM} {x : Nat} : ev S d 14 11 [a0, .inr (.inl x), a2] st (sh, I, R) = ev S d 14 12 [a0, .inr (.inl x), a2] (.inr (.inl x) :: st) (sh, I, R) := (ev_eq f_14_11).trans rfl
theorem u_14_11n {S : Scr} {d : Nat} {a0 a2 : AV} {st : List AV} {sh : Shp} {I : IM} {R : RM} : ev S d 14 11 [a0, .inr (.inr 0), a2] st (sh, I, R) = ev S d 14 12 [a0, .inr (.inr 0), a2] (.inr (.inr 0) :: st) (sh, I, R) := (ev_eq f_14_11).trans rfl
theorem f_14_12 : fetch 14 12 = some (12, .getfield 9, 3, [1, 1, 1, 3], 0) := (fm_14 12).trans rfl
theorem u_14_12 {S : Scr} {d : Nat} {a0 a1 a2 : AV} {st : List AV} {sh : Shp} {I : IM} {R : RM} {k : Nat} (h : tg sh k = 1) : ev S d 14 12 [a0, a1, a2] (.inr (.inl k) :: st) (sh, I, R) = ev S d 14 15 [a0, a1, a2] (rv (R k 1) :: st) (sh, I, R) := (ev_eq f_14_12).trans (congrArg (fin S d 14) (if_pos h))
theorem f_14_15 : fetch 14 15 = some (15, .iload_n 2, 1, [2], 0) := (fm_14 15).trans rfl
theorem u_14_15 {S : Scr} {d : Nat} {a0 a1 : AV} {st : List AV} {sh : Shp} {I : IM} {R : RM} {x : Int} : ev S d 14 15 [a0, a1, .inl x] st (sh, I, R) = ev S d 14 16 [a0, a1, .inl x] (.inl x :: st) (sh, I, R) := (ev_eq f_14_15).trans rfl
theorem f_14_16 : fetch 14 16 = some (16, .iaload, 1, [], 0) := (fm_14 16).trans rfl
theorem u_14_16 {S : Scr} {d : Nat} {a0 a1 a2 : AV} {st : List AV} {sh : Shp} {I : IM} {R : RM} {k : Nat} {i : Int} (h : tg sh k = 100) (h0 : 0 ≤ i) (h1 : i < ln sh k) : ev S d 14 16 [a0, a1, a2] (.inl i :: .inr (.inl k) :: st) (sh, I, R) = ev S d 14 17 [a0, a1, a2] (.inl (I k i) :: st) (sh, I, R) := (ev_eq f_14_16).trans (congrArg (fin S d 14) (if_pos ⟨h, h0, h1⟩))
theorem f_14_17 : fetch 14 17 = some (17, .invokevirtual 47, 3, [6, 1, 4], 0) := (fm_14 17).trans rfl
theorem u_14_17 {S : Scr} {d : Nat} {a0 a1 a2 : AV} {st : List AV} {sh : Shp} {I : IM} {R : RM} {x0 : Int} {k : Nat} (h : tg sh k = 1) (hr : st.length ≤ 8) : ev S d 14 17 [a0, a1, a2] (.inl x0 :: .inr (.inl k) :: st) (sh, I, R) = bnd (cl d 6 [.inr (.inl k), .inl x0] (sh, I, R)) (fun v M => ev S d 14 20 [a0, a1, a2] (psh v st) M) := (ev_eq f_14_17).trans (congrArg (fin S d 14) (if_pos ⟨h, rfl, hr⟩))
theorem f_14_20 : fetch 14 20 = some (20, .ifCond .ne 20, 3, [40], 0) := (fm_14 20).trans rfl
theorem u_14_20 {S : Scr} {d : Nat} {a0 a1 a2 : AV} {st : List AV} {sh : Shp} {I : IM} {R : RM} {x : Int} : ev S d 14 20 [a0, a1, a2] (.inl x :: st) (sh, I, R) = if ¬ x = 0 then ev S d 14 40 [a0, a1, a2] st (sh, I, R) else ev S d 14 23 [a0, a1, a2] st (sh, I, R) := (ev_eq f_14_20).trans fin_if_ne
theorem f_14_23 : fetch 14 23 = some (23, .aload_n 0, 1, [0], 0) := (fm_14 23).trans rfl
theorem u_14_23 {S : Scr} {d : Nat} {a1 a2 : AV} {st : List AV} {sh : Shp} {I : IM} {R : RM} {x : Nat} : ev S d 14 23 [.inr (.inl x), a1, a2] st (sh, I, R) = ev S d 14 24 [.inr (.inl x), a1, a2] (.inr (.inl x) :: st) (sh, I, R) := (ev_eq f_14_23).trans rfl
theorem f_14_24 : fetch 14 24 = some (24, .aload_n 1, 1, [1], 0) := (fm_14 24).trans rfl
theorem u_14_24 {S : Scr} {d : Nat} {a0 a2 : AV} {st : List AV} {sh : Shp} {I : IM} {R : RM} {x : Nat} : ev S d 14 24 [a0, .inr (.inl x), a2] st (sh, I, R) = ev S d 14 25 [a0, .inr (.inl x), a2] (.inr (.inl x) :: st) (sh, I, R) := (ev_eq f_14_24).trans rfl
theorem u_14_24n {S : Scr} {d : Nat} {a0 a2 : AV} {st : List AV} {sh : Shp} {I : IM} {R : RM} : ev S d 14 24 [a0, .inr (.inr 0), a2] st (sh, I, R) = ev S d 14 25 [a0, .inr (.inr 0), a2] (.inr (.inr 0) :: st) (sh, I, R) := (ev_eq f_14_24).trans rfl
theorem f_14_25 : fetch 14 25 = some (25, .getfield 9, 3, [1, 1, 1, 3], 0) := (fm_14 25).trans rfl
theorem u_14_25 {S : Scr} {d : Nat} {a0 a1 a2 : AV} {st : List AV} {sh : Shp} {I : IM} {R : RM} {k : Nat} (h : tg sh k = 1) : ev S d 14 25 [a0, a1, a2] (.inr (.inl k) :: st) (sh, I, R) = ev S d 14 28 [a0, a1, a2] (rv (R k 1) :: st) (sh, I, R) := (ev_eq f_14_25).trans (congrArg (fin S d 14) (if_pos h))
theorem f_14_28 : fetch 14 28 = some (28, .iload_n 2, 1, [2], 0) := (fm_14 28).trans rfl
theorem u_14_28 {S : Scr} {d : Nat} {a0 a1 : AV} {st : List AV} {sh : Shp} {I : IM} {R : RM} {x : Int} : ev S d 14 28 [a0, a1, .inl x] st (sh, I, R) = ev S d 14 29 [a0, a1, .inl x] (.inl x :: st) (sh, I, R) := (ev_eq f_14_28).trans rfl
theorem f_14_29 : fetch 14 29 = some (29, .iaload, 1, [], 0) := (fm_14 29).trans rfl
theorem u_14_29 {S : Scr} {d : Nat} {a0 a1 a2 : AV} {st : List AV} {sh : Shp} {I : IM} {R : RM} {k : Nat} {i : Int} (h : tg sh k = 100) (h0 : 0 ≤ i) (h1 : i < ln sh k) : ev S d 14 29 [a0, a1, a2] (.inl i :: .inr (.inl k) :: st) (sh, I, R) = ev S d 14 30 [a0, a1, a2] (.inl (I k i) :: st) (sh, I, R) := (ev_eq f_14_29).trans (congrArg (fin S d 14) (if_pos ⟨h, h0, h1⟩))
theorem f_14_30 : fetch 14 30 = some (30, .aload_n 1, 1, [1], 0) := (fm_14 30).trans rfl
theorem u_14_30 {S : Scr} {d : Nat} {a0 a2 : AV} {st : List AV} {sh : Shp} {I : IM} {R : RM} {x : Nat} : ev S d 14 30 [a0, .inr (.inl x), a2] st (sh, I, R) = ev S d 14 31 [a0, .inr (.inl x), a2] (.inr (.inl x) :: st) (sh, I, R) := (ev_eq f_14_30).trans rfl
theorem u_14_30n {S : Scr} {d : Nat} {a0 a2 : AV} {st : List AV} {sh : Shp} {I : IM} {R : RM} : ev S d 14 30 [a0, .inr (.inr 0), a2] st (sh, I, R) = ev S d 14 31 [a0, .inr (.inr 0), a2] (.inr (.inr 0) :: st) (sh, I, R) := (ev_eq f_14_30).trans rfl
theorem f_14_31 : fetch 14 31 = some (31, .getfield 15, 3, [1, 2, 1, 4], 0) := (fm_14 31).trans rfl
theorem u_14_31 {S : Scr} {d : Nat} {a0 a1 a2 : AV} {st : List AV} {sh : Shp} {I : IM} {R : RM} {k : Nat} (h : tg sh k = 1) : ev S d 14 31 [a0, a1, a2] (.inr (.inl k) :: st) (sh, I, R) = ev S d 14 34 [a0, a1, a2] (rv (R k 2) :: st) (sh, I, R) := (ev_eq f_14_31).trans (congrArg (fin S d 14) (if_pos h))
theorem f_14_34 : fetch 14 34 = some (34, .iload_n 2, 1, [2], 0) := (fm_14 34).trans rfl
theorem u_14_34 {S : Scr} {d : Nat} {a0 a1 : AV} {st : List AV} {sh : Shp} {I : IM} {R : RM} {x : Int} : ev S d 14 34 [a0, a1, .inl x] st (sh, I, R) = ev S d 14 35 [a0, a1, .inl x] (.inl x :: st) (sh, I, R) := (ev_eq f_14_34).trans rfl
theorem f_14_35 : fetch 14 35 = some (35, .iaload, 1, [], 0) := (fm_14 35).trans rfl
theorem u_14_35 {S : Scr} {d : Nat} {a0 a1 a2 : AV} {st : List AV} {sh : Shp} {I : IM} {R : RM} {k : Nat} {i : Int} (h : tg sh k = 100) (h0 : 0 ≤ i) (h1 : i < ln sh k) : ev S d 14 35 [a0, a1, a2] (.inl i :: .inr (.inl k) :: st) (sh, I, R) = ev S d 14 36 [a0, a1, a2] (.inl (I k i) :: st) (sh, I, R) := (ev_eq f_14_35).trans (congrArg (fin S d 14) (if_pos ⟨h, h0, h1⟩))
theorem f_14_36 : fetch 14 36 = some (36, .invokevirtual 40, 3, [9, 2, 2], 0) := (fm_14 36).trans rfl
theorem u_14_36 {S : Scr} {d : Nat} {a0 a1 a2 : AV} {st : List AV} {sh : Shp} {I : IM} {R : RM} {x0 : Int} {x1 : Int} {k : Nat} (h : tg sh k = 1) (hr : st.length ≤ 8) : ev S d 14 36 [a0, a1, a2] (.inl x1 :: .inl x0 :: .inr (.inl k) :: st) (sh, I, R) = bnd (cl d 9 [.inr (.inl k), .inl x0, .inl x1] (sh, I, R)) (fun v M => ev S d 14 39 [a0, a1, a2] (psh v st) M) := (ev_eq f_14_36).trans (congrArg (fin S d 14) (if_pos ⟨h, rfl, hr⟩))
theorem f_14_39 : fetch 14 39 = some (39, .pop, 1, [], 0) := (fm_14 39).trans rfl
theorem u_14_39 {S : Scr} {d : Nat} {a0 a1 a2 : AV} {st : List AV} {sh : Shp} {I : IM} {R : RM} {x : AV} : ev S d 14 39 [a0, a1, a2] (x :: st) (sh, I, R) = ev S d 14 40 [a0, a1, a2] st (sh, I, R) := (ev_eq f_14_39).trans rfl
theorem f_14_40 : fetch 14 40 = some (40, .iinc 2 1, 3, [2], 1) := (fm_14 40).trans rfl
theorem u_14_40 {S : Scr} {d : Nat} {a0 a1 : AV} {st : List AV} {sh : Shp} {I : IM} {R : RM} {x : Int} : ev S d 14 40 [a0, a1, .inl x] st (sh, I, R) = ev S d 14 43 [a0, a1, .inl (wr (x + 1))] st (sh, I, R) := (ev_eq f_14_40).trans rfl
theorem f_14_43 : fetch 14 43 = some (43, .goto (-41), 3, [2], 0) := (fm_14 43).trans rfl
theorem u_14_43 {S : Scr} {d : Nat} {a0 a1 a2 : AV} {st : List AV} {sh : Shp} {I : IM} {R : RM} : ev S d 14 43 [a0, a1, a2] st (sh, I, R) = ev S d 14 2 [a0, a1, a2] st (sh, I, R) := (ev_eq f_14_43).trans rfl
theorem f_14_46 : fetch 14 46 = some (46, .return_, 1, [], 0) := (fm_14 46).trans rfl
theorem u_14_46 {S : Scr} {d : Nat} {a0 a1 a2 : AV} {sh : Shp} {I : IM} {R : RM} : ev S d 14 46 [a0, a1, a2] [] (sh, I, R) = some (none, (sh, I, R)) := (ev_eq f_14_46).trans rfl
theorem c_15 {d : Nat} {a0 a1 : AV} {M : Mem} : cl (d + 1) 15 [a0, a1] M = ev S0 d 15 0 [a0, a1, .inr (.inr 1), .inr (.inr 1)] [] M := (cl_eq (as := [a0, a1]) (show 2 ≤ maxOf 15 by decide +kernel)).trans rfl
theorem mt_15 : MT[15]? = some m_15 := rfl
theorem fm_15 (pc : Nat) : fetch 15 pc = lk m_15.2.2.2.2.2 pc := by
  unfold fetch
  rw [mt_15]
theorem f_15_0 : fetch 15 0 = some (0, .iconst 0, 1, [], 0) := (fm_15 0).trans rfl
theorem u_15_0 {S : Scr} {d : Nat} {a0 a1 a2 a3 : AV} {st : List AV} {sh : Shp} {I : IM} {R : RM} : ev S d 15 0 [a0, a1, a2, a3] st (sh, I, R) = ev S d 15 1 [a0, a1, a2, a3] (.inl 0 :: st) (sh, I, R) := (ev_eq f_15_0).trans rfl
theorem f_15_1 : fetch 15 1 = some (1, .istore_n 2, 1, [2], 0) := (fm_15 1).trans rfl
theorem u_15_1 {S : Scr} {d : Nat} {a0 a1 a2 a3 : AV} {st : List AV} {sh : Shp} {I : IM} {R : RM} {x : Int} : ev S d 15 1 [a0, a1, a2, a3] (.inl x :: st) (sh, I, R) = ev S d 15 2 [a0, a1, .inl x, a3] st (sh, I, R) := (ev_eq f_15_1).trans rfl
theorem f_15_2 : fetch 15 2 = some (2, .iconst 0, 1, [], 0) := (fm_15 2).trans rfl
theorem u_15_2 {S : Scr} {d : Nat} {a0 a1 a2 a3 : AV} {st : List AV} {sh : Shp} {I : IM} {R : RM} : ev S d 15 2 [a0, a1, a2, a3] st (sh, I, R) = ev S d 15 3 [a0, a1, a2, a3] (.inl 0 :: st) (sh, I, R) := (ev_eq f_15_2).trans rfl
theorem f_15_3 : fetch 15 3 = some (3, .istore_n 3, 1, [3], 0) := (fm_15 3).trans rfl
theorem u_15_3 {S : Scr} {d : Nat} {a0 a1 a2 a3 : AV} {st : List AV} {sh : Shp} {I : IM} {R : RM} {x : Int} : ev S d 15 3 [a0, a1, a2, a3] (.inl x :: st) (sh, I, R) = ev S d 15 4 [a0, a1, a2, .inl x] st (sh, I, R) := (ev_eq f_15_3).trans rfl
theorem f_15_4 : fetch 15 4 = some (4, .iload_n 3, 1, [3], 0) := (fm_15 4).trans rfl
theorem u_15_4 {S : Scr} {d : Nat} {a0 a1 a2 : AV} {st : List AV} {sh : Shp} {I : IM} {R : RM} {x : Int} : ev S d 15 4 [a0, a1, a2, .inl x] st (sh, I, R) = ev S d 15 5 [a0, a1, a2, .inl x] (.inl x :: st) (sh, I, R) := (ev_eq f_15_4).trans rfl
theorem f_15_5 : fetch 15 5 = some (5, .aload_n 0, 1, [0], 0) := (fm_15 5).trans rfl
theorem u_15_5 {S : Scr} {d : Nat} {a1 a2 a3 : AV} {st : List AV} {sh : Shp} {I : IM} {R : RM} {x : Nat} : ev S d 15 5 [.inr (.inl x), a1, a2, a3] st (sh, I, R) = ev S d 15 6 [.inr (.inl x), a1, a2, a3] (.inr (.inl x) :: st) (sh, I, R) := (ev_eq f_15_5).trans rfl
theorem f_15_6 : fetch 15 6 = some (6, .getfield 28, 3, [1, 3, 0, 6], 0) := (fm_15 6).trans rfl
theorem u_15_6 {S : Scr} {d : Nat} {a0 a1 a2 a3 : AV} {st : List AV} {sh : Shp} {I : IM} {R : RM} {k : Nat} (h : tg sh k = 1) : ev S d 15 6 [a0, a1, a2, a3] (.inr (.inl k) :: st) (sh, I, R) = ev S d 15 9 [a0, a1, a2, a3] (.inl (I k 3) :: st) (sh, I, R) := (ev_eq f_15_6).trans (congrArg (fin S d 15) (if_pos h))
theorem f_15_9 : fetch 15 9 = some (9, .if_icmp .ge 30, 3, [39], 0) := (fm_15 9).trans rfl
theorem u_15_9 {S : Scr} {d : Nat} {a0 a1 a2 a3 : AV} {st : List AV} {sh : Shp} {I : IM} {R : RM} {x y : Int} : ev S d 15 9 [a0, a1, a2, a3] (.inl y :: .inl x :: st) (sh, I, R) = if y ≤ x then ev S d 15 39 [a0, a1, a2, a3] st (sh, I, R) else ev S d 15 12 [a0, a1, a2, a3] st (sh, I, R) := (ev_eq f_15_9).trans fin_icmp_ge
theorem f_15_12 : fetch 15 12 = some (12, .iload_n 2, 1, [2], 0) := (fm_15 12).trans rfl
theorem u_15_12 {S : Scr} {d : Nat} {a0 a1 a3 : AV} {st : List AV} {sh : Shp} {I : IM} {R : RM} {x : Int} : ev S d 15 12 [a0, a1, .inl x, a3] st (sh, I, R) = ev S d 15 13 [a0, a1, .inl x, a3] (.inl x :: st) (sh, I, R) := (ev_eq f_15_12).trans rfl
theorem f_15_13 : fetch 15 13 = some (13, .aload_n 1, 1, [1], 0) := (fm_15 13).trans rfl
theorem u_15_13 {S : Scr} {d : Nat} {a0 a2 a3 : AV} {st : List AV} {sh : Shp} {I : IM} {R : RM} {x : Nat} : ev S d 15 13 [a0, .inr (.inl x), a2, a3] st (sh, I, R) = ev S d 15 14 [a0, .inr (.inl x), a2, a3] (.inr (.inl x) :: st) (sh, I, R) := (ev_eq f_15_13).trans rfl
theorem u_15_13n {S : Scr} {d : Nat} {a0 a2 a3 : AV} {st : List AV} {sh : Shp} {I : IM} {R : RM} : ev S d 15 13 [a0, .inr (.inr 0), a2, a3] st (sh, I, R) = ev S d 15 14 [a0, .inr (.inr 0), a2, a3] (.inr (.inr 0) :: st) (sh, I, R) := (ev_eq f_15_13).trans rfl
theorem f_15_14 : fetch 15 14 = some (14, .aload_n 0, 1, [0], 0) := (fm_15 14).trans rfl
theorem u_15_14 {S : Scr} {d : Nat} {a1 a2 a3 : AV} {st : List AV} {sh : Shp} {I : IM} {R : RM} {x : Nat} : ev S d 15 14 [.inr (.inl x), a1, a2, a3] st (sh, I, R) = ev S d 15 15 [.inr (.inl x), a1, a2, a3] (.inr (.inl x) :: st) (sh, I, R) := (ev_eq f_15_14).trans rfl
theorem f_15_15 : fetch 15 15 = some (15, .getfield 9, 3, [1, 1, 1, 3], 0) := (fm_15 15).trans rfl
theorem u_15_15 {S : Scr} {d : Nat} {a0 a1 a2 a3 : AV} {st : List AV} {sh : Shp} {I : IM} {R : RM} {k : Nat} (h : tg sh k = 1) : ev S d 15 15 [a0, a1, a2, a3] (.inr (.inl k) :: st) (sh, I, R) = ev S d 15 18 [a0, a1, a2, a3] (rv (R k 1) :: st) (sh, I, R) := (ev_eq f_15_15).trans (congrArg (fin S d 15) (if_pos h))
theorem f_15_18 : fetch 15 18 = some (18, .iload_n 3, 1, [3], 0) := (fm_15 18).trans rfl
theorem u_15_18 {S : Scr} {d : Nat} {a0 a1 a2 : AV} {st : List AV} {sh : Shp} {I : IM} {R : RM} {x : Int} : ev S d 15 18 [a0, a1, a2, .inl x] st (sh, I, R) = ev S d 15 19 [a0, a1, a2, .inl x] (.inl x :: st) (sh, I, R) := (ev_eq f_15_18).trans rfl
theorem f_15_19 : fetch 15 19 = some (19, .iaload, 1, [], 0) := (fm_15 19).trans rfl
theorem u_15_19 {S : Scr} {d : Nat} {a0 a1 a2 a3 : AV} {st : List AV} {sh : Shp} {I : IM} {R : RM} {k : Nat} {i : Int} (h : tg sh k = 100) (h0 : 0 ≤ i) (h1 : i < ln sh k) : ev S d 15 19 [a0, a1, a2, a3] (.inl i :: .inr (.inl k) :: st) (sh, I, R) = ev S d 15 20 [a0, a1, a2, a3] (.inl (I k i) :: st) (sh, I, R) := (ev_eq f_15_19).trans (congrArg (fin S d 15) (if_pos ⟨h, h0, h1⟩))
theorem f_15_20 : fetch 15 20 = some (20, .invokevirtual 47, 3, [6, 1, 4], 0) := (fm_15 20).trans rfl
theorem u_15_20 {S : Scr} {d : Nat} {a0 a1 a2 a3 : AV} {st : List AV} {sh : Shp} {I : IM} {R : RM} {x0 : Int} {k : Nat} (h : tg sh k = 1) (hr : st.length ≤ 8) : ev S d 15 20 [a0, a1, a2, a3] (.inl x0 :: .inr (.inl k) :: st) (sh, I, R) = bnd (cl d 6 [.inr (.inl k), .inl x0] (sh, I, R)) (fun v M => ev S d 15 23 [a0, a1, a2, a3] (psh v st) M) := (ev_eq f_15_20).trans (congrArg (fin S d 15) (if_pos ⟨h, rfl, hr⟩))
theorem f_15_23 : fetch 15 23 = some (23, .ifCond .eq 7, 3, [30], 0) := (fm_15 23).trans rfl
theorem u_15_23 {S : Scr} {d : Nat} {a0 a1 a2 a3 : AV} {st : List AV} {sh : Shp} {I : IM} {R : RM} {x : Int} : ev S d 15 23 [a0, a1, a2, a3] (.inl x :: st) (sh, I, R) = if x = 0 then ev S d 15 30 [a0, a1, a2, a3] st (sh, I, R) else ev S d 15 26 [a0, a1, a2, a3] st (sh, I, R) := (ev_eq f_15_23).trans fin_if_eq
theorem f_15_26 : fetch 15 26 = some (26, .iconst 0, 1, [], 0) := (fm_15 26).trans rfl
theorem u_15_26 {S : Scr} {d : Nat} {a0 a1 a2 a3 : AV} {st : List AV} {sh : Shp} {I : IM} {R : RM} : ev S d 15 26 [a0, a1, a2, a3] st (sh, I, R) = ev S d 15 27 [a0, a1, a2, a3] (.inl 0 :: st) (sh, I, R) := (ev_eq f_15_26).trans rfl
theorem f_15_27 : fetch 15 27 = some (27, .goto 4, 3, [31], 0) := (fm_15 27).trans rfl
theorem u_15_27 {S : Scr} {d : Nat} {a0 a1 a2 a3 : AV} {st : List AV} {sh : Shp} {I : IM} {R : RM} : ev S d 15 27 [a0, a1, a2, a3] st (sh, I, R) = ev S d 15 31 [a0, a1, a2, a3] st (sh, I, R) := (ev_eq f_15_27).trans rfl
theorem f_15_30 : fetch 15 30 = some (30, .iconst 1, 1, [], 1) := (fm_15 30).trans rfl
theorem u_15_30 {S : Scr} {d : Nat} {a0 a1 a2 a3 : AV} {st : List AV} {sh : Shp} {I : IM} {R : RM} : ev S d 15 30 [a0, a1, a2, a3] st (sh, I, R) = ev S d 15 31 [a0, a1, a2, a3] (.inl 1 :: st) (sh, I, R) := (ev_eq f_15_30).trans rfl
theorem f_15_31 : fetch 15 31 = some (31, .iadd, 1, [], 0) := (fm_15 31).trans rfl
theorem u_15_31 {S : Scr} {d : Nat} {a0 a1 a2 a3 : AV} {st : List AV} {sh : Shp} {I : IM} {R : RM} {x y : Int} : ev S d 15 31 [a0, a1, a2, a3] (.inl y :: .inl x :: st) (sh, I, R) = ev S d 15 32 [a0, a1, a2, a3] (.inl (wr (x + y)) :: st) (sh, I, R) := (ev_eq f_15_31).trans rfl
theorem f_15_32 : fetch 15 32 = some (32, .istore_n 2, 1, [2], 0) := (fm_15 32).trans rfl
theorem u_15_32 {S : Scr} {d : Nat} {a0 a1 a2 a3 : AV} {st : List AV} {sh : Shp} {I : IM} {R : RM} {x : Int} : ev S d 15 32 [a0, a1, a2, a3] (.inl x :: st) (sh, I, R) = ev S d 15 33 [a0, a1, .inl x, a3] st (sh, I, R) := (ev_eq f_15_32).trans rfl
theorem f_15_33 : fetch 15 33 = some (33, .iinc 3 1, 3, [3], 1) := (fm_15 33).trans rfl
theorem u_15_33 {S : Scr} {d : Nat} {a0 a1 a2 : AV} {st : List AV} {sh : Shp} {I : IM} {R : RM} {x : Int} : ev S d 15 33 [a0, a1, a2, .inl x] st (sh, I, R) = ev S d 15 36 [a0, a1, a2, .inl (wr (x + 1))] st (sh, I, R) := (ev_eq f_15_33).trans rfl
theorem f_15_36 : fetch 15 36 = some (36, .goto (-32), 3, [4], 0) := (fm_15 36).trans rfl
theorem u_15_36 {S : Scr} {d : Nat} {a0 a1 a2 a3 : AV} {st : List AV} {sh : Shp} {I : IM} {R : RM} : ev S d 15 36 [a0, a1, a2, a3] st (sh, I, R) = ev S d 15 4 [a0, a1, a2, a3] st (sh, I, R) := (ev_eq f_15_36).trans rfl
theorem f_15_39 : fetch 15 39 = some (39, .iload_n 2, 1, [2], 0) := (fm_15 39).trans rfl
theorem u_15_39 {S : Scr} {d : Nat} {a0 a1 a3 : AV} {st : List AV} {sh : Shp} {I : IM} {R : RM} {x : Int} : ev S d 15 39 [a0, a1, .inl x, a3] st (sh, I, R) = ev S d 15 40 [a0, a1, .inl x, a3] (.inl x :: st) (sh, I, R) := (ev_eq f_15_39).trans rfl
theorem f_15_40 : fetch 15 40 = some (40, .ireturn, 1, [0], 0) := (fm_15 40).trans rfl
theorem u_15_40 {S : Scr} {d : Nat} {a0 a1 a2 a3 : AV} {sh : Shp} {I : IM} {R : RM} {x : Int} : ev S d 15 40 [a0, a1, a2, a3] [.inl x] (sh, I, R) = some (some (.inl x), (sh, I, R)) := (ev_eq f_15_40).trans fin_iret0
theorem c_16 {d : Nat} {a0 a1 : AV} {M : Mem} : cl (d + 1) 16 [a0, a1] M = ev S0 d 16 0 [a0, a1, .inr (.inr 1)] [] M := (cl_eq (as := [a0, a1]) (show 2 ≤ maxOf 16 by decide +kernel)).trans rfl
theorem mt_16 : MT[16]? = some m_16 := rfl
theorem fm_16 (pc : Nat) : fetch 16 pc = lk m_16.2.2.2.2.2 pc := by
  unfold fetch
  rw [mt_16]
theorem f_16_0 : fetch 16 0 = some (0, .aload_n 0, 1, [0], 0) := (fm_16 0).trans rfl
theorem u_16_0 {S : Scr} {d : Nat} {a1 a2 : AV} {st : List AV} {sh : Shp} {I : IM} {R : RM} {x : Nat} : ev S d 16 0 [.inr (.inl x), a1, a2] st (sh, I, R) = ev S d 16 1 [.inr (.inl x), a1, a2] (.inr (.inl x) :: st) (sh, I, R) := (ev_eq f_16_0).trans rfl
theorem f_16_1 : fetch 16 1 = some (1, .getfield 28, 3, [1, 3, 0, 6], 0) := (fm_16 1).trans rfl
theorem u_16_1 {S : Scr} {d : Nat} {a0 a1 a2 : AV} {st : List AV} {sh : Shp} {I : IM} {R : RM} {k : Nat} (h : tg sh k = 1) : ev S d 16 1 [a0, a1, a2] (.inr (.inl k) :: st) (sh, I, R) = ev S d 16 4 [a0, a1, a2] (.inl (I k 3) :: st) (sh, I, R) := (ev_eq f_16_1).trans (congrArg (fin S d 16) (if_pos h))
theorem f_16_4 : fetch 16 4 = some (4, .aload_n 1, 1, [1], 0) := (fm_16 4).trans rfl
theorem u_16_4 {S : Scr} {d : Nat} {a0 a2 : AV} {st : List AV} {sh : Shp} {I : IM} {R : RM} {x : Nat} : ev S d 16 4 [a0, .inr (.inl x), a2] st (sh, I, R) = ev S d 16 5 [a0, .inr (.inl x), a2] (.inr (.inl x) :: st) (sh, I, R) := (ev_eq f_16_4).trans rfl
theorem u_16_4n {S : Scr} {d : Nat} {a0 a2 : AV} {st : List AV} {sh : Shp} {I : IM} {R : RM} : ev S d 16 4 [a0, .inr (.inr 0), a2] st (sh, I, R) = ev S d 16 5 [a0, .inr (.inr 0), a2] (.inr (.inr 0) :: st) (sh, I, R) := (ev_eq f_16_4).trans rfl
theorem f_16_5 : fetch 16 5 = some (5, .getfield 28, 3, [1, 3, 0, 6], 0) := (fm_16 5).trans rfl
theorem u_16_5 {S : Scr} {d : Nat} {a0 a1 a2 : AV} {st : List AV} {sh : Shp} {I : IM} {R : RM} {k : Nat} (h : tg sh k = 1) : ev S d 16 5 [a0, a1, a2] (.inr (.inl k) :: st) (sh, I, R) = ev S d 16 8 [a0, a1, a2] (.inl (I k 3) :: st) (sh, I, R) := (ev_eq f_16_5).trans (congrArg (fin S d 16) (if_pos h))
theorem f_16_8 : fetch 16 8 = some (8, .if_icmp .eq 5, 3, [13], 0) := (fm_16 8).trans rfl
theorem u_16_8 {S : Scr} {d : Nat} {a0 a1 a2 : AV} {st : List AV} {sh : Shp} {I : IM} {R : RM} {x y : Int} : ev S d 16 8 [a0, a1, a2] (.inl y :: .inl x :: st) (sh, I, R) = if x = y then ev S d 16 13 [a0, a1, a2] st (sh, I, R) else ev S d 16 11 [a0, a1, a2] st (sh, I, R) := (ev_eq f_16_8).trans fin_icmp_eq
theorem f_16_11 : fetch 16 11 = some (11, .iconst 0, 1, [], 0) := (fm_16 11).trans rfl
theorem u_16_11 {S : Scr} {d : Nat} {a0 a1 a2 : AV} {st : List AV} {sh : Shp} {I : IM} {R : RM} : ev S d 16 11 [a0, a1, a2] st (sh, I, R) = ev S d 16 12 [a0, a1, a2] (.inl 0 :: st) (sh, I, R) := (ev_eq f_16_11).trans rfl
theorem f_16_12 : fetch 16 12 = some (12, .ireturn, 1, [1], 0) := (fm_16 12).trans rfl
theorem u_16_12 {S : Scr} {d : Nat} {a0 a1 a2 : AV} {sh : Shp} {I : IM} {R : RM} {x : Int} (h : x = 0 ∨ x = 1) : ev S d 16 12 [a0, a1, a2] [.inl x] (sh, I, R) = some (some (.inl x), (sh, I, R)) := (ev_eq f_16_12).trans (fin_iret1 h)
theorem f_16_13 : fetch 16 13 = some (13, .iconst 0, 1, [], 0) := (fm_16 13).trans rfl
theorem u_16_13 {S : Scr} {d : Nat} {a0 a1 a2 : AV} {st : List AV} {sh : Shp} {I : IM} {R : RM} : ev S d 16 13 [a0, a1, a2] st (sh, I, R) = ev S d 16 14 [a0, a1, a2] (.inl 0 :: st) (sh, I, R) := (ev_eq f_16_13).trans rfl
theorem f_16_14 : fetch 16 14 = some (14, .istore_n 2, 1, [2], 0) := (fm_16 14).trans rfl
theorem u_16_14 {S : Scr} {d : Nat} {a0 a1 a2 : AV} {st : List AV} {sh : Shp} {I : IM} {R : RM} {x : Int} : ev S d 16 14 [a0, a1, a2] (.inl x :: st) (sh, I, R) = ev S d 16 15 [a0, a1, .inl x] st (sh, I, R) := (ev_eq f_16_14).trans rfl
theorem f_16_15 : fetch 16 15 = some (15, .iload_n 2, 1, [2], 0) := (fm_16 15).trans rfl
theorem u_16_15 {S : Scr} {d : Nat} {a0 a1 : AV} {st : List AV} {sh : Shp} {I : IM} {R : RM} {x : Int} : ev S d 16 15 [a0, a1, .inl x] st (sh, I, R) = ev S d 16 16 [a0, a1, .inl x] (.inl x :: st) (sh, I, R) := (ev_eq f_16_15).trans rfl
theorem f_16_16 : fetch 16 16 = some (16, .aload_n 0, 1, [0], 0) := (fm_16 16).trans rfl
theorem u_16_16 {S : Scr} {d : Nat} {a1 a2 : AV} {st : List AV} {sh : Shp} {I : IM} {R : RM} {x : Nat} : ev S d 16 16 [.inr (.inl x), a1, a2] st (sh, I, R) = ev S d 16 17 [.inr (.inl x), a1, a2] (.inr (.inl x) :: st) (sh, I, R) := (ev_eq f_16_16).trans rfl
theorem f_16_17 : fetch 16 17 = some (17, .getfield 28, 3, [1, 3, 0, 6], 0) := (fm_16 17).trans rfl
theorem u_16_17 {S : Scr} {d : Nat} {a0 a1 a2 : AV} {st : List AV} {sh : Shp} {I : IM} {R : RM} {k : Nat} (h : tg sh k = 1) : ev S d 16 17 [a0, a1, a2] (.inr (.inl k) :: st) (sh, I, R) = ev S d 16 20 [a0, a1, a2] (.inl (I k 3) :: st) (sh, I, R) := (ev_eq f_16_17).trans (congrArg (fin S d 16) (if_pos h))
theorem f_16_20 : fetch 16 20 = some (20, .if_icmp .ge 41, 3, [61], 0) := (fm_16 20).trans rfl
theorem u_16_20 {S : Scr} {d : Nat} {a0 a1 a2 : AV} {st : List AV} {sh : Shp} {I : IM} {R : RM} {x y : Int} : ev S d 16 20 [a0, a1, a2] (.inl y :: .inl x :: st) (sh, I, R) = if y ≤ x then ev S d 16 61 [a0, a1, a2] st (sh, I, R) else ev S d 16 23 [a0, a1, a2] st (sh, I, R) := (ev_eq f_16_20).trans fin_icmp_ge
theorem f_16_23 : fetch 16 23 = some (23, .aload_n 0, 1, [0], 0) := (fm_16 23).trans rfl
theorem u_16_23 {S : Scr} {d : Nat} {a1 a2 : AV} {st : List AV} {sh : Shp} {I : IM} {R : RM} {x : Nat} : ev S d 16 23 [.inr (.inl x), a1, a2] st (sh, I, R) = ev S d 16 24 [.inr (.inl x), a1, a2] (.inr (.inl x) :: st) (sh, I, R) := (ev_eq f_16_23).trans rfl
theorem f_16_24 : fetch 16 24 = some (24, .getfield 9, 3, [1, 1, 1, 3], 0) := (fm_16 24).trans rfl
theorem u_16_24 {S : Scr} {d : Nat} {a0 a1 a2 : AV} {st : List AV} {sh : Shp} {I : IM} {R : RM} {k : Nat} (h : tg sh k = 1) : ev S d 16 24 [a0, a1, a2] (.inr (.inl k) :: st) (sh, I, R) = ev S d 16 27 [a0, a1, a2] (rv (R k 1) :: st) (sh, I, R) := (ev_eq f_16_24).trans (congrArg (fin S d 16) (if_pos h))
theorem f_16_27 : fetch 16 27 = some (27, .iload_n 2, 1, [2], 0) := (fm_16 27).trans rfl
theorem u_16_27 {S : Scr} {d : Nat} {a0 a1 : AV} {st : List AV} {sh : Shp} {I : IM} {R : RM} {x : Int} : ev S d 16 27 [a0, a1, .inl x] st (sh, I, R) = ev S d 16 28 [a0, a1, .inl x] (.inl x :: st) (sh, I, R) := (ev_eq f_16_27).trans rfl
theorem f_16_28 : fetch 16 28 = some (28, .iaload, 1, [], 0) := (fm_16 28).trans rfl
theorem u_16_28 {S : Scr} {d : Nat} {a0 a1 a2 : AV} {st : List AV} {sh : Shp} {I : IM} {R : RM} {k : Nat} {i : Int} (h : tg sh k = 100) (h0 : 0 ≤ i) (h1 : i < ln sh k) : ev S d 16 28 [a0, a1, a2] (.inl i :: .inr (.inl k) :: st) (sh, I, R) = ev S d 16 29 [a0, a1, a2] (.inl (I k i) :: st) (sh, I, R) := (ev_eq f_16_28).trans (congrArg (fin S d 16) (if_pos ⟨h, h0, h1⟩))
theorem f_16_29 : fetch 16 29 = some (29, .aload_n 1, 1, [1], 0) := (fm_16 29).trans rfl
theorem u_16_29 {S : Scr} {d : Nat} {a0 a2 : AV} {st : List AV} {sh : Shp} {I : IM} {R : RM} {x : Nat} : ev S d 16 29 [a0, .inr (.inl x), a2] st (sh, I, R) = ev S d 16 30 [a0, .inr (.inl x), a2] (.inr (.inl x) :: st) (sh, I, R) := (ev_eq f_16_29).trans rfl
theorem u_16_29n {S : Scr} {d : Nat} {a0 a2 : AV} {st : List AV} {sh : Shp} {I : IM} {R : RM} : ev S d 16 29 [a0, .inr (.inr 0), a2] st (sh, I, R) = ev S d 16 30 [a0, .inr (.inr 0), a2] (.inr (.inr 0) :: st) (sh, I, R) := (ev_eq f_16_29).trans rfl
theorem f_16_30 : fetch 16 30 = some (30, .getfield 9, 3, [1, 1, 1, 3], 0) := (fm_16 30).trans rfl
theorem u_16_30 {S : Scr} {d : Nat} {a0 a1 a2 : AV} {st : List AV} {sh : Shp} {I : IM} {R : RM} {k : Nat} (h : tg sh k = 1) : ev S d 16 30 [a0, a1, a2] (.inr (.inl k) :: st) (sh, I, R) = ev S d 16 33 [a0, a1, a2] (rv (R k 1) :: st) (sh, I, R) := (ev_eq f_16_30).trans (congrArg (fin S d 16) (if_pos h))
theorem f_16_33 : fetch 16 33 = some (33, .iload_n 2, 1, [2], 0) := (fm_16 33).trans rfl
theorem u_16_33 {S : Scr} {d : Nat} {a0 a1 : AV} {st : List AV} {sh : Shp} {I : IM} {R : RM} {x : Int} : ev S d 16 33 [a0, a1, .inl x] st (sh, I, R) = ev S d 16 34 [a0, a1, .inl x] (.inl x :: st) (sh, I, R) := (ev_eq f_16_33).trans rfl
theorem f_16_34 : fetch 16 34 = some (34, .iaload, 1, [], 0) := (fm_16 34).trans rfl
theorem u_16_34 {S : Scr} {d : Nat} {a0 a1 a2 : AV} {st : List AV} {sh : Shp} {I : IM} {R : RM} {k : Nat} {i : Int} (h : tg sh k = 100) (h0 : 0 ≤ i) (h1 : i < ln sh k) : ev S d 16 34 [a0, a1, a2] (.inl i :: .inr (.inl k) :: st) (sh, I, R) = ev S d 16 35 [a0, a1, a2] (.inl (I k i) :: st) (sh, I, R) := (ev_eq f_16_34).trans (congrArg (fin S d 16) (if_pos ⟨h, h0, h1⟩))
theorem f_16_35 : fetch 16 35 = some (35, .if_icmp .ne 18, 3, [53], 0) := (fm_16 35).trans rfl
theorem u_16_35 {S : Scr} {d : Nat} {a0 a1 a2 : AV} {st : List AV} {sh : Shp} {I : IM} {R : RM} {x y : Int} : ev S d 16 35 [a0, a1, a2] (.inl y :: .inl x :: st) (sh, I, R) = if ¬ x = y then ev S d 16 53 [a0, a1, a2] st (sh, I, R) else ev S d 16 38 [a0, a1, a2] st (sh, I, R) := (ev_eq f_16_35).trans fin_icmp_ne
theorem f_16_38 : fetch 16 38 = some (38, .aload_n 0, 1, [0], 0) := (fm_16 38).trans rfl
theorem u_16_38 {S : Scr} {d : Nat} {a1 a2 : AV} {st : List AV} {sh : Shp} {I : IM} {R : RM} {x : Nat} : ev S d 16 38 [.inr (.inl x), a1, a2] st (sh, I, R) = ev S d 16 39 [.inr (.inl x), a1, a2] (.inr (.inl x) :: st) (sh, I, R) := (ev_eq f_16_38).trans rfl
theorem f_16_39 : fetch 16 39 = some (39, .getfield 15, 3, [1, 2, 1, 4], 0) := (fm_16 39).trans rfl
theorem u_16_39 {S : Scr} {d : Nat} {a0 a1 a2 : AV} {st : List AV} {sh : Shp} {I : IM} {R : RM} {k : Nat} (h : tg sh k = 1) : ev S d 16 39 [a0, a1, a2] (.inr (.inl k) :: st) (sh, I, R) = ev S d 16 42 [a0, a1, a2] (rv (R k 2) :: st) (sh, I, R) := (ev_eq f_16_39).trans (congrArg (fin S d 16) (if_pos h))
theorem f_16_42 : fetch 16 42 = some (42, .iload_n 2, 1, [2], 0) := (fm_16 42).trans rfl
theorem u_16_42 {S : Scr} {d : Nat} {a0 a1 : AV} {st : List AV} {sh : Shp} {I : IM} {R : RM} {x : Int} : ev S d 16 42 [a0, a1, .inl x] st (sh, I, R) = ev S d 16 43 [a0, a1, .inl x] (.inl x :: st) (sh, I, R) := (ev_eq f_16_42).trans rfl
theorem f_16_43 : fetch 16 43 = some (43, .iaload, 1, [], 0) := (fm_16 43).trans rfl
theorem u_16_43 {S : Scr} {d : Nat} {a0 a1 a2 : AV} {st : List AV} {sh : Shp} {I : IM} {R : RM} {k : Nat} {i : Int} (h : tg sh k = 100) (h0 : 0 ≤ i) (h1 : i < ln sh k) : ev S d 16 43 [a0, a1, a2] (.inl i :: .inr (.inl k) :: st) (sh, I, R) = ev S d 16 44 [a0, a1, a2] (.inl (I k i) :: st) (sh, I, R) := (ev_eq f_16_43).trans (congrArg (fin S d 16) (if_pos ⟨h, h0, h1⟩))
theorem f_16_44 : fetch 16 44 = some (44, .aload_n 1, 1, [1], 0) := (fm_16 44).trans rfl
theorem u_16_44 {S : Scr} {d : Nat} {a0 a2 : AV} {st : List AV} {sh : Shp} {I : IM} {R : RM} {x : Nat} : ev S d 16 44 [a0, .inr (.inl x), a2] st (sh, I, R) = ev S d 16 45 [a0, .inr (.inl x), a2] (.inr (.inl x) :: st) (sh, I, R) := (ev_eq f_16_44).trans rfl
theorem u_16_44n {S : Scr} {d : Nat} {a0 a2 : AV} {st : List AV} {sh : Shp} {I : IM} {R : RM} : ev S d 16 44 [a0, .inr (.inr 0), a2] st (sh, I, R) = ev S d 16 45 [a0, .inr (.inr 0), a2] (.inr (.inr 0) :: st) (sh, I, R) := (ev_eq f_16_44).trans rfl
theorem f_16_45 : fetch 16 45 = some (45, .getfield 15, 3, [1, 2, 1, 4], 0) := (fm_16 45).trans rfl
theorem u_16_45 {S : Scr} {d : Nat} {a0 a1 a2 : AV} {st : List AV} {sh : Shp} {I : IM} {R : RM} {k : Nat} (h : tg sh k = 1) : ev S d 16 45 [a0, a1, a2] (.inr (.inl k) :: st) (sh, I, R) = ev S d 16 48 [a0, a1, a2] (rv (R k 2) :: st) (sh, I, R) := (ev_eq f_16_45).trans (congrArg (fin S d 16) (if_pos h))
theorem f_16_48 : fetch 16 48 = some (48, .iload_n 2, 1, [2], 0) := (fm_16 48).trans rfl
theorem u_16_48 {S : Scr} {d : Nat} {a0 a1 : AV} {st : List AV} {sh : Shp} {I : IM} {R : RM} {x : Int} : ev S d 16 48 [a0, a1, .inl x] st (sh, I, R) = ev S d 16 49 [a0, a1, .inl x] (.inl x :: st) (sh, I, R) := (ev_eq f_16_48).trans rfl
theorem f_16_49 : fetch 16 49 = some (49, .iaload, 1, [], 0) := (fm_16 49).trans rfl
theorem u_16_49 {S : Scr} {d : Nat} {a0 a1 a2 : AV} {st : List AV} {sh : Shp} {I : IM} {R : RM} {k : Nat} {i : Int} (h : tg sh k = 100) (h0 : 0 ≤ i) (h1 : i < ln sh k) : ev S d 16 49 [a0, a1, a2] (.inl i :: .inr (.inl k) :: st) (sh, I, R) = ev S d 16 50 [a0, a1, a2] (.inl (I k i) :: st) (sh, I, R) := (ev_eq f_16_49).trans (congrArg (fin S d 16) (if_pos ⟨h, h0, h1⟩))
theorem f_16_50 : fetch 16 50 = some (50, .if_icmp .eq 5, 3, [55], 0) := (fm_16 50).trans rfl
theorem u_16_50 {S : Scr} {d : Nat} {a0 a1 a2 : AV} {st : List AV} {sh : Shp} {I : IM} {R : RM} {x y : Int} : ev S d 16 50 [a0, a1, a2] (.inl y :: .inl x :: st) (sh, I, R) = if x = y then ev S d 16 55 [a0, a1, a2] st (sh, I, R) else ev S d 16 53 [a0, a1, a2] st (sh, I, R) := (ev_eq f_16_50).trans fin_icmp_eq
theorem f_16_53 : fetch 16 53 = some (53, .iconst 0, 1, [], 0) := (fm_16 53).trans rfl
theorem u_16_53 {S : Scr} {d : Nat} {a0 a1 a2 : AV} {st : List AV} {sh : Shp} {I : IM} {R : RM} : ev S d 16 53 [a0, a1, a2] st (sh, I, R) = ev S d 16 54 [a0, a1, a2] (.inl 0 :: st) (sh, I, R) := (ev_eq f_16_53).trans rfl
theorem f_16_54 : fetch 16 54 = some (54, .ireturn, 1, [1], 0) := (fm_16 54).trans rfl
theorem u_16_54 {S : Scr} {d : Nat} {a0 a1 a2 : AV} {sh : Shp} {I : IM} {R : RM} {x : Int} (h : x = 0 ∨ x = 1) : ev S d 16 54 [a0, a1, a2] [.inl x] (sh, I, R) = some (some (.inl x), (sh, I, R)) := (ev_eq f_16_54).trans (fin_iret1 h)
theorem f_16_55 : fetch 16 55 = some (55, .iinc 2 1, 3, [2], 1) := (fm_16 55).trans rfl
theorem u_16_55 {S : Scr} {d : Nat} {a0 a1 : AV} {st : List AV} {sh : Shp} {I : IM} {R : RM} {x : Int} : ev S d 16 55 [a0, a1, .inl x] st (sh, I, R) = ev S d 16 58 [a0, a1, .inl (wr (x + 1))] st (sh, I, R) := (ev_eq f_16_55).trans rfl
theorem f_16_58 : fetch 16 58 = some (58, .goto (-43), 3, [15], 0) := (fm_16 58).trans rfl
theorem u_16_58 {S : Scr} {d : Nat} {a0 a1 a2 : AV} {st : List AV} {sh : Shp} {I : IM} {R : RM} : ev S d 16 58 [a0, a1, a2] st (sh, I, R) = ev S d 16 15 [a0, a1, a2] st (sh, I, R) := (ev_eq f_16_58).trans rfl
theorem f_16_61 : fetch 16 61 = some (61, .iconst 1, 1, [], 1) := (fm_16 61).trans rfl
theorem u_16_61 {S : Scr} {d : Nat} {a0 a1 a2 : AV} {st : List AV} {sh : Shp} {I : IM} {R : RM} : ev S d 16 61 [a0, a1, a2] st (sh, I, R) = ev S d 16 62 [a0, a1, a2] (.inl 1 :: st) (sh, I, R) := (ev_eq f_16_61).trans rfl
theorem f_16_62 : fetch 16 62 = some (62, .ireturn, 1, [1], 0) := (fm_16 62).trans rfl
theorem u_16_62 {S : Scr} {d : Nat} {a0 a1 a2 : AV} {sh : Shp} {I : IM} {R : RM} {x : Int} (h : x = 0 ∨ x = 1) : ev S d 16 62 [a0, a1, a2] [.inl x] (sh, I, R) = some (some (.inl x), (sh, I, R)) := (ev_eq f_16_62).trans (fin_iret1 h)
theorem c_17 {d : Nat} {a0 a1 : AV} {M : Mem} : cl (d + 1) 17 [a0, a1] M = ev S0 d 17 0 [a0, a1] [] M := (cl_eq (as := [a0, a1]) (show 2 ≤ maxOf 17 by decide +kernel)).trans rfl
theorem mt_17 : MT[17]? = some m_17 := rfl
theorem fm_17 (pc : Nat) : fetch 17 pc = lk m_17.2.2.2.2.2 pc := by
  unfold fetch
  rw [mt_17]
theorem f_17_0 : fetch 17 0 = some (0, .aload_n 0, 1, [0], 0) := (fm_17 0).trans rfl
theorem u_17_0 {S : Scr} {d : Nat} {a1 : AV} {st : List AV} {sh : Shp} {I : IM} {R : RM} {x : Nat} : ev S d 17 0 [.inr (.inl x), a1] st (sh, I, R) = ev S d 17 1 [.inr (.inl x), a1] (.inr (.inl x) :: st) (sh, I, R) := (ev_eq f_17_0).trans rfl
theorem f_17_1 : fetch 17 1 = some (1, .invokespecial 3, 3, [2], 0) := (fm_17 1).trans rfl
theorem u_17_1 {S : Scr} {d : Nat} {a0 a1 : AV} {st : List AV} {sh : Shp} {I : IM} {R : RM} {k : Nat} (hr : st.length ≤ 8) : ev S d 17 1 [a0, a1] (.inr (.inl k) :: st) (sh, I, R) = ev S d 17 4 [a0, a1] st (sh, I, R) := (ev_eq f_17_1).trans (congrArg (fin S d 17) (if_pos hr))
theorem f_17_4 : fetch 17 4 = some (4, .aload_n 0, 1, [0], 0) := (fm_17 4).trans rfl
theorem u_17_4 {S : Scr} {d : Nat} {a1 : AV} {st : List AV} {sh : Shp} {I : IM} {R : RM} {x : Nat} : ev S d 17 4 [.inr (.inl x), a1] st (sh, I, R) = ev S d 17 5 [.inr (.inl x), a1] (.inr (.inl x) :: st) (sh, I, R) := (ev_eq f_17_4).trans rfl
theorem f_17_5 : fetch 17 5 = some (5, .new 9, 3, [0, 3, 0], 0) := (fm_17 5).trans rfl
theorem f_17_8 : fetch 17 8 = some (8, .dup, 1, [], 0) := (fm_17 8).trans rfl
theorem u_17_8 {S : Scr} {d : Nat} {a0 a1 : AV} {st : List AV} {sh : Shp} {I : IM} {R : RM} {x : AV} : ev S d 17 8 [a0, a1] (x :: st) (sh, I, R) = ev S d 17 9 [a0, a1] (x :: x :: st) (sh, I, R) := (ev_eq f_17_8).trans rfl
theorem f_17_9 : fetch 17 9 = some (9, .invokespecial 11, 3, [0, 0, 5], 0) := (fm_17 9).trans rfl
theorem u_17_9 {S : Scr} {d : Nat} {a0 a1 : AV} {st : List AV} {sh : Shp} {I : IM} {R : RM} {k : Nat} (h : tg sh k = 0) (hr : st.length ≤ 8) : ev S d 17 9 [a0, a1] (.inr (.inl k) :: st) (sh, I, R) = bnd (cl d 0 [.inr (.inl k)] (sh, I, R)) (fun v M => ev S d 17 12 [a0, a1] (psh v st) M) := (ev_eq f_17_9).trans (congrArg (fin S d 17) (if_pos ⟨h, rfl, hr⟩))
theorem f_17_12 : fetch 17 12 = some (12, .putfield 12, 3, [2, 1, 1, 7], 0) := (fm_17 12).trans rfl
theorem u_17_12 {S : Scr} {d : Nat} {a0 a1 : AV} {st : List AV} {sh : Shp} {I : IM} {R : RM} {k v : Nat} (h : tg sh k = 2) : ev S d 17 12 [a0, a1] (.inr (.inl v) :: .inr (.inl k) :: st) (sh, I, R) = ev S d 17 15 [a0, a1] st (sh, I, up R k 1 (some v)) := (ev_eq f_17_12).trans (congrArg (fin S d 17) (if_pos h))
theorem f_17_15 : fetch 17 15 = some (15, .aload_n 0, 1, [0], 0) := (fm_17 15).trans rfl
theorem u_17_15 {S : Scr} {d : Nat} {a1 : AV} {st : List AV} {sh : Shp} {I : IM} {R : RM} {x : Nat} : ev S d 17 15 [.inr (.inl x), a1] st (sh, I, R) = ev S d 17 16 [.inr (.inl x), a1] (.inr (.inl x) :: st) (sh, I, R) := (ev_eq f_17_15).trans rfl
theorem f_17_16 : fetch 17 16 = some (16, .new 18, 3, [1, 4, 1], 0) := (fm_17 16).trans rfl
theorem f_17_19 : fetch 17 19 = some (19, .dup, 1, [], 0) := (fm_17 19).trans rfl
theorem u_17_19 {S : Scr} {d : Nat} {a0 a1 : AV} {st : List AV} {sh : Shp} {I : IM} {R : RM} {x : AV} : ev S d 17 19 [a0, a1] (x :: st) (sh, I, R) = ev S d 17 20 [a0, a1] (x :: x :: st) (sh, I, R) := (ev_eq f_17_19).trans rfl
theorem f_17_20 : fetch 17 20 = some (20, .bipush 6, 2, [], 6) := (fm_17 20).trans rfl
theorem u_17_20 {S : Scr} {d : Nat} {a0 a1 : AV} {st : List AV} {sh : Shp} {I : IM} {R : RM} : ev S d 17 20 [a0, a1] st (sh, I, R) = ev S d 17 22 [a0, a1] (.inl 6 :: st) (sh, I, R) := (ev_eq f_17_20).trans rfl
theorem f_17_22 : fetch 17 22 = some (22, .invokespecial 20, 3, [4, 1, 6], 0) := (fm_17 22).trans rfl
theorem u_17_22 {S : Scr} {d : Nat} {a0 a1 : AV} {st : List AV} {sh : Shp} {I : IM} {R : RM} {x0 : Int} {k : Nat} (h : tg sh k = 1) (hr : st.length ≤ 8) : ev S d 17 22 [a0, a1] (.inl x0 :: .inr (.inl k) :: st) (sh, I, R) = bnd (cl d 4 [.inr (.inl k), .inl x0] (sh, I, R)) (fun v M => ev S d 17 25 [a0, a1] (psh v st) M) := (ev_eq f_17_22).trans (congrArg (fin S d 17) (if_pos ⟨h, rfl, hr⟩))
theorem f_17_25 : fetch 17 25 = some (25, .putfield 23, 3, [2, 2, 1, 8], 0) := (fm_17 25).trans rfl
theorem u_17_25 {S : Scr} {d : Nat} {a0 a1 : AV} {st : List AV} {sh : Shp} {I : IM} {R : RM} {k v : Nat} (h : tg sh k = 2) : ev S d 17 25 [a0, a1] (.inr (.inl v) :: .inr (.inl k) :: st) (sh, I, R) = ev S d 17 28 [a0, a1] st (sh, I, up R k 2 (some v)) := (ev_eq f_17_25).trans (congrArg (fin S d 17) (if_pos h))
theorem f_17_28 : fetch 17 28 = some (28, .aload_n 0, 1, [0], 0) := (fm_17 28).trans rfl
theorem u_17_28 {S : Scr} {d : Nat} {a1 : AV} {st : List AV} {sh : Shp} {I : IM} {R : RM} {x : Nat} : ev S d 17 28 [.inr (.inl x), a1] st (sh, I, R) = ev S d 17 29 [.inr (.inl x), a1] (.inr (.inl x) :: st) (sh, I, R) := (ev_eq f_17_28).trans rfl
theorem f_17_29 : fetch 17 29 = some (29, .bipush 30, 2, [], 30) := (fm_17 29).trans rfl
theorem u_17_29 {S : Scr} {d : Nat} {a0 a1 : AV} {st : List AV} {sh : Shp} {I : IM} {R : RM} : ev S d 17 29 [a0, a1] st (sh, I, R) = ev S d 17 31 [a0, a1] (.inl 30 :: st) (sh, I, R) := (ev_eq f_17_29).trans rfl
theorem f_17_31 : fetch 17 31 = some (31, .newarray .int, 2, [], 0) := (fm_17 31).trans rfl
theorem f_17_33 : fetch 17 33 = some (33, .putfield 27, 3, [2, 3, 1, 9], 0) := (fm_17 33).trans rfl
theorem u_17_33 {S : Scr} {d : Nat} {a0 a1 : AV} {st : List AV} {sh : Shp} {I : IM} {R : RM} {k v : Nat} (h : tg sh k = 2) : ev S d 17 33 [a0, a1] (.inr (.inl v) :: .inr (.inl k) :: st) (sh, I, R) = ev S d 17 36 [a0, a1] st (sh, I, up R k 3 (some v)) := (ev_eq f_17_33).trans (congrArg (fin S d 17) (if_pos h))
theorem f_17_36 : fetch 17 36 = some (36, .aload_n 0, 1, [0], 0) := (fm_17 36).trans rfl
theorem u_17_36 {S : Scr} {d : Nat} {a1 : AV} {st : List AV} {sh : Shp} {I : IM} {R : RM} {x : Nat} : ev S d 17 36 [.inr (.inl x), a1] st (sh, I, R) = ev S d 17 37 [.inr (.inl x), a1] (.inr (.inl x) :: st) (sh, I, R) := (ev_eq f_17_36).trans rfl
theorem f_17_37 : fetch 17 37 = some (37, .aload_n 1, 1, [1], 0) := (fm_17 37).trans rfl
theorem u_17_37 {S : Scr} {d : Nat} {a0 : AV} {st : List AV} {sh : Shp} {I : IM} {R : RM} {x : Nat} : ev S d 17 37 [a0, .inr (.inl x)] st (sh, I, R) = ev S d 17 38 [a0, .inr (.inl x)] (.inr (.inl x) :: st) (sh, I, R) := (ev_eq f_17_37).trans rfl
theorem u_17_37n {S : Scr} {d : Nat} {a0 : AV} {st : List AV} {sh : Shp} {I : IM} {R : RM} : ev S d 17 37 [a0, .inr (.inr 0)] st (sh, I, R) = ev S d 17 38 [a0, .inr (.inr 0)] (.inr (.inr 0) :: st) (sh, I, R) := (ev_eq f_17_37).trans rfl
theorem f_17_38 : fetch 17 38 = some (38, .putfield 31, 3, [2, 0, 1, 10], 0) := (fm_17 38).trans rfl
theorem u_17_38 {S : Scr} {d : Nat} {a0 a1 : AV} {st : List AV} {sh : Shp} {I : IM} {R : RM} {k v : Nat} (h : tg sh k = 2) : ev S d 17 38 [a0, a1] (.inr (.inl v) :: .inr (.inl k) :: st) (sh, I, R) = ev S d 17 41 [a0, a1] st (sh, I, up R k 0 (some v)) := (ev_eq f_17_38).trans (congrArg (fin S d 17) (if_pos h))
theorem f_17_41 : fetch 17 41 = some (41, .return_, 1, [], 0) := (fm_17 41).trans rfl
theorem u_17_41 {S : Scr} {d : Nat} {a0 a1 : AV} {sh : Shp} {I : IM} {R : RM} : ev S d 17 41 [a0, a1] [] (sh, I, R) = some (none, (sh, I, R)) := (ev_eq f_17_41).trans rfl
theorem c_18 {d : Nat} {a0 a1 : AV} {M : Mem} : cl (d + 1) 18 [a0, a1] M = ev S0 d 18 0 [a0, a1, .inr (.inr 1)] [] M := (cl_eq (as := [a0, a1]) (show 2 ≤ maxOf 18 by decide +kernel)).trans rfl
theorem mt_18 : MT[18]? = some m_18 := rfl
theorem fm_18 (pc : Nat) : fetch 18 pc = lk m_18.2.2.2.2.2 pc := by
  unfold fetch
  rw [mt_18]
theorem f_18_0 : fetch 18 0 = some (0, .aload_n 0, 1, [0], 0) := (fm_18 0).trans rfl
theorem u_18_0 {S : Scr} {d : Nat} {a1 a2 : AV} {st : List AV} {sh : Shp} {I : IM} {R : RM} {x : Nat} : ev S d 18 0 [.inr (.inl x), a1, a2] st (sh, I, R) = ev S d 18 1 [.inr (.inl x), a1, a2] (.inr (.inl x) :: st) (sh, I, R) := (ev_eq f_18_0).trans rfl
theorem f_18_1 : fetch 18 1 = some (1, .aload_n 1, 1, [1], 0) := (fm_18 1).trans rfl
theorem u_18_1 {S : Scr} {d : Nat} {a0 a2 : AV} {st : List AV} {sh : Shp} {I : IM} {R : RM} {x : Nat} : ev S d 18 1 [a0, .inr (.inl x), a2] st (sh, I, R) = ev S d 18 2 [a0, .inr (.inl x), a2] (.inr (.inl x) :: st) (sh, I, R) := (ev_eq f_18_1).trans rfl
theorem u_18_1n {S : Scr} {d : Nat} {a0 a2 : AV} {st : List AV} {sh : Shp} {I : IM} {R : RM} : ev S d 18 1 [a0, .inr (.inr 0), a2] st (sh, I, R) = ev S d 18 2 [a0, .inr (.inr 0), a2] (.inr (.inr 0) :: st) (sh, I, R) := (ev_eq f_18_1).trans rfl
theorem f_18_2 : fetch 18 2 = some (2, .putfield 35, 3, [2, 5, 1, 11], 0) := (fm_18 2).trans rfl
theorem u_18_2 {S : Scr} {d : Nat} {a0 a1 a2 : AV} {st : List AV} {sh : Shp} {I : IM} {R : RM} {k v : Nat} (h : tg sh k = 2) : ev S d 18 2 [a0, a1, a2] (.inr (.inl v) :: .inr (.inl k) :: st) (sh, I, R) = ev S d 18 5 [a0, a1, a2] st (sh, I, up R k 5 (some v)) := (ev_eq f_18_2).trans (congrArg (fin S d 18) (if_pos h))
theorem f_18_5 : fetch 18 5 = some (5, .aload_n 0, 1, [0], 0) := (fm_18 5).trans rfl
theorem u_18_5 {S : Scr} {d : Nat} {a1 a2 : AV} {st : List AV} {sh : Shp} {I : IM} {R : RM} {x : Nat} : ev S d 18 5 [.inr (.inl x), a1, a2] st (sh, I, R) = ev S d 18 6 [.inr (.inl x), a1, a2] (.inr (.inl x) :: st) (sh, I, R) := (ev_eq f_18_5).trans rfl
theorem f_18_6 : fetch 18 6 = some (6, .iconst 0, 1, [], 0) := (fm_18 6).trans rfl
theorem u_18_6 {S : Scr} {d : Nat} {a0 a1 a2 : AV} {st : List AV} {sh : Shp} {I : IM} {R : RM} : ev S d 18 6 [a0, a1, a2] st (sh, I, R) = ev S d 18 7 [a0, a1, a2] (.inl 0 :: st) (sh, I, R) := (ev_eq f_18_6).trans rfl
theorem f_18_7 : fetch 18 7 = some (7, .putfield 39, 3, [2, 6, 0, 12], 0) := (fm_18 7).trans rfl
theorem u_18_7 {S : Scr} {d : Nat} {a0 a1 a2 : AV} {st : List AV} {sh : Shp} {I : IM} {R : RM} {k : Nat} {x : Int} (h : tg sh k = 2) : ev S d 18 7 [a0, a1, a2] (.inl x :: .inr (.inl k) :: st) (sh, I, R) = ev S d 18 10 [a0, a1, a2] st (sh, up I k 6 x, R) := (ev_eq f_18_7).trans (congrArg (fin S d 18) (if_pos h))
theorem f_18_10 : fetch 18 10 = some (10, .aload_n 0, 1, [0], 0) := (fm_18 10).trans rfl
theorem u_18_10 {S : Scr} {d : Nat} {a1 a2 : AV} {st : List AV} {sh : Shp} {I : IM} {R : RM} {x : Nat} : ev S d 18 10 [.inr (.inl x), a1, a2] st (sh, I, R) = ev S d 18 11 [.inr (.inl x), a1, a2] (.inr (.inl x) :: st) (sh, I, R) := (ev_eq f_18_10).trans rfl
theorem f_18_11 : fetch 18 11 = some (11, .iconst 0, 1, [], 0) := (fm_18 11).trans rfl
theorem u_18_11 {S : Scr} {d : Nat} {a0 a1 a2 : AV} {st : List AV} {sh : Shp} {I : IM} {R : RM} : ev S d 18 11 [a0, a1, a2] st (sh, I, R) = ev S d 18 12 [a0, a1, a2] (.inl 0 :: st) (sh, I, R) := (ev_eq f_18_11).trans rfl
theorem f_18_12 : fetch 18 12 = some (12, .putfield 43, 3, [2, 4, 0, 13], 0) := (fm_18 12).trans rfl
theorem u_18_12 {S : Scr} {d : Nat} {a0 a1 a2 : AV} {st : List AV} {sh : Shp} {I : IM} {R : RM} {k : Nat} {x : Int} (h : tg sh k = 2) : ev S d 18 12 [a0, a1, a2] (.inl x :: .inr (.inl k) :: st) (sh, I, R) = ev S d 18 15 [a0, a1, a2] st (sh, up I k 4 x, R) := (ev_eq f_18_12).trans (congrArg (fin S d 18) (if_pos h))
theorem f_18_15 : fetch 18 15 = some (15, .aload_n 0, 1, [0], 0) := (fm_18 15).trans rfl
theorem u_18_15 {S : Scr} {d : Nat} {a1 a2 : AV} {st : List AV} {sh : Shp} {I : IM} {R : RM} {x : Nat} : ev S d 18 15 [.inr (.inl x), a1, a2] st (sh, I, R) = ev S d 18 16 [.inr (.inl x), a1, a2] (.inr (.inl x) :: st) (sh, I, R) := (ev_eq f_18_15).trans rfl
theorem f_18_16 : fetch 18 16 = some (16, .iconst 0, 1, [], 0) := (fm_18 16).trans rfl
theorem u_18_16 {S : Scr} {d : Nat} {a0 a1 a2 : AV} {st : List AV} {sh : Shp} {I : IM} {R : RM} : ev S d 18 16 [a0, a1, a2] st (sh, I, R) = ev S d 18 17 [a0, a1, a2] (.inl 0 :: st) (sh, I, R) := (ev_eq f_18_16).trans rfl
theorem f_18_17 : fetch 18 17 = some (17, .invokevirtual 46, 3, [21, 1, 7], 0) := (fm_18 17).trans rfl
theorem u_18_17 {S : Scr} {d : Nat} {a0 a1 a2 : AV} {st : List AV} {sh : Shp} {I : IM} {R : RM} {x0 : Int} {k : Nat} (h : tg sh k = 2) (hr : st.length ≤ 8) : ev S d 18 17 [a0, a1, a2] (.inl x0 :: .inr (.inl k) :: st) (sh, I, R) = bnd (cl d 21 [.inr (.inl k), .inl x0] (sh, I, R)) (fun v M => ev S d 18 20 [a0, a1, a2] (psh v st) M) := (ev_eq f_18_17).trans (congrArg (fin S d 18) (if_pos ⟨h, rfl, hr⟩))
theorem f_18_20 : fetch 18 20 = some (20, .istore_n 2, 1, [2], 0) := (fm_18 20).trans rfl
theorem u_18_20 {S : Scr} {d : Nat} {a0 a1 a2 : AV} {st : List AV} {sh : Shp} {I : IM} {R : RM} {x : Int} : ev S d 18 20 [a0, a1, a2] (.inl x :: st) (sh, I, R) = ev S d 18 21 [a0, a1, .inl x] st (sh, I, R) := (ev_eq f_18_20).trans rfl
theorem f_18_21 : fetch 18 21 = some (21, .iload_n 2, 1, [2], 0) := (fm_18 21).trans rfl
theorem u_18_21 {S : Scr} {d : Nat} {a0 a1 : AV} {st : List AV} {sh : Shp} {I : IM} {R : RM} {x : Int} : ev S d 18 21 [a0, a1, .inl x] st (sh, I, R) = ev S d 18 22 [a0, a1, .inl x] (.inl x :: st) (sh, I, R) := (ev_eq f_18_21).trans rfl
theorem f_18_22 : fetch 18 22 = some (22, .ldc 50, 2, [2], (-1000000)) := (fm_18 22).trans rfl
theorem u_18_22 {S : Scr} {d : Nat} {a0 a1 a2 : AV} {st : List AV} {sh : Shp} {I : IM} {R : RM} : ev S d 18 22 [a0, a1, a2] st (sh, I, R) = ev S d 18 24 [a0, a1, a2] (.inl (-1000000) :: st) (sh, I, R) := (ev_eq f_18_22).trans rfl
theorem f_18_24 : fetch 18 24 = some (24, .if_icmp .eq 25, 3, [49], 0) := (fm_18 24).trans rfl
theorem u_18_24 {S : Scr} {d : Nat} {a0 a1 a2 : AV} {st : List AV} {sh : Shp} {I : IM} {R : RM} {x y : Int} : ev S d 18 24 [a0, a1, a2] (.inl y :: .inl x :: st) (sh, I, R) = if x = y then ev S d 18 49 [a0, a1, a2] st (sh, I, R) else ev S d 18 27 [a0, a1, a2] st (sh, I, R) := (ev_eq f_18_24).trans fin_icmp_eq
theorem f_18_27 : fetch 18 27 = some (27, .aload_n 0, 1, [0], 0) := (fm_18 27).trans rfl
theorem u_18_27 {S : Scr} {d : Nat} {a1 a2 : AV} {st : List AV} {sh : Shp} {I : IM} {R : RM} {x : Nat} : ev S d 18 27 [.inr (.inl x), a1, a2] st (sh, I, R) = ev S d 18 28 [.inr (.inl x), a1, a2] (.inr (.inl x) :: st) (sh, I, R) := (ev_eq f_18_27).trans rfl
theorem f_18_28 : fetch 18 28 = some (28, .invokevirtual 51, 3, [20, 0, 8], 0) := (fm_18 28).trans rfl
theorem u_18_28 {S : Scr} {d : Nat} {a0 a1 a2 : AV} {st : List AV} {sh : Shp} {I : IM} {R : RM} {k : Nat} (h : tg sh k = 2) (hr : st.length ≤ 8) : ev S d 18 28 [a0, a1, a2] (.inr (.inl k) :: st) (sh, I, R) = bnd (cl d 20 [.inr (.inl k)] (sh, I, R)) (fun v M => ev S d 18 31 [a0, a1, a2] (psh v st) M) := (ev_eq f_18_28).trans (congrArg (fin S d 18) (if_pos ⟨h, rfl, hr⟩))
theorem f_18_31 : fetch 18 31 = some (31, .iconst (-1), 1, [], (-1)) := (fm_18 31).trans rfl
theorem u_18_31 {S : Scr} {d : Nat} {a0 a1 a2 : AV} {st : List AV} {sh : Shp} {I : IM} {R : RM} : ev S d 18 31 [a0, a1, a2] st (sh, I, R) = ev S d 18 32 [a0, a1, a2] (.inl (-1) :: st) (sh, I, R) := (ev_eq f_18_31).trans rfl
theorem f_18_32 : fetch 18 32 = some (32, .if_icmp .eq 17, 3, [49], 0) := (fm_18 32).trans rfl
theorem u_18_32 {S : Scr} {d : Nat} {a0 a1 a2 : AV} {st : List AV} {sh : Shp} {I : IM} {R : RM} {x y : Int} : ev S d 18 32 [a0, a1, a2] (.inl y :: .inl x :: st) (sh, I, R) = if x = y then ev S d 18 49 [a0, a1, a2] st (sh, I, R) else ev S d 18 35 [a0, a1, a2] st (sh, I, R) := (ev_eq f_18_32).trans fin_icmp_eq
theorem f_18_35 : fetch 18 35 = some (35, .aload_n 0, 1, [0], 0) := (fm_18 35).trans rfl
theorem u_18_35 {S : Scr} {d : Nat} {a1 a2 : AV} {st : List AV} {sh : Shp} {I : IM} {R : RM} {x : Nat} : ev S d 18 35 [.inr (.inl x), a1, a2] st (sh, I, R) = ev S d 18 36 [.inr (.inl x), a1, a2] (.inr (.inl x) :: st) (sh, I, R) := (ev_eq f_18_35).trans rfl
theorem f_18_36 : fetch 18 36 = some (36, .getfield 12, 3, [2, 1, 1, 7], 0) := (fm_18 36).trans rfl
theorem u_18_36 {S : Scr} {d : Nat} {a0 a1 a2 : AV} {st : List AV} {sh : Shp} {I : IM} {R : RM} {k : Nat} (h : tg sh k = 2) : ev S d 18 36 [a0, a1, a2] (.inr (.inl k) :: st) (sh, I, R) = ev S d 18 39 [a0, a1, a2] (rv (R k 1) :: st) (sh, I, R) := (ev_eq f_18_36).trans (congrArg (fin S d 18) (if_pos h))
theorem f_18_39 : fetch 18 39 = some (39, .aload_n 0, 1, [0], 0) := (fm_18 39).trans rfl
theorem u_18_39 {S : Scr} {d : Nat} {a1 a2 : AV} {st : List AV} {sh : Shp} {I : IM} {R : RM} {x : Nat} : ev S d 18 39 [.inr (.inl x), a1, a2] st (sh, I, R) = ev S d 18 40 [.inr (.inl x), a1, a2] (.inr (.inl x) :: st) (sh, I, R) := (ev_eq f_18_39).trans rfl
theorem f_18_40 : fetch 18 40 = some (40, .getfield 39, 3, [2, 6, 0, 12], 0) := (fm_18 40).trans rfl
theorem u_18_40 {S : Scr} {d : Nat} {a0 a1 a2 : AV} {st : List AV} {sh : Shp} {I : IM} {R : RM} {k : Nat} (h : tg sh k = 2) : ev S d 18 40 [a0, a1, a2] (.inr (.inl k) :: st) (sh, I, R) = ev S d 18 43 [a0, a1, a2] (.inl (I k 6) :: st) (sh, I, R) := (ev_eq f_18_40).trans (congrArg (fin S d 18) (if_pos h))
theorem f_18_43 : fetch 18 43 = some (43, .bipush 7, 2, [], 7) := (fm_18 43).trans rfl
theorem u_18_43 {S : Scr} {d : Nat} {a0 a1 a2 : AV} {st : List AV} {sh : Shp} {I : IM} {R : RM} : ev S d 18 43 [a0, a1, a2] st (sh, I, R) = ev S d 18 45 [a0, a1, a2] (.inl 7 :: st) (sh, I, R) := (ev_eq f_18_43).trans rfl
theorem f_18_45 : fetch 18 45 = some (45, .invokevirtual 55, 3, [1, 2, 9], 0) := (fm_18 45).trans rfl
theorem u_18_45 {S : Scr} {d : Nat} {a0 a1 a2 : AV} {st : List AV} {sh : Shp} {I : IM} {R : RM} {x0 : Int} {x1 : Int} {k : Nat} (h : tg sh k = 0) (hr : st.length ≤ 8) : ev S d 18 45 [a0, a1, a2] (.inl x1 :: .inl x0 :: .inr (.inl k) :: st) (sh, I, R) = bnd (cl d 1 [.inr (.inl k), .inl x0, .inl x1] (sh, I, R)) (fun v M => ev S d 18 48 [a0, a1, a2] (psh v st) M) := (ev_eq f_18_45).trans (congrArg (fin S d 18) (if_pos ⟨h, rfl, hr⟩))
theorem f_18_48 : fetch 18 48 = some (48, .istore_n 2, 1, [2], 0) := (fm_18 48).trans rfl
theorem u_18_48 {S : Scr} {d : Nat} {a0 a1 a2 : AV} {st : List AV} {sh : Shp} {I : IM} {R : RM} {x : Int} : ev S d 18 48 [a0, a1, a2] (.inl x :: st) (sh, I, R) = ev S d 18 49 [a0, a1, .inl x] st (sh, I, R) := (ev_eq f_18_48).trans rfl
theorem f_18_49 : fetch 18 49 = some (49, .iload_n 2, 1, [2], 0) := (fm_18 49).trans rfl
theorem u_18_49 {S : Scr} {d : Nat} {a0 a1 : AV} {st : List AV} {sh : Shp} {I : IM} {R : RM} {x : Int} : ev S d 18 49 [a0, a1, .inl x] st (sh, I, R) = ev S d 18 50 [a0, a1, .inl x] (.inl x :: st) (sh, I, R) := (ev_eq f_18_49).trans rfl
theorem f_18_50 : fetch 18 50 = some (50, .ldc 50, 2, [2], (-1000000)) := (fm_18 50).trans rfl
theorem u_18_50 {S : Scr} {d : Nat} {a0 a1 a2 : AV} {st : List AV} {sh : Shp} {I : IM} {R : RM} : ev S d 18 50 [a0, a1, a2] st (sh, I, R) = ev S d 18 52 [a0, a1, a2] (.inl (-1000000) :: st) (sh, I, R) := (ev_eq f_18_50).trans rfl
theorem f_18_52 : fetch 18 52 = some (52, .if_icmp .ne 7, 3, [59], 0) := (fm_18 52).trans rfl
theorem u_18_52 {S : Scr} {d : Nat} {a0 a1 a2 : AV} {st : List AV} {sh : Shp} {I : IM} {R : RM} {x y : Int} : ev S d 18 52 [a0, a1, a2] (.inl y :: .inl x :: st) (sh, I, R) = if ¬ x = y then ev S d 18 59 [a0, a1, a2] st (sh, I, R) else ev S d 18 55 [a0, a1, a2] st (sh, I, R) := (ev_eq f_18_52).trans fin_icmp_ne
theorem f_18_55 : fetch 18 55 = some (55, .aload_n 0, 1, [0], 0) := (fm_18 55).trans rfl
theorem u_18_55 {S : Scr} {d : Nat} {a1 a2 : AV} {st : List AV} {sh : Shp} {I : IM} {R : RM} {x : Nat} : ev S d 18 55 [.inr (.inl x), a1, a2] st (sh, I, R) = ev S d 18 56 [.inr (.inl x), a1, a2] (.inr (.inl x) :: st) (sh, I, R) := (ev_eq f_18_55).trans rfl
theorem f_18_56 : fetch 18 56 = some (56, .invokevirtual 59, 3, [19, 0, 10], 0) := (fm_18 56).trans rfl
theorem u_18_56 {S : Scr} {d : Nat} {a0 a1 a2 : AV} {st : List AV} {sh : Shp} {I : IM} {R : RM} {k : Nat} (h : tg sh k = 2) (hr : st.length ≤ 8) : ev S d 18 56 [a0, a1, a2] (.inr (.inl k) :: st) (sh, I, R) = bnd (cl d 19 [.inr (.inl k)] (sh, I, R)) (fun v M => ev S d 18 59 [a0, a1, a2] (psh v st) M) := (ev_eq f_18_56).trans (congrArg (fin S d 18) (if_pos ⟨h, rfl, hr⟩))
theorem f_18_59 : fetch 18 59 = some (59, .iload_n 2, 1, [2], 0) := (fm_18 59).trans rfl
theorem u_18_59 {S : Scr} {d : Nat} {a0 a1 : AV} {st : List AV} {sh : Shp} {I : IM} {R : RM} {x : Int} : ev S d 18 59 [a0, a1, .inl x] st (sh, I, R) = ev S d 18 60 [a0, a1, .inl x] (.inl x :: st) (sh, I, R) := (ev_eq f_18_59).trans rfl
theorem f_18_60 : fetch 18 60 = some (60, .ireturn, 1, [0], 0) := (fm_18 60).trans rfl
theorem u_18_60 {S : Scr} {d : Nat} {a0 a1 a2 : AV} {sh : Shp} {I : IM} {R : RM} {x : Int} : ev S d 18 60 [a0, a1, a2] [.inl x] (sh, I, R) = some (some (.inl x), (sh, I, R)) := (ev_eq f_18_60).trans fin_iret0
theorem c_19 {d : Nat} {a0 : AV} {M : Mem} : cl (d + 1) 19 [a0] M = ev S0 d 19 0 [a0, .inr (.inr 1)] [] M := (cl_eq (as := [a0]) (show 1 ≤ maxOf 19 by decide +kernel)).trans rfl
theorem mt_19 : MT[19]? = some m_19 := rfl
theorem fm_19 (pc : Nat) : fetch 19 pc = lk m_19.2.2.2.2.2 pc := by
  unfold fetch
  rw [mt_19]
theorem f_19_0 : fetch 19 0 = some (0, .iconst 0, 1, [], 0) := (fm_19 0).trans rfl
theorem u_19_0 {S : Scr} {d : Nat} {a0 a1 : AV} {st : List AV} {sh : Shp} {I : IM} {R : RM} : ev S d 19 0 [a0, a1] st (sh, I, R) = ev S d 19 1 [a0, a1] (.inl 0 :: st) (sh, I, R) := (ev_eq f_19_0).trans rfl
theorem f_19_1 : fetch 19 1 = some (1, .istore_n 1, 1, [1], 0) := (fm_19 1).trans rfl
theorem u_19_1 {S : Scr} {d : Nat} {a0 a1 : AV} {st : List AV} {sh : Shp} {I : IM} {R : RM} {x : Int} : ev S d 19 1 [a0, a1] (.inl x :: st) (sh, I, R) = ev S d 19 2 [a0, .inl x] st (sh, I, R) := (ev_eq f_19_1).trans rfl
theorem f_19_2 : fetch 19 2 = some (2, .iload_n 1, 1, [1], 0) := (fm_19 2).trans rfl
theorem u_19_2 {S : Scr} {d : Nat} {a0 : AV} {st : List AV} {sh : Shp} {I : IM} {R : RM} {x : Int} : ev S d 19 2 [a0, .inl x] st (sh, I, R) = ev S d 19 3 [a0, .inl x] (.inl x :: st) (sh, I, R) := (ev_eq f_19_2).trans rfl
theorem f_19_3 : fetch 19 3 = some (3, .aload_n 0, 1, [0], 0) := (fm_19 3).trans rfl
theorem u_19_3 {S : Scr} {d : Nat} {a1 : AV} {st : List AV} {sh : Shp} {I : IM} {R : RM} {x : Nat} : ev S d 19 3 [.inr (.inl x), a1] st (sh, I, R) = ev S d 19 4 [.inr (.inl x), a1] (.inr (.inl x) :: st) (sh, I, R) := (ev_eq f_19_3).trans rfl
theorem f_19_4 : fetch 19 4 = some (4, .getfield 43, 3, [2, 4, 0, 13], 0) := (fm_19 4).trans rfl
theorem u_19_4 {S : Scr} {d : Nat} {a0 a1 : AV} {st : List AV} {sh : Shp} {I : IM} {R : RM} {k : Nat} (h : tg sh k = 2) : ev S d 19 4 [a0, a1] (.inr (.inl k) :: st) (sh, I, R) = ev S d 19 7 [a0, a1] (.inl (I k 4) :: st) (sh, I, R) := (ev_eq f_19_4).trans (congrArg (fin S d 19) (if_pos h))
theorem f_19_7 : fetch 19 7 = some (7, .if_icmp .ge 22, 3, [29], 0) := (fm_19 7).trans rfl
theorem u_19_7 {S : Scr} {d : Nat} {a0 a1 : AV} {st : List AV} {sh : Shp} {I : IM} {R : RM} {x y : Int} : ev S d 19 7 [a0, a1] (.inl y :: .inl x :: st) (sh, I, R) = if y ≤ x then ev S d 19 29 [a0, a1] st (sh, I, R) else ev S d 19 10 [a0, a1] st (sh, I, R) := (ev_eq f_19_7).trans fin_icmp_ge
theorem f_19_10 : fetch 19 10 = some (10, .aload_n 0, 1, [0], 0) := (fm_19 10).trans rfl
theorem u_19_10 {S : Scr} {d : Nat} {a1 : AV} {st : List AV} {sh : Shp} {I : IM} {R : RM} {x : Nat} : ev S d 19 10 [.inr (.inl x), a1] st (sh, I, R) = ev S d 19 11 [.inr (.inl x), a1] (.inr (.inl x) :: st) (sh, I, R) := (ev_eq f_19_10).trans rfl
theorem f_19_11 : fetch 19 11 = some (11, .getfield 31, 3, [2, 0, 1, 10], 0) := (fm_19 11).trans rfl
theorem u_19_11 {S : Scr} {d : Nat} {a0 a1 : AV} {st : List AV} {sh : Shp} {I : IM} {R : RM} {k : Nat} (h : tg sh k = 2) : ev S d 19 11 [a0, a1] (.inr (.inl k) :: st) (sh, I, R) = ev S d 19 14 [a0, a1] (rv (R k 0) :: st) (sh, I, R) := (ev_eq f_19_11).trans (congrArg (fin S d 19) (if_pos h))
theorem f_19_14 : fetch 19 14 = some (14, .aload_n 0, 1, [0], 0) := (fm_19 14).trans rfl
theorem u_19_14 {S : Scr} {d : Nat} {a1 : AV} {st : List AV} {sh : Shp} {I : IM} {R : RM} {x : Nat} : ev S d 19 14 [.inr (.inl x), a1] st (sh, I, R) = ev S d 19 15 [.inr (.inl x), a1] (.inr (.inl x) :: st) (sh, I, R) := (ev_eq f_19_14).trans rfl
theorem f_19_15 : fetch 19 15 = some (15, .getfield 27, 3, [2, 3, 1, 9], 0) := (fm_19 15).trans rfl
theorem u_19_15 {S : Scr} {d : Nat} {a0 a1 : AV} {st : List AV} {sh : Shp} {I : IM} {R : RM} {k : Nat} (h : tg sh k = 2) : ev S d 19 15 [a0, a1] (.inr (.inl k) :: st) (sh, I, R) = ev S d 19 18 [a0, a1] (rv (R k 3) :: st) (sh, I, R) := (ev_eq f_19_15).trans (congrArg (fin S d 19) (if_pos h))
theorem f_19_18 : fetch 19 18 = some (18, .iload_n 1, 1, [1], 0) := (fm_19 18).trans rfl
theorem u_19_18 {S : Scr} {d : Nat} {a0 : AV} {st : List AV} {sh : Shp} {I : IM} {R : RM} {x : Int} : ev S d 19 18 [a0, .inl x] st (sh, I, R) = ev S d 19 19 [a0, .inl x] (.inl x :: st) (sh, I, R) := (ev_eq f_19_18).trans rfl
theorem f_19_19 : fetch 19 19 = some (19, .iaload, 1, [], 0) := (fm_19 19).trans rfl
theorem u_19_19 {S : Scr} {d : Nat} {a0 a1 : AV} {st : List AV} {sh : Shp} {I : IM} {R : RM} {k : Nat} {i : Int} (h : tg sh k = 100) (h0 : 0 ≤ i) (h1 : i < ln sh k) : ev S d 19 19 [a0, a1] (.inl i :: .inr (.inl k) :: st) (sh, I, R) = ev S d 19 20 [a0, a1] (.inl (I k i) :: st) (sh, I, R) := (ev_eq f_19_19).trans (congrArg (fin S d 19) (if_pos ⟨h, h0, h1⟩))
theorem f_19_20 : fetch 19 20 = some (20, .invokevirtual 62, 3, [75, 1, 11], 0) := (fm_19 20).trans rfl
theorem u_19_20 {S : Scr} {d : Nat} {a0 a1 : AV} {st : List AV} {sh : Shp} {I : IM} {R : RM} {x0 : Int} {k : Nat} (h : tg sh k = 7) (hr : st.length ≤ 8) : ev S d 19 20 [a0, a1] (.inl x0 :: .inr (.inl k) :: st) (sh, I, R) = bnd (cl d 75 [.inr (.inl k), .inl x0] (sh, I, R)) (fun v M => ev S d 19 23 [a0, a1] (psh v st) M) := (ev_eq f_19_20).trans (congrArg (fin S d 19) (if_pos ⟨h, rfl, hr⟩))
theorem f_19_23 : fetch 19 23 = some (23, .iinc 1 1, 3, [1], 1) := (fm_19 23).trans rfl
theorem u_19_23 {S : Scr} {d : Nat} {a0 : AV} {st : List AV} {sh : Shp} {I : IM} {R : RM} {x : Int} : ev S d 19 23 [a0, .inl x] st (sh, I, R) = ev S d 19 26 [a0, .inl (wr (x + 1))] st (sh, I, R) := (ev_eq f_19_23).trans rfl
theorem f_19_26 : fetch 19 26 = some (26, .goto (-24), 3, [2], 0) := (fm_19 26).trans rfl
theorem u_19_26 {S : Scr} {d : Nat} {a0 a1 : AV} {st : List AV} {sh : Shp} {I : IM} {R : RM} : ev S d 19 26 [a0, a1] st (sh, I, R) = ev S d 19 2 [a0, a1] st (sh, I, R) := (ev_eq f_19_26).trans rfl
theorem f_19_29 : fetch 19 29 = some (29, .return_, 1, [], 0) := (fm_19 29).trans rfl
theorem u_19_29 {S : Scr} {d : Nat} {a0 a1 : AV} {sh : Shp} {I : IM} {R : RM} : ev S d 19 29 [a0, a1] [] (sh, I, R) = some (none, (sh, I, R)) := (ev_eq f_19_29).trans rfl
theorem c_20 {d : Nat} {a0 : AV} {M : Mem} : cl (d + 1) 20 [a0] M = ev S0 d 20 0 [a0, .inr (.inr 1)] [] M := (cl_eq (as := [a0]) (show 1 ≤ maxOf 20 by decide +kernel)).trans rfl
theorem mt_20 : MT[20]? = some m_20 := rfl
theorem fm_20 (pc : Nat) : fetch 20 pc = lk m_20.2.2.2.2.2 pc := by
  unfold fetch
  rw [mt_20]
theorem f_20_0 : fetch 20 0 = some (0, .aload_n 0, 1, [0], 0) := (fm_20 0).trans rfl
theorem u_20_0 {S : Scr} {d : Nat} {a1 : AV} {st : List AV} {sh : Shp} {I : IM} {R : RM} {x : Nat} : ev S d 20 0 [.inr (.inl x), a1] st (sh, I, R) = ev S d 20 1 [.inr (.inl x), a1] (.inr (.inl x) :: st) (sh, I, R) := (ev_eq f_20_0).trans rfl
theorem f_20_1 : fetch 20 1 = some (1, .getfield 35, 3, [2, 5, 1, 11], 0) := (fm_20 1).trans rfl
theorem u_20_1 {S : Scr} {d : Nat} {a0 a1 : AV} {st : List AV} {sh : Shp} {I : IM} {R : RM} {k : Nat} (h : tg sh k = 2) : ev S d 20 1 [a0, a1] (.inr (.inl k) :: st) (sh, I, R) = ev S d 20 4 [a0, a1] (rv (R k 5) :: st) (sh, I, R) := (ev_eq f_20_1).trans (congrArg (fin S d 20) (if_pos h))
theorem f_20_4 : fetch 20 4 = some (4, .ifnull 31, 3, [35], 0) := (fm_20 4).trans rfl
theorem u_20_4 {S : Scr} {d : Nat} {a0 a1 : AV} {st : List AV} {sh : Shp} {I : IM} {R : RM} {x : Nat} : ev S d 20 4 [a0, a1] (.inr (.inl x) :: st) (sh, I, R) = ev S d 20 7 [a0, a1] st (sh, I, R) := (ev_eq f_20_4).trans rfl
theorem u_20_4n {S : Scr} {d : Nat} {a0 a1 : AV} {st : List AV} {sh : Shp} {I : IM} {R : RM} : ev S d 20 4 [a0, a1] (.inr (.inr 0) :: st) (sh, I, R) = ev S d 20 35 [a0, a1] st (sh, I, R) := (ev_eq f_20_4).trans rfl
theorem f_20_7 : fetch 20 7 = some (7, .aload_n 0, 1, [0], 0) := (fm_20 7).trans rfl
theorem u_20_7 {S : Scr} {d : Nat} {a1 : AV} {st : List AV} {sh : Shp} {I : IM} {R : RM} {x : Nat} : ev S d 20 7 [.inr (.inl x), a1] st (sh, I, R) = ev S d 20 8 [.inr (.inl x), a1] (.inr (.inl x) :: st) (sh, I, R) := (ev_eq f_20_7).trans rfl
theorem f_20_8 : fetch 20 8 = some (8, .getfield 39, 3, [2, 6, 0, 12], 0) := (fm_20 8).trans rfl
theorem u_20_8 {S : Scr} {d : Nat} {a0 a1 : AV} {st : List AV} {sh : Shp} {I : IM} {R : RM} {k : Nat} (h : tg sh k = 2) : ev S d 20 8 [a0, a1] (.inr (.inl k) :: st) (sh, I, R) = ev S d 20 11 [a0, a1] (.inl (I k 6) :: st) (sh, I, R) := (ev_eq f_20_8).trans (congrArg (fin S d 20) (if_pos h))
theorem f_20_11 : fetch 20 11 = some (11, .aload_n 0, 1, [0], 0) := (fm_20 11).trans rfl
theorem u_20_11 {S : Scr} {d : Nat} {a1 : AV} {st : List AV} {sh : Shp} {I : IM} {R : RM} {x : Nat} : ev S d 20 11 [.inr (.inl x), a1] st (sh, I, R) = ev S d 20 12 [.inr (.inl x), a1] (.inr (.inl x) :: st) (sh, I, R) := (ev_eq f_20_11).trans rfl
theorem f_20_12 : fetch 20 12 = some (12, .getfield 35, 3, [2, 5, 1, 11], 0) := (fm_20 12).trans rfl
theorem u_20_12 {S : Scr} {d : Nat} {a0 a1 : AV} {st : List AV} {sh : Shp} {I : IM} {R : RM} {k : Nat} (h : tg sh k = 2) : ev S d 20 12 [a0, a1] (.inr (.inl k) :: st) (sh, I, R) = ev S d 20 15 [a0, a1] (rv (R k 5) :: st) (sh, I, R) := (ev_eq f_20_12).trans (congrArg (fin S d 20) (if_pos h))
theorem f_20_15 : fetch 20 15 = some (15, .getfield 67, 3, [5, 1, 0, 14], 0) := (fm_20 15).trans rfl
theorem u_20_15 {S : Scr} {d : Nat} {a0 a1 : AV} {st : List AV} {sh : Shp} {I : IM} {R : RM} {k : Nat} (h : tg sh k = 5) : ev S d 20 15 [a0, a1] (.inr (.inl k) :: st) (sh, I, R) = ev S d 20 18 [a0, a1] (.inl (I k 1) :: st) (sh, I, R) := (ev_eq f_20_15).trans (congrArg (fin S d 20) (if_pos h))
theorem f_20_18 : fetch 20 18 = some (18, .if_icmp .ge 17, 3, [35], 0) := (fm_20 18).trans rfl
theorem u_20_18 {S : Scr} {d : Nat} {a0 a1 : AV} {st : List AV} {sh : Shp} {I : IM} {R : RM} {x y : Int} : ev S d 20 18 [a0, a1] (.inl y :: .inl x :: st) (sh, I, R) = if y ≤ x then ev S d 20 35 [a0, a1] st (sh, I, R) else ev S d 20 21 [a0, a1] st (sh, I, R) := (ev_eq f_20_18).trans fin_icmp_ge
theorem f_20_21 : fetch 20 21 = some (21, .aload_n 0, 1, [0], 0) := (fm_20 21).trans rfl
theorem u_20_21 {S : Scr} {d : Nat} {a1 : AV} {st : List AV} {sh : Shp} {I : IM} {R : RM} {x : Nat} : ev S d 20 21 [.inr (.inl x), a1] st (sh, I, R) = ev S d 20 22 [.inr (.inl x), a1] (.inr (.inl x) :: st) (sh, I, R) := (ev_eq f_20_21).trans rfl
theorem f_20_22 : fetch 20 22 = some (22, .getfield 39, 3, [2, 6, 0, 12], 0) := (fm_20 22).trans rfl
theorem u_20_22 {S : Scr} {d : Nat} {a0 a1 : AV} {st : List AV} {sh : Shp} {I : IM} {R : RM} {k : Nat} (h : tg sh k = 2) : ev S d 20 22 [a0, a1] (.inr (.inl k) :: st) (sh, I, R) = ev S d 20 25 [a0, a1] (.inl (I k 6) :: st) (sh, I, R) := (ev_eq f_20_22).trans (congrArg (fin S d 20) (if_pos h))
theorem f_20_25 : fetch 20 25 = some (25, .sipush 200, 3, [], 200) := (fm_20 25).trans rfl
theorem u_20_25 {S : Scr} {d : Nat} {a0 a1 : AV} {st : List AV} {sh : Shp} {I : IM} {R : RM} : ev S d 20 25 [a0, a1] st (sh, I, R) = ev S d 20 28 [a0, a1] (.inl 200 :: st) (sh, I, R) := (ev_eq f_20_25).trans rfl
theorem f_20_28 : fetch 20 28 = some (28, .if_icmp .ge 7, 3, [35], 0) := (fm_20 28).trans rfl
theorem u_20_28 {S : Scr} {d : Nat} {a0 a1 : AV} {st : List AV} {sh : Shp} {I : IM} {R : RM} {x y : Int} : ev S d 20 28 [a0, a1] (.inl y :: .inl x :: st) (sh, I, R) = if y ≤ x then ev S d 20 35 [a0, a1] st (sh, I, R) else ev S d 20 31 [a0, a1] st (sh, I, R) := (ev_eq f_20_28).trans fin_icmp_ge
theorem f_20_31 : fetch 20 31 = some (31, .iconst 1, 1, [], 1) := (fm_20 31).trans rfl
theorem u_20_31 {S : Scr} {d : Nat} {a0 a1 : AV} {st : List AV} {sh : Shp} {I : IM} {R : RM} : ev S d 20 31 [a0, a1] st (sh, I, R) = ev S d 20 32 [a0, a1] (.inl 1 :: st) (sh, I, R) := (ev_eq f_20_31).trans rfl
theorem f_20_32 : fetch 20 32 = some (32, .goto 4, 3, [36], 0) := (fm_20 32).trans rfl
theorem u_20_32 {S : Scr} {d : Nat} {a0 a1 : AV} {st : List AV} {sh : Shp} {I : IM} {R : RM} : ev S d 20 32 [a0, a1] st (sh, I, R) = ev S d 20 36 [a0, a1] st (sh, I, R) := (ev_eq f_20_32).trans rfl
theorem f_20_35 : fetch 20 35 = some (35, .iconst 0, 1, [], 0) := (fm_20 35).trans rfl
theorem u_20_35 {S : Scr} {d : Nat} {a0 a1 : AV} {st : List AV} {sh : Shp} {I : IM} {R : RM} : ev S d 20 35 [a0, a1] st (sh, I, R) = ev S d 20 36 [a0, a1] (.inl 0 :: st) (sh, I, R) := (ev_eq f_20_35).trans rfl
theorem f_20_36 : fetch 20 36 = some (36, .istore_n 1, 1, [1], 0) := (fm_20 36).trans rfl
theorem u_20_36 {S : Scr} {d : Nat} {a0 a1 : AV} {st : List AV} {sh : Shp} {I : IM} {R : RM} {x : Int} : ev S d 20 36 [a0, a1] (.inl x :: st) (sh, I, R) = ev S d 20 37 [a0, .inl x] st (sh, I, R) := (ev_eq f_20_36).trans rfl
theorem f_20_37 : fetch 20 37 = some (37, .iload_n 1, 1, [1], 0) := (fm_20 37).trans rfl
theorem u_20_37 {S : Scr} {d : Nat} {a0 : AV} {st : List AV} {sh : Shp} {I : IM} {R : RM} {x : Int} : ev S d 20 37 [a0, .inl x] st (sh, I, R) = ev S d 20 38 [a0, .inl x] (.inl x :: st) (sh, I, R) := (ev_eq f_20_37).trans rfl
theorem f_20_38 : fetch 20 38 = some (38, .ifCond .eq 18, 3, [56], 0) := (fm_20 38).trans rfl
theorem u_20_38 {S : Scr} {d : Nat} {a0 a1 : AV} {st : List AV} {sh : Shp} {I : IM} {R : RM} {x : Int} : ev S d 20 38 [a0, a1] (.inl x :: st) (sh, I, R) = if x = 0 then ev S d 20 56 [a0, a1] st (sh, I, R) else ev S d 20 41 [a0, a1] st (sh, I, R) := (ev_eq f_20_38).trans fin_if_eq
theorem f_20_41 : fetch 20 41 = some (41, .aload_n 0, 1, [0], 0) := (fm_20 41).trans rfl
theorem u_20_41 {S : Scr} {d : Nat} {a1 : AV} {st : List AV} {sh : Shp} {I : IM} {R : RM} {x : Nat} : ev S d 20 41 [.inr (.inl x), a1] st (sh, I, R) = ev S d 20 42 [.inr (.inl x), a1] (.inr (.inl x) :: st) (sh, I, R) := (ev_eq f_20_41).trans rfl
theorem f_20_42 : fetch 20 42 = some (42, .getfield 35, 3, [2, 5, 1, 11], 0) := (fm_20 42).trans rfl
theorem u_20_42 {S : Scr} {d : Nat} {a0 a1 : AV} {st : List AV} {sh : Shp} {I : IM} {R : RM} {k : Nat} (h : tg sh k = 2) : ev S d 20 42 [a0, a1] (.inr (.inl k) :: st) (sh, I, R) = ev S d 20 45 [a0, a1] (rv (R k 5) :: st) (sh, I, R) := (ev_eq f_20_42).trans (congrArg (fin S d 20) (if_pos h))
theorem f_20_45 : fetch 20 45 = some (45, .getfield 72, 3, [5, 0, 1, 15], 0) := (fm_20 45).trans rfl
theorem u_20_45 {S : Scr} {d : Nat} {a0 a1 : AV} {st : List AV} {sh : Shp} {I : IM} {R : RM} {k : Nat} (h : tg sh k = 5) : ev S d 20 45 [a0, a1] (.inr (.inl k) :: st) (sh, I, R) = ev S d 20 48 [a0, a1] (rv (R k 0) :: st) (sh, I, R) := (ev_eq f_20_45).trans (congrArg (fin S d 20) (if_pos h))
theorem f_20_48 : fetch 20 48 = some (48, .aload_n 0, 1, [0], 0) := (fm_20 48).trans rfl
theorem u_20_48 {S : Scr} {d : Nat} {a1 : AV} {st : List AV} {sh : Shp} {I : IM} {R : RM} {x : Nat} : ev S d 20 48 [.inr (.inl x), a1] st (sh, I, R) = ev S d 20 49 [.inr (.inl x), a1] (.inr (.inl x) :: st) (sh, I, R) := (ev_eq f_20_48).trans rfl
theorem f_20_49 : fetch 20 49 = some (49, .getfield 39, 3, [2, 6, 0, 12], 0) := (fm_20 49).trans rfl
theorem u_20_49 {S : Scr} {d : Nat} {a0 a1 : AV} {st : List AV} {sh : Shp} {I : IM} {R : RM} {k : Nat} (h : tg sh k = 2) : ev S d 20 49 [a0, a1] (.inr (.inl k) :: st) (sh, I, R) = ev S d 20 52 [a0, a1] (.inl (I k 6) :: st) (sh, I, R) := (ev_eq f_20_49).trans (congrArg (fin S d 20) (if_pos h))
theorem f_20_52 : fetch 20 52 = some (52, .iaload, 1, [], 0) := (fm_20 52).trans rfl
theorem u_20_52 {S : Scr} {d : Nat} {a0 a1 : AV} {st : List AV} {sh : Shp} {I : IM} {R : RM} {k : Nat} {i : Int} (h : tg sh k = 100) (h0 : 0 ≤ i) (h1 : i < ln sh k) : ev S d 20 52 [a0, a1] (.inl i :: .inr (.inl k) :: st) (sh, I, R) = ev S d 20 53 [a0, a1] (.inl (I k i) :: st) (sh, I, R) := (ev_eq f_20_52).trans (congrArg (fin S d 20) (if_pos ⟨h, h0, h1⟩))
theorem f_20_53 : fetch 20 53 = some (53, .goto 4, 3, [57], 0) := (fm_20 53).trans rfl
theorem u_20_53 {S : Scr} {d : Nat} {a0 a1 : AV} {st : List AV} {sh : Shp} {I : IM} {R : RM} : ev S d 20 53 [a0, a1] st (sh, I, R) = ev S d 20 57 [a0, a1] st (sh, I, R) := (ev_eq f_20_53).trans rfl
theorem f_20_56 : fetch 20 56 = some (56, .iconst (-1), 1, [], (-1)) := (fm_20 56).trans rfl
theorem u_20_56 {S : Scr} {d : Nat} {a0 a1 : AV} {st : List AV} {sh : Shp} {I : IM} {R : RM} : ev S d 20 56 [a0, a1] st (sh, I, R) = ev S d 20 57 [a0, a1] (.inl (-1) :: st) (sh, I, R) := (ev_eq f_20_56).trans rfl
theorem f_20_57 : fetch 20 57 = some (57, .ireturn, 1, [0], 0) := (fm_20 57).trans rfl
theorem u_20_57 {S : Scr} {d : Nat} {a0 a1 : AV} {sh : Shp} {I : IM} {R : RM} {x : Int} : ev S d 20 57 [a0, a1] [.inl x] (sh, I, R) = some (some (.inl x), (sh, I, R)) := (ev_eq f_20_57).trans fin_iret0
theorem c_21 {d : Nat} {a0 a1 : AV} {M : Mem} : cl (d + 1) 21 [a0, a1] M = ev S0 d 21 0 [a0, a1, .inr (.inr 1), .inr (.inr 1), .inr (.inr 1), .inr (.inr 1), .inr (.inr 1)] [] M := (cl_eq (as := [a0, a1]) (show 2 ≤ maxOf 21 by decide +kernel)).trans rfl
theorem mt_21 : MT[21]? = some m_21 := rfl
theorem fm_21 (pc : Nat) : fetch 21 pc = lk m_21.2.2.2.2.2 pc := by
  unfold fetch
  rw [mt_21]
theorem f_21_0 : fetch 21 0 = some (0, .aload_n 0, 1, [0], 0) := (fm_21 0).trans rfl
theorem u_21_0 {S : Scr} {d : Nat} {a1 a2 a3 a4 a5 a6 : AV} {st : List AV} {sh : Shp} {I : IM} {R : RM} {x : Nat} : ev S d 21 0 [.inr (.inl x), a1, a2, a3, a4, a5, a6] st (sh, I, R) = ev S d 21 1 [.inr (.inl x), a1, a2, a3, a4, a5, a6] (.inr (.inl x) :: st) (sh, I, R) := (ev_eq f_21_0).trans rfl
theorem f_21_1 : fetch 21 1 = some (1, .getfield 39, 3, [2, 6, 0, 12], 0) := (fm_21 1).trans rfl
theorem u_21_1 {S : Scr} {d : Nat} {a0 a1 a2 a3 a4 a5 a6 : AV} {st : List AV} {sh : Shp} {I : IM} {R : RM} {k : Nat} (h : tg sh k = 2) : ev S d 21 1 [a0, a1, a2, a3, a4, a5, a6] (.inr (.inl k) :: st) (sh, I, R) = ev S d 21 4 [a0, a1, a2, a3, a4, a5, a6] (.inl (I k 6) :: st) (sh, I, R) := (ev_eq f_21_1).trans (congrArg (fin S d 21) (if_pos h))
theorem f_21_4 : fetch 21 4 = some (4, .istore_n 2, 1, [2], 0) := (fm_21 4).trans rfl
theorem u_21_4 {S : Scr} {d : Nat} {a0 a1 a2 a3 a4 a5 a6 : AV} {st : List AV} {sh : Shp} {I : IM} {R : RM} {x : Int} : ev S d 21 4 [a0, a1, a2, a3, a4, a5, a6] (.inl x :: st) (sh, I, R) = ev S d 21 5 [a0, a1, .inl x, a3, a4, a5, a6] st (sh, I, R) := (ev_eq f_21_4).trans rfl
theorem f_21_5 : fetch 21 5 = some (5, .aload_n 0, 1, [0], 0) := (fm_21 5).trans rfl
theorem u_21_5 {S : Scr} {d : Nat} {a1 a2 a3 a4 a5 a6 : AV} {st : List AV} {sh : Shp} {I : IM} {R : RM} {x : Nat} : ev S d 21 5 [.inr (.inl x), a1, a2, a3, a4, a5, a6] st (sh, I, R) = ev S d 21 6 [.inr (.inl x), a1, a2, a3, a4, a5, a6] (.inr (.inl x) :: st) (sh, I, R) := (ev_eq f_21_5).trans rfl
theorem f_21_6 : fetch 21 6 = some (6, .invokevirtual 51, 3, [20, 0, 8], 0) := (fm_21 6).trans rfl
theorem u_21_6 {S : Scr} {d : Nat} {a0 a1 a2 a3 a4 a5 a6 : AV} {st : List AV} {sh : Shp} {I : IM} {R : RM} {k : Nat} (h : tg sh k = 2) (hr : st.length ≤ 8) : ev S d 21 6 [a0, a1, a2, a3, a4, a5, a6] (.inr (.inl k) :: st) (sh, I, R) = bnd (cl d 20 [.inr (.inl k)] (sh, I, R)) (fun v M => ev S d 21 9 [a0, a1, a2, a3, a4, a5, a6] (psh v st) M) := (ev_eq f_21_6).trans (congrArg (fin S d 21) (if_pos ⟨h, rfl, hr⟩))
theorem f_21_9 : fetch 21 9 = some (9, .istore_n 3, 1, [3], 0) := (fm_21 9).trans rfl
theorem u_21_9 {S : Scr} {d : Nat} {a0 a1 a2 a3 a4 a5 a6 : AV} {st : List AV} {sh : Shp} {I : IM} {R : RM} {x : Int} : ev S d 21 9 [a0, a1, a2, a3, a4, a5, a6] (.inl x :: st) (sh, I, R) = ev S d 21 10 [a0, a1, a2, .inl x, a4, a5, a6] st (sh, I, R) := (ev_eq f_21_9).trans rfl
theorem f_21_10 : fetch 21 10 = some (10, .iload_n 3, 1, [3], 0) := (fm_21 10).trans rfl
theorem u_21_10 {S : Scr} {d : Nat} {a0 a1 a2 a4 a5 a6 : AV} {st : List AV} {sh : Shp} {I : IM} {R : RM} {x : Int} : ev S d 21 10 [a0, a1, a2, .inl x, a4, a5, a6] st (sh, I, R) = ev S d 21 11 [a0, a1, a2, .inl x, a4, a5, a6] (.inl x :: st) (sh, I, R) := (ev_eq f_21_10).trans rfl
theorem f_21_11 : fetch 21 11 = some (11, .bipush 45, 2, [], 45) := (fm_21 11).trans rfl
theorem u_21_11 {S : Scr} {d : Nat} {a0 a1 a2 a3 a4 a5 a6 : AV} {st : List AV} {sh : Shp} {I : IM} {R : RM} : ev S d 21 11 [a0, a1, a2, a3, a4, a5, a6] st (sh, I, R) = ev S d 21 13 [a0, a1, a2, a3, a4, a5, a6] (.inl 45 :: st) (sh, I, R) := (ev_eq f_21_11).trans rfl
theorem f_21_13 : fetch 21 13 = some (13, .if_icmp .ne 15, 3, [28], 0) := (fm_21 13).trans rfl
theorem u_21_13 {S : Scr} {d : Nat} {a0 a1 a2 a3 a4 a5 a6 : AV} {st : List AV} {sh : Shp} {I : IM} {R : RM} {x y : Int} : ev S d 21 13 [a0, a1, a2, a3, a4, a5, a6] (.inl y :: .inl x :: st) (sh, I, R) = if ¬ x = y then ev S d 21 28 [a0, a1, a2, a3, a4, a5, a6] st (sh, I, R) else ev S d 21 16 [a0, a1, a2, a3, a4, a5, a6] st (sh, I, R) := (ev_eq f_21_13).trans fin_icmp_ne
theorem f_21_16 : fetch 21 16 = some (16, .aload_n 0, 1, [0], 0) := (fm_21 16).trans rfl
theorem u_21_16 {S : Scr} {d : Nat} {a1 a2 a3 a4 a5 a6 : AV} {st : List AV} {sh : Shp} {I : IM} {R : RM} {x : Nat} : ev S d 21 16 [.inr (.inl x), a1, a2, a3, a4, a5, a6] st (sh, I, R) = ev S d 21 17 [.inr (.inl x), a1, a2, a3, a4, a5, a6] (.inr (.inl x) :: st) (sh, I, R) := (ev_eq f_21_16).trans rfl
theorem f_21_17 : fetch 21 17 = some (17, .dup, 1, [], 0) := (fm_21 17).trans rfl
theorem u_21_17 {S : Scr} {d : Nat} {a0 a1 a2 a3 a4 a5 a6 : AV} {st : List AV} {sh : Shp} {I : IM} {R : RM} {x : AV} : ev S d 21 17 [a0, a1, a2, a3, a4, a5, a6] (x :: st) (sh, I, R) = ev S d 21 18 [a0, a1, a2, a3, a4, a5, a6] (x :: x :: st) (sh, I, R) := (ev_eq f_21_17).trans rfl
theorem f_21_18 : fetch 21 18 = some (18, .getfield 39, 3, [2, 6, 0, 12], 0) := (fm_21 18).trans rfl
theorem u_21_18 {S : Scr} {d : Nat} {a0 a1 a2 a3 a4 a5 a6 : AV} {st : List AV} {sh : Shp} {I : IM} {R : RM} {k : Nat} (h : tg sh k = 2) : ev S d 21 18 [a0, a1, a2, a3, a4, a5, a6] (.inr (.inl k) :: st) (sh, I, R) = ev S d 21 21 [a0, a1, a2, a3, a4, a5, a6] (.inl (I k 6) :: st) (sh, I, R) := (ev_eq f_21_18).trans (congrArg (fin S d 21) (if_pos h))
theorem f_21_21 : fetch 21 21 = some (21, .iconst 1, 1, [], 1) := (fm_21 21).trans rfl
theorem u_21_21 {S : Scr} {d : Nat} {a0 a1 a2 a3 a4 a5 a6 : AV} {st : List AV} {sh : Shp} {I : IM} {R : RM} : ev S d 21 21 [a0, a1, a2, a3, a4, a5, a6] st (sh, I, R) = ev S d 21 22 [a0, a1, a2, a3, a4, a5, a6] (.inl 1 :: st) (sh, I, R) := (ev_eq f_21_21).trans rfl
theorem f_21_22 : fetch 21 22 = some (22, .iadd, 1, [], 0) := (fm_21 22).trans rfl
theorem u_21_22 {S : Scr} {d : Nat} {a0 a1 a2 a3 a4 a5 a6 : AV} {st : List AV} {sh : Shp} {I : IM} {R : RM} {x y : Int} : ev S d 21 22 [a0, a1, a2, a3, a4, a5, a6] (.inl y :: .inl x :: st) (sh, I, R) = ev S d 21 23 [a0, a1, a2, a3, a4, a5, a6] (.inl (wr (x + y)) :: st) (sh, I, R) := (ev_eq f_21_22).trans rfl
theorem f_21_23 : fetch 21 23 = some (23, .putfield 39, 3, [2, 6, 0, 12], 0) := (fm_21 23).trans rfl
theorem u_21_23 {S : Scr} {d : Nat} {a0 a1 a2 a3 a4 a5 a6 : AV} {st : List AV} {sh : Shp} {I : IM} {R : RM} {k : Nat} {x : Int} (h : tg sh k = 2) : ev S d 21 23 [a0, a1, a2, a3, a4, a5, a6] (.inl x :: .inr (.inl k) :: st) (sh, I, R) = ev S d 21 26 [a0, a1, a2, a3, a4, a5, a6] st (sh, up I k 6 x, R) := (ev_eq f_21_23).trans (congrArg (fin S d 21) (if_pos h))
theorem f_21_26 : fetch 21 26 = some (26, .iconst (-1), 1, [], (-1)) := (fm_21 26).trans rfl
theorem u_21_26 {S : Scr} {d : Nat} {a0 a1 a2 a3 a4 a5 a6 : AV} {st : List AV} {sh : Shp} {I : IM} {R : RM} : ev S d 21 26 [a0, a1, a2, a3, a4, a5, a6] st (sh, I, R) = ev S d 21 27 [a0, a1, a2, a3, a4, a5, a6] (.inl (-1) :: st) (sh, I, R) := (ev_eq f_21_26).trans rfl
theorem f_21_27 : fetch 21 27 = some (27, .ireturn, 1, [0], 0) := (fm_21 27).trans rfl
theorem u_21_27 {S : Scr} {d : Nat} {a0 a1 a2 a3 a4 a5 a6 : AV} {sh : Shp} {I : IM} {R : RM} {x : Int} : ev S d 21 27 [a0, a1, a2, a3, a4, a5, a6] [.inl x] (sh, I, R) = some (some (.inl x), (sh, I, R)) := (ev_eq f_21_27).trans fin_iret0
theorem f_21_28 : fetch 21 28 = some (28, .iload_n 3, 1, [3], 0) := (fm_21 28).trans rfl
theorem u_21_28 {S : Scr} {d : Nat} {a0 a1 a2 a4 a5 a6 : AV} {st : List AV} {sh : Shp} {I : IM} {R : RM} {x : Int} : ev S d 21 28 [a0, a1, a2, .inl x, a4, a5, a6] st (sh, I, R) = ev S d 21 29 [a0, a1, a2, .inl x, a4, a5, a6] (.inl x :: st) (sh, I, R) := (ev_eq f_21_28).trans rfl
theorem f_21_29 : fetch 21 29 = some (29, .bipush 35, 2, [], 35) := (fm_21 29).trans rfl
theorem u_21_29 {S : Scr} {d : Nat} {a0 a1 a2 a3 a4 a5 a6 : AV} {st : List AV} {sh : Shp} {I : IM} {R : RM} : ev S d 21 29 [a0, a1, a2, a3, a4, a5, a6] st (sh, I, R) = ev S d 21 31 [a0, a1, a2, a3, a4, a5, a6] (.inl 35 :: st) (sh, I, R) := (ev_eq f_21_29).trans rfl
theorem f_21_31 : fetch 21 31 = some (31, .if_icmp .ne 18, 3, [49], 0) := (fm_21 31).trans rfl
theorem u_21_31 {S : Scr} {d : Nat} {a0 a1 a2 a3 a4 a5 a6 : AV} {st : List AV} {sh : Shp} {I : IM} {R : RM} {x y : Int} : ev S d 21 31 [a0, a1, a2, a3, a4, a5, a6] (.inl y :: .inl x :: st) (sh, I, R) = if ¬ x = y then ev S d 21 49 [a0, a1, a2, a3, a4, a5, a6] st (sh, I, R) else ev S d 21 34 [a0, a1, a2, a3, a4, a5, a6] st (sh, I, R) := (ev_eq f_21_31).trans fin_icmp_ne
theorem f_21_34 : fetch 21 34 = some (34, .aload_n 0, 1, [0], 0) := (fm_21 34).trans rfl
theorem u_21_34 {S : Scr} {d : Nat} {a1 a2 a3 a4 a5 a6 : AV} {st : List AV} {sh : Shp} {I : IM} {R : RM} {x : Nat} : ev S d 21 34 [.inr (.inl x), a1, a2, a3, a4, a5, a6] st (sh, I, R) = ev S d 21 35 [.inr (.inl x), a1, a2, a3, a4, a5, a6] (.inr (.inl x) :: st) (sh, I, R) := (ev_eq f_21_34).trans rfl
theorem f_21_35 : fetch 21 35 = some (35, .dup, 1, [], 0) := (fm_21 35).trans rfl
theorem u_21_35 {S : Scr} {d : Nat} {a0 a1 a2 a3 a4 a5 a6 : AV} {st : List AV} {sh : Shp} {I : IM} {R : RM} {x : AV} : ev S d 21 35 [a0, a1, a2, a3, a4, a5, a6] (x :: st) (sh, I, R) = ev S d 21 36 [a0, a1, a2, a3, a4, a5, a6] (x :: x :: st) (sh, I, R) := (ev_eq f_21_35).trans rfl
theorem f_21_36 : fetch 21 36 = some (36, .getfield 39, 3, [2, 6, 0, 12], 0) := (fm_21 36).trans rfl
theorem u_21_36 {S : Scr} {d : Nat} {a0 a1 a2 a3 a4 a5 a6 : AV} {st : List AV} {sh : Shp} {I : IM} {R : RM} {k : Nat} (h : tg sh k = 2) : ev S d 21 36 [a0, a1, a2, a3, a4, a5, a6] (.inr (.inl k) :: st) (sh, I, R) = ev S d 21 39 [a0, a1, a2, a3, a4, a5, a6] (.inl (I k 6) :: st) (sh, I, R) := (ev_eq f_21_36).trans (congrArg (fin S d 21) (if_pos h))
theorem f_21_39 : fetch 21 39 = some (39, .iconst 1, 1, [], 1) := (fm_21 39).trans rfl
theorem u_21_39 {S : Scr} {d : Nat} {a0 a1 a2 a3 a4 a5 a6 : AV} {st : List AV} {sh : Shp} {I : IM} {R : RM} : ev S d 21 39 [a0, a1, a2, a3, a4, a5, a6] st (sh, I, R) = ev S d 21 40 [a0, a1, a2, a3, a4, a5, a6] (.inl 1 :: st) (sh, I, R) := (ev_eq f_21_39).trans rfl
theorem f_21_40 : fetch 21 40 = some (40, .iadd, 1, [], 0) := (fm_21 40).trans rfl
theorem u_21_40 {S : Scr} {d : Nat} {a0 a1 a2 a3 a4 a5 a6 : AV} {st : List AV} {sh : Shp} {I : IM} {R : RM} {x y : Int} : ev S d 21 40 [a0, a1, a2, a3, a4, a5, a6] (.inl y :: .inl x :: st) (sh, I, R) = ev S d 21 41 [a0, a1, a2, a3, a4, a5, a6] (.inl (wr (x + y)) :: st) (sh, I, R) := (ev_eq f_21_40).trans rfl
theorem f_21_41 : fetch 21 41 = some (41, .putfield 39, 3, [2, 6, 0, 12], 0) := (fm_21 41).trans rfl
theorem u_21_41 {S : Scr} {d : Nat} {a0 a1 a2 a3 a4 a5 a6 : AV} {st : List AV} {sh : Shp} {I : IM} {R : RM} {k : Nat} {x : Int} (h : tg sh k = 2) : ev S d 21 41 [a0, a1, a2, a3, a4, a5, a6] (.inl x :: .inr (.inl k) :: st) (sh, I, R) = ev S d 21 44 [a0, a1, a2, a3, a4, a5, a6] st (sh, up I k 6 x, R) := (ev_eq f_21_41).trans (congrArg (fin S d 21) (if_pos h))
theorem f_21_44 : fetch 21 44 = some (44, .aload_n 0, 1, [0], 0) := (fm_21 44).trans rfl
theorem u_21_44 {S : Scr} {d : Nat} {a1 a2 a3 a4 a5 a6 : AV} {st : List AV} {sh : Shp} {I : IM} {R : RM} {x : Nat} : ev S d 21 44 [.inr (.inl x), a1, a2, a3, a4, a5, a6] st (sh, I, R) = ev S d 21 45 [.inr (.inl x), a1, a2, a3, a4, a5, a6] (.inr (.inl x) :: st) (sh, I, R) := (ev_eq f_21_44).trans rfl
theorem f_21_45 : fetch 21 45 = some (45, .invokevirtual 75, 3, [24, 0, 12], 0) := (fm_21 45).trans rfl
theorem u_21_45 {S : Scr} {d : Nat} {a0 a1 a2 a3 a4 a5 a6 : AV} {st : List AV} {sh : Shp} {I : IM} {R : RM} {k : Nat} (h : tg sh k = 2) (hr : st.length ≤ 8) : ev S d 21 45 [a0, a1, a2, a3, a4, a5, a6] (.inr (.inl k) :: st) (sh, I, R) = bnd (cl d 24 [.inr (.inl k)] (sh, I, R)) (fun v M => ev S d 21 48 [a0, a1, a2, a3, a4, a5, a6] (psh v st) M) := (ev_eq f_21_45).trans (congrArg (fin S d 21) (if_pos ⟨h, rfl, hr⟩))
theorem f_21_48 : fetch 21 48 = some (48, .ireturn, 1, [0], 0) := (fm_21 48).trans rfl
theorem u_21_48 {S : Scr} {d : Nat} {a0 a1 a2 a3 a4 a5 a6 : AV} {sh : Shp} {I : IM} {R : RM} {x : Int} : ev S d 21 48 [a0, a1, a2, a3, a4, a5, a6] [.inl x] (sh, I, R) = some (some (.inl x), (sh, I, R)) := (ev_eq f_21_48).trans fin_iret0
theorem f_21_49 : fetch 21 49 = some (49, .iload_n 3, 1, [3], 0) := (fm_21 49).trans rfl
theorem u_21_49 {S : Scr} {d : Nat} {a0 a1 a2 a4 a5 a6 : AV} {st : List AV} {sh : Shp} {I : IM} {R : RM} {x : Int} : ev S d 21 49 [a0, a1, a2, .inl x, a4, a5, a6] st (sh, I, R) = ev S d 21 50 [a0, a1, a2, .inl x, a4, a5, a6] (.inl x :: st) (sh, I, R) := (ev_eq f_21_49).trans rfl
theorem f_21_50 : fetch 21 50 = some (50, .invokestatic 78, 3, [22, 1, 13], 0) := (fm_21 50).trans rfl
theorem u_21_50 {S : Scr} {d : Nat} {a0 a1 a2 a3 a4 a5 a6 : AV} {st : List AV} {sh : Shp} {I : IM} {R : RM} {x0 : Int} (hr : st.length ≤ 8) : ev S d 21 50 [a0, a1, a2, a3, a4, a5, a6] (.inl x0 :: st) (sh, I, R) = bnd (cl d 22 [.inl x0] (sh, I, R)) (fun v M => ev S d 21 53 [a0, a1, a2, a3, a4, a5, a6] (psh v st) M) := (ev_eq f_21_50).trans (congrArg (fin S d 21) (if_pos ⟨rfl, hr⟩))
theorem f_21_53 : fetch 21 53 = some (53, .istore 4, 2, [4], 0) := (fm_21 53).trans rfl
theorem u_21_53 {S : Scr} {d : Nat} {a0 a1 a2 a3 a4 a5 a6 : AV} {st : List AV} {sh : Shp} {I : IM} {R : RM} {x : Int} : ev S d 21 53 [a0, a1, a2, a3, a4, a5, a6] (.inl x :: st) (sh, I, R) = ev S d 21 55 [a0, a1, a2, a3, .inl x, a5, a6] st (sh, I, R) := (ev_eq f_21_53).trans rfl
theorem f_21_55 : fetch 21 55 = some (55, .aload_n 0, 1, [0], 0) := (fm_21 55).trans rfl
theorem u_21_55 {S : Scr} {d : Nat} {a1 a2 a3 a4 a5 a6 : AV} {st : List AV} {sh : Shp} {I : IM} {R : RM} {x : Nat} : ev S d 21 55 [.inr (.inl x), a1, a2, a3, a4, a5, a6] st (sh, I, R) = ev S d 21 56 [.inr (.inl x), a1, a2, a3, a4, a5, a6] (.inr (.inl x) :: st) (sh, I, R) := (ev_eq f_21_55).trans rfl
theorem f_21_56 : fetch 21 56 = some (56, .iload 4, 2, [4], 0) := (fm_21 56).trans rfl
theorem u_21_56 {S : Scr} {d : Nat} {a0 a1 a2 a3 a5 a6 : AV} {st : List AV} {sh : Shp} {I : IM} {R : RM} {x : Int} : ev S d 21 56 [a0, a1, a2, a3, .inl x, a5, a6] st (sh, I, R) = ev S d 21 58 [a0, a1, a2, a3, .inl x, a5, a6] (.inl x :: st) (sh, I, R) := (ev_eq f_21_56).trans rfl
theorem f_21_58 : fetch 21 58 = some (58, .iload_n 1, 1, [1], 0) := (fm_21 58).trans rfl
theorem u_21_58 {S : Scr} {d : Nat} {a0 a2 a3 a4 a5 a6 : AV} {st : List AV} {sh : Shp} {I : IM} {R : RM} {x : Int} : ev S d 21 58 [a0, .inl x, a2, a3, a4, a5, a6] st (sh, I, R) = ev S d 21 59 [a0, .inl x, a2, a3, a4, a5, a6] (.inl x :: st) (sh, I, R) := (ev_eq f_21_58).trans rfl
theorem f_21_59 : fetch 21 59 = some (59, .invokevirtual 81, 3, [23, 2, 14], 0) := (fm_21 59).trans rfl
theorem u_21_59 {S : Scr} {d : Nat} {a0 a1 a2 a3 a4 a5 a6 : AV} {st : List AV} {sh : Shp} {I : IM} {R : RM} {x0 : Int} {x1 : Int} {k : Nat} (h : tg sh k = 2) (hr : st.length ≤ 8) : ev S d 21 59 [a0, a1, a2, a3, a4, a5, a6] (.inl x1 :: .inl x0 :: .inr (.inl k) :: st) (sh, I, R) = bnd (cl d 23 [.inr (.inl k), .inl x0, .inl x1] (sh, I, R)) (fun v M => ev S d 21 62 [a0, a1, a2, a3, a4, a5, a6] (psh v st) M) := (ev_eq f_21_59).trans (congrArg (fin S d 21) (if_pos ⟨h, rfl, hr⟩))
theorem f_21_62 : fetch 21 62 = some (62, .istore 5, 2, [5], 0) := (fm_21 62).trans rfl
theorem u_21_62 {S : Scr} {d : Nat} {a0 a1 a2 a3 a4 a5 a6 : AV} {st : List AV} {sh : Shp} {I : IM} {R : RM} {x : Int} : ev S d 21 62 [a0, a1, a2, a3, a4, a5, a6] (.inl x :: st) (sh, I, R) = ev S d 21 64 [a0, a1, a2, a3, a4, .inl x, a6] st (sh, I, R) := (ev_eq f_21_62).trans rfl
theorem f_21_64 : fetch 21 64 = some (64, .iload 5, 2, [5], 0) := (fm_21 64).trans rfl
theorem u_21_64 {S : Scr} {d : Nat} {a0 a1 a2 a3 a4 a6 : AV} {st : List AV} {sh : Shp} {I : IM} {R : RM} {x : Int} : ev S d 21 64 [a0, a1, a2, a3, a4, .inl x, a6] st (sh, I, R) = ev S d 21 66 [a0, a1, a2, a3, a4, .inl x, a6] (.inl x :: st) (sh, I, R) := (ev_eq f_21_64).trans rfl
theorem f_21_66 : fetch 21 66 = some (66, .ifCond .eq 14, 3, [80], 0) := (fm_21 66).trans rfl
theorem u_21_66 {S : Scr} {d : Nat} {a0 a1 a2 a3 a4 a5 a6 : AV} {st : List AV} {sh : Shp} {I : IM} {R : RM} {x : Int} : ev S d 21 66 [a0, a1, a2, a3, a4, a5, a6] (.inl x :: st) (sh, I, R) = if x = 0 then ev S d 21 80 [a0, a1, a2, a3, a4, a5, a6] st (sh, I, R) else ev S d 21 69 [a0, a1, a2, a3, a4, a5, a6] st (sh, I, R) := (ev_eq f_21_66).trans fin_if_eq
theorem f_21_69 : fetch 21 69 = some (69, .aload_n 0, 1, [0], 0) := (fm_21 69).trans rfl
theorem u_21_69 {S : Scr} {d : Nat} {a1 a2 a3 a4 a5 a6 : AV} {st : List AV} {sh : Shp} {I : IM} {R : RM} {x : Nat} : ev S d 21 69 [.inr (.inl x), a1, a2, a3, a4, a5, a6] st (sh, I, R) = ev S d 21 70 [.inr (.inl x), a1, a2, a3, a4, a5, a6] (.inr (.inl x) :: st) (sh, I, R) := (ev_eq f_21_69).trans rfl
theorem f_21_70 : fetch 21 70 = some (70, .getfield 12, 3, [2, 1, 1, 7], 0) := (fm_21 70).trans rfl
theorem u_21_70 {S : Scr} {d : Nat} {a0 a1 a2 a3 a4 a5 a6 : AV} {st : List AV} {sh : Shp} {I : IM} {R : RM} {k : Nat} (h : tg sh k = 2) : ev S d 21 70 [a0, a1, a2, a3, a4, a5, a6] (.inr (.inl k) :: st) (sh, I, R) = ev S d 21 73 [a0, a1, a2, a3, a4, a5, a6] (rv (R k 1) :: st) (sh, I, R) := (ev_eq f_21_70).trans (congrArg (fin S d 21) (if_pos h))
theorem f_21_73 : fetch 21 73 = some (73, .iload_n 2, 1, [2], 0) := (fm_21 73).trans rfl
theorem u_21_73 {S : Scr} {d : Nat} {a0 a1 a3 a4 a5 a6 : AV} {st : List AV} {sh : Shp} {I : IM} {R : RM} {x : Int} : ev S d 21 73 [a0, a1, .inl x, a3, a4, a5, a6] st (sh, I, R) = ev S d 21 74 [a0, a1, .inl x, a3, a4, a5, a6] (.inl x :: st) (sh, I, R) := (ev_eq f_21_73).trans rfl
theorem f_21_74 : fetch 21 74 = some (74, .iload 5, 2, [5], 0) := (fm_21 74).trans rfl
theorem u_21_74 {S : Scr} {d : Nat} {a0 a1 a2 a3 a4 a6 : AV} {st : List AV} {sh : Shp} {I : IM} {R : RM} {x : Int} : ev S d 21 74 [a0, a1, a2, a3, a4, .inl x, a6] st (sh, I, R) = ev S d 21 76 [a0, a1, a2, a3, a4, .inl x, a6] (.inl x :: st) (sh, I, R) := (ev_eq f_21_74).trans rfl
theorem f_21_76 : fetch 21 76 = some (76, .invokevirtual 55, 3, [1, 2, 9], 0) := (fm_21 76).trans rfl
theorem u_21_76 {S : Scr} {d : Nat} {a0 a1 a2 a3 a4 a5 a6 : AV} {st : List AV} {sh : Shp} {I : IM} {R : RM} {x0 : Int} {x1 : Int} {k : Nat} (h : tg sh k = 0) (hr : st.length ≤ 8) : ev S d 21 76 [a0, a1, a2, a3, a4, a5, a6] (.inl x1 :: .inl x0 :: .inr (.inl k) :: st) (sh, I, R) = bnd (cl d 1 [.inr (.inl k), .inl x0, .inl x1] (sh, I, R)) (fun v M => ev S d 21 79 [a0, a1, a2, a3, a4, a5, a6] (psh v st) M) := (ev_eq f_21_76).trans (congrArg (fin S d 21) (if_pos ⟨h, rfl, hr⟩))
theorem f_21_79 : fetch 21 79 = some (79, .ireturn, 1, [0], 0) := (fm_21 79).trans rfl
theorem u_21_79 {S : Scr} {d : Nat} {a0 a1 a2 a3 a4 a5 a6 : AV} {sh : Shp} {I : IM} {R : RM} {x : Int} : ev S d 21 79 [a0, a1, a2, a3, a4, a5, a6] [.inl x] (sh, I, R) = some (some (.inl x), (sh, I, R)) := (ev_eq f_21_79).trans fin_iret0
theorem f_21_80 : fetch 21 80 = some (80, .aload_n 0, 1, [0], 0) := (fm_21 80).trans rfl
theorem u_21_80 {S : Scr} {d : Nat} {a1 a2 a3 a4 a5 a6 : AV} {st : List AV} {sh : Shp} {I : IM} {R : RM} {x : Nat} : ev S d 21 80 [.inr (.inl x), a1, a2, a3, a4, a5, a6] st (sh, I, R) = ev S d 21 81 [.inr (.inl x), a1, a2, a3, a4, a5, a6] (.inr (.inl x) :: st) (sh, I, R) := (ev_eq f_21_80).trans rfl
theorem f_21_81 : fetch 21 81 = some (81, .dup, 1, [], 0) := (fm_21 81).trans rfl
theorem u_21_81 {S : Scr} {d : Nat} {a0 a1 a2 a3 a4 a5 a6 : AV} {st : List AV} {sh : Shp} {I : IM} {R : RM} {x : AV} : ev S d 21 81 [a0, a1, a2, a3, a4, a5, a6] (x :: st) (sh, I, R) = ev S d 21 82 [a0, a1, a2, a3, a4, a5, a6] (x :: x :: st) (sh, I, R) := (ev_eq f_21_81).trans rfl
theorem f_21_82 : fetch 21 82 = some (82, .getfield 39, 3, [2, 6, 0, 12], 0) := (fm_21 82).trans rfl
theorem u_21_82 {S : Scr} {d : Nat} {a0 a1 a2 a3 a4 a5 a6 : AV} {st : List AV} {sh : Shp} {I : IM} {R : RM} {k : Nat} (h : tg sh k = 2) : ev S d 21 82 [a0, a1, a2, a3, a4, a5, a6] (.inr (.inl k) :: st) (sh, I, R) = ev S d 21 85 [a0, a1, a2, a3, a4, a5, a6] (.inl (I k 6) :: st) (sh, I, R) := (ev_eq f_21_82).trans (congrArg (fin S d 21) (if_pos h))
theorem f_21_85 : fetch 21 85 = some (85, .iconst 1, 1, [], 1) := (fm_21 85).trans rfl
theorem u_21_85 {S : Scr} {d : Nat} {a0 a1 a2 a3 a4 a5 a6 : AV} {st : List AV} {sh : Shp} {I : IM} {R : RM} : ev S d 21 85 [a0, a1, a2, a3, a4, a5, a6] st (sh, I, R) = ev S d 21 86 [a0, a1, a2, a3, a4, a5, a6] (.inl 1 :: st) (sh, I, R) := (ev_eq f_21_85).trans rfl
theorem f_21_86 : fetch 21 86 = some (86, .iadd, 1, [], 0) := (fm_21 86).trans rfl
theorem u_21_86 {S : Scr} {d : Nat} {a0 a1 a2 a3 a4 a5 a6 : AV} {st : List AV} {sh : Shp} {I : IM} {R : RM} {x y : Int} : ev S d 21 86 [a0, a1, a2, a3, a4, a5, a6] (.inl y :: .inl x :: st) (sh, I, R) = ev S d 21 87 [a0, a1, a2, a3, a4, a5, a6] (.inl (wr (x + y)) :: st) (sh, I, R) := (ev_eq f_21_86).trans rfl
theorem f_21_87 : fetch 21 87 = some (87, .putfield 39, 3, [2, 6, 0, 12], 0) := (fm_21 87).trans rfl
theorem u_21_87 {S : Scr} {d : Nat} {a0 a1 a2 a3 a4 a5 a6 : AV} {st : List AV} {sh : Shp} {I : IM} {R : RM} {k : Nat} {x : Int} (h : tg sh k = 2) : ev S d 21 87 [a0, a1, a2, a3, a4, a5, a6] (.inl x :: .inr (.inl k) :: st) (sh, I, R) = ev S d 21 90 [a0, a1, a2, a3, a4, a5, a6] st (sh, up I k 6 x, R) := (ev_eq f_21_87).trans (congrArg (fin S d 21) (if_pos h))
theorem f_21_90 : fetch 21 90 = some (90, .iload 4, 2, [4], 0) := (fm_21 90).trans rfl
theorem u_21_90 {S : Scr} {d : Nat} {a0 a1 a2 a3 a5 a6 : AV} {st : List AV} {sh : Shp} {I : IM} {R : RM} {x : Int} : ev S d 21 90 [a0, a1, a2, a3, .inl x, a5, a6] st (sh, I, R) = ev S d 21 92 [a0, a1, a2, a3, .inl x, a5, a6] (.inl x :: st) (sh, I, R) := (ev_eq f_21_90).trans rfl
theorem f_21_92 : fetch 21 92 = some (92, .iconst 4, 1, [], 4) := (fm_21 92).trans rfl
theorem u_21_92 {S : Scr} {d : Nat} {a0 a1 a2 a3 a4 a5 a6 : AV} {st : List AV} {sh : Shp} {I : IM} {R : RM} : ev S d 21 92 [a0, a1, a2, a3, a4, a5, a6] st (sh, I, R) = ev S d 21 93 [a0, a1, a2, a3, a4, a5, a6] (.inl 4 :: st) (sh, I, R) := (ev_eq f_21_92).trans rfl
theorem f_21_93 : fetch 21 93 = some (93, .if_icmp .ne 10, 3, [103], 0) := (fm_21 93).trans rfl
theorem u_21_93 {S : Scr} {d : Nat} {a0 a1 a2 a3 a4 a5 a6 : AV} {st : List AV} {sh : Shp} {I : IM} {R : RM} {x y : Int} : ev S d 21 93 [a0, a1, a2, a3, a4, a5, a6] (.inl y :: .inl x :: st) (sh, I, R) = if ¬ x = y then ev S d 21 103 [a0, a1, a2, a3, a4, a5, a6] st (sh, I, R) else ev S d 21 96 [a0, a1, a2, a3, a4, a5, a6] st (sh, I, R) := (ev_eq f_21_93).trans fin_icmp_ne
theorem f_21_96 : fetch 21 96 = some (96, .aload_n 0, 1, [0], 0) := (fm_21 96).trans rfl
theorem u_21_96 {S : Scr} {d : Nat} {a1 a2 a3 a4 a5 a6 : AV} {st : List AV} {sh : Shp} {I : IM} {R : RM} {x : Nat} : ev S d 21 96 [.inr (.inl x), a1, a2, a3, a4, a5, a6] st (sh, I, R) = ev S d 21 97 [.inr (.inl x), a1, a2, a3, a4, a5, a6] (.inr (.inl x) :: st) (sh, I, R) := (ev_eq f_21_96).trans rfl
theorem f_21_97 : fetch 21 97 = some (97, .invokevirtual 84, 3, [25, 0, 15], 0) := (fm_21 97).trans rfl
theorem u_21_97 {S : Scr} {d : Nat} {a0 a1 a2 a3 a4 a5 a6 : AV} {st : List AV} {sh : Shp} {I : IM} {R : RM} {k : Nat} (h : tg sh k = 2) (hr : st.length ≤ 8) : ev S d 21 97 [a0, a1, a2, a3, a4, a5, a6] (.inr (.inl k) :: st) (sh, I, R) = bnd (cl d 25 [.inr (.inl k)] (sh, I, R)) (fun v M => ev S d 21 100 [a0, a1, a2, a3, a4, a5, a6] (psh v st) M) := (ev_eq f_21_97).trans (congrArg (fin S d 21) (if_pos ⟨h, rfl, hr⟩))
theorem f_21_100 : fetch 21 100 = some (100, .goto 9, 3, [109], 0) := (fm_21 100).trans rfl
theorem u_21_100 {S : Scr} {d : Nat} {a0 a1 a2 a3 a4 a5 a6 : AV} {st : List AV} {sh : Shp} {I : IM} {R : RM} : ev S d 21 100 [a0, a1, a2, a3, a4, a5, a6] st (sh, I, R) = ev S d 21 109 [a0, a1, a2, a3, a4, a5, a6] st (sh, I, R) := (ev_eq f_21_100).trans rfl
theorem f_21_103 : fetch 21 103 = some (103, .aload_n 0, 1, [0], 0) := (fm_21 103).trans rfl
theorem u_21_103 {S : Scr} {d : Nat} {a1 a2 a3 a4 a5 a6 : AV} {st : List AV} {sh : Shp} {I : IM} {R : RM} {x : Nat} : ev S d 21 103 [.inr (.inl x), a1, a2, a3, a4, a5, a6] st (sh, I, R) = ev S d 21 104 [.inr (.inl x), a1, a2, a3, a4, a5, a6] (.inr (.inl x) :: st) (sh, I, R) := (ev_eq f_21_103).trans rfl
theorem f_21_104 : fetch 21 104 = some (104, .iload 4, 2, [4], 0) := (fm_21 104).trans rfl
theorem u_21_104 {S : Scr} {d : Nat} {a0 a1 a2 a3 a5 a6 : AV} {st : List AV} {sh : Shp} {I : IM} {R : RM} {x : Int} : ev S d 21 104 [a0, a1, a2, a3, .inl x, a5, a6] st (sh, I, R) = ev S d 21 106 [a0, a1, a2, a3, .inl x, a5, a6] (.inl x :: st) (sh, I, R) := (ev_eq f_21_104).trans rfl
theorem f_21_106 : fetch 21 106 = some (106, .invokevirtual 87, 3, [26, 1, 16], 0) := (fm_21 106).trans rfl
theorem u_21_106 {S : Scr} {d : Nat} {a0 a1 a2 a3 a4 a5 a6 : AV} {st : List AV} {sh : Shp} {I : IM} {R : RM} {x0 : Int} {k : Nat} (h : tg sh k = 2) (hr : st.length ≤ 8) : ev S d 21 106 [a0, a1, a2, a3, a4, a5, a6] (.inl x0 :: .inr (.inl k) :: st) (sh, I, R) = bnd (cl d 26 [.inr (.inl k), .inl x0] (sh, I, R)) (fun v M => ev S d 21 109 [a0, a1, a2, a3, a4, a5, a6] (psh v st) M) := (ev_eq f_21_106).trans (congrArg (fin S d 21) (if_pos ⟨h, rfl, hr⟩))
theorem f_21_109 : fetch 21 109 = some (109, .istore 6, 2, [6], 0) := (fm_21 109).trans rfl
theorem u_21_109 {S : Scr} {d : Nat} {a0 a1 a2 a3 a4 a5 a6 : AV} {st : List AV} {sh : Shp} {I : IM} {R : RM} {x : Int} : ev S d 21 109 [a0, a1, a2, a3, a4, a5, a6] (.inl x :: st) (sh, I, R) = ev S d 21 111 [a0, a1, a2, a3, a4, a5, .inl x] st (sh, I, R) := (ev_eq f_21_109).trans rfl
theorem f_21_111 : fetch 21 111 = some (111, .iload 6, 2, [6], 0) := (fm_21 111).trans rfl
theorem u_21_111 {S : Scr} {d : Nat} {a0 a1 a2 a3 a4 a5 : AV} {st : List AV} {sh : Shp} {I : IM} {R : RM} {x : Int} : ev S d 21 111 [a0, a1, a2, a3, a4, a5, .inl x] st (sh, I, R) = ev S d 21 113 [a0, a1, a2, a3, a4, a5, .inl x] (.inl x :: st) (sh, I, R) := (ev_eq f_21_111).trans rfl
theorem f_21_113 : fetch 21 113 = some (113, .ldc 50, 2, [2], (-1000000)) := (fm_21 113).trans rfl
theorem u_21_113 {S : Scr} {d : Nat} {a0 a1 a2 a3 a4 a5 a6 : AV} {st : List AV} {sh : Shp} {I : IM} {R : RM} : ev S d 21 113 [a0, a1, a2, a3, a4, a5, a6] st (sh, I, R) = ev S d 21 115 [a0, a1, a2, a3, a4, a5, a6] (.inl (-1000000) :: st) (sh, I, R) := (ev_eq f_21_113).trans rfl
theorem f_21_115 : fetch 21 115 = some (115, .if_icmp .eq 13, 3, [128], 0) := (fm_21 115).trans rfl
theorem u_21_115 {S : Scr} {d : Nat} {a0 a1 a2 a3 a4 a5 a6 : AV} {st : List AV} {sh : Shp} {I : IM} {R : RM} {x y : Int} : ev S d 21 115 [a0, a1, a2, a3, a4, a5, a6] (.inl y :: .inl x :: st) (sh, I, R) = if x = y then ev S d 21 128 [a0, a1, a2, a3, a4, a5, a6] st (sh, I, R) else ev S d 21 118 [a0, a1, a2, a3, a4, a5, a6] st (sh, I, R) := (ev_eq f_21_115).trans fin_icmp_eq
theorem f_21_118 : fetch 21 118 = some (118, .aload_n 0, 1, [0], 0) := (fm_21 118).trans rfl
theorem u_21_118 {S : Scr} {d : Nat} {a1 a2 a3 a4 a5 a6 : AV} {st : List AV} {sh : Shp} {I : IM} {R : RM} {x : Nat} : ev S d 21 118 [.inr (.inl x), a1, a2, a3, a4, a5, a6] st (sh, I, R) = ev S d 21 119 [.inr (.inl x), a1, a2, a3, a4, a5, a6] (.inr (.inl x) :: st) (sh, I, R) := (ev_eq f_21_118).trans rfl
theorem f_21_119 : fetch 21 119 = some (119, .iload 6, 2, [6], 0) := (fm_21 119).trans rfl
theorem u_21_119 {S : Scr} {d : Nat} {a0 a1 a2 a3 a4 a5 : AV} {st : List AV} {sh : Shp} {I : IM} {R : RM} {x : Int} : ev S d 21 119 [a0, a1, a2, a3, a4, a5, .inl x] st (sh, I, R) = ev S d 21 121 [a0, a1, a2, a3, a4, a5, .inl x] (.inl x :: st) (sh, I, R) := (ev_eq f_21_119).trans rfl
theorem f_21_121 : fetch 21 121 = some (121, .iload_n 1, 1, [1], 0) := (fm_21 121).trans rfl
theorem u_21_121 {S : Scr} {d : Nat} {a0 a2 a3 a4 a5 a6 : AV} {st : List AV} {sh : Shp} {I : IM} {R : RM} {x : Int} : ev S d 21 121 [a0, .inl x, a2, a3, a4, a5, a6] st (sh, I, R) = ev S d 21 122 [a0, .inl x, a2, a3, a4, a5, a6] (.inl x :: st) (sh, I, R) := (ev_eq f_21_121).trans rfl
theorem f_21_122 : fetch 21 122 = some (122, .invokevirtual 90, 3, [32, 2, 17], 0) := (fm_21 122).trans rfl
theorem u_21_122 {S : Scr} {d : Nat} {a0 a1 a2 a3 a4 a5 a6 : AV} {st : List AV} {sh : Shp} {I : IM} {R : RM} {x0 : Int} {x1 : Int} {k : Nat} (h : tg sh k = 2) (hr : st.length ≤ 8) : ev S d 21 122 [a0, a1, a2, a3, a4, a5, a6] (.inl x1 :: .inl x0 :: .inr (.inl k) :: st) (sh, I, R) = bnd (cl d 32 [.inr (.inl k), .inl x0, .inl x1] (sh, I, R)) (fun v M => ev S d 21 125 [a0, a1, a2, a3, a4, a5, a6] (psh v st) M) := (ev_eq f_21_122).trans (congrArg (fin S d 21) (if_pos ⟨h, rfl, hr⟩))
theorem f_21_125 : fetch 21 125 = some (125, .ifCond .ne 12, 3, [137], 0) := (fm_21 125).trans rfl
theorem u_21_125 {S : Scr} {d : Nat} {a0 a1 a2 a3 a4 a5 a6 : AV} {st : List AV} {sh : Shp} {I : IM} {R : RM} {x : Int} : ev S d 21 125 [a0, a1, a2, a3, a4, a5, a6] (.inl x :: st) (sh, I, R) = if ¬ x = 0 then ev S d 21 137 [a0, a1, a2, a3, a4, a5, a6] st (sh, I, R) else ev S d 21 128 [a0, a1, a2, a3, a4, a5, a6] st (sh, I, R) := (ev_eq f_21_125).trans fin_if_ne
theorem f_21_128 : fetch 21 128 = some (128, .aload_n 0, 1, [0], 0) := (fm_21 128).trans rfl
theorem u_21_128 {S : Scr} {d : Nat} {a1 a2 a3 a4 a5 a6 : AV} {st : List AV} {sh : Shp} {I : IM} {R : RM} {x : Nat} : ev S d 21 128 [.inr (.inl x), a1, a2, a3, a4, a5, a6] st (sh, I, R) = ev S d 21 129 [.inr (.inl x), a1, a2, a3, a4, a5, a6] (.inr (.inl x) :: st) (sh, I, R) := (ev_eq f_21_128).trans rfl
theorem f_21_129 : fetch 21 129 = some (129, .getfield 12, 3, [2, 1, 1, 7], 0) := (fm_21 129).trans rfl
theorem u_21_129 {S : Scr} {d : Nat} {a0 a1 a2 a3 a4 a5 a6 : AV} {st : List AV} {sh : Shp} {I : IM} {R : RM} {k : Nat} (h : tg sh k = 2) : ev S d 21 129 [a0, a1, a2, a3, a4, a5, a6] (.inr (.inl k) :: st) (sh, I, R) = ev S d 21 132 [a0, a1, a2, a3, a4, a5, a6] (rv (R k 1) :: st) (sh, I, R) := (ev_eq f_21_129).trans (congrArg (fin S d 21) (if_pos h))
theorem f_21_132 : fetch 21 132 = some (132, .iload_n 2, 1, [2], 0) := (fm_21 132).trans rfl
theorem u_21_132 {S : Scr} {d : Nat} {a0 a1 a3 a4 a5 a6 : AV} {st : List AV} {sh : Shp} {I : IM} {R : RM} {x : Int} : ev S d 21 132 [a0, a1, .inl x, a3, a4, a5, a6] st (sh, I, R) = ev S d 21 133 [a0, a1, .inl x, a3, a4, a5, a6] (.inl x :: st) (sh, I, R) := (ev_eq f_21_132).trans rfl
theorem f_21_133 : fetch 21 133 = some (133, .invokevirtual 94, 3, [2, 1, 18], 0) := (fm_21 133).trans rfl
theorem u_21_133 {S : Scr} {d : Nat} {a0 a1 a2 a3 a4 a5 a6 : AV} {st : List AV} {sh : Shp} {I : IM} {R : RM} {x0 : Int} {k : Nat} (h : tg sh k = 0) (hr : st.length ≤ 8) : ev S d 21 133 [a0, a1, a2, a3, a4, a5, a6] (.inl x0 :: .inr (.inl k) :: st) (sh, I, R) = bnd (cl d 2 [.inr (.inl k), .inl x0] (sh, I, R)) (fun v M => ev S d 21 136 [a0, a1, a2, a3, a4, a5, a6] (psh v st) M) := (ev_eq f_21_133).trans (congrArg (fin S d 21) (if_pos ⟨h, rfl, hr⟩))
theorem f_21_136 : fetch 21 136 = some (136, .ireturn, 1, [0], 0) := (fm_21 136).trans rfl
theorem u_21_136 {S : Scr} {d : Nat} {a0 a1 a2 a3 a4 a5 a6 : AV} {sh : Shp} {I : IM} {R : RM} {x : Int} : ev S d 21 136 [a0, a1, a2, a3, a4, a5, a6] [.inl x] (sh, I, R) = some (some (.inl x), (sh, I, R)) := (ev_eq f_21_136).trans fin_iret0
theorem f_21_137 : fetch 21 137 = some (137, .iload 6, 2, [6], 0) := (fm_21 137).trans rfl
theorem u_21_137 {S : Scr} {d : Nat} {a0 a1 a2 a3 a4 a5 : AV} {st : List AV} {sh : Shp} {I : IM} {R : RM} {x : Int} : ev S d 21 137 [a0, a1, a2, a3, a4, a5, .inl x] st (sh, I, R) = ev S d 21 139 [a0, a1, a2, a3, a4, a5, .inl x] (.inl x :: st) (sh, I, R) := (ev_eq f_21_137).trans rfl
theorem f_21_139 : fetch 21 139 = some (139, .ireturn, 1, [0], 0) := (fm_21 139).trans rfl
theorem u_21_139 {S : Scr} {d : Nat} {a0 a1 a2 a3 a4 a5 a6 : AV} {sh : Shp} {I : IM} {R : RM} {x : Int} : ev S d 21 139 [a0, a1, a2, a3, a4, a5, a6] [.inl x] (sh, I, R) = some (some (.inl x), (sh, I, R)) := (ev_eq f_21_139).trans fin_iret0
theorem c_22 {d : Nat} {a0 : AV} {M : Mem} : cl (d + 1) 22 [a0] M = ev S0 d 22 0 [a0] [] M := (cl_eq (as := [a0]) (show 1 ≤ maxOf 22 by decide +kernel)).trans rfl
theorem mt_22 : MT[22]? = some m_22 := rfl
theorem fm_22 (pc : Nat) : fetch 22 pc = lk m_22.2.2.2.2.2 pc := by
  unfold fetch
  rw [mt_22]
theorem f_22_0 : fetch 22 0 = some (0, .iload_n 0, 1, [0], 0) := (fm_22 0).trans rfl
theorem u_22_0 {S : Scr} {d : Nat} {st : List AV} {sh : Shp} {I : IM} {R : RM} {x : Int} : ev S d 22 0 [.inl x] st (sh, I, R) = ev S d 22 1 [.inl x] (.inl x :: st) (sh, I, R) := (ev_eq f_22_0).trans rfl
theorem f_22_1 : fetch 22 1 = some (1, .lookupswitch 51 #[(66, 45), (67, 47), (76, 43), (82, 49)], 43, [52, 66, 46, 67, 48, 76, 44, 82, 50], 0) := (fm_22 1).trans rfl
theorem u_22_1 {S : Scr} {d : Nat} {a0 : AV} {st : List AV} {sh : Shp} {I : IM} {R : RM} {x : Int} : ev S d 22 1 [a0] (.inl x :: st) (sh, I, R) = if x = 66 then ev S d 22 46 [a0] st (sh, I, R) else if x = 67 then ev S d 22 48 [a0] st (sh, I, R) else if x = 76 then ev S d 22 44 [a0] st (sh, I, R) else if x = 82 then ev S d 22 50 [a0] st (sh, I, R) else ev S d 22 52 [a0] st (sh, I, R) := by
  rw [ev_eq f_22_1]
  show ev S d 22 (swt 52 x [66, 46, 67, 48, 76, 44, 82, 50]) _ _ _ = _
  rw [ev_sw, ev_sw, ev_sw, ev_sw, ev_sw0]
  rfl
theorem f_22_44 : fetch 22 44 = some (44, .iconst 1, 1, [], 1) := (fm_22 44).trans rfl
theorem u_22_44 {S : Scr} {d : Nat} {a0 : AV} {st : List AV} {sh : Shp} {I : IM} {R : RM} : ev S d 22 44 [a0] st (sh, I, R) = ev S d 22 45 [a0] (.inl 1 :: st) (sh, I, R) := (ev_eq f_22_44).trans rfl
theorem f_22_45 : fetch 22 45 = some (45, .ireturn, 1, [0], 0) := (fm_22 45).trans rfl
theorem u_22_45 {S : Scr} {d : Nat} {a0 : AV} {sh : Shp} {I : IM} {R : RM} {x : Int} : ev S d 22 45 [a0] [.inl x] (sh, I, R) = some (some (.inl x), (sh, I, R)) := (ev_eq f_22_45).trans fin_iret0
theorem f_22_46 : fetch 22 46 = some (46, .iconst 2, 1, [], 2) := (fm_22 46).trans rfl
theorem u_22_46 {S : Scr} {d : Nat} {a0 : AV} {st : List AV} {sh : Shp} {I : IM} {R : RM} : ev S d 22 46 [a0] st (sh, I, R) = ev S d 22 47 [a0] (.inl 2 :: st) (sh, I, R) := (ev_eq f_22_46).trans rfl
theorem f_22_47 : fetch 22 47 = some (47, .ireturn, 1, [0], 0) := (fm_22 47).trans rfl
theorem u_22_47 {S : Scr} {d : Nat} {a0 : AV} {sh : Shp} {I : IM} {R : RM} {x : Int} : ev S d 22 47 [a0] [.inl x] (sh, I, R) = some (some (.inl x), (sh, I, R)) := (ev_eq f_22_47).trans fin_iret0
theorem f_22_48 : fetch 22 48 = some (48, .iconst 3, 1, [], 3) := (fm_22 48).trans rfl
theorem u_22_48 {S : Scr} {d : Nat} {a0 : AV} {st : List AV} {sh : Shp} {I : IM} {R : RM} : ev S d 22 48 [a0] st (sh, I, R) = ev S d 22 49 [a0] (.inl 3 :: st) (sh, I, R) := (ev_eq f_22_48).trans rfl
theorem f_22_49 : fetch 22 49 = some (49, .ireturn, 1, [0], 0) := (fm_22 49).trans rfl
theorem u_22_49 {S : Scr} {d : Nat} {a0 : AV} {sh : Shp} {I : IM} {R : RM} {x : Int} : ev S d 22 49 [a0] [.inl x] (sh, I, R) = some (some (.inl x), (sh, I, R)) := (ev_eq f_22_49).trans fin_iret0
theorem f_22_50 : fetch 22 50 = some (50, .iconst 4, 1, [], 4) := (fm_22 50).trans rfl
theorem u_22_50 {S : Scr} {d : Nat} {a0 : AV} {st : List AV} {sh : Shp} {I : IM} {R : RM} : ev S d 22 50 [a0] st (sh, I, R) = ev S d 22 51 [a0] (.inl 4 :: st) (sh, I, R) := (ev_eq f_22_50).trans rfl
theorem f_22_51 : fetch 22 51 = some (51, .ireturn, 1, [0], 0) := (fm_22 51).trans rfl
theorem u_22_51 {S : Scr} {d : Nat} {a0 : AV} {sh : Shp} {I : IM} {R : RM} {x : Int} : ev S d 22 51 [a0] [.inl x] (sh, I, R) = some (some (.inl x), (sh, I, R)) := (ev_eq f_22_51).trans fin_iret0
theorem f_22_52 : fetch 22 52 = some (52, .iconst 0, 1, [], 0) := (fm_22 52).trans rfl
theorem u_22_52 {S : Scr} {d : Nat} {a0 : AV} {st : List AV} {sh : Shp} {I : IM} {R : RM} : ev S d 22 52 [a0] st (sh, I, R) = ev S d 22 53 [a0] (.inl 0 :: st) (sh, I, R) := (ev_eq f_22_52).trans rfl
theorem f_22_53 : fetch 22 53 = some (53, .ireturn, 1, [0], 0) := (fm_22 53).trans rfl
theorem u_22_53 {S : Scr} {d : Nat} {a0 : AV} {sh : Shp} {I : IM} {R : RM} {x : Int} : ev S d 22 53 [a0] [.inl x] (sh, I, R) = some (some (.inl x), (sh, I, R)) := (ev_eq f_22_53).trans fin_iret0
theorem c_23 {d : Nat} {a0 a1 a2 : AV} {M : Mem} : cl (d + 1) 23 [a0, a1, a2] M = ev S0 d 23 0 [a0, a1, a2] [] M := (cl_eq (as := [a0, a1, a2]) (show 3 ≤ maxOf 23 by decide +kernel)).trans rfl
theorem mt_23 : MT[23]? = some m_23 := rfl
theorem fm_23 (pc : Nat) : fetch 23 pc = lk m_23.2.2.2.2.2 pc := by
  unfold fetch
  rw [mt_23]
theorem f_23_0 : fetch 23 0 = some (0, .iload_n 1, 1, [1], 0) := (fm_23 0).trans rfl
theorem u_23_0 {S : Scr} {d : Nat} {a0 a2 : AV} {st : List AV} {sh : Shp} {I : IM} {R : RM} {x : Int} : ev S d 23 0 [a0, .inl x, a2] st (sh, I, R) = ev S d 23 1 [a0, .inl x, a2] (.inl x :: st) (sh, I, R) := (ev_eq f_23_0).trans rfl
theorem f_23_1 : fetch 23 1 = some (1, .ifCond .ne 5, 3, [6], 0) := (fm_23 1).trans rfl
theorem u_23_1 {S : Scr} {d : Nat} {a0 a1 a2 : AV} {st : List AV} {sh : Shp} {I : IM} {R : RM} {x : Int} : ev S d 23 1 [a0, a1, a2] (.inl x :: st) (sh, I, R) = if ¬ x = 0 then ev S d 23 6 [a0, a1, a2] st (sh, I, R) else ev S d 23 4 [a0, a1, a2] st (sh, I, R) := (ev_eq f_23_1).trans fin_if_ne
theorem f_23_4 : fetch 23 4 = some (4, .iconst 1, 1, [], 1) := (fm_23 4).trans rfl
theorem u_23_4 {S : Scr} {d : Nat} {a0 a1 a2 : AV} {st : List AV} {sh : Shp} {I : IM} {R : RM} : ev S d 23 4 [a0, a1, a2] st (sh, I, R) = ev S d 23 5 [a0, a1, a2] (.inl 1 :: st) (sh, I, R) := (ev_eq f_23_4).trans rfl
theorem f_23_5 : fetch 23 5 = some (5, .ireturn, 1, [0], 0) := (fm_23 5).trans rfl
theorem u_23_5 {S : Scr} {d : Nat} {a0 a1 a2 : AV} {sh : Shp} {I : IM} {R : RM} {x : Int} : ev S d 23 5 [a0, a1, a2] [.inl x] (sh, I, R) = some (some (.inl x), (sh, I, R)) := (ev_eq f_23_5).trans fin_iret0
theorem f_23_6 : fetch 23 6 = some (6, .iload_n 2, 1, [2], 0) := (fm_23 6).trans rfl
theorem u_23_6 {S : Scr} {d : Nat} {a0 a1 : AV} {st : List AV} {sh : Shp} {I : IM} {R : RM} {x : Int} : ev S d 23 6 [a0, a1, .inl x] st (sh, I, R) = ev S d 23 7 [a0, a1, .inl x] (.inl x :: st) (sh, I, R) := (ev_eq f_23_6).trans rfl
theorem f_23_7 : fetch 23 7 = some (7, .bipush 12, 2, [], 12) := (fm_23 7).trans rfl
theorem u_23_7 {S : Scr} {d : Nat} {a0 a1 a2 : AV} {st : List AV} {sh : Shp} {I : IM} {R : RM} : ev S d 23 7 [a0, a1, a2] st (sh, I, R) = ev S d 23 9 [a0, a1, a2] (.inl 12 :: st) (sh, I, R) := (ev_eq f_23_7).trans rfl
theorem f_23_9 : fetch 23 9 = some (9, .if_icmp .lt 5, 3, [14], 0) := (fm_23 9).trans rfl
theorem u_23_9 {S : Scr} {d : Nat} {a0 a1 a2 : AV} {st : List AV} {sh : Shp} {I : IM} {R : RM} {x y : Int} : ev S d 23 9 [a0, a1, a2] (.inl y :: .inl x :: st) (sh, I, R) = if x < y then ev S d 23 14 [a0, a1, a2] st (sh, I, R) else ev S d 23 12 [a0, a1, a2] st (sh, I, R) := (ev_eq f_23_9).trans fin_icmp_lt
theorem f_23_12 : fetch 23 12 = some (12, .iconst 5, 1, [], 5) := (fm_23 12).trans rfl
theorem u_23_12 {S : Scr} {d : Nat} {a0 a1 a2 : AV} {st : List AV} {sh : Shp} {I : IM} {R : RM} : ev S d 23 12 [a0, a1, a2] st (sh, I, R) = ev S d 23 13 [a0, a1, a2] (.inl 5 :: st) (sh, I, R) := (ev_eq f_23_12).trans rfl
theorem f_23_13 : fetch 23 13 = some (13, .ireturn, 1, [0], 0) := (fm_23 13).trans rfl
theorem u_23_13 {S : Scr} {d : Nat} {a0 a1 a2 : AV} {sh : Shp} {I : IM} {R : RM} {x : Int} : ev S d 23 13 [a0, a1, a2] [.inl x] (sh, I, R) = some (some (.inl x), (sh, I, R)) := (ev_eq f_23_13).trans fin_iret0
theorem f_23_14 : fetch 23 14 = some (14, .aload_n 0, 1, [0], 0) := (fm_23 14).trans rfl
theorem u_23_14 {S : Scr} {d : Nat} {a1 a2 : AV} {st : List AV} {sh : Shp} {I : IM} {R : RM} {x : Nat} : ev S d 23 14 [.inr (.inl x), a1, a2] st (sh, I, R) = ev S d 23 15 [.inr (.inl x), a1, a2] (.inr (.inl x) :: st) (sh, I, R) := (ev_eq f_23_14).trans rfl
theorem f_23_15 : fetch 23 15 = some (15, .getfield 31, 3, [2, 0, 1, 10], 0) := (fm_23 15).trans rfl
theorem u_23_15 {S : Scr} {d : Nat} {a0 a1 a2 : AV} {st : List AV} {sh : Shp} {I : IM} {R : RM} {k : Nat} (h : tg sh k = 2) : ev S d 23 15 [a0, a1, a2] (.inr (.inl k) :: st) (sh, I, R) = ev S d 23 18 [a0, a1, a2] (rv (R k 0) :: st) (sh, I, R) := (ev_eq f_23_15).trans (congrArg (fin S d 23) (if_pos h))
theorem f_23_18 : fetch 23 18 = some (18, .invokevirtual 97, 3, [72, 0, 19], 0) := (fm_23 18).trans rfl
theorem u_23_18 {S : Scr} {d : Nat} {a0 a1 a2 : AV} {st : List AV} {sh : Shp} {I : IM} {R : RM} {k : Nat} (h : tg sh k = 7) (hr : st.length ≤ 8) : ev S d 23 18 [a0, a1, a2] (.inr (.inl k) :: st) (sh, I, R) = bnd (cl d 72 [.inr (.inl k)] (sh, I, R)) (fun v M => ev S d 23 21 [a0, a1, a2] (psh v st) M) := (ev_eq f_23_18).trans (congrArg (fin S d 23) (if_pos ⟨h, rfl, hr⟩))
theorem f_23_21 : fetch 23 21 = some (21, .ifCond .eq 7, 3, [28], 0) := (fm_23 21).trans rfl
theorem u_23_21 {S : Scr} {d : Nat} {a0 a1 a2 : AV} {st : List AV} {sh : Shp} {I : IM} {R : RM} {x : Int} : ev S d 23 21 [a0, a1, a2] (.inl x :: st) (sh, I, R) = if x = 0 then ev S d 23 28 [a0, a1, a2] st (sh, I, R) else ev S d 23 24 [a0, a1, a2] st (sh, I, R) := (ev_eq f_23_21).trans fin_if_eq
theorem f_23_24 : fetch 23 24 = some (24, .iconst 4, 1, [], 4) := (fm_23 24).trans rfl
theorem u_23_24 {S : Scr} {d : Nat} {a0 a1 a2 : AV} {st : List AV} {sh : Shp} {I : IM} {R : RM} : ev S d 23 24 [a0, a1, a2] st (sh, I, R) = ev S d 23 25 [a0, a1, a2] (.inl 4 :: st) (sh, I, R) := (ev_eq f_23_24).trans rfl
theorem f_23_25 : fetch 23 25 = some (25, .goto 4, 3, [29], 0) := (fm_23 25).trans rfl
theorem u_23_25 {S : Scr} {d : Nat} {a0 a1 a2 : AV} {st : List AV} {sh : Shp} {I : IM} {R : RM} : ev S d 23 25 [a0, a1, a2] st (sh, I, R) = ev S d 23 29 [a0, a1, a2] st (sh, I, R) := (ev_eq f_23_25).trans rfl
theorem f_23_28 : fetch 23 28 = some (28, .iconst 0, 1, [], 0) := (fm_23 28).trans rfl
theorem u_23_28 {S : Scr} {d : Nat} {a0 a1 a2 : AV} {st : List AV} {sh : Shp} {I : IM} {R : RM} : ev S d 23 28 [a0, a1, a2] st (sh, I, R) = ev S d 23 29 [a0, a1, a2] (.inl 0 :: st) (sh, I, R) := (ev_eq f_23_28).trans rfl
theorem f_23_29 : fetch 23 29 = some (29, .ireturn, 1, [0], 0) := (fm_23 29).trans rfl
theorem u_23_29 {S : Scr} {d : Nat} {a0 a1 a2 : AV} {sh : Shp} {I : IM} {R : RM} {x : Int} : ev S d 23 29 [a0, a1, a2] [.inl x] (sh, I, R) = some (some (.inl x), (sh, I, R)) := (ev_eq f_23_29).trans fin_iret0
theorem c_24 {d : Nat} {a0 : AV} {M : Mem} : cl (d + 1) 24 [a0] M = ev S0 d 24 0 [a0, .inr (.inr 1)] [] M := (cl_eq (as := [a0]) (show 1 ≤ maxOf 24 by decide +kernel)).trans rfl
theorem mt_24 : MT[24]? = some m_24 := rfl
theorem fm_24 (pc : Nat) : fetch 24 pc = lk m_24.2.2.2.2.2 pc := by
  unfold fetch
  rw [mt_24]
theorem f_24_0 : fetch 24 0 = some (0, .aload_n 0, 1, [0], 0) := (fm_24 0).trans rfl
theorem u_24_0 {S : Scr} {d : Nat} {a1 : AV} {st : List AV} {sh : Shp} {I : IM} {R : RM} {x : Nat} : ev S d 24 0 [.inr (.inl x), a1] st (sh, I, R) = ev S d 24 1 [.inr (.inl x), a1] (.inr (.inl x) :: st) (sh, I, R) := (ev_eq f_24_0).trans rfl
theorem f_24_1 : fetch 24 1 = some (1, .invokevirtual 51, 3, [20, 0, 8], 0) := (fm_24 1).trans rfl
theorem u_24_1 {S : Scr} {d : Nat} {a0 a1 : AV} {st : List AV} {sh : Shp} {I : IM} {R : RM} {k : Nat} (h : tg sh k = 2) (hr : st.length ≤ 8) : ev S d 24 1 [a0, a1] (.inr (.inl k) :: st) (sh, I, R) = bnd (cl d 20 [.inr (.inl k)] (sh, I, R)) (fun v M => ev S d 24 4 [a0, a1] (psh v st) M) := (ev_eq f_24_1).trans (congrArg (fin S d 24) (if_pos ⟨h, rfl, hr⟩))
theorem f_24_4 : fetch 24 4 = some (4, .bipush 65, 2, [], 65) := (fm_24 4).trans rfl
theorem u_24_4 {S : Scr} {d : Nat} {a0 a1 : AV} {st : List AV} {sh : Shp} {I : IM} {R : RM} : ev S d 24 4 [a0, a1] st (sh, I, R) = ev S d 24 6 [a0, a1] (.inl 65 :: st) (sh, I, R) := (ev_eq f_24_4).trans rfl
theorem f_24_6 : fetch 24 6 = some (6, .isub, 1, [], 0) := (fm_24 6).trans rfl
theorem u_24_6 {S : Scr} {d : Nat} {a0 a1 : AV} {st : List AV} {sh : Shp} {I : IM} {R : RM} {x y : Int} : ev S d 24 6 [a0, a1] (.inl y :: .inl x :: st) (sh, I, R) = ev S d 24 7 [a0, a1] (.inl (wr (x - y)) :: st) (sh, I, R) := (ev_eq f_24_6).trans rfl
theorem f_24_7 : fetch 24 7 = some (7, .istore_n 1, 1, [1], 0) := (fm_24 7).trans rfl
theorem u_24_7 {S : Scr} {d : Nat} {a0 a1 : AV} {st : List AV} {sh : Shp} {I : IM} {R : RM} {x : Int} : ev S d 24 7 [a0, a1] (.inl x :: st) (sh, I, R) = ev S d 24 8 [a0, .inl x] st (sh, I, R) := (ev_eq f_24_7).trans rfl
theorem f_24_8 : fetch 24 8 = some (8, .iload_n 1, 1, [1], 0) := (fm_24 8).trans rfl
theorem u_24_8 {S : Scr} {d : Nat} {a0 : AV} {st : List AV} {sh : Shp} {I : IM} {R : RM} {x : Int} : ev S d 24 8 [a0, .inl x] st (sh, I, R) = ev S d 24 9 [a0, .inl x] (.inl x :: st) (sh, I, R) := (ev_eq f_24_8).trans rfl
theorem f_24_9 : fetch 24 9 = some (9, .ifCond .lt 9, 3, [18], 0) := (fm_24 9).trans rfl
theorem u_24_9 {S : Scr} {d : Nat} {a0 a1 : AV} {st : List AV} {sh : Shp} {I : IM} {R : RM} {x : Int} : ev S d 24 9 [a0, a1] (.inl x :: st) (sh, I, R) = if x < 0 then ev S d 24 18 [a0, a1] st (sh, I, R) else ev S d 24 12 [a0, a1] st (sh, I, R) := (ev_eq f_24_9).trans fin_if_lt
theorem f_24_12 : fetch 24 12 = some (12, .iload_n 1, 1, [1], 0) := (fm_24 12).trans rfl
theorem u_24_12 {S : Scr} {d : Nat} {a0 : AV} {st : List AV} {sh : Shp} {I : IM} {R : RM} {x : Int} : ev S d 24 12 [a0, .inl x] st (sh, I, R) = ev S d 24 13 [a0, .inl x] (.inl x :: st) (sh, I, R) := (ev_eq f_24_12).trans rfl
theorem f_24_13 : fetch 24 13 = some (13, .bipush 30, 2, [], 30) := (fm_24 13).trans rfl
theorem u_24_13 {S : Scr} {d : Nat} {a0 a1 : AV} {st : List AV} {sh : Shp} {I : IM} {R : RM} : ev S d 24 13 [a0, a1] st (sh, I, R) = ev S d 24 15 [a0, a1] (.inl 30 :: st) (sh, I, R) := (ev_eq f_24_13).trans rfl
theorem f_24_15 : fetch 24 15 = some (15, .if_icmp .lt 16, 3, [31], 0) := (fm_24 15).trans rfl
theorem u_24_15 {S : Scr} {d : Nat} {a0 a1 : AV} {st : List AV} {sh : Shp} {I : IM} {R : RM} {x y : Int} : ev S d 24 15 [a0, a1] (.inl y :: .inl x :: st) (sh, I, R) = if x < y then ev S d 24 31 [a0, a1] st (sh, I, R) else ev S d 24 18 [a0, a1] st (sh, I, R) := (ev_eq f_24_15).trans fin_icmp_lt
theorem f_24_18 : fetch 24 18 = some (18, .aload_n 0, 1, [0], 0) := (fm_24 18).trans rfl
theorem u_24_18 {S : Scr} {d : Nat} {a1 : AV} {st : List AV} {sh : Shp} {I : IM} {R : RM} {x : Nat} : ev S d 24 18 [.inr (.inl x), a1] st (sh, I, R) = ev S d 24 19 [.inr (.inl x), a1] (.inr (.inl x) :: st) (sh, I, R) := (ev_eq f_24_18).trans rfl
theorem f_24_19 : fetch 24 19 = some (19, .getfield 12, 3, [2, 1, 1, 7], 0) := (fm_24 19).trans rfl
theorem u_24_19 {S : Scr} {d : Nat} {a0 a1 : AV} {st : List AV} {sh : Shp} {I : IM} {R : RM} {k : Nat} (h : tg sh k = 2) : ev S d 24 19 [a0, a1] (.inr (.inl k) :: st) (sh, I, R) = ev S d 24 22 [a0, a1] (rv (R k 1) :: st) (sh, I, R) := (ev_eq f_24_19).trans (congrArg (fin S d 24) (if_pos h))
theorem f_24_22 : fetch 24 22 = some (22, .aload_n 0, 1, [0], 0) := (fm_24 22).trans rfl
theorem u_24_22 {S : Scr} {d : Nat} {a1 : AV} {st : List AV} {sh : Shp} {I : IM} {R : RM} {x : Nat} : ev S d 24 22 [.inr (.inl x), a1] st (sh, I, R) = ev S d 24 23 [.inr (.inl x), a1] (.inr (.inl x) :: st) (sh, I, R) := (ev_eq f_24_22).trans rfl
theorem f_24_23 : fetch 24 23 = some (23, .getfield 39, 3, [2, 6, 0, 12], 0) := (fm_24 23).trans rfl
theorem u_24_23 {S : Scr} {d : Nat} {a0 a1 : AV} {st : List AV} {sh : Shp} {I : IM} {R : RM} {k : Nat} (h : tg sh k = 2) : ev S d 24 23 [a0, a1] (.inr (.inl k) :: st) (sh, I, R) = ev S d 24 26 [a0, a1] (.inl (I k 6) :: st) (sh, I, R) := (ev_eq f_24_23).trans (congrArg (fin S d 24) (if_pos h))
theorem f_24_26 : fetch 24 26 = some (26, .iconst 1, 1, [], 1) := (fm_24 26).trans rfl
theorem u_24_26 {S : Scr} {d : Nat} {a0 a1 : AV} {st : List AV} {sh : Shp} {I : IM} {R : RM} : ev S d 24 26 [a0, a1] st (sh, I, R) = ev S d 24 27 [a0, a1] (.inl 1 :: st) (sh, I, R) := (ev_eq f_24_26).trans rfl
theorem f_24_27 : fetch 24 27 = some (27, .invokevirtual 55, 3, [1, 2, 9], 0) := (fm_24 27).trans rfl
theorem u_24_27 {S : Scr} {d : Nat} {a0 a1 : AV} {st : List AV} {sh : Shp} {I : IM} {R : RM} {x0 : Int} {x1 : Int} {k : Nat} (h : tg sh k = 0) (hr : st.length ≤ 8) : ev S d 24 27 [a0, a1] (.inl x1 :: .inl x0 :: .inr (.inl k) :: st) (sh, I, R) = bnd (cl d 1 [.inr (.inl k), .inl x0, .inl x1] (sh, I, R)) (fun v M => ev S d 24 30 [a0, a1] (psh v st) M) := (ev_eq f_24_27).trans (congrArg (fin S d 24) (if_pos ⟨h, rfl, hr⟩))
theorem f_24_30 : fetch 24 30 = some (30, .ireturn, 1, [0], 0) := (fm_24 30).trans rfl
theorem u_24_30 {S : Scr} {d : Nat} {a0 a1 : AV} {sh : Shp} {I : IM} {R : RM} {x : Int} : ev S d 24 30 [a0, a1] [.inl x] (sh, I, R) = some (some (.inl x), (sh, I, R)) := (ev_eq f_24_30).trans fin_iret0
theorem f_24_31 : fetch 24 31 = some (31, .iload_n 1, 1, [1], 0) := (fm_24 31).trans rfl
theorem u_24_31 {S : Scr} {d : Nat} {a0 : AV} {st : List AV} {sh : Shp} {I : IM} {R : RM} {x : Int} : ev S d 24 31 [a0, .inl x] st (sh, I, R) = ev S d 24 32 [a0, .inl x] (.inl x :: st) (sh, I, R) := (ev_eq f_24_31).trans rfl
theorem f_24_32 : fetch 24 32 = some (32, .aload_n 0, 1, [0], 0) := (fm_24 32).trans rfl
theorem u_24_32 {S : Scr} {d : Nat} {a1 : AV} {st : List AV} {sh : Shp} {I : IM} {R : RM} {x : Nat} : ev S d 24 32 [.inr (.inl x), a1] st (sh, I, R) = ev S d 24 33 [.inr (.inl x), a1] (.inr (.inl x) :: st) (sh, I, R) := (ev_eq f_24_32).trans rfl
theorem f_24_33 : fetch 24 33 = some (33, .getfield 43, 3, [2, 4, 0, 13], 0) := (fm_24 33).trans rfl
theorem u_24_33 {S : Scr} {d : Nat} {a0 a1 : AV} {st : List AV} {sh : Shp} {I : IM} {R : RM} {k : Nat} (h : tg sh k = 2) : ev S d 24 33 [a0, a1] (.inr (.inl k) :: st) (sh, I, R) = ev S d 24 36 [a0, a1] (.inl (I k 4) :: st) (sh, I, R) := (ev_eq f_24_33).trans (congrArg (fin S d 24) (if_pos h))
theorem f_24_36 : fetch 24 36 = some (36, .if_icmp .lt 16, 3, [52], 0) := (fm_24 36).trans rfl
theorem u_24_36 {S : Scr} {d : Nat} {a0 a1 : AV} {st : List AV} {sh : Shp} {I : IM} {R : RM} {x y : Int} : ev S d 24 36 [a0, a1] (.inl y :: .inl x :: st) (sh, I, R) = if x < y then ev S d 24 52 [a0, a1] st (sh, I, R) else ev S d 24 39 [a0, a1] st (sh, I, R) := (ev_eq f_24_36).trans fin_icmp_lt
theorem f_24_39 : fetch 24 39 = some (39, .aload_n 0, 1, [0], 0) := (fm_24 39).trans rfl
theorem u_24_39 {S : Scr} {d : Nat} {a1 : AV} {st : List AV} {sh : Shp} {I : IM} {R : RM} {x : Nat} : ev S d 24 39 [.inr (.inl x), a1] st (sh, I, R) = ev S d 24 40 [.inr (.inl x), a1] (.inr (.inl x) :: st) (sh, I, R) := (ev_eq f_24_39).trans rfl
theorem f_24_40 : fetch 24 40 = some (40, .getfield 12, 3, [2, 1, 1, 7], 0) := (fm_24 40).trans rfl
theorem u_24_40 {S : Scr} {d : Nat} {a0 a1 : AV} {st : List AV} {sh : Shp} {I : IM} {R : RM} {k : Nat} (h : tg sh k = 2) : ev S d 24 40 [a0, a1] (.inr (.inl k) :: st) (sh, I, R) = ev S d 24 43 [a0, a1] (rv (R k 1) :: st) (sh, I, R) := (ev_eq f_24_40).trans (congrArg (fin S d 24) (if_pos h))
theorem f_24_43 : fetch 24 43 = some (43, .aload_n 0, 1, [0], 0) := (fm_24 43).trans rfl
theorem u_24_43 {S : Scr} {d : Nat} {a1 : AV} {st : List AV} {sh : Shp} {I : IM} {R : RM} {x : Nat} : ev S d 24 43 [.inr (.inl x), a1] st (sh, I, R) = ev S d 24 44 [.inr (.inl x), a1] (.inr (.inl x) :: st) (sh, I, R) := (ev_eq f_24_43).trans rfl
theorem f_24_44 : fetch 24 44 = some (44, .getfield 39, 3, [2, 6, 0, 12], 0) := (fm_24 44).trans rfl
theorem u_24_44 {S : Scr} {d : Nat} {a0 a1 : AV} {st : List AV} {sh : Shp} {I : IM} {R : RM} {k : Nat} (h : tg sh k = 2) : ev S d 24 44 [a0, a1] (.inr (.inl k) :: st) (sh, I, R) = ev S d 24 47 [a0, a1] (.inl (I k 6) :: st) (sh, I, R) := (ev_eq f_24_44).trans (congrArg (fin S d 24) (if_pos h))
theorem f_24_47 : fetch 24 47 = some (47, .iconst 2, 1, [], 2) := (fm_24 47).trans rfl
theorem u_24_47 {S : Scr} {d : Nat} {a0 a1 : AV} {st : List AV} {sh : Shp} {I : IM} {R : RM} : ev S d 24 47 [a0, a1] st (sh, I, R) = ev S d 24 48 [a0, a1] (.inl 2 :: st) (sh, I, R) := (ev_eq f_24_47).trans rfl
theorem f_24_48 : fetch 24 48 = some (48, .invokevirtual 55, 3, [1, 2, 9], 0) := (fm_24 48).trans rfl
theorem u_24_48 {S : Scr} {d : Nat} {a0 a1 : AV} {st : List AV} {sh : Shp} {I : IM} {R : RM} {x0 : Int} {x1 : Int} {k : Nat} (h : tg sh k = 0) (hr : st.length ≤ 8) : ev S d 24 48 [a0, a1] (.inl x1 :: .inl x0 :: .inr (.inl k) :: st) (sh, I, R) = bnd (cl d 1 [.inr (.inl k), .inl x0, .inl x1] (sh, I, R)) (fun v M => ev S d 24 51 [a0, a1] (psh v st) M) := (ev_eq f_24_48).trans (congrArg (fin S d 24) (if_pos ⟨h, rfl, hr⟩))
theorem f_24_51 : fetch 24 51 = some (51, .ireturn, 1, [0], 0) := (fm_24 51).trans rfl
theorem u_24_51 {S : Scr} {d : Nat} {a0 a1 : AV} {sh : Shp} {I : IM} {R : RM} {x : Int} : ev S d 24 51 [a0, a1] [.inl x] (sh, I, R) = some (some (.inl x), (sh, I, R)) := (ev_eq f_24_51).trans fin_iret0
theorem f_24_52 : fetch 24 52 = some (52, .aload_n 0, 1, [0], 0) := (fm_24 52).trans rfl
theorem u_24_52 {S : Scr} {d : Nat} {a1 : AV} {st : List AV} {sh : Shp} {I : IM} {R : RM} {x : Nat} : ev S d 24 52 [.inr (.inl x), a1] st (sh, I, R) = ev S d 24 53 [.inr (.inl x), a1] (.inr (.inl x) :: st) (sh, I, R) := (ev_eq f_24_52).trans rfl
theorem f_24_53 : fetch 24 53 = some (53, .dup, 1, [], 0) := (fm_24 53).trans rfl
theorem u_24_53 {S : Scr} {d : Nat} {a0 a1 : AV} {st : List AV} {sh : Shp} {I : IM} {R : RM} {x : AV} : ev S d 24 53 [a0, a1] (x :: st) (sh, I, R) = ev S d 24 54 [a0, a1] (x :: x :: st) (sh, I, R) := (ev_eq f_24_53).trans rfl
theorem f_24_54 : fetch 24 54 = some (54, .getfield 39, 3, [2, 6, 0, 12], 0) := (fm_24 54).trans rfl
theorem u_24_54 {S : Scr} {d : Nat} {a0 a1 : AV} {st : List AV} {sh : Shp} {I : IM} {R : RM} {k : Nat} (h : tg sh k = 2) : ev S d 24 54 [a0, a1] (.inr (.inl k) :: st) (sh, I, R) = ev S d 24 57 [a0, a1] (.inl (I k 6) :: st) (sh, I, R) := (ev_eq f_24_54).trans (congrArg (fin S d 24) (if_pos h))
theorem f_24_57 : fetch 24 57 = some (57, .iconst 1, 1, [], 1) := (fm_24 57).trans rfl
theorem u_24_57 {S : Scr} {d : Nat} {a0 a1 : AV} {st : List AV} {sh : Shp} {I : IM} {R : RM} : ev S d 24 57 [a0, a1] st (sh, I, R) = ev S d 24 58 [a0, a1] (.inl 1 :: st) (sh, I, R) := (ev_eq f_24_57).trans rfl
theorem f_24_58 : fetch 24 58 = some (58, .iadd, 1, [], 0) := (fm_24 58).trans rfl
theorem u_24_58 {S : Scr} {d : Nat} {a0 a1 : AV} {st : List AV} {sh : Shp} {I : IM} {R : RM} {x y : Int} : ev S d 24 58 [a0, a1] (.inl y :: .inl x :: st) (sh, I, R) = ev S d 24 59 [a0, a1] (.inl (wr (x + y)) :: st) (sh, I, R) := (ev_eq f_24_58).trans rfl
theorem f_24_59 : fetch 24 59 = some (59, .putfield 39, 3, [2, 6, 0, 12], 0) := (fm_24 59).trans rfl
theorem u_24_59 {S : Scr} {d : Nat} {a0 a1 : AV} {st : List AV} {sh : Shp} {I : IM} {R : RM} {k : Nat} {x : Int} (h : tg sh k = 2) : ev S d 24 59 [a0, a1] (.inl x :: .inr (.inl k) :: st) (sh, I, R) = ev S d 24 62 [a0, a1] st (sh, up I k 6 x, R) := (ev_eq f_24_59).trans (congrArg (fin S d 24) (if_pos h))
theorem f_24_62 : fetch 24 62 = some (62, .aload_n 0, 1, [0], 0) := (fm_24 62).trans rfl
theorem u_24_62 {S : Scr} {d : Nat} {a1 : AV} {st : List AV} {sh : Shp} {I : IM} {R : RM} {x : Nat} : ev S d 24 62 [.inr (.inl x), a1] st (sh, I, R) = ev S d 24 63 [.inr (.inl x), a1] (.inr (.inl x) :: st) (sh, I, R) := (ev_eq f_24_62).trans rfl
theorem f_24_63 : fetch 24 63 = some (63, .getfield 27, 3, [2, 3, 1, 9], 0) := (fm_24 63).trans rfl
theorem u_24_63 {S : Scr} {d : Nat} {a0 a1 : AV} {st : List AV} {sh : Shp} {I : IM} {R : RM} {k : Nat} (h : tg sh k = 2) : ev S d 24 63 [a0, a1] (.inr (.inl k) :: st) (sh, I, R) = ev S d 24 66 [a0, a1] (rv (R k 3) :: st) (sh, I, R) := (ev_eq f_24_63).trans (congrArg (fin S d 24) (if_pos h))
theorem f_24_66 : fetch 24 66 = some (66, .iload_n 1, 1, [1], 0) := (fm_24 66).trans rfl
theorem u_24_66 {S : Scr} {d : Nat} {a0 : AV} {st : List AV} {sh : Shp} {I : IM} {R : RM} {x : Int} : ev S d 24 66 [a0, .inl x] st (sh, I, R) = ev S d 24 67 [a0, .inl x] (.inl x :: st) (sh, I, R) := (ev_eq f_24_66).trans rfl
theorem f_24_67 : fetch 24 67 = some (67, .iaload, 1, [], 0) := (fm_24 67).trans rfl
theorem u_24_67 {S : Scr} {d : Nat} {a0 a1 : AV} {st : List AV} {sh : Shp} {I : IM} {R : RM} {k : Nat} {i : Int} (h : tg sh k = 100) (h0 : 0 ≤ i) (h1 : i < ln sh k) : ev S d 24 67 [a0, a1] (.inl i :: .inr (.inl k) :: st) (sh, I, R) = ev S d 24 68 [a0, a1] (.inl (I k i) :: st) (sh, I, R) := (ev_eq f_24_67).trans (congrArg (fin S d 24) (if_pos ⟨h, h0, h1⟩))
theorem f_24_68 : fetch 24 68 = some (68, .ireturn, 1, [0], 0) := (fm_24 68).trans rfl
theorem u_24_68 {S : Scr} {d : Nat} {a0 a1 : AV} {sh : Shp} {I : IM} {R : RM} {x : Int} : ev S d 24 68 [a0, a1] [.inl x] (sh, I, R) = some (some (.inl x), (sh, I, R)) := (ev_eq f_24_68).trans fin_iret0
theorem c_25 {d : Nat} {a0 : AV} {M : Mem} : cl (d + 1) 25 [a0] M = ev S0 d 25 0 [a0, .inr (.inr 1), .inr (.inr 1)] [] M := (cl_eq (as := [a0]) (show 1 ≤ maxOf 25 by decide +kernel)).trans rfl
theorem mt_25 : MT[25]? = some m_25 := rfl
theorem fm_25 (pc : Nat) : fetch 25 pc = lk m_25.2.2.2.2.2 pc := by
  unfold fetch
  rw [mt_25]
theorem f_25_0 : fetch 25 0 = some (0, .aload_n 0, 1, [0], 0) := (fm_25 0).trans rfl
theorem u_25_0 {S : Scr} {d : Nat} {a1 a2 : AV} {st : List AV} {sh : Shp} {I : IM} {R : RM} {x : Nat} : ev S d 25 0 [.inr (.inl x), a1, a2] st (sh, I, R) = ev S d 25 1 [.inr (.inl x), a1, a2] (.inr (.inl x) :: st) (sh, I, R) := (ev_eq f_25_0).trans rfl
theorem f_25_1 : fetch 25 1 = some (1, .iconst 0, 1, [], 0) := (fm_25 1).trans rfl
theorem u_25_1 {S : Scr} {d : Nat} {a0 a1 a2 : AV} {st : List AV} {sh : Shp} {I : IM} {R : RM} : ev S d 25 1 [a0, a1, a2] st (sh, I, R) = ev S d 25 2 [a0, a1, a2] (.inl 0 :: st) (sh, I, R) := (ev_eq f_25_1).trans rfl
theorem f_25_2 : fetch 25 2 = some (2, .iconst 3, 1, [], 3) := (fm_25 2).trans rfl
theorem u_25_2 {S : Scr} {d : Nat} {a0 a1 a2 : AV} {st : List AV} {sh : Shp} {I : IM} {R : RM} : ev S d 25 2 [a0, a1, a2] st (sh, I, R) = ev S d 25 3 [a0, a1, a2] (.inl 3 :: st) (sh, I, R) := (ev_eq f_25_2).trans rfl
theorem f_25_3 : fetch 25 3 = some (3, .invokevirtual 101, 3, [28, 2, 20], 0) := (fm_25 3).trans rfl
theorem u_25_3 {S : Scr} {d : Nat} {a0 a1 a2 : AV} {st : List AV} {sh : Shp} {I : IM} {R : RM} {x0 : Int} {x1 : Int} {k : Nat} (h : tg sh k = 2) (hr : st.length ≤ 8) : ev S d 25 3 [a0, a1, a2] (.inl x1 :: .inl x0 :: .inr (.inl k) :: st) (sh, I, R) = bnd (cl d 28 [.inr (.inl k), .inl x0, .inl x1] (sh, I, R)) (fun v M => ev S d 25 6 [a0, a1, a2] (psh v st) M) := (ev_eq f_25_3).trans (congrArg (fin S d 25) (if_pos ⟨h, rfl, hr⟩))
theorem f_25_6 : fetch 25 6 = some (6, .istore_n 1, 1, [1], 0) := (fm_25 6).trans rfl
theorem u_25_6 {S : Scr} {d : Nat} {a0 a1 a2 : AV} {st : List AV} {sh : Shp} {I : IM} {R : RM} {x : Int} : ev S d 25 6 [a0, a1, a2] (.inl x :: st) (sh, I, R) = ev S d 25 7 [a0, .inl x, a2] st (sh, I, R) := (ev_eq f_25_6).trans rfl
theorem f_25_7 : fetch 25 7 = some (7, .iload_n 1, 1, [1], 0) := (fm_25 7).trans rfl
theorem u_25_7 {S : Scr} {d : Nat} {a0 a2 : AV} {st : List AV} {sh : Shp} {I : IM} {R : RM} {x : Int} : ev S d 25 7 [a0, .inl x, a2] st (sh, I, R) = ev S d 25 8 [a0, .inl x, a2] (.inl x :: st) (sh, I, R) := (ev_eq f_25_7).trans rfl
theorem f_25_8 : fetch 25 8 = some (8, .ldc 50, 2, [2], (-1000000)) := (fm_25 8).trans rfl
theorem u_25_8 {S : Scr} {d : Nat} {a0 a1 a2 : AV} {st : List AV} {sh : Shp} {I : IM} {R : RM} : ev S d 25 8 [a0, a1, a2] st (sh, I, R) = ev S d 25 10 [a0, a1, a2] (.inl (-1000000) :: st) (sh, I, R) := (ev_eq f_25_8).trans rfl
theorem f_25_10 : fetch 25 10 = some (10, .if_icmp .ne 8, 3, [18], 0) := (fm_25 10).trans rfl
theorem u_25_10 {S : Scr} {d : Nat} {a0 a1 a2 : AV} {st : List AV} {sh : Shp} {I : IM} {R : RM} {x y : Int} : ev S d 25 10 [a0, a1, a2] (.inl y :: .inl x :: st) (sh, I, R) = if ¬ x = y then ev S d 25 18 [a0, a1, a2] st (sh, I, R) else ev S d 25 13 [a0, a1, a2] st (sh, I, R) := (ev_eq f_25_10).trans fin_icmp_ne
theorem f_25_13 : fetch 25 13 = some (13, .ldc 50, 2, [2], (-1000000)) := (fm_25 13).trans rfl
theorem u_25_13 {S : Scr} {d : Nat} {a0 a1 a2 : AV} {st : List AV} {sh : Shp} {I : IM} {R : RM} : ev S d 25 13 [a0, a1, a2] st (sh, I, R) = ev S d 25 15 [a0, a1, a2] (.inl (-1000000) :: st) (sh, I, R) := (ev_eq f_25_13).trans rfl
theorem f_25_15 : fetch 25 15 = some (15, .goto 10, 3, [25], 0) := (fm_25 15).trans rfl
theorem u_25_15 {S : Scr} {d : Nat} {a0 a1 a2 : AV} {st : List AV} {sh : Shp} {I : IM} {R : RM} : ev S d 25 15 [a0, a1, a2] st (sh, I, R) = ev S d 25 25 [a0, a1, a2] st (sh, I, R) := (ev_eq f_25_15).trans rfl
theorem f_25_18 : fetch 25 18 = some (18, .aload_n 0, 1, [0], 0) := (fm_25 18).trans rfl
theorem u_25_18 {S : Scr} {d : Nat} {a1 a2 : AV} {st : List AV} {sh : Shp} {I : IM} {R : RM} {x : Nat} : ev S d 25 18 [.inr (.inl x), a1, a2] st (sh, I, R) = ev S d 25 19 [.inr (.inl x), a1, a2] (.inr (.inl x) :: st) (sh, I, R) := (ev_eq f_25_18).trans rfl
theorem f_25_19 : fetch 25 19 = some (19, .iconst 0, 1, [], 0) := (fm_25 19).trans rfl
theorem u_25_19 {S : Scr} {d : Nat} {a0 a1 a2 : AV} {st : List AV} {sh : Shp} {I : IM} {R : RM} : ev S d 25 19 [a0, a1, a2] st (sh, I, R) = ev S d 25 20 [a0, a1, a2] (.inl 0 :: st) (sh, I, R) := (ev_eq f_25_19).trans rfl
theorem f_25_20 : fetch 25 20 = some (20, .bipush 6, 2, [], 6) := (fm_25 20).trans rfl
theorem u_25_20 {S : Scr} {d : Nat} {a0 a1 a2 : AV} {st : List AV} {sh : Shp} {I : IM} {R : RM} : ev S d 25 20 [a0, a1, a2] st (sh, I, R) = ev S d 25 22 [a0, a1, a2] (.inl 6 :: st) (sh, I, R) := (ev_eq f_25_20).trans rfl
theorem f_25_22 : fetch 25 22 = some (22, .invokevirtual 101, 3, [28, 2, 20], 0) := (fm_25 22).trans rfl
theorem u_25_22 {S : Scr} {d : Nat} {a0 a1 a2 : AV} {st : List AV} {sh : Shp} {I : IM} {R : RM} {x0 : Int} {x1 : Int} {k : Nat} (h : tg sh k = 2) (hr : st.length ≤ 8) : ev S d 25 22 [a0, a1, a2] (.inl x1 :: .inl x0 :: .inr (.inl k) :: st) (sh, I, R) = bnd (cl d 28 [.inr (.inl k), .inl x0, .inl x1] (sh, I, R)) (fun v M => ev S d 25 25 [a0, a1, a2] (psh v st) M) := (ev_eq f_25_22).trans (congrArg (fin S d 25) (if_pos ⟨h, rfl, hr⟩))
theorem f_25_25 : fetch 25 25 = some (25, .istore_n 2, 1, [2], 0) := (fm_25 25).trans rfl
theorem u_25_25 {S : Scr} {d : Nat} {a0 a1 a2 : AV} {st : List AV} {sh : Shp} {I : IM} {R : RM} {x : Int} : ev S d 25 25 [a0, a1, a2] (.inl x :: st) (sh, I, R) = ev S d 25 26 [a0, a1, .inl x] st (sh, I, R) := (ev_eq f_25_25).trans rfl
theorem f_25_26 : fetch 25 26 = some (26, .iload_n 2, 1, [2], 0) := (fm_25 26).trans rfl
theorem u_25_26 {S : Scr} {d : Nat} {a0 a1 : AV} {st : List AV} {sh : Shp} {I : IM} {R : RM} {x : Int} : ev S d 25 26 [a0, a1, .inl x] st (sh, I, R) = ev S d 25 27 [a0, a1, .inl x] (.inl x :: st) (sh, I, R) := (ev_eq f_25_26).trans rfl
theorem f_25_27 : fetch 25 27 = some (27, .ldc 50, 2, [2], (-1000000)) := (fm_25 27).trans rfl
theorem u_25_27 {S : Scr} {d : Nat} {a0 a1 a2 : AV} {st : List AV} {sh : Shp} {I : IM} {R : RM} : ev S d 25 27 [a0, a1, a2] st (sh, I, R) = ev S d 25 29 [a0, a1, a2] (.inl (-1000000) :: st) (sh, I, R) := (ev_eq f_25_27).trans rfl
theorem f_25_29 : fetch 25 29 = some (29, .if_icmp .ne 8, 3, [37], 0) := (fm_25 29).trans rfl
theorem u_25_29 {S : Scr} {d : Nat} {a0 a1 a2 : AV} {st : List AV} {sh : Shp} {I : IM} {R : RM} {x y : Int} : ev S d 25 29 [a0, a1, a2] (.inl y :: .inl x :: st) (sh, I, R) = if ¬ x = y then ev S d 25 37 [a0, a1, a2] st (sh, I, R) else ev S d 25 32 [a0, a1, a2] st (sh, I, R) := (ev_eq f_25_29).trans fin_icmp_ne
theorem f_25_32 : fetch 25 32 = some (32, .ldc 50, 2, [2], (-1000000)) := (fm_25 32).trans rfl
theorem u_25_32 {S : Scr} {d : Nat} {a0 a1 a2 : AV} {st : List AV} {sh : Shp} {I : IM} {R : RM} : ev S d 25 32 [a0, a1, a2] st (sh, I, R) = ev S d 25 34 [a0, a1, a2] (.inl (-1000000) :: st) (sh, I, R) := (ev_eq f_25_32).trans rfl
theorem f_25_34 : fetch 25 34 = some (34, .goto 10, 3, [44], 0) := (fm_25 34).trans rfl
theorem u_25_34 {S : Scr} {d : Nat} {a0 a1 a2 : AV} {st : List AV} {sh : Shp} {I : IM} {R : RM} : ev S d 25 34 [a0, a1, a2] st (sh, I, R) = ev S d 25 44 [a0, a1, a2] st (sh, I, R) := (ev_eq f_25_34).trans rfl
theorem f_25_37 : fetch 25 37 = some (37, .aload_n 0, 1, [0], 0) := (fm_25 37).trans rfl
theorem u_25_37 {S : Scr} {d : Nat} {a1 a2 : AV} {st : List AV} {sh : Shp} {I : IM} {R : RM} {x : Nat} : ev S d 25 37 [.inr (.inl x), a1, a2] st (sh, I, R) = ev S d 25 38 [.inr (.inl x), a1, a2] (.inr (.inl x) :: st) (sh, I, R) := (ev_eq f_25_37).trans rfl
theorem f_25_38 : fetch 25 38 = some (38, .iconst 4, 1, [], 4) := (fm_25 38).trans rfl
theorem u_25_38 {S : Scr} {d : Nat} {a0 a1 a2 : AV} {st : List AV} {sh : Shp} {I : IM} {R : RM} : ev S d 25 38 [a0, a1, a2] st (sh, I, R) = ev S d 25 39 [a0, a1, a2] (.inl 4 :: st) (sh, I, R) := (ev_eq f_25_38).trans rfl
theorem f_25_39 : fetch 25 39 = some (39, .iload_n 1, 1, [1], 0) := (fm_25 39).trans rfl
theorem u_25_39 {S : Scr} {d : Nat} {a0 a2 : AV} {st : List AV} {sh : Shp} {I : IM} {R : RM} {x : Int} : ev S d 25 39 [a0, .inl x, a2] st (sh, I, R) = ev S d 25 40 [a0, .inl x, a2] (.inl x :: st) (sh, I, R) := (ev_eq f_25_39).trans rfl
theorem f_25_40 : fetch 25 40 = some (40, .iload_n 2, 1, [2], 0) := (fm_25 40).trans rfl
theorem u_25_40 {S : Scr} {d : Nat} {a0 a1 : AV} {st : List AV} {sh : Shp} {I : IM} {R : RM} {x : Int} : ev S d 25 40 [a0, a1, .inl x] st (sh, I, R) = ev S d 25 41 [a0, a1, .inl x] (.inl x :: st) (sh, I, R) := (ev_eq f_25_40).trans rfl
theorem f_25_41 : fetch 25 41 = some (41, .invokevirtual 104, 3, [27, 3, 21], 0) := (fm_25 41).trans rfl
theorem u_25_41 {S : Scr} {d : Nat} {a0 a1 a2 : AV} {st : List AV} {sh : Shp} {I : IM} {R : RM} {x0 : Int} {x1 : Int} {x2 : Int} {k : Nat} (h : tg sh k = 2) (hr : st.length ≤ 8) : ev S d 25 41 [a0, a1, a2] (.inl x2 :: .inl x1 :: .inl x0 :: .inr (.inl k) :: st) (sh, I, R) = bnd (cl d 27 [.inr (.inl k), .inl x0, .inl x1, .inl x2] (sh, I, R)) (fun v M => ev S d 25 44 [a0, a1, a2] (psh v st) M) := (ev_eq f_25_41).trans (congrArg (fin S d 25) (if_pos ⟨h, rfl, hr⟩))
theorem f_25_44 : fetch 25 44 = some (44, .ireturn, 1, [0], 0) := (fm_25 44).trans rfl
theorem u_25_44 {S : Scr} {d : Nat} {a0 a1 a2 : AV} {sh : Shp} {I : IM} {R : RM} {x : Int} : ev S d 25 44 [a0, a1, a2] [.inl x] (sh, I, R) = some (some (.inl x), (sh, I, R)) := (ev_eq f_25_44).trans fin_iret0
theorem c_26 {d : Nat} {a0 a1 : AV} {M : Mem} : cl (d + 1) 26 [a0, a1] M = ev S0 d 26 0 [a0, a1, .inr (.inr 1), .inr (.inr 1)] [] M := (cl_eq (as := [a0, a1]) (show 2 ≤ maxOf 26 by decide +kernel)).trans rfl
theorem mt_26 : MT[26]? = some m_26 := rfl
theorem fm_26 (pc : Nat) : fetch 26 pc = lk m_26.2.2.2.2.2 pc := by
  unfold fetch
  rw [mt_26]
theorem f_26_0 : fetch 26 0 = some (0, .aload_n 0, 1, [0], 0) := (fm_26 0).trans rfl
theorem u_26_0 {S : Scr} {d : Nat} {a1 a2 a3 : AV} {st : List AV} {sh : Shp} {I : IM} {R : RM} {x : Nat} : ev S d 26 0 [.inr (.inl x), a1, a2, a3] st (sh, I, R) = ev S d 26 1 [.inr (.inl x), a1, a2, a3] (.inr (.inl x) :: st) (sh, I, R) := (ev_eq f_26_0).trans rfl
theorem f_26_1 : fetch 26 1 = some (1, .iconst 1, 1, [], 1) := (fm_26 1).trans rfl
theorem u_26_1 {S : Scr} {d : Nat} {a0 a1 a2 a3 : AV} {st : List AV} {sh : Shp} {I : IM} {R : RM} : ev S d 26 1 [a0, a1, a2, a3] st (sh, I, R) = ev S d 26 2 [a0, a1, a2, a3] (.inl 1 :: st) (sh, I, R) := (ev_eq f_26_1).trans rfl
theorem f_26_2 : fetch 26 2 = some (2, .iconst 3, 1, [], 3) := (fm_26 2).trans rfl
theorem u_26_2 {S : Scr} {d : Nat} {a0 a1 a2 a3 : AV} {st : List AV} {sh : Shp} {I : IM} {R : RM} : ev S d 26 2 [a0, a1, a2, a3] st (sh, I, R) = ev S d 26 3 [a0, a1, a2, a3] (.inl 3 :: st) (sh, I, R) := (ev_eq f_26_2).trans rfl
theorem f_26_3 : fetch 26 3 = some (3, .invokevirtual 101, 3, [28, 2, 20], 0) := (fm_26 3).trans rfl
theorem u_26_3 {S : Scr} {d : Nat} {a0 a1 a2 a3 : AV} {st : List AV} {sh : Shp} {I : IM} {R : RM} {x0 : Int} {x1 : Int} {k : Nat} (h : tg sh k = 2) (hr : st.length ≤ 8) : ev S d 26 3 [a0, a1, a2, a3] (.inl x1 :: .inl x0 :: .inr (.inl k) :: st) (sh, I, R) = bnd (cl d 28 [.inr (.inl k), .inl x0, .inl x1] (sh, I, R)) (fun v M => ev S d 26 6 [a0, a1, a2, a3] (psh v st) M) := (ev_eq f_26_3).trans (congrArg (fin S d 26) (if_pos ⟨h, rfl, hr⟩))
theorem f_26_6 : fetch 26 6 = some (6, .ldc 50, 2, [2], (-1000000)) := (fm_26 6).trans rfl
theorem u_26_6 {S : Scr} {d : Nat} {a0 a1 a2 a3 : AV} {st : List AV} {sh : Shp} {I : IM} {R : RM} : ev S d 26 6 [a0, a1, a2, a3] st (sh, I, R) = ev S d 26 8 [a0, a1, a2, a3] (.inl (-1000000) :: st) (sh, I, R) := (ev_eq f_26_6).trans rfl
theorem f_26_8 : fetch 26 8 = some (8, .if_icmp .eq 10, 3, [18], 0) := (fm_26 8).trans rfl
theorem u_26_8 {S : Scr} {d : Nat} {a0 a1 a2 a3 : AV} {st : List AV} {sh : Shp} {I : IM} {R : RM} {x y : Int} : ev S d 26 8 [a0, a1, a2, a3] (.inl y :: .inl x :: st) (sh, I, R) = if x = y then ev S d 26 18 [a0, a1, a2, a3] st (sh, I, R) else ev S d 26 11 [a0, a1, a2, a3] st (sh, I, R) := (ev_eq f_26_8).trans fin_icmp_eq
theorem f_26_11 : fetch 26 11 = some (11, .aload_n 0, 1, [0], 0) := (fm_26 11).trans rfl
theorem u_26_11 {S : Scr} {d : Nat} {a1 a2 a3 : AV} {st : List AV} {sh : Shp} {I : IM} {R : RM} {x : Nat} : ev S d 26 11 [.inr (.inl x), a1, a2, a3] st (sh, I, R) = ev S d 26 12 [.inr (.inl x), a1, a2, a3] (.inr (.inl x) :: st) (sh, I, R) := (ev_eq f_26_11).trans rfl
theorem f_26_12 : fetch 26 12 = some (12, .invokevirtual 108, 3, [29, 0, 22], 0) := (fm_26 12).trans rfl
theorem u_26_12 {S : Scr} {d : Nat} {a0 a1 a2 a3 : AV} {st : List AV} {sh : Shp} {I : IM} {R : RM} {k : Nat} (h : tg sh k = 2) (hr : st.length ≤ 8) : ev S d 26 12 [a0, a1, a2, a3] (.inr (.inl k) :: st) (sh, I, R) = bnd (cl d 29 [.inr (.inl k)] (sh, I, R)) (fun v M => ev S d 26 15 [a0, a1, a2, a3] (psh v st) M) := (ev_eq f_26_12).trans (congrArg (fin S d 26) (if_pos ⟨h, rfl, hr⟩))
theorem f_26_15 : fetch 26 15 = some (15, .ifCond .ne 6, 3, [21], 0) := (fm_26 15).trans rfl
theorem u_26_15 {S : Scr} {d : Nat} {a0 a1 a2 a3 : AV} {st : List AV} {sh : Shp} {I : IM} {R : RM} {x : Int} : ev S d 26 15 [a0, a1, a2, a3] (.inl x :: st) (sh, I, R) = if ¬ x = 0 then ev S d 26 21 [a0, a1, a2, a3] st (sh, I, R) else ev S d 26 18 [a0, a1, a2, a3] st (sh, I, R) := (ev_eq f_26_15).trans fin_if_ne
theorem f_26_18 : fetch 26 18 = some (18, .ldc 50, 2, [2], (-1000000)) := (fm_26 18).trans rfl
theorem u_26_18 {S : Scr} {d : Nat} {a0 a1 a2 a3 : AV} {st : List AV} {sh : Shp} {I : IM} {R : RM} : ev S d 26 18 [a0, a1, a2, a3] st (sh, I, R) = ev S d 26 20 [a0, a1, a2, a3] (.inl (-1000000) :: st) (sh, I, R) := (ev_eq f_26_18).trans rfl
theorem f_26_20 : fetch 26 20 = some (20, .ireturn, 1, [0], 0) := (fm_26 20).trans rfl
theorem u_26_20 {S : Scr} {d : Nat} {a0 a1 a2 a3 : AV} {sh : Shp} {I : IM} {R : RM} {x : Int} : ev S d 26 20 [a0, a1, a2, a3] [.inl x] (sh, I, R) = some (some (.inl x), (sh, I, R)) := (ev_eq f_26_20).trans fin_iret0
theorem f_26_21 : fetch 26 21 = some (21, .aload_n 0, 1, [0], 0) := (fm_26 21).trans rfl
theorem u_26_21 {S : Scr} {d : Nat} {a1 a2 a3 : AV} {st : List AV} {sh : Shp} {I : IM} {R : RM} {x : Nat} : ev S d 26 21 [.inr (.inl x), a1, a2, a3] st (sh, I, R) = ev S d 26 22 [.inr (.inl x), a1, a2, a3] (.inr (.inl x) :: st) (sh, I, R) := (ev_eq f_26_21).trans rfl
theorem f_26_22 : fetch 26 22 = some (22, .iload_n 1, 1, [1], 0) := (fm_26 22).trans rfl
theorem u_26_22 {S : Scr} {d : Nat} {a0 a2 a3 : AV} {st : List AV} {sh : Shp} {I : IM} {R : RM} {x : Int} : ev S d 26 22 [a0, .inl x, a2, a3] st (sh, I, R) = ev S d 26 23 [a0, .inl x, a2, a3] (.inl x :: st) (sh, I, R) := (ev_eq f_26_22).trans rfl
theorem f_26_23 : fetch 26 23 = some (23, .iconst 0, 1, [], 0) := (fm_26 23).trans rfl
theorem u_26_23 {S : Scr} {d : Nat} {a0 a1 a2 a3 : AV} {st : List AV} {sh : Shp} {I : IM} {R : RM} : ev S d 26 23 [a0, a1, a2, a3] st (sh, I, R) = ev S d 26 24 [a0, a1, a2, a3] (.inl 0 :: st) (sh, I, R) := (ev_eq f_26_23).trans rfl
theorem f_26_24 : fetch 26 24 = some (24, .iload_n 1, 1, [1], 0) := (fm_26 24).trans rfl
theorem u_26_24 {S : Scr} {d : Nat} {a0 a2 a3 : AV} {st : List AV} {sh : Shp} {I : IM} {R : RM} {x : Int} : ev S d 26 24 [a0, .inl x, a2, a3] st (sh, I, R) = ev S d 26 25 [a0, .inl x, a2, a3] (.inl x :: st) (sh, I, R) := (ev_eq f_26_24).trans rfl
theorem f_26_25 : fetch 26 25 = some (25, .invokestatic 111, 3, [126, 1, 23], 0) := (fm_26 25).trans rfl
theorem u_26_25 {S : Scr} {d : Nat} {a0 a1 a2 a3 : AV} {st : List AV} {sh : Shp} {I : IM} {R : RM} {x0 : Int} (hr : st.length ≤ 8) : ev S d 26 25 [a0, a1, a2, a3] (.inl x0 :: st) (sh, I, R) = bnd (cl d 126 [.inl x0] (sh, I, R)) (fun v M => ev S d 26 28 [a0, a1, a2, a3] (psh v st) M) := (ev_eq f_26_25).trans (congrArg (fin S d 26) (if_pos ⟨rfl, hr⟩))
theorem f_26_28 : fetch 26 28 = some (28, .invokevirtual 104, 3, [27, 3, 21], 0) := (fm_26 28).trans rfl
theorem u_26_28 {S : Scr} {d : Nat} {a0 a1 a2 a3 : AV} {st : List AV} {sh : Shp} {I : IM} {R : RM} {x0 : Int} {x1 : Int} {x2 : Int} {k : Nat} (h : tg sh k = 2) (hr : st.length ≤ 8) : ev S d 26 28 [a0, a1, a2, a3] (.inl x2 :: .inl x1 :: .inl x0 :: .inr (.inl k) :: st) (sh, I, R) = bnd (cl d 27 [.inr (.inl k), .inl x0, .inl x1, .inl x2] (sh, I, R)) (fun v M => ev S d 26 31 [a0, a1, a2, a3] (psh v st) M) := (ev_eq f_26_28).trans (congrArg (fin S d 26) (if_pos ⟨h, rfl, hr⟩))
theorem f_26_31 : fetch 26 31 = some (31, .istore_n 2, 1, [2], 0) := (fm_26 31).trans rfl
theorem u_26_31 {S : Scr} {d : Nat} {a0 a1 a2 a3 : AV} {st : List AV} {sh : Shp} {I : IM} {R : RM} {x : Int} : ev S d 26 31 [a0, a1, a2, a3] (.inl x :: st) (sh, I, R) = ev S d 26 32 [a0, a1, .inl x, a3] st (sh, I, R) := (ev_eq f_26_31).trans rfl
theorem f_26_32 : fetch 26 32 = some (32, .aload_n 0, 1, [0], 0) := (fm_26 32).trans rfl
theorem u_26_32 {S : Scr} {d : Nat} {a1 a2 a3 : AV} {st : List AV} {sh : Shp} {I : IM} {R : RM} {x : Nat} : ev S d 26 32 [.inr (.inl x), a1, a2, a3] st (sh, I, R) = ev S d 26 33 [.inr (.inl x), a1, a2, a3] (.inr (.inl x) :: st) (sh, I, R) := (ev_eq f_26_32).trans rfl
theorem f_26_33 : fetch 26 33 = some (33, .getfield 31, 3, [2, 0, 1, 10], 0) := (fm_26 33).trans rfl
theorem u_26_33 {S : Scr} {d : Nat} {a0 a1 a2 a3 : AV} {st : List AV} {sh : Shp} {I : IM} {R : RM} {k : Nat} (h : tg sh k = 2) : ev S d 26 33 [a0, a1, a2, a3] (.inr (.inl k) :: st) (sh, I, R) = ev S d 26 36 [a0, a1, a2, a3] (rv (R k 0) :: st) (sh, I, R) := (ev_eq f_26_33).trans (congrArg (fin S d 26) (if_pos h))
theorem f_26_36 : fetch 26 36 = some (36, .iload_n 2, 1, [2], 0) := (fm_26 36).trans rfl
theorem u_26_36 {S : Scr} {d : Nat} {a0 a1 a3 : AV} {st : List AV} {sh : Shp} {I : IM} {R : RM} {x : Int} : ev S d 26 36 [a0, a1, .inl x, a3] st (sh, I, R) = ev S d 26 37 [a0, a1, .inl x, a3] (.inl x :: st) (sh, I, R) := (ev_eq f_26_36).trans rfl
theorem f_26_37 : fetch 26 37 = some (37, .invokevirtual 114, 3, [68, 1, 24], 0) := (fm_26 37).trans rfl
theorem u_26_37 {S : Scr} {d : Nat} {a0 a1 a2 a3 : AV} {st : List AV} {sh : Shp} {I : IM} {R : RM} {x0 : Int} {k : Nat} (h : tg sh k = 7) (hr : st.length ≤ 8) : ev S d 26 37 [a0, a1, a2, a3] (.inl x0 :: .inr (.inl k) :: st) (sh, I, R) = bnd (cl d 68 [.inr (.inl k), .inl x0] (sh, I, R)) (fun v M => ev S d 26 40 [a0, a1, a2, a3] (psh v st) M) := (ev_eq f_26_37).trans (congrArg (fin S d 26) (if_pos ⟨h, rfl, hr⟩))
theorem f_26_40 : fetch 26 40 = some (40, .astore_n 3, 1, [3], 0) := (fm_26 40).trans rfl
theorem u_26_40 {S : Scr} {d : Nat} {a0 a1 a2 a3 : AV} {st : List AV} {sh : Shp} {I : IM} {R : RM} {x : Nat} : ev S d 26 40 [a0, a1, a2, a3] (.inr (.inl x) :: st) (sh, I, R) = ev S d 26 41 [a0, a1, a2, .inr (.inl x)] st (sh, I, R) := (ev_eq f_26_40).trans rfl
theorem u_26_40n {S : Scr} {d : Nat} {a0 a1 a2 a3 : AV} {st : List AV} {sh : Shp} {I : IM} {R : RM} : ev S d 26 40 [a0, a1, a2, a3] (.inr (.inr 0) :: st) (sh, I, R) = ev S d 26 41 [a0, a1, a2, .inr (.inr 0)] st (sh, I, R) := (ev_eq f_26_40).trans rfl
theorem f_26_41 : fetch 26 41 = some (41, .aload_n 3, 1, [3], 0) := (fm_26 41).trans rfl
theorem u_26_41 {S : Scr} {d : Nat} {a0 a1 a2 : AV} {st : List AV} {sh : Shp} {I : IM} {R : RM} {x : Nat} : ev S d 26 41 [a0, a1, a2, .inr (.inl x)] st (sh, I, R) = ev S d 26 42 [a0, a1, a2, .inr (.inl x)] (.inr (.inl x) :: st) (sh, I, R) := (ev_eq f_26_41).trans rfl
theorem u_26_41n {S : Scr} {d : Nat} {a0 a1 a2 : AV} {st : List AV} {sh : Shp} {I : IM} {R : RM} : ev S d 26 41 [a0, a1, a2, .inr (.inr 0)] st (sh, I, R) = ev S d 26 42 [a0, a1, a2, .inr (.inr 0)] (.inr (.inr 0) :: st) (sh, I, R) := (ev_eq f_26_41).trans rfl
theorem f_26_42 : fetch 26 42 = some (42, .ifnull 22, 3, [64], 0) := (fm_26 42).trans rfl
theorem u_26_42 {S : Scr} {d : Nat} {a0 a1 a2 a3 : AV} {st : List AV} {sh : Shp} {I : IM} {R : RM} {x : Nat} : ev S d 26 42 [a0, a1, a2, a3] (.inr (.inl x) :: st) (sh, I, R) = ev S d 26 45 [a0, a1, a2, a3] st (sh, I, R) := (ev_eq f_26_42).trans rfl
theorem u_26_42n {S : Scr} {d : Nat} {a0 a1 a2 a3 : AV} {st : List AV} {sh : Shp} {I : IM} {R : RM} : ev S d 26 42 [a0, a1, a2, a3] (.inr (.inr 0) :: st) (sh, I, R) = ev S d 26 64 [a0, a1, a2, a3] st (sh, I, R) := (ev_eq f_26_42).trans rfl
theorem f_26_45 : fetch 26 45 = some (45, .aload_n 3, 1, [3], 0) := (fm_26 45).trans rfl
theorem u_26_45 {S : Scr} {d : Nat} {a0 a1 a2 : AV} {st : List AV} {sh : Shp} {I : IM} {R : RM} {x : Nat} : ev S d 26 45 [a0, a1, a2, .inr (.inl x)] st (sh, I, R) = ev S d 26 46 [a0, a1, a2, .inr (.inl x)] (.inr (.inl x) :: st) (sh, I, R) := (ev_eq f_26_45).trans rfl
theorem u_26_45n {S : Scr} {d : Nat} {a0 a1 a2 : AV} {st : List AV} {sh : Shp} {I : IM} {R : RM} : ev S d 26 45 [a0, a1, a2, .inr (.inr 0)] st (sh, I, R) = ev S d 26 46 [a0, a1, a2, .inr (.inr 0)] (.inr (.inr 0) :: st) (sh, I, R) := (ev_eq f_26_45).trans rfl
theorem f_26_46 : fetch 26 46 = some (46, .getfield 118, 3, [3, 0, 1, 16], 0) := (fm_26 46).trans rfl
theorem u_26_46 {S : Scr} {d : Nat} {a0 a1 a2 a3 : AV} {st : List AV} {sh : Shp} {I : IM} {R : RM} {k : Nat} (h : tg sh k = 3) : ev S d 26 46 [a0, a1, a2, a3] (.inr (.inl k) :: st) (sh, I, R) = ev S d 26 49 [a0, a1, a2, a3] (rv (R k 0) :: st) (sh, I, R) := (ev_eq f_26_46).trans (congrArg (fin S d 26) (if_pos h))
theorem f_26_49 : fetch 26 49 = some (49, .aload_n 0, 1, [0], 0) := (fm_26 49).trans rfl
theorem u_26_49 {S : Scr} {d : Nat} {a1 a2 a3 : AV} {st : List AV} {sh : Shp} {I : IM} {R : RM} {x : Nat} : ev S d 26 49 [.inr (.inl x), a1, a2, a3] st (sh, I, R) = ev S d 26 50 [.inr (.inl x), a1, a2, a3] (.inr (.inl x) :: st) (sh, I, R) := (ev_eq f_26_49).trans rfl
theorem f_26_50 : fetch 26 50 = some (50, .getfield 23, 3, [2, 2, 1, 8], 0) := (fm_26 50).trans rfl
theorem u_26_50 {S : Scr} {d : Nat} {a0 a1 a2 a3 : AV} {st : List AV} {sh : Shp} {I : IM} {R : RM} {k : Nat} (h : tg sh k = 2) : ev S d 26 50 [a0, a1, a2, a3] (.inr (.inl k) :: st) (sh, I, R) = ev S d 26 53 [a0, a1, a2, a3] (rv (R k 2) :: st) (sh, I, R) := (ev_eq f_26_50).trans (congrArg (fin S d 26) (if_pos h))
theorem f_26_53 : fetch 26 53 = some (53, .invokevirtual 121, 3, [13, 1, 25], 0) := (fm_26 53).trans rfl
theorem u_26_53 {S : Scr} {d : Nat} {a0 a1 a2 a3 : AV} {st : List AV} {sh : Shp} {I : IM} {R : RM} {x0 : Nat} {k : Nat} (h : tg sh k = 1) (hr : st.length ≤ 8) : ev S d 26 53 [a0, a1, a2, a3] (.inr (.inl x0) :: .inr (.inl k) :: st) (sh, I, R) = bnd (cl d 13 [.inr (.inl k), .inr (.inl x0)] (sh, I, R)) (fun v M => ev S d 26 56 [a0, a1, a2, a3] (psh v st) M) := (ev_eq f_26_53).trans (congrArg (fin S d 26) (if_pos ⟨h, rfl, hr⟩))
theorem u_26_53n {S : Scr} {d : Nat} {a0 a1 a2 a3 : AV} {st : List AV} {sh : Shp} {I : IM} {R : RM} {k : Nat} (h : tg sh k = 1) (hr : st.length ≤ 8) : ev S d 26 53 [a0, a1, a2, a3] (.inr (.inr 0) :: .inr (.inl k) :: st) (sh, I, R) = bnd (cl d 13 [.inr (.inl k), .inr (.inr 0)] (sh, I, R)) (fun v M => ev S d 26 56 [a0, a1, a2, a3] (psh v st) M) := (ev_eq f_26_53).trans (congrArg (fin S d 26) (if_pos ⟨h, rfl, hr⟩))
theorem f_26_56 : fetch 26 56 = some (56, .aload_n 0, 1, [0], 0) := (fm_26 56).trans rfl
theorem u_26_56 {S : Scr} {d : Nat} {a1 a2 a3 : AV} {st : List AV} {sh : Shp} {I : IM} {R : RM} {x : Nat} : ev S d 26 56 [.inr (.inl x), a1, a2, a3] st (sh, I, R) = ev S d 26 57 [.inr (.inl x), a1, a2, a3] (.inr (.inl x) :: st) (sh, I, R) := (ev_eq f_26_56).trans rfl
theorem f_26_57 : fetch 26 57 = some (57, .getfield 31, 3, [2, 0, 1, 10], 0) := (fm_26 57).trans rfl
theorem u_26_57 {S : Scr} {d : Nat} {a0 a1 a2 a3 : AV} {st : List AV} {sh : Shp} {I : IM} {R : RM} {k : Nat} (h : tg sh k = 2) : ev S d 26 57 [a0, a1, a2, a3] (.inr (.inl k) :: st) (sh, I, R) = ev S d 26 60 [a0, a1, a2, a3] (rv (R k 0) :: st) (sh, I, R) := (ev_eq f_26_57).trans (congrArg (fin S d 26) (if_pos h))
theorem f_26_60 : fetch 26 60 = some (60, .aload_n 3, 1, [3], 0) := (fm_26 60).trans rfl
theorem u_26_60 {S : Scr} {d : Nat} {a0 a1 a2 : AV} {st : List AV} {sh : Shp} {I : IM} {R : RM} {x : Nat} : ev S d 26 60 [a0, a1, a2, .inr (.inl x)] st (sh, I, R) = ev S d 26 61 [a0, a1, a2, .inr (.inl x)] (.inr (.inl x) :: st) (sh, I, R) := (ev_eq f_26_60).trans rfl
theorem u_26_60n {S : Scr} {d : Nat} {a0 a1 a2 : AV} {st : List AV} {sh : Shp} {I : IM} {R : RM} : ev S d 26 60 [a0, a1, a2, .inr (.inr 0)] st (sh, I, R) = ev S d 26 61 [a0, a1, a2, .inr (.inr 0)] (.inr (.inr 0) :: st) (sh, I, R) := (ev_eq f_26_60).trans rfl
theorem f_26_61 : fetch 26 61 = some (61, .invokevirtual 125, 3, [76, 1, 26], 0) := (fm_26 61).trans rfl
theorem u_26_61 {S : Scr} {d : Nat} {a0 a1 a2 a3 : AV} {st : List AV} {sh : Shp} {I : IM} {R : RM} {x0 : Nat} {k : Nat} (h : tg sh k = 7) (hr : st.length ≤ 8) : ev S d 26 61 [a0, a1, a2, a3] (.inr (.inl x0) :: .inr (.inl k) :: st) (sh, I, R) = bnd (cl d 76 [.inr (.inl k), .inr (.inl x0)] (sh, I, R)) (fun v M => ev S d 26 64 [a0, a1, a2, a3] (psh v st) M) := (ev_eq f_26_61).trans (congrArg (fin S d 26) (if_pos ⟨h, rfl, hr⟩))
theorem u_26_61n {S : Scr} {d : Nat} {a0 a1 a2 a3 : AV} {st : List AV} {sh : Shp} {I : IM} {R : RM} {k : Nat} (h : tg sh k = 7) (hr : st.length ≤ 8) : ev S d 26 61 [a0, a1, a2, a3] (.inr (.inr 0) :: .inr (.inl k) :: st) (sh, I, R) = bnd (cl d 76 [.inr (.inl k), .inr (.inr 0)] (sh, I, R)) (fun v M => ev S d 26 64 [a0, a1, a2, a3] (psh v st) M) := (ev_eq f_26_61).trans (congrArg (fin S d 26) (if_pos ⟨h, rfl, hr⟩))
theorem f_26_64 : fetch 26 64 = some (64, .iload_n 2, 1, [2], 0) := (fm_26 64).trans rfl
theorem u_26_64 {S : Scr} {d : Nat} {a0 a1 a3 : AV} {st : List AV} {sh : Shp} {I : IM} {R : RM} {x : Int} : ev S d 26 64 [a0, a1, .inl x, a3] st (sh, I, R) = ev S d 26 65 [a0, a1, .inl x, a3] (.inl x :: st) (sh, I, R) := (ev_eq f_26_64).trans rfl
theorem f_26_65 : fetch 26 65 = some (65, .ireturn, 1, [0], 0) := (fm_26 65).trans rfl
theorem u_26_65 {S : Scr} {d : Nat} {a0 a1 a2 a3 : AV} {sh : Shp} {I : IM} {R : RM} {x : Int} : ev S d 26 65 [a0, a1, a2, a3] [.inl x] (sh, I, R) = some (some (.inl x), (sh, I, R)) := (ev_eq f_26_65).trans fin_iret0
theorem c_27 {d : Nat} {a0 a1 a2 a3 : AV} {M : Mem} : cl (d + 1) 27 [a0, a1, a2, a3] M = ev S0 d 27 0 [a0, a1, a2, a3, .inr (.inr 1)] [] M := (cl_eq (as := [a0, a1, a2, a3]) (show 4 ≤ maxOf 27 by decide +kernel)).trans rfl
theorem mt_27 : MT[27]? = some m_27 := rfl
theorem fm_27 (pc : Nat) : fetch 27 pc = lk m_27.2.2.2.2.2 pc := by
  unfold fetch
  rw [mt_27]
theorem f_27_0 : fetch 27 0 = some (0, .aload_n 0, 1, [0], 0) := (fm_27 0).trans rfl
theorem u_27_0 {S : Scr} {d : Nat} {a1 a2 a3 a4 : AV} {st : List AV} {sh : Shp} {I : IM} {R : RM} {x : Nat} : ev S d 27 0 [.inr (.inl x), a1, a2, a3, a4] st (sh, I, R) = ev S d 27 1 [.inr (.inl x), a1, a2, a3, a4] (.inr (.inl x) :: st) (sh, I, R) := (ev_eq f_27_0).trans rfl
theorem f_27_1 : fetch 27 1 = some (1, .getfield 31, 3, [2, 0, 1, 10], 0) := (fm_27 1).trans rfl
theorem u_27_1 {S : Scr} {d : Nat} {a0 a1 a2 a3 a4 : AV} {st : List AV} {sh : Shp} {I : IM} {R : RM} {k : Nat} (h : tg sh k = 2) : ev S d 27 1 [a0, a1, a2, a3, a4] (.inr (.inl k) :: st) (sh, I, R) = ev S d 27 4 [a0, a1, a2, a3, a4] (rv (R k 0) :: st) (sh, I, R) := (ev_eq f_27_1).trans (congrArg (fin S d 27) (if_pos h))
theorem f_27_4 : fetch 27 4 = some (4, .iload_n 1, 1, [1], 0) := (fm_27 4).trans rfl
theorem u_27_4 {S : Scr} {d : Nat} {a0 a2 a3 a4 : AV} {st : List AV} {sh : Shp} {I : IM} {R : RM} {x : Int} : ev S d 27 4 [a0, .inl x, a2, a3, a4] st (sh, I, R) = ev S d 27 5 [a0, .inl x, a2, a3, a4] (.inl x :: st) (sh, I, R) := (ev_eq f_27_4).trans rfl
theorem f_27_5 : fetch 27 5 = some (5, .iload_n 2, 1, [2], 0) := (fm_27 5).trans rfl
theorem u_27_5 {S : Scr} {d : Nat} {a0 a1 a3 a4 : AV} {st : List AV} {sh : Shp} {I : IM} {R : RM} {x : Int} : ev S d 27 5 [a0, a1, .inl x, a3, a4] st (sh, I, R) = ev S d 27 6 [a0, a1, .inl x, a3, a4] (.inl x :: st) (sh, I, R) := (ev_eq f_27_5).trans rfl
theorem f_27_6 : fetch 27 6 = some (6, .iload_n 3, 1, [3], 0) := (fm_27 6).trans rfl
theorem u_27_6 {S : Scr} {d : Nat} {a0 a1 a2 a4 : AV} {st : List AV} {sh : Shp} {I : IM} {R : RM} {x : Int} : ev S d 27 6 [a0, a1, a2, .inl x, a4] st (sh, I, R) = ev S d 27 7 [a0, a1, a2, .inl x, a4] (.inl x :: st) (sh, I, R) := (ev_eq f_27_6).trans rfl
theorem f_27_7 : fetch 27 7 = some (7, .invokevirtual 129, 3, [73, 3, 27], 0) := (fm_27 7).trans rfl
theorem u_27_7 {S : Scr} {d : Nat} {a0 a1 a2 a3 a4 : AV} {st : List AV} {sh : Shp} {I : IM} {R : RM} {x0 : Int} {x1 : Int} {x2 : Int} {k : Nat} (h : tg sh k = 7) (hr : st.length ≤ 8) : ev S d 27 7 [a0, a1, a2, a3, a4] (.inl x2 :: .inl x1 :: .inl x0 :: .inr (.inl k) :: st) (sh, I, R) = bnd (cl d 73 [.inr (.inl k), .inl x0, .inl x1, .inl x2] (sh, I, R)) (fun v M => ev S d 27 10 [a0, a1, a2, a3, a4] (psh v st) M) := (ev_eq f_27_7).trans (congrArg (fin S d 27) (if_pos ⟨h, rfl, hr⟩))
theorem f_27_10 : fetch 27 10 = some (10, .istore 4, 2, [4], 0) := (fm_27 10).trans rfl
theorem u_27_10 {S : Scr} {d : Nat} {a0 a1 a2 a3 a4 : AV} {st : List AV} {sh : Shp} {I : IM} {R : RM} {x : Int} : ev S d 27 10 [a0, a1, a2, a3, a4] (.inl x :: st) (sh, I, R) = ev S d 27 12 [a0, a1, a2, a3, .inl x] st (sh, I, R) := (ev_eq f_27_10).trans rfl
theorem f_27_12 : fetch 27 12 = some (12, .iload 4, 2, [4], 0) := (fm_27 12).trans rfl
theorem u_27_12 {S : Scr} {d : Nat} {a0 a1 a2 a3 : AV} {st : List AV} {sh : Shp} {I : IM} {R : RM} {x : Int} : ev S d 27 12 [a0, a1, a2, a3, .inl x] st (sh, I, R) = ev S d 27 14 [a0, a1, a2, a3, .inl x] (.inl x :: st) (sh, I, R) := (ev_eq f_27_12).trans rfl
theorem f_27_14 : fetch 27 14 = some (14, .iconst (-1), 1, [], (-1)) := (fm_27 14).trans rfl
theorem u_27_14 {S : Scr} {d : Nat} {a0 a1 a2 a3 a4 : AV} {st : List AV} {sh : Shp} {I : IM} {R : RM} : ev S d 27 14 [a0, a1, a2, a3, a4] st (sh, I, R) = ev S d 27 15 [a0, a1, a2, a3, a4] (.inl (-1) :: st) (sh, I, R) := (ev_eq f_27_14).trans rfl
theorem f_27_15 : fetch 27 15 = some (15, .if_icmp .eq 12, 3, [27], 0) := (fm_27 15).trans rfl
theorem u_27_15 {S : Scr} {d : Nat} {a0 a1 a2 a3 a4 : AV} {st : List AV} {sh : Shp} {I : IM} {R : RM} {x y : Int} : ev S d 27 15 [a0, a1, a2, a3, a4] (.inl y :: .inl x :: st) (sh, I, R) = if x = y then ev S d 27 27 [a0, a1, a2, a3, a4] st (sh, I, R) else ev S d 27 18 [a0, a1, a2, a3, a4] st (sh, I, R) := (ev_eq f_27_15).trans fin_icmp_eq
theorem f_27_18 : fetch 27 18 = some (18, .aload_n 0, 1, [0], 0) := (fm_27 18).trans rfl
theorem u_27_18 {S : Scr} {d : Nat} {a1 a2 a3 a4 : AV} {st : List AV} {sh : Shp} {I : IM} {R : RM} {x : Nat} : ev S d 27 18 [.inr (.inl x), a1, a2, a3, a4] st (sh, I, R) = ev S d 27 19 [.inr (.inl x), a1, a2, a3, a4] (.inr (.inl x) :: st) (sh, I, R) := (ev_eq f_27_18).trans rfl
theorem f_27_19 : fetch 27 19 = some (19, .getfield 43, 3, [2, 4, 0, 13], 0) := (fm_27 19).trans rfl
theorem u_27_19 {S : Scr} {d : Nat} {a0 a1 a2 a3 a4 : AV} {st : List AV} {sh : Shp} {I : IM} {R : RM} {k : Nat} (h : tg sh k = 2) : ev S d 27 19 [a0, a1, a2, a3, a4] (.inr (.inl k) :: st) (sh, I, R) = ev S d 27 22 [a0, a1, a2, a3, a4] (.inl (I k 4) :: st) (sh, I, R) := (ev_eq f_27_19).trans (congrArg (fin S d 27) (if_pos h))
theorem f_27_22 : fetch 27 22 = some (22, .bipush 30, 2, [], 30) := (fm_27 22).trans rfl
theorem u_27_22 {S : Scr} {d : Nat} {a0 a1 a2 a3 a4 : AV} {st : List AV} {sh : Shp} {I : IM} {R : RM} : ev S d 27 22 [a0, a1, a2, a3, a4] st (sh, I, R) = ev S d 27 24 [a0, a1, a2, a3, a4] (.inl 30 :: st) (sh, I, R) := (ev_eq f_27_22).trans rfl
theorem f_27_24 : fetch 27 24 = some (24, .if_icmp .lt 16, 3, [40], 0) := (fm_27 24).trans rfl
theorem u_27_24 {S : Scr} {d : Nat} {a0 a1 a2 a3 a4 : AV} {st : List AV} {sh : Shp} {I : IM} {R : RM} {x y : Int} : ev S d 27 24 [a0, a1, a2, a3, a4] (.inl y :: .inl x :: st) (sh, I, R) = if x < y then ev S d 27 40 [a0, a1, a2, a3, a4] st (sh, I, R) else ev S d 27 27 [a0, a1, a2, a3, a4] st (sh, I, R) := (ev_eq f_27_24).trans fin_icmp_lt
theorem f_27_27 : fetch 27 27 = some (27, .aload_n 0, 1, [0], 0) := (fm_27 27).trans rfl
theorem u_27_27 {S : Scr} {d : Nat} {a1 a2 a3 a4 : AV} {st : List AV} {sh : Shp} {I : IM} {R : RM} {x : Nat} : ev S d 27 27 [.inr (.inl x), a1, a2, a3, a4] st (sh, I, R) = ev S d 27 28 [.inr (.inl x), a1, a2, a3, a4] (.inr (.inl x) :: st) (sh, I, R) := (ev_eq f_27_27).trans rfl
theorem f_27_28 : fetch 27 28 = some (28, .getfield 12, 3, [2, 1, 1, 7], 0) := (fm_27 28).trans rfl
theorem u_27_28 {S : Scr} {d : Nat} {a0 a1 a2 a3 a4 : AV} {st : List AV} {sh : Shp} {I : IM} {R : RM} {k : Nat} (h : tg sh k = 2) : ev S d 27 28 [a0, a1, a2, a3, a4] (.inr (.inl k) :: st) (sh, I, R) = ev S d 27 31 [a0, a1, a2, a3, a4] (rv (R k 1) :: st) (sh, I, R) := (ev_eq f_27_28).trans (congrArg (fin S d 27) (if_pos h))
theorem f_27_31 : fetch 27 31 = some (31, .aload_n 0, 1, [0], 0) := (fm_27 31).trans rfl
theorem u_27_31 {S : Scr} {d : Nat} {a1 a2 a3 a4 : AV} {st : List AV} {sh : Shp} {I : IM} {R : RM} {x : Nat} : ev S d 27 31 [.inr (.inl x), a1, a2, a3, a4] st (sh, I, R) = ev S d 27 32 [.inr (.inl x), a1, a2, a3, a4] (.inr (.inl x) :: st) (sh, I, R) := (ev_eq f_27_31).trans rfl
theorem f_27_32 : fetch 27 32 = some (32, .getfield 39, 3, [2, 6, 0, 12], 0) := (fm_27 32).trans rfl
theorem u_27_32 {S : Scr} {d : Nat} {a0 a1 a2 a3 a4 : AV} {st : List AV} {sh : Shp} {I : IM} {R : RM} {k : Nat} (h : tg sh k = 2) : ev S d 27 32 [a0, a1, a2, a3, a4] (.inr (.inl k) :: st) (sh, I, R) = ev S d 27 35 [a0, a1, a2, a3, a4] (.inl (I k 6) :: st) (sh, I, R) := (ev_eq f_27_32).trans (congrArg (fin S d 27) (if_pos h))
theorem f_27_35 : fetch 27 35 = some (35, .iconst 4, 1, [], 4) := (fm_27 35).trans rfl
theorem u_27_35 {S : Scr} {d : Nat} {a0 a1 a2 a3 a4 : AV} {st : List AV} {sh : Shp} {I : IM} {R : RM} : ev S d 27 35 [a0, a1, a2, a3, a4] st (sh, I, R) = ev S d 27 36 [a0, a1, a2, a3, a4] (.inl 4 :: st) (sh, I, R) := (ev_eq f_27_35).trans rfl
theorem f_27_36 : fetch 27 36 = some (36, .invokevirtual 55, 3, [1, 2, 9], 0) := (fm_27 36).trans rfl
theorem u_27_36 {S : Scr} {d : Nat} {a0 a1 a2 a3 a4 : AV} {st : List AV} {sh : Shp} {I : IM} {R : RM} {x0 : Int} {x1 : Int} {k : Nat} (h : tg sh k = 0) (hr : st.length ≤ 8) : ev S d 27 36 [a0, a1, a2, a3, a4] (.inl x1 :: .inl x0 :: .inr (.inl k) :: st) (sh, I, R) = bnd (cl d 1 [.inr (.inl k), .inl x0, .inl x1] (sh, I, R)) (fun v M => ev S d 27 39 [a0, a1, a2, a3, a4] (psh v st) M) := (ev_eq f_27_36).trans (congrArg (fin S d 27) (if_pos ⟨h, rfl, hr⟩))
theorem f_27_39 : fetch 27 39 = some (39, .ireturn, 1, [0], 0) := (fm_27 39).trans rfl
theorem u_27_39 {S : Scr} {d : Nat} {a0 a1 a2 a3 a4 : AV} {sh : Shp} {I : IM} {R : RM} {x : Int} : ev S d 27 39 [a0, a1, a2, a3, a4] [.inl x] (sh, I, R) = some (some (.inl x), (sh, I, R)) := (ev_eq f_27_39).trans fin_iret0
theorem f_27_40 : fetch 27 40 = some (40, .aload_n 0, 1, [0], 0) := (fm_27 40).trans rfl
theorem u_27_40 {S : Scr} {d : Nat} {a1 a2 a3 a4 : AV} {st : List AV} {sh : Shp} {I : IM} {R : RM} {x : Nat} : ev S d 27 40 [.inr (.inl x), a1, a2, a3, a4] st (sh, I, R) = ev S d 27 41 [.inr (.inl x), a1, a2, a3, a4] (.inr (.inl x) :: st) (sh, I, R) := (ev_eq f_27_40).trans rfl
theorem f_27_41 : fetch 27 41 = some (41, .getfield 27, 3, [2, 3, 1, 9], 0) := (fm_27 41).trans rfl
theorem u_27_41 {S : Scr} {d : Nat} {a0 a1 a2 a3 a4 : AV} {st : List AV} {sh : Shp} {I : IM} {R : RM} {k : Nat} (h : tg sh k = 2) : ev S d 27 41 [a0, a1, a2, a3, a4] (.inr (.inl k) :: st) (sh, I, R) = ev S d 27 44 [a0, a1, a2, a3, a4] (rv (R k 3) :: st) (sh, I, R) := (ev_eq f_27_41).trans (congrArg (fin S d 27) (if_pos h))
theorem f_27_44 : fetch 27 44 = some (44, .aload_n 0, 1, [0], 0) := (fm_27 44).trans rfl
theorem u_27_44 {S : Scr} {d : Nat} {a1 a2 a3 a4 : AV} {st : List AV} {sh : Shp} {I : IM} {R : RM} {x : Nat} : ev S d 27 44 [.inr (.inl x), a1, a2, a3, a4] st (sh, I, R) = ev S d 27 45 [.inr (.inl x), a1, a2, a3, a4] (.inr (.inl x) :: st) (sh, I, R) := (ev_eq f_27_44).trans rfl
theorem f_27_45 : fetch 27 45 = some (45, .getfield 43, 3, [2, 4, 0, 13], 0) := (fm_27 45).trans rfl
theorem u_27_45 {S : Scr} {d : Nat} {a0 a1 a2 a3 a4 : AV} {st : List AV} {sh : Shp} {I : IM} {R : RM} {k : Nat} (h : tg sh k = 2) : ev S d 27 45 [a0, a1, a2, a3, a4] (.inr (.inl k) :: st) (sh, I, R) = ev S d 27 48 [a0, a1, a2, a3, a4] (.inl (I k 4) :: st) (sh, I, R) := (ev_eq f_27_45).trans (congrArg (fin S d 27) (if_pos h))
theorem f_27_48 : fetch 27 48 = some (48, .iload 4, 2, [4], 0) := (fm_27 48).trans rfl
theorem u_27_48 {S : Scr} {d : Nat} {a0 a1 a2 a3 : AV} {st : List AV} {sh : Shp} {I : IM} {R : RM} {x : Int} : ev S d 27 48 [a0, a1, a2, a3, .inl x] st (sh, I, R) = ev S d 27 50 [a0, a1, a2, a3, .inl x] (.inl x :: st) (sh, I, R) := (ev_eq f_27_48).trans rfl
theorem f_27_50 : fetch 27 50 = some (50, .iastore, 1, [], 0) := (fm_27 50).trans rfl
theorem u_27_50 {S : Scr} {d : Nat} {a0 a1 a2 a3 a4 : AV} {st : List AV} {sh : Shp} {I : IM} {R : RM} {k : Nat} {i x : Int} (h : tg sh k = 100) (h0 : 0 ≤ i) (h1 : i < ln sh k) : ev S d 27 50 [a0, a1, a2, a3, a4] (.inl x :: .inl i :: .inr (.inl k) :: st) (sh, I, R) = ev S d 27 51 [a0, a1, a2, a3, a4] st (sh, up I k i x, R) := (ev_eq f_27_50).trans (congrArg (fin S d 27) (if_pos ⟨h, h0, h1⟩))
theorem f_27_51 : fetch 27 51 = some (51, .aload_n 0, 1, [0], 0) := (fm_27 51).trans rfl
theorem u_27_51 {S : Scr} {d : Nat} {a1 a2 a3 a4 : AV} {st : List AV} {sh : Shp} {I : IM} {R : RM} {x : Nat} : ev S d 27 51 [.inr (.inl x), a1, a2, a3, a4] st (sh, I, R) = ev S d 27 52 [.inr (.inl x), a1, a2, a3, a4] (.inr (.inl x) :: st) (sh, I, R) := (ev_eq f_27_51).trans rfl
theorem f_27_52 : fetch 27 52 = some (52, .dup, 1, [], 0) := (fm_27 52).trans rfl
theorem u_27_52 {S : Scr} {d : Nat} {a0 a1 a2 a3 a4 : AV} {st : List AV} {sh : Shp} {I : IM} {R : RM} {x : AV} : ev S d 27 52 [a0, a1, a2, a3, a4] (x :: st) (sh, I, R) = ev S d 27 53 [a0, a1, a2, a3, a4] (x :: x :: st) (sh, I, R) := (ev_eq f_27_52).trans rfl
theorem f_27_53 : fetch 27 53 = some (53, .getfield 43, 3, [2, 4, 0, 13], 0) := (fm_27 53).trans rfl
theorem u_27_53 {S : Scr} {d : Nat} {a0 a1 a2 a3 a4 : AV} {st : List AV} {sh : Shp} {I : IM} {R : RM} {k : Nat} (h : tg sh k = 2) : ev S d 27 53 [a0, a1, a2, a3, a4] (.inr (.inl k) :: st) (sh, I, R) = ev S d 27 56 [a0, a1, a2, a3, a4] (.inl (I k 4) :: st) (sh, I, R) := (ev_eq f_27_53).trans (congrArg (fin S d 27) (if_pos h))
theorem f_27_56 : fetch 27 56 = some (56, .iconst 1, 1, [], 1) := (fm_27 56).trans rfl
theorem u_27_56 {S : Scr} {d : Nat} {a0 a1 a2 a3 a4 : AV} {st : List AV} {sh : Shp} {I : IM} {R : RM} : ev S d 27 56 [a0, a1, a2, a3, a4] st (sh, I, R) = ev S d 27 57 [a0, a1, a2, a3, a4] (.inl 1 :: st) (sh, I, R) := (ev_eq f_27_56).trans rfl
theorem f_27_57 : fetch 27 57 = some (57, .iadd, 1, [], 0) := (fm_27 57).trans rfl
theorem u_27_57 {S : Scr} {d : Nat} {a0 a1 a2 a3 a4 : AV} {st : List AV} {sh : Shp} {I : IM} {R : RM} {x y : Int} : ev S d 27 57 [a0, a1, a2, a3, a4] (.inl y :: .inl x :: st) (sh, I, R) = ev S d 27 58 [a0, a1, a2, a3, a4] (.inl (wr (x + y)) :: st) (sh, I, R) := (ev_eq f_27_57).trans rfl
theorem f_27_58 : fetch 27 58 = some (58, .putfield 43, 3, [2, 4, 0, 13], 0) := (fm_27 58).trans rfl
theorem u_27_58 {S : Scr} {d : Nat} {a0 a1 a2 a3 a4 : AV} {st : List AV} {sh : Shp} {I : IM} {R : RM} {k : Nat} {x : Int} (h : tg sh k = 2) : ev S d 27 58 [a0, a1, a2, a3, a4] (.inl x :: .inr (.inl k) :: st) (sh, I, R) = ev S d 27 61 [a0, a1, a2, a3, a4] st (sh, up I k 4 x, R) := (ev_eq f_27_58).trans (congrArg (fin S d 27) (if_pos h))
theorem f_27_61 : fetch 27 61 = some (61, .iload 4, 2, [4], 0) := (fm_27 61).trans rfl
theorem u_27_61 {S : Scr} {d : Nat} {a0 a1 a2 a3 : AV} {st : List AV} {sh : Shp} {I : IM} {R : RM} {x : Int} : ev S d 27 61 [a0, a1, a2, a3, .inl x] st (sh, I, R) = ev S d 27 63 [a0, a1, a2, a3, .inl x] (.inl x :: st) (sh, I, R) := (ev_eq f_27_61).trans rfl
theorem f_27_63 : fetch 27 63 = some (63, .ireturn, 1, [0], 0) := (fm_27 63).trans rfl
theorem u_27_63 {S : Scr} {d : Nat} {a0 a1 a2 a3 a4 : AV} {sh : Shp} {I : IM} {R : RM} {x : Int} : ev S d 27 63 [a0, a1, a2, a3, a4] [.inl x] (sh, I, R) = some (some (.inl x), (sh, I, R)) := (ev_eq f_27_63).trans fin_iret0
theorem c_28 {d : Nat} {a0 a1 a2 : AV} {M : Mem} : cl (d + 1) 28 [a0, a1, a2] M = ev S0 d 28 0 [a0, a1, a2, .inr (.inr 1)] [] M := (cl_eq (as := [a0, a1, a2]) (show 3 ≤ maxOf 28 by decide +kernel)).trans rfl
theorem mt_28 : MT[28]? = some m_28 := rfl
theorem fm_28 (pc : Nat) : fetch 28 pc = lk m_28.2.2.2.2.2 pc := by
  unfold fetch
  rw [mt_28]
theorem f_28_0 : fetch 28 0 = some (0, .aload_n 0, 1, [0], 0) := (fm_28 0).trans rfl
theorem u_28_0 {S : Scr} {d : Nat} {a1 a2 a3 : AV} {st : List AV} {sh : Shp} {I : IM} {R : RM} {x : Nat} : ev S d 28 0 [.inr (.inl x), a1, a2, a3] st (sh, I, R) = ev S d 28 1 [.inr (.inl x), a1, a2, a3] (.inr (.inl x) :: st) (sh, I, R) := (ev_eq f_28_0).trans rfl
theorem f_28_1 : fetch 28 1 = some (1, .invokevirtual 51, 3, [20, 0, 8], 0) := (fm_28 1).trans rfl
theorem u_28_1 {S : Scr} {d : Nat} {a0 a1 a2 a3 : AV} {st : List AV} {sh : Shp} {I : IM} {R : RM} {k : Nat} (h : tg sh k = 2) (hr : st.length ≤ 8) : ev S d 28 1 [a0, a1, a2, a3] (.inr (.inl k) :: st) (sh, I, R) = bnd (cl d 20 [.inr (.inl k)] (sh, I, R)) (fun v M => ev S d 28 4 [a0, a1, a2, a3] (psh v st) M) := (ev_eq f_28_1).trans (congrArg (fin S d 28) (if_pos ⟨h, rfl, hr⟩))
theorem f_28_4 : fetch 28 4 = some (4, .bipush 48, 2, [], 48) := (fm_28 4).trans rfl
theorem u_28_4 {S : Scr} {d : Nat} {a0 a1 a2 a3 : AV} {st : List AV} {sh : Shp} {I : IM} {R : RM} : ev S d 28 4 [a0, a1, a2, a3] st (sh, I, R) = ev S d 28 6 [a0, a1, a2, a3] (.inl 48 :: st) (sh, I, R) := (ev_eq f_28_4).trans rfl
theorem f_28_6 : fetch 28 6 = some (6, .isub, 1, [], 0) := (fm_28 6).trans rfl
theorem u_28_6 {S : Scr} {d : Nat} {a0 a1 a2 a3 : AV} {st : List AV} {sh : Shp} {I : IM} {R : RM} {x y : Int} : ev S d 28 6 [a0, a1, a2, a3] (.inl y :: .inl x :: st) (sh, I, R) = ev S d 28 7 [a0, a1, a2, a3] (.inl (wr (x - y)) :: st) (sh, I, R) := (ev_eq f_28_6).trans rfl
theorem f_28_7 : fetch 28 7 = some (7, .istore_n 3, 1, [3], 0) := (fm_28 7).trans rfl
theorem u_28_7 {S : Scr} {d : Nat} {a0 a1 a2 a3 : AV} {st : List AV} {sh : Shp} {I : IM} {R : RM} {x : Int} : ev S d 28 7 [a0, a1, a2, a3] (.inl x :: st) (sh, I, R) = ev S d 28 8 [a0, a1, a2, .inl x] st (sh, I, R) := (ev_eq f_28_7).trans rfl
theorem f_28_8 : fetch 28 8 = some (8, .iload_n 3, 1, [3], 0) := (fm_28 8).trans rfl
theorem u_28_8 {S : Scr} {d : Nat} {a0 a1 a2 : AV} {st : List AV} {sh : Shp} {I : IM} {R : RM} {x : Int} : ev S d 28 8 [a0, a1, a2, .inl x] st (sh, I, R) = ev S d 28 9 [a0, a1, a2, .inl x] (.inl x :: st) (sh, I, R) := (ev_eq f_28_8).trans rfl
theorem f_28_9 : fetch 28 9 = some (9, .iload_n 1, 1, [1], 0) := (fm_28 9).trans rfl
theorem u_28_9 {S : Scr} {d : Nat} {a0 a2 a3 : AV} {st : List AV} {sh : Shp} {I : IM} {R : RM} {x : Int} : ev S d 28 9 [a0, .inl x, a2, a3] st (sh, I, R) = ev S d 28 10 [a0, .inl x, a2, a3] (.inl x :: st) (sh, I, R) := (ev_eq f_28_9).trans rfl
theorem f_28_10 : fetch 28 10 = some (10, .if_icmp .lt 8, 3, [18], 0) := (fm_28 10).trans rfl
theorem u_28_10 {S : Scr} {d : Nat} {a0 a1 a2 a3 : AV} {st : List AV} {sh : Shp} {I : IM} {R : RM} {x y : Int} : ev S d 28 10 [a0, a1, a2, a3] (.inl y :: .inl x :: st) (sh, I, R) = if x < y then ev S d 28 18 [a0, a1, a2, a3] st (sh, I, R) else ev S d 28 13 [a0, a1, a2, a3] st (sh, I, R) := (ev_eq f_28_10).trans fin_icmp_lt
theorem f_28_13 : fetch 28 13 = some (13, .iload_n 3, 1, [3], 0) := (fm_28 13).trans rfl
theorem u_28_13 {S : Scr} {d : Nat} {a0 a1 a2 : AV} {st : List AV} {sh : Shp} {I : IM} {R : RM} {x : Int} : ev S d 28 13 [a0, a1, a2, .inl x] st (sh, I, R) = ev S d 28 14 [a0, a1, a2, .inl x] (.inl x :: st) (sh, I, R) := (ev_eq f_28_13).trans rfl
theorem f_28_14 : fetch 28 14 = some (14, .iload_n 2, 1, [2], 0) := (fm_28 14).trans rfl
theorem u_28_14 {S : Scr} {d : Nat} {a0 a1 a3 : AV} {st : List AV} {sh : Shp} {I : IM} {R : RM} {x : Int} : ev S d 28 14 [a0, a1, .inl x, a3] st (sh, I, R) = ev S d 28 15 [a0, a1, .inl x, a3] (.inl x :: st) (sh, I, R) := (ev_eq f_28_14).trans rfl
theorem f_28_15 : fetch 28 15 = some (15, .if_icmp .le 16, 3, [31], 0) := (fm_28 15).trans rfl
theorem u_28_15 {S : Scr} {d : Nat} {a0 a1 a2 a3 : AV} {st : List AV} {sh : Shp} {I : IM} {R : RM} {x y : Int} : ev S d 28 15 [a0, a1, a2, a3] (.inl y :: .inl x :: st) (sh, I, R) = if x ≤ y then ev S d 28 31 [a0, a1, a2, a3] st (sh, I, R) else ev S d 28 18 [a0, a1, a2, a3] st (sh, I, R) := (ev_eq f_28_15).trans fin_icmp_le
theorem f_28_18 : fetch 28 18 = some (18, .aload_n 0, 1, [0], 0) := (fm_28 18).trans rfl
theorem u_28_18 {S : Scr} {d : Nat} {a1 a2 a3 : AV} {st : List AV} {sh : Shp} {I : IM} {R : RM} {x : Nat} : ev S d 28 18 [.inr (.inl x), a1, a2, a3] st (sh, I, R) = ev S d 28 19 [.inr (.inl x), a1, a2, a3] (.inr (.inl x) :: st) (sh, I, R) := (ev_eq f_28_18).trans rfl
theorem f_28_19 : fetch 28 19 = some (19, .getfield 12, 3, [2, 1, 1, 7], 0) := (fm_28 19).trans rfl
theorem u_28_19 {S : Scr} {d : Nat} {a0 a1 a2 a3 : AV} {st : List AV} {sh : Shp} {I : IM} {R : RM} {k : Nat} (h : tg sh k = 2) : ev S d 28 19 [a0, a1, a2, a3] (.inr (.inl k) :: st) (sh, I, R) = ev S d 28 22 [a0, a1, a2, a3] (rv (R k 1) :: st) (sh, I, R) := (ev_eq f_28_19).trans (congrArg (fin S d 28) (if_pos h))
theorem f_28_22 : fetch 28 22 = some (22, .aload_n 0, 1, [0], 0) := (fm_28 22).trans rfl
theorem u_28_22 {S : Scr} {d : Nat} {a1 a2 a3 : AV} {st : List AV} {sh : Shp} {I : IM} {R : RM} {x : Nat} : ev S d 28 22 [.inr (.inl x), a1, a2, a3] st (sh, I, R) = ev S d 28 23 [.inr (.inl x), a1, a2, a3] (.inr (.inl x) :: st) (sh, I, R) := (ev_eq f_28_22).trans rfl
theorem f_28_23 : fetch 28 23 = some (23, .getfield 39, 3, [2, 6, 0, 12], 0) := (fm_28 23).trans rfl
theorem u_28_23 {S : Scr} {d : Nat} {a0 a1 a2 a3 : AV} {st : List AV} {sh : Shp} {I : IM} {R : RM} {k : Nat} (h : tg sh k = 2) : ev S d 28 23 [a0, a1, a2, a3] (.inr (.inl k) :: st) (sh, I, R) = ev S d 28 26 [a0, a1, a2, a3] (.inl (I k 6) :: st) (sh, I, R) := (ev_eq f_28_23).trans (congrArg (fin S d 28) (if_pos h))
theorem f_28_26 : fetch 28 26 = some (26, .iconst 1, 1, [], 1) := (fm_28 26).trans rfl
theorem u_28_26 {S : Scr} {d : Nat} {a0 a1 a2 a3 : AV} {st : List AV} {sh : Shp} {I : IM} {R : RM} : ev S d 28 26 [a0, a1, a2, a3] st (sh, I, R) = ev S d 28 27 [a0, a1, a2, a3] (.inl 1 :: st) (sh, I, R) := (ev_eq f_28_26).trans rfl
theorem f_28_27 : fetch 28 27 = some (27, .invokevirtual 55, 3, [1, 2, 9], 0) := (fm_28 27).trans rfl
theorem u_28_27 {S : Scr} {d : Nat} {a0 a1 a2 a3 : AV} {st : List AV} {sh : Shp} {I : IM} {R : RM} {x0 : Int} {x1 : Int} {k : Nat} (h : tg sh k = 0) (hr : st.length ≤ 8) : ev S d 28 27 [a0, a1, a2, a3] (.inl x1 :: .inl x0 :: .inr (.inl k) :: st) (sh, I, R) = bnd (cl d 1 [.inr (.inl k), .inl x0, .inl x1] (sh, I, R)) (fun v M => ev S d 28 30 [a0, a1, a2, a3] (psh v st) M) := (ev_eq f_28_27).trans (congrArg (fin S d 28) (if_pos ⟨h, rfl, hr⟩))
theorem f_28_30 : fetch 28 30 = some (30, .ireturn, 1, [0], 0) := (fm_28 30).trans rfl
theorem u_28_30 {S : Scr} {d : Nat} {a0 a1 a2 a3 : AV} {sh : Shp} {I : IM} {R : RM} {x : Int} : ev S d 28 30 [a0, a1, a2, a3] [.inl x] (sh, I, R) = some (some (.inl x), (sh, I, R)) := (ev_eq f_28_30).trans fin_iret0
theorem f_28_31 : fetch 28 31 = some (31, .aload_n 0, 1, [0], 0) := (fm_28 31).trans rfl
theorem u_28_31 {S : Scr} {d : Nat} {a1 a2 a3 : AV} {st : List AV} {sh : Shp} {I : IM} {R : RM} {x : Nat} : ev S d 28 31 [.inr (.inl x), a1, a2, a3] st (sh, I, R) = ev S d 28 32 [.inr (.inl x), a1, a2, a3] (.inr (.inl x) :: st) (sh, I, R) := (ev_eq f_28_31).trans rfl
theorem f_28_32 : fetch 28 32 = some (32, .dup, 1, [], 0) := (fm_28 32).trans rfl
theorem u_28_32 {S : Scr} {d : Nat} {a0 a1 a2 a3 : AV} {st : List AV} {sh : Shp} {I : IM} {R : RM} {x : AV} : ev S d 28 32 [a0, a1, a2, a3] (x :: st) (sh, I, R) = ev S d 28 33 [a0, a1, a2, a3] (x :: x :: st) (sh, I, R) := (ev_eq f_28_32).trans rfl
theorem f_28_33 : fetch 28 33 = some (33, .getfield 39, 3, [2, 6, 0, 12], 0) := (fm_28 33).trans rfl
theorem u_28_33 {S : Scr} {d : Nat} {a0 a1 a2 a3 : AV} {st : List AV} {sh : Shp} {I : IM} {R : RM} {k : Nat} (h : tg sh k = 2) : ev S d 28 33 [a0, a1, a2, a3] (.inr (.inl k) :: st) (sh, I, R) = ev S d 28 36 [a0, a1, a2, a3] (.inl (I k 6) :: st) (sh, I, R) := (ev_eq f_28_33).trans (congrArg (fin S d 28) (if_pos h))
theorem f_28_36 : fetch 28 36 = some (36, .iconst 1, 1, [], 1) := (fm_28 36).trans rfl
theorem u_28_36 {S : Scr} {d : Nat} {a0 a1 a2 a3 : AV} {st : List AV} {sh : Shp} {I : IM} {R : RM} : ev S d 28 36 [a0, a1, a2, a3] st (sh, I, R) = ev S d 28 37 [a0, a1, a2, a3] (.inl 1 :: st) (sh, I, R) := (ev_eq f_28_36).trans rfl
theorem f_28_37 : fetch 28 37 = some (37, .iadd, 1, [], 0) := (fm_28 37).trans rfl
theorem u_28_37 {S : Scr} {d : Nat} {a0 a1 a2 a3 : AV} {st : List AV} {sh : Shp} {I : IM} {R : RM} {x y : Int} : ev S d 28 37 [a0, a1, a2, a3] (.inl y :: .inl x :: st) (sh, I, R) = ev S d 28 38 [a0, a1, a2, a3] (.inl (wr (x + y)) :: st) (sh, I, R) := (ev_eq f_28_37).trans rfl
theorem f_28_38 : fetch 28 38 = some (38, .putfield 39, 3, [2, 6, 0, 12], 0) := (fm_28 38).trans rfl
theorem u_28_38 {S : Scr} {d : Nat} {a0 a1 a2 a3 : AV} {st : List AV} {sh : Shp} {I : IM} {R : RM} {k : Nat} {x : Int} (h : tg sh k = 2) : ev S d 28 38 [a0, a1, a2, a3] (.inl x :: .inr (.inl k) :: st) (sh, I, R) = ev S d 28 41 [a0, a1, a2, a3] st (sh, up I k 6 x, R) := (ev_eq f_28_38).trans (congrArg (fin S d 28) (if_pos h))
theorem f_28_41 : fetch 28 41 = some (41, .iload_n 3, 1, [3], 0) := (fm_28 41).trans rfl
theorem u_28_41 {S : Scr} {d : Nat} {a0 a1 a2 : AV} {st : List AV} {sh : Shp} {I : IM} {R : RM} {x : Int} : ev S d 28 41 [a0, a1, a2, .inl x] st (sh, I, R) = ev S d 28 42 [a0, a1, a2, .inl x] (.inl x :: st) (sh, I, R) := (ev_eq f_28_41).trans rfl
theorem f_28_42 : fetch 28 42 = some (42, .ireturn, 1, [0], 0) := (fm_28 42).trans rfl
theorem u_28_42 {S : Scr} {d : Nat} {a0 a1 a2 a3 : AV} {sh : Shp} {I : IM} {R : RM} {x : Int} : ev S d 28 42 [a0, a1, a2, a3] [.inl x] (sh, I, R) = some (some (.inl x), (sh, I, R)) := (ev_eq f_28_42).trans fin_iret0
theorem c_29 {d : Nat} {a0 : AV} {M : Mem} : cl (d + 1) 29 [a0] M = ev S0 d 29 0 [a0, .inr (.inr 1), .inr (.inr 1), .inr (.inr 1), .inr (.inr 1)] [] M := (cl_eq (as := [a0]) (show 1 ≤ maxOf 29 by decide +kernel)).trans rfl
theorem mt_29 : MT[29]? = some m_29 := rfl
theorem fm_29 (pc : Nat) : fetch 29 pc = lk m_29.2.2.2.2.2 pc := by
  unfold fetch
  rw [mt_29]
theorem f_29_0 : fetch 29 0 = some (0, .aload_n 0, 1, [0], 0) := (fm_29 0).trans rfl
theorem u_29_0 {S : Scr} {d : Nat} {a1 a2 a3 a4 : AV} {st : List AV} {sh : Shp} {I : IM} {R : RM} {x : Nat} : ev S d 29 0 [.inr (.inl x), a1, a2, a3, a4] st (sh, I, R) = ev S d 29 1 [.inr (.inl x), a1, a2, a3, a4] (.inr (.inl x) :: st) (sh, I, R) := (ev_eq f_29_0).trans rfl
theorem f_29_1 : fetch 29 1 = some (1, .getfield 23, 3, [2, 2, 1, 8], 0) := (fm_29 1).trans rfl
theorem u_29_1 {S : Scr} {d : Nat} {a0 a1 a2 a3 a4 : AV} {st : List AV} {sh : Shp} {I : IM} {R : RM} {k : Nat} (h : tg sh k = 2) : ev S d 29 1 [a0, a1, a2, a3, a4] (.inr (.inl k) :: st) (sh, I, R) = ev S d 29 4 [a0, a1, a2, a3, a4] (rv (R k 2) :: st) (sh, I, R) := (ev_eq f_29_1).trans (congrArg (fin S d 29) (if_pos h))
theorem f_29_4 : fetch 29 4 = some (4, .invokevirtual 130, 3, [12, 0, 28], 0) := (fm_29 4).trans rfl
theorem u_29_4 {S : Scr} {d : Nat} {a0 a1 a2 a3 a4 : AV} {st : List AV} {sh : Shp} {I : IM} {R : RM} {k : Nat} (h : tg sh k = 1) (hr : st.length ≤ 8) : ev S d 29 4 [a0, a1, a2, a3, a4] (.inr (.inl k) :: st) (sh, I, R) = bnd (cl d 12 [.inr (.inl k)] (sh, I, R)) (fun v M => ev S d 29 7 [a0, a1, a2, a3, a4] (psh v st) M) := (ev_eq f_29_4).trans (congrArg (fin S d 29) (if_pos ⟨h, rfl, hr⟩))
theorem f_29_7 : fetch 29 7 = some (7, .iconst 0, 1, [], 0) := (fm_29 7).trans rfl
theorem u_29_7 {S : Scr} {d : Nat} {a0 a1 a2 a3 a4 : AV} {st : List AV} {sh : Shp} {I : IM} {R : RM} : ev S d 29 7 [a0, a1, a2, a3, a4] st (sh, I, R) = ev S d 29 8 [a0, a1, a2, a3, a4] (.inl 0 :: st) (sh, I, R) := (ev_eq f_29_7).trans rfl
theorem f_29_8 : fetch 29 8 = some (8, .istore_n 1, 1, [1], 0) := (fm_29 8).trans rfl
theorem u_29_8 {S : Scr} {d : Nat} {a0 a1 a2 a3 a4 : AV} {st : List AV} {sh : Shp} {I : IM} {R : RM} {x : Int} : ev S d 29 8 [a0, a1, a2, a3, a4] (.inl x :: st) (sh, I, R) = ev S d 29 9 [a0, .inl x, a2, a3, a4] st (sh, I, R) := (ev_eq f_29_8).trans rfl
theorem f_29_9 : fetch 29 9 = some (9, .iload_n 1, 1, [1], 0) := (fm_29 9).trans rfl
theorem u_29_9 {S : Scr} {d : Nat} {a0 a2 a3 a4 : AV} {st : List AV} {sh : Shp} {I : IM} {R : RM} {x : Int} : ev S d 29 9 [a0, .inl x, a2, a3, a4] st (sh, I, R) = ev S d 29 10 [a0, .inl x, a2, a3, a4] (.inl x :: st) (sh, I, R) := (ev_eq f_29_9).trans rfl
theorem f_29_10 : fetch 29 10 = some (10, .bipush 6, 2, [], 6) := (fm_29 10).trans rfl
theorem u_29_10 {S : Scr} {d : Nat} {a0 a1 a2 a3 a4 : AV} {st : List AV} {sh : Shp} {I : IM} {R : RM} : ev S d 29 10 [a0, a1, a2, a3, a4] st (sh, I, R) = ev S d 29 12 [a0, a1, a2, a3, a4] (.inl 6 :: st) (sh, I, R) := (ev_eq f_29_10).trans rfl
theorem f_29_12 : fetch 29 12 = some (12, .if_icmp .gt 84, 3, [96], 0) := (fm_29 12).trans rfl
theorem u_29_12 {S : Scr} {d : Nat} {a0 a1 a2 a3 a4 : AV} {st : List AV} {sh : Shp} {I : IM} {R : RM} {x y : Int} : ev S d 29 12 [a0, a1, a2, a3, a4] (.inl y :: .inl x :: st) (sh, I, R) = if y < x then ev S d 29 96 [a0, a1, a2, a3, a4] st (sh, I, R) else ev S d 29 15 [a0, a1, a2, a3, a4] st (sh, I, R) := (ev_eq f_29_12).trans fin_icmp_gt
theorem f_29_15 : fetch 29 15 = some (15, .aload_n 0, 1, [0], 0) := (fm_29 15).trans rfl
theorem u_29_15 {S : Scr} {d : Nat} {a1 a2 a3 a4 : AV} {st : List AV} {sh : Shp} {I : IM} {R : RM} {x : Nat} : ev S d 29 15 [.inr (.inl x), a1, a2, a3, a4] st (sh, I, R) = ev S d 29 16 [.inr (.inl x), a1, a2, a3, a4] (.inr (.inl x) :: st) (sh, I, R) := (ev_eq f_29_15).trans rfl
theorem f_29_16 : fetch 29 16 = some (16, .invokevirtual 51, 3, [20, 0, 8], 0) := (fm_29 16).trans rfl
theorem u_29_16 {S : Scr} {d : Nat} {a0 a1 a2 a3 a4 : AV} {st : List AV} {sh : Shp} {I : IM} {R : RM} {k : Nat} (h : tg sh k = 2) (hr : st.length ≤ 8) : ev S d 29 16 [a0, a1, a2, a3, a4] (.inr (.inl k) :: st) (sh, I, R) = bnd (cl d 20 [.inr (.inl k)] (sh, I, R)) (fun v M => ev S d 29 19 [a0, a1, a2, a3, a4] (psh v st) M) := (ev_eq f_29_16).trans (congrArg (fin S d 29) (if_pos ⟨h, rfl, hr⟩))
theorem f_29_19 : fetch 29 19 = some (19, .bipush 46, 2, [], 46) := (fm_29 19).trans rfl
theorem u_29_19 {S : Scr} {d : Nat} {a0 a1 a2 a3 a4 : AV} {st : List AV} {sh : Shp} {I : IM} {R : RM} : ev S d 29 19 [a0, a1, a2, a3, a4] st (sh, I, R) = ev S d 29 21 [a0, a1, a2, a3, a4] (.inl 46 :: st) (sh, I, R) := (ev_eq f_29_19).trans rfl
theorem f_29_21 : fetch 29 21 = some (21, .if_icmp .eq 75, 3, [96], 0) := (fm_29 21).trans rfl
theorem u_29_21 {S : Scr} {d : Nat} {a0 a1 a2 a3 a4 : AV} {st : List AV} {sh : Shp} {I : IM} {R : RM} {x y : Int} : ev S d 29 21 [a0, a1, a2, a3, a4] (.inl y :: .inl x :: st) (sh, I, R) = if x = y then ev S d 29 96 [a0, a1, a2, a3, a4] st (sh, I, R) else ev S d 29 24 [a0, a1, a2, a3, a4] st (sh, I, R) := (ev_eq f_29_21).trans fin_icmp_eq
theorem f_29_24 : fetch 29 24 = some (24, .aload_n 0, 1, [0], 0) := (fm_29 24).trans rfl
theorem u_29_24 {S : Scr} {d : Nat} {a1 a2 a3 a4 : AV} {st : List AV} {sh : Shp} {I : IM} {R : RM} {x : Nat} : ev S d 29 24 [.inr (.inl x), a1, a2, a3, a4] st (sh, I, R) = ev S d 29 25 [.inr (.inl x), a1, a2, a3, a4] (.inr (.inl x) :: st) (sh, I, R) := (ev_eq f_29_24).trans rfl
theorem f_29_25 : fetch 29 25 = some (25, .invokevirtual 51, 3, [20, 0, 8], 0) := (fm_29 25).trans rfl
theorem u_29_25 {S : Scr} {d : Nat} {a0 a1 a2 a3 a4 : AV} {st : List AV} {sh : Shp} {I : IM} {R : RM} {k : Nat} (h : tg sh k = 2) (hr : st.length ≤ 8) : ev S d 29 25 [a0, a1, a2, a3, a4] (.inr (.inl k) :: st) (sh, I, R) = bnd (cl d 20 [.inr (.inl k)] (sh, I, R)) (fun v M => ev S d 29 28 [a0, a1, a2, a3, a4] (psh v st) M) := (ev_eq f_29_25).trans (congrArg (fin S d 29) (if_pos ⟨h, rfl, hr⟩))
theorem f_29_28 : fetch 29 28 = some (28, .istore_n 2, 1, [2], 0) := (fm_29 28).trans rfl
theorem u_29_28 {S : Scr} {d : Nat} {a0 a1 a2 a3 a4 : AV} {st : List AV} {sh : Shp} {I : IM} {R : RM} {x : Int} : ev S d 29 28 [a0, a1, a2, a3, a4] (.inl x :: st) (sh, I, R) = ev S d 29 29 [a0, a1, .inl x, a3, a4] st (sh, I, R) := (ev_eq f_29_28).trans rfl
theorem f_29_29 : fetch 29 29 = some (29, .aload_n 0, 1, [0], 0) := (fm_29 29).trans rfl
theorem u_29_29 {S : Scr} {d : Nat} {a1 a2 a3 a4 : AV} {st : List AV} {sh : Shp} {I : IM} {R : RM} {x : Nat} : ev S d 29 29 [.inr (.inl x), a1, a2, a3, a4] st (sh, I, R) = ev S d 29 30 [.inr (.inl x), a1, a2, a3, a4] (.inr (.inl x) :: st) (sh, I, R) := (ev_eq f_29_29).trans rfl
theorem f_29_30 : fetch 29 30 = some (30, .iload_n 2, 1, [2], 0) := (fm_29 30).trans rfl
theorem u_29_30 {S : Scr} {d : Nat} {a0 a1 a3 a4 : AV} {st : List AV} {sh : Shp} {I : IM} {R : RM} {x : Int} : ev S d 29 30 [a0, a1, .inl x, a3, a4] st (sh, I, R) = ev S d 29 31 [a0, a1, .inl x, a3, a4] (.inl x :: st) (sh, I, R) := (ev_eq f_29_30).trans rfl
theorem f_29_31 : fetch 29 31 = some (31, .invokevirtual 133, 3, [30, 1, 29], 0) := (fm_29 31).trans rfl
theorem u_29_31 {S : Scr} {d : Nat} {a0 a1 a2 a3 a4 : AV} {st : List AV} {sh : Shp} {I : IM} {R : RM} {x0 : Int} {k : Nat} (h : tg sh k = 2) (hr : st.length ≤ 8) : ev S d 29 31 [a0, a1, a2, a3, a4] (.inl x0 :: .inr (.inl k) :: st) (sh, I, R) = bnd (cl d 30 [.inr (.inl k), .inl x0] (sh, I, R)) (fun v M => ev S d 29 34 [a0, a1, a2, a3, a4] (psh v st) M) := (ev_eq f_29_31).trans (congrArg (fin S d 29) (if_pos ⟨h, rfl, hr⟩))
theorem f_29_34 : fetch 29 34 = some (34, .istore_n 3, 1, [3], 0) := (fm_29 34).trans rfl
theorem u_29_34 {S : Scr} {d : Nat} {a0 a1 a2 a3 a4 : AV} {st : List AV} {sh : Shp} {I : IM} {R : RM} {x : Int} : ev S d 29 34 [a0, a1, a2, a3, a4] (.inl x :: st) (sh, I, R) = ev S d 29 35 [a0, a1, a2, .inl x, a4] st (sh, I, R) := (ev_eq f_29_34).trans rfl
theorem f_29_35 : fetch 29 35 = some (35, .iload_n 3, 1, [3], 0) := (fm_29 35).trans rfl
theorem u_29_35 {S : Scr} {d : Nat} {a0 a1 a2 a4 : AV} {st : List AV} {sh : Shp} {I : IM} {R : RM} {x : Int} : ev S d 29 35 [a0, a1, a2, .inl x, a4] st (sh, I, R) = ev S d 29 36 [a0, a1, a2, .inl x, a4] (.inl x :: st) (sh, I, R) := (ev_eq f_29_35).trans rfl
theorem f_29_36 : fetch 29 36 = some (36, .ifCond .eq 18, 3, [54], 0) := (fm_29 36).trans rfl
theorem u_29_36 {S : Scr} {d : Nat} {a0 a1 a2 a3 a4 : AV} {st : List AV} {sh : Shp} {I : IM} {R : RM} {x : Int} : ev S d 29 36 [a0, a1, a2, a3, a4] (.inl x :: st) (sh, I, R) = if x = 0 then ev S d 29 54 [a0, a1, a2, a3, a4] st (sh, I, R) else ev S d 29 39 [a0, a1, a2, a3, a4] st (sh, I, R) := (ev_eq f_29_36).trans fin_if_eq
theorem f_29_39 : fetch 29 39 = some (39, .aload_n 0, 1, [0], 0) := (fm_29 39).trans rfl
theorem u_29_39 {S : Scr} {d : Nat} {a1 a2 a3 a4 : AV} {st : List AV} {sh : Shp} {I : IM} {R : RM} {x : Nat} : ev S d 29 39 [.inr (.inl x), a1, a2, a3, a4] st (sh, I, R) = ev S d 29 40 [.inr (.inl x), a1, a2, a3, a4] (.inr (.inl x) :: st) (sh, I, R) := (ev_eq f_29_39).trans rfl
theorem f_29_40 : fetch 29 40 = some (40, .getfield 12, 3, [2, 1, 1, 7], 0) := (fm_29 40).trans rfl
theorem u_29_40 {S : Scr} {d : Nat} {a0 a1 a2 a3 a4 : AV} {st : List AV} {sh : Shp} {I : IM} {R : RM} {k : Nat} (h : tg sh k = 2) : ev S d 29 40 [a0, a1, a2, a3, a4] (.inr (.inl k) :: st) (sh, I, R) = ev S d 29 43 [a0, a1, a2, a3, a4] (rv (R k 1) :: st) (sh, I, R) := (ev_eq f_29_40).trans (congrArg (fin S d 29) (if_pos h))
theorem f_29_43 : fetch 29 43 = some (43, .aload_n 0, 1, [0], 0) := (fm_29 43).trans rfl
theorem u_29_43 {S : Scr} {d : Nat} {a1 a2 a3 a4 : AV} {st : List AV} {sh : Shp} {I : IM} {R : RM} {x : Nat} : ev S d 29 43 [.inr (.inl x), a1, a2, a3, a4] st (sh, I, R) = ev S d 29 44 [.inr (.inl x), a1, a2, a3, a4] (.inr (.inl x) :: st) (sh, I, R) := (ev_eq f_29_43).trans rfl
theorem f_29_44 : fetch 29 44 = some (44, .getfield 39, 3, [2, 6, 0, 12], 0) := (fm_29 44).trans rfl
theorem u_29_44 {S : Scr} {d : Nat} {a0 a1 a2 a3 a4 : AV} {st : List AV} {sh : Shp} {I : IM} {R : RM} {k : Nat} (h : tg sh k = 2) : ev S d 29 44 [a0, a1, a2, a3, a4] (.inr (.inl k) :: st) (sh, I, R) = ev S d 29 47 [a0, a1, a2, a3, a4] (.inl (I k 6) :: st) (sh, I, R) := (ev_eq f_29_44).trans (congrArg (fin S d 29) (if_pos h))
theorem f_29_47 : fetch 29 47 = some (47, .iload_n 3, 1, [3], 0) := (fm_29 47).trans rfl
theorem u_29_47 {S : Scr} {d : Nat} {a0 a1 a2 a4 : AV} {st : List AV} {sh : Shp} {I : IM} {R : RM} {x : Int} : ev S d 29 47 [a0, a1, a2, .inl x, a4] st (sh, I, R) = ev S d 29 48 [a0, a1, a2, .inl x, a4] (.inl x :: st) (sh, I, R) := (ev_eq f_29_47).trans rfl
theorem f_29_48 : fetch 29 48 = some (48, .invokevirtual 55, 3, [1, 2, 9], 0) := (fm_29 48).trans rfl
theorem u_29_48 {S : Scr} {d : Nat} {a0 a1 a2 a3 a4 : AV} {st : List AV} {sh : Shp} {I : IM} {R : RM} {x0 : Int} {x1 : Int} {k : Nat} (h : tg sh k = 0) (hr : st.length ≤ 8) : ev S d 29 48 [a0, a1, a2, a3, a4] (.inl x1 :: .inl x0 :: .inr (.inl k) :: st) (sh, I, R) = bnd (cl d 1 [.inr (.inl k), .inl x0, .inl x1] (sh, I, R)) (fun v M => ev S d 29 51 [a0, a1, a2, a3, a4] (psh v st) M) := (ev_eq f_29_48).trans (congrArg (fin S d 29) (if_pos ⟨h, rfl, hr⟩))
theorem f_29_51 : fetch 29 51 = some (51, .pop, 1, [], 0) := (fm_29 51).trans rfl
theorem u_29_51 {S : Scr} {d : Nat} {a0 a1 a2 a3 a4 : AV} {st : List AV} {sh : Shp} {I : IM} {R : RM} {x : AV} : ev S d 29 51 [a0, a1, a2, a3, a4] (x :: st) (sh, I, R) = ev S d 29 52 [a0, a1, a2, a3, a4] st (sh, I, R) := (ev_eq f_29_51).trans rfl
theorem f_29_52 : fetch 29 52 = some (52, .iconst 0, 1, [], 0) := (fm_29 52).trans rfl
theorem u_29_52 {S : Scr} {d : Nat} {a0 a1 a2 a3 a4 : AV} {st : List AV} {sh : Shp} {I : IM} {R : RM} : ev S d 29 52 [a0, a1, a2, a3, a4] st (sh, I, R) = ev S d 29 53 [a0, a1, a2, a3, a4] (.inl 0 :: st) (sh, I, R) := (ev_eq f_29_52).trans rfl
theorem f_29_53 : fetch 29 53 = some (53, .ireturn, 1, [1], 0) := (fm_29 53).trans rfl
theorem u_29_53 {S : Scr} {d : Nat} {a0 a1 a2 a3 a4 : AV} {sh : Shp} {I : IM} {R : RM} {x : Int} (h : x = 0 ∨ x = 1) : ev S d 29 53 [a0, a1, a2, a3, a4] [.inl x] (sh, I, R) = some (some (.inl x), (sh, I, R)) := (ev_eq f_29_53).trans (fin_iret1 h)
theorem f_29_54 : fetch 29 54 = some (54, .aload_n 0, 1, [0], 0) := (fm_29 54).trans rfl
theorem u_29_54 {S : Scr} {d : Nat} {a1 a2 a3 a4 : AV} {st : List AV} {sh : Shp} {I : IM} {R : RM} {x : Nat} : ev S d 29 54 [.inr (.inl x), a1, a2, a3, a4] st (sh, I, R) = ev S d 29 55 [.inr (.inl x), a1, a2, a3, a4] (.inr (.inl x) :: st) (sh, I, R) := (ev_eq f_29_54).trans rfl
theorem f_29_55 : fetch 29 55 = some (55, .dup, 1, [], 0) := (fm_29 55).trans rfl
theorem u_29_55 {S : Scr} {d : Nat} {a0 a1 a2 a3 a4 : AV} {st : List AV} {sh : Shp} {I : IM} {R : RM} {x : AV} : ev S d 29 55 [a0, a1, a2, a3, a4] (x :: st) (sh, I, R) = ev S d 29 56 [a0, a1, a2, a3, a4] (x :: x :: st) (sh, I, R) := (ev_eq f_29_55).trans rfl
theorem f_29_56 : fetch 29 56 = some (56, .getfield 39, 3, [2, 6, 0, 12], 0) := (fm_29 56).trans rfl
theorem u_29_56 {S : Scr} {d : Nat} {a0 a1 a2 a3 a4 : AV} {st : List AV} {sh : Shp} {I : IM} {R : RM} {k : Nat} (h : tg sh k = 2) : ev S d 29 56 [a0, a1, a2, a3, a4] (.inr (.inl k) :: st) (sh, I, R) = ev S d 29 59 [a0, a1, a2, a3, a4] (.inl (I k 6) :: st) (sh, I, R) := (ev_eq f_29_56).trans (congrArg (fin S d 29) (if_pos h))
theorem f_29_59 : fetch 29 59 = some (59, .iconst 1, 1, [], 1) := (fm_29 59).trans rfl
theorem u_29_59 {S : Scr} {d : Nat} {a0 a1 a2 a3 a4 : AV} {st : List AV} {sh : Shp} {I : IM} {R : RM} : ev S d 29 59 [a0, a1, a2, a3, a4] st (sh, I, R) = ev S d 29 60 [a0, a1, a2, a3, a4] (.inl 1 :: st) (sh, I, R) := (ev_eq f_29_59).trans rfl
theorem f_29_60 : fetch 29 60 = some (60, .iadd, 1, [], 0) := (fm_29 60).trans rfl
theorem u_29_60 {S : Scr} {d : Nat} {a0 a1 a2 a3 a4 : AV} {st : List AV} {sh : Shp} {I : IM} {R : RM} {x y : Int} : ev S d 29 60 [a0, a1, a2, a3, a4] (.inl y :: .inl x :: st) (sh, I, R) = ev S d 29 61 [a0, a1, a2, a3, a4] (.inl (wr (x + y)) :: st) (sh, I, R) := (ev_eq f_29_60).trans rfl
theorem f_29_61 : fetch 29 61 = some (61, .putfield 39, 3, [2, 6, 0, 12], 0) := (fm_29 61).trans rfl
theorem u_29_61 {S : Scr} {d : Nat} {a0 a1 a2 a3 a4 : AV} {st : List AV} {sh : Shp} {I : IM} {R : RM} {k : Nat} {x : Int} (h : tg sh k = 2) : ev S d 29 61 [a0, a1, a2, a3, a4] (.inl x :: .inr (.inl k) :: st) (sh, I, R) = ev S d 29 64 [a0, a1, a2, a3, a4] st (sh, up I k 6 x, R) := (ev_eq f_29_61).trans (congrArg (fin S d 29) (if_pos h))
theorem f_29_64 : fetch 29 64 = some (64, .aload_n 0, 1, [0], 0) := (fm_29 64).trans rfl
theorem u_29_64 {S : Scr} {d : Nat} {a1 a2 a3 a4 : AV} {st : List AV} {sh : Shp} {I : IM} {R : RM} {x : Nat} : ev S d 29 64 [.inr (.inl x), a1, a2, a3, a4] st (sh, I, R) = ev S d 29 65 [.inr (.inl x), a1, a2, a3, a4] (.inr (.inl x) :: st) (sh, I, R) := (ev_eq f_29_64).trans rfl
theorem f_29_65 : fetch 29 65 = some (65, .invokevirtual 136, 3, [31, 0, 30], 0) := (fm_29 65).trans rfl
theorem u_29_65 {S : Scr} {d : Nat} {a0 a1 a2 a3 a4 : AV} {st : List AV} {sh : Shp} {I : IM} {R : RM} {k : Nat} (h : tg sh k = 2) (hr : st.length ≤ 8) : ev S d 29 65 [a0, a1, a2, a3, a4] (.inr (.inl k) :: st) (sh, I, R) = bnd (cl d 31 [.inr (.inl k)] (sh, I, R)) (fun v M => ev S d 29 68 [a0, a1, a2, a3, a4] (psh v st) M) := (ev_eq f_29_65).trans (congrArg (fin S d 29) (if_pos ⟨h, rfl, hr⟩))
theorem f_29_68 : fetch 29 68 = some (68, .istore 4, 2, [4], 0) := (fm_29 68).trans rfl
theorem u_29_68 {S : Scr} {d : Nat} {a0 a1 a2 a3 a4 : AV} {st : List AV} {sh : Shp} {I : IM} {R : RM} {x : Int} : ev S d 29 68 [a0, a1, a2, a3, a4] (.inl x :: st) (sh, I, R) = ev S d 29 70 [a0, a1, a2, a3, .inl x] st (sh, I, R) := (ev_eq f_29_68).trans rfl
theorem f_29_70 : fetch 29 70 = some (70, .iload 4, 2, [4], 0) := (fm_29 70).trans rfl
theorem u_29_70 {S : Scr} {d : Nat} {a0 a1 a2 a3 : AV} {st : List AV} {sh : Shp} {I : IM} {R : RM} {x : Int} : ev S d 29 70 [a0, a1, a2, a3, .inl x] st (sh, I, R) = ev S d 29 72 [a0, a1, a2, a3, .inl x] (.inl x :: st) (sh, I, R) := (ev_eq f_29_70).trans rfl
theorem f_29_72 : fetch 29 72 = some (72, .ldc 50, 2, [2], (-1000000)) := (fm_29 72).trans rfl
theorem u_29_72 {S : Scr} {d : Nat} {a0 a1 a2 a3 a4 : AV} {st : List AV} {sh : Shp} {I : IM} {R : RM} : ev S d 29 72 [a0, a1, a2, a3, a4] st (sh, I, R) = ev S d 29 74 [a0, a1, a2, a3, a4] (.inl (-1000000) :: st) (sh, I, R) := (ev_eq f_29_72).trans rfl
theorem f_29_74 : fetch 29 74 = some (74, .if_icmp .ne 5, 3, [79], 0) := (fm_29 74).trans rfl
theorem u_29_74 {S : Scr} {d : Nat} {a0 a1 a2 a3 a4 : AV} {st : List AV} {sh : Shp} {I : IM} {R : RM} {x y : Int} : ev S d 29 74 [a0, a1, a2, a3, a4] (.inl y :: .inl x :: st) (sh, I, R) = if ¬ x = y then ev S d 29 79 [a0, a1, a2, a3, a4] st (sh, I, R) else ev S d 29 77 [a0, a1, a2, a3, a4] st (sh, I, R) := (ev_eq f_29_74).trans fin_icmp_ne
theorem f_29_77 : fetch 29 77 = some (77, .iconst 0, 1, [], 0) := (fm_29 77).trans rfl
theorem u_29_77 {S : Scr} {d : Nat} {a0 a1 a2 a3 a4 : AV} {st : List AV} {sh : Shp} {I : IM} {R : RM} : ev S d 29 77 [a0, a1, a2, a3, a4] st (sh, I, R) = ev S d 29 78 [a0, a1, a2, a3, a4] (.inl 0 :: st) (sh, I, R) := (ev_eq f_29_77).trans rfl
theorem f_29_78 : fetch 29 78 = some (78, .ireturn, 1, [1], 0) := (fm_29 78).trans rfl
theorem u_29_78 {S : Scr} {d : Nat} {a0 a1 a2 a3 a4 : AV} {sh : Shp} {I : IM} {R : RM} {x : Int} (h : x = 0 ∨ x = 1) : ev S d 29 78 [a0, a1, a2, a3, a4] [.inl x] (sh, I, R) = some (some (.inl x), (sh, I, R)) := (ev_eq f_29_78).trans (fin_iret1 h)
theorem f_29_79 : fetch 29 79 = some (79, .aload_n 0, 1, [0], 0) := (fm_29 79).trans rfl
theorem u_29_79 {S : Scr} {d : Nat} {a1 a2 a3 a4 : AV} {st : List AV} {sh : Shp} {I : IM} {R : RM} {x : Nat} : ev S d 29 79 [.inr (.inl x), a1, a2, a3, a4] st (sh, I, R) = ev S d 29 80 [.inr (.inl x), a1, a2, a3, a4] (.inr (.inl x) :: st) (sh, I, R) := (ev_eq f_29_79).trans rfl
theorem f_29_80 : fetch 29 80 = some (80, .getfield 23, 3, [2, 2, 1, 8], 0) := (fm_29 80).trans rfl
theorem u_29_80 {S : Scr} {d : Nat} {a0 a1 a2 a3 a4 : AV} {st : List AV} {sh : Shp} {I : IM} {R : RM} {k : Nat} (h : tg sh k = 2) : ev S d 29 80 [a0, a1, a2, a3, a4] (.inr (.inl k) :: st) (sh, I, R) = ev S d 29 83 [a0, a1, a2, a3, a4] (rv (R k 2) :: st) (sh, I, R) := (ev_eq f_29_80).trans (congrArg (fin S d 29) (if_pos h))
theorem f_29_83 : fetch 29 83 = some (83, .iload_n 2, 1, [2], 0) := (fm_29 83).trans rfl
theorem u_29_83 {S : Scr} {d : Nat} {a0 a1 a3 a4 : AV} {st : List AV} {sh : Shp} {I : IM} {R : RM} {x : Int} : ev S d 29 83 [a0, a1, .inl x, a3, a4] st (sh, I, R) = ev S d 29 84 [a0, a1, .inl x, a3, a4] (.inl x :: st) (sh, I, R) := (ev_eq f_29_83).trans rfl
theorem f_29_84 : fetch 29 84 = some (84, .iload 4, 2, [4], 0) := (fm_29 84).trans rfl
theorem u_29_84 {S : Scr} {d : Nat} {a0 a1 a2 a3 : AV} {st : List AV} {sh : Shp} {I : IM} {R : RM} {x : Int} : ev S d 29 84 [a0, a1, a2, a3, .inl x] st (sh, I, R) = ev S d 29 86 [a0, a1, a2, a3, .inl x] (.inl x :: st) (sh, I, R) := (ev_eq f_29_84).trans rfl
theorem f_29_86 : fetch 29 86 = some (86, .invokevirtual 139, 3, [9, 2, 31], 0) := (fm_29 86).trans rfl
theorem u_29_86 {S : Scr} {d : Nat} {a0 a1 a2 a3 a4 : AV} {st : List AV} {sh : Shp} {I : IM} {R : RM} {x0 : Int} {x1 : Int} {k : Nat} (h : tg sh k = 1) (hr : st.length ≤ 8) : ev S d 29 86 [a0, a1, a2, a3, a4] (.inl x1 :: .inl x0 :: .inr (.inl k) :: st) (sh, I, R) = bnd (cl d 9 [.inr (.inl k), .inl x0, .inl x1] (sh, I, R)) (fun v M => ev S d 29 89 [a0, a1, a2, a3, a4] (psh v st) M) := (ev_eq f_29_86).trans (congrArg (fin S d 29) (if_pos ⟨h, rfl, hr⟩))
theorem f_29_89 : fetch 29 89 = some (89, .pop, 1, [], 0) := (fm_29 89).trans rfl
theorem u_29_89 {S : Scr} {d : Nat} {a0 a1 a2 a3 a4 : AV} {st : List AV} {sh : Shp} {I : IM} {R : RM} {x : AV} : ev S d 29 89 [a0, a1, a2, a3, a4] (x :: st) (sh, I, R) = ev S d 29 90 [a0, a1, a2, a3, a4] st (sh, I, R) := (ev_eq f_29_89).trans rfl
theorem f_29_90 : fetch 29 90 = some (90, .iinc 1 1, 3, [1], 1) := (fm_29 90).trans rfl
theorem u_29_90 {S : Scr} {d : Nat} {a0 a2 a3 a4 : AV} {st : List AV} {sh : Shp} {I : IM} {R : RM} {x : Int} : ev S d 29 90 [a0, .inl x, a2, a3, a4] st (sh, I, R) = ev S d 29 93 [a0, .inl (wr (x + 1)), a2, a3, a4] st (sh, I, R) := (ev_eq f_29_90).trans rfl
theorem f_29_93 : fetch 29 93 = some (93, .goto (-84), 3, [9], 0) := (fm_29 93).trans rfl
theorem u_29_93 {S : Scr} {d : Nat} {a0 a1 a2 a3 a4 : AV} {st : List AV} {sh : Shp} {I : IM} {R : RM} : ev S d 29 93 [a0, a1, a2, a3, a4] st (sh, I, R) = ev S d 29 9 [a0, a1, a2, a3, a4] st (sh, I, R) := (ev_eq f_29_93).trans rfl
theorem f_29_96 : fetch 29 96 = some (96, .aload_n 0, 1, [0], 0) := (fm_29 96).trans rfl
theorem u_29_96 {S : Scr} {d : Nat} {a1 a2 a3 a4 : AV} {st : List AV} {sh : Shp} {I : IM} {R : RM} {x : Nat} : ev S d 29 96 [.inr (.inl x), a1, a2, a3, a4] st (sh, I, R) = ev S d 29 97 [.inr (.inl x), a1, a2, a3, a4] (.inr (.inl x) :: st) (sh, I, R) := (ev_eq f_29_96).trans rfl
theorem f_29_97 : fetch 29 97 = some (97, .dup, 1, [], 0) := (fm_29 97).trans rfl
theorem u_29_97 {S : Scr} {d : Nat} {a0 a1 a2 a3 a4 : AV} {st : List AV} {sh : Shp} {I : IM} {R : RM} {x : AV} : ev S d 29 97 [a0, a1, a2, a3, a4] (x :: st) (sh, I, R) = ev S d 29 98 [a0, a1, a2, a3, a4] (x :: x :: st) (sh, I, R) := (ev_eq f_29_97).trans rfl
theorem f_29_98 : fetch 29 98 = some (98, .getfield 39, 3, [2, 6, 0, 12], 0) := (fm_29 98).trans rfl
theorem u_29_98 {S : Scr} {d : Nat} {a0 a1 a2 a3 a4 : AV} {st : List AV} {sh : Shp} {I : IM} {R : RM} {k : Nat} (h : tg sh k = 2) : ev S d 29 98 [a0, a1, a2, a3, a4] (.inr (.inl k) :: st) (sh, I, R) = ev S d 29 101 [a0, a1, a2, a3, a4] (.inl (I k 6) :: st) (sh, I, R) := (ev_eq f_29_98).trans (congrArg (fin S d 29) (if_pos h))
theorem f_29_101 : fetch 29 101 = some (101, .iconst 1, 1, [], 1) := (fm_29 101).trans rfl
theorem u_29_101 {S : Scr} {d : Nat} {a0 a1 a2 a3 a4 : AV} {st : List AV} {sh : Shp} {I : IM} {R : RM} : ev S d 29 101 [a0, a1, a2, a3, a4] st (sh, I, R) = ev S d 29 102 [a0, a1, a2, a3, a4] (.inl 1 :: st) (sh, I, R) := (ev_eq f_29_101).trans rfl
theorem f_29_102 : fetch 29 102 = some (102, .iadd, 1, [], 0) := (fm_29 102).trans rfl
theorem u_29_102 {S : Scr} {d : Nat} {a0 a1 a2 a3 a4 : AV} {st : List AV} {sh : Shp} {I : IM} {R : RM} {x y : Int} : ev S d 29 102 [a0, a1, a2, a3, a4] (.inl y :: .inl x :: st) (sh, I, R) = ev S d 29 103 [a0, a1, a2, a3, a4] (.inl (wr (x + y)) :: st) (sh, I, R) := (ev_eq f_29_102).trans rfl
theorem f_29_103 : fetch 29 103 = some (103, .putfield 39, 3, [2, 6, 0, 12], 0) := (fm_29 103).trans rfl
theorem u_29_103 {S : Scr} {d : Nat} {a0 a1 a2 a3 a4 : AV} {st : List AV} {sh : Shp} {I : IM} {R : RM} {k : Nat} {x : Int} (h : tg sh k = 2) : ev S d 29 103 [a0, a1, a2, a3, a4] (.inl x :: .inr (.inl k) :: st) (sh, I, R) = ev S d 29 106 [a0, a1, a2, a3, a4] st (sh, up I k 6 x, R) := (ev_eq f_29_103).trans (congrArg (fin S d 29) (if_pos h))
theorem f_29_106 : fetch 29 106 = some (106, .iconst 1, 1, [], 1) := (fm_29 106).trans rfl
theorem u_29_106 {S : Scr} {d : Nat} {a0 a1 a2 a3 a4 : AV} {st : List AV} {sh : Shp} {I : IM} {R : RM} : ev S d 29 106 [a0, a1, a2, a3, a4] st (sh, I, R) = ev S d 29 107 [a0, a1, a2, a3, a4] (.inl 1 :: st) (sh, I, R) := (ev_eq f_29_106).trans rfl
theorem f_29_107 : fetch 29 107 = some (107, .ireturn, 1, [1], 0) := (fm_29 107).trans rfl
theorem u_29_107 {S : Scr} {d : Nat} {a0 a1 a2 a3 a4 : AV} {sh : Shp} {I : IM} {R : RM} {x : Int} (h : x = 0 ∨ x = 1) : ev S d 29 107 [a0, a1, a2, a3, a4] [.inl x] (sh, I, R) = some (some (.inl x), (sh, I, R)) := (ev_eq f_29_107).trans (fin_iret1 h)
theorem c_30 {d : Nat} {a0 a1 : AV} {M : Mem} : cl (d + 1) 30 [a0, a1] M = ev S0 d 30 0 [a0, a1] [] M := (cl_eq (as := [a0, a1]) (show 2 ≤ maxOf 30 by decide +kernel)).trans rfl
theorem mt_30 : MT[30]? = some m_30 := rfl
theorem fm_30 (pc : Nat) : fetch 30 pc = lk m_30.2.2.2.2.2 pc := by
  unfold fetch
  rw [mt_30]
theorem f_30_0 : fetch 30 0 = some (0, .iload_n 1, 1, [1], 0) := (fm_30 0).trans rfl
theorem u_30_0 {S : Scr} {d : Nat} {a0 : AV} {st : List AV} {sh : Shp} {I : IM} {R : RM} {x : Int} : ev S d 30 0 [a0, .inl x] st (sh, I, R) = ev S d 30 1 [a0, .inl x] (.inl x :: st) (sh, I, R) := (ev_eq f_30_0).trans rfl
theorem f_30_1 : fetch 30 1 = some (1, .invokestatic 142, 3, [123, 1, 32], 0) := (fm_30 1).trans rfl
theorem u_30_1 {S : Scr} {d : Nat} {a0 a1 : AV} {st : List AV} {sh : Shp} {I : IM} {R : RM} {x0 : Int} (hr : st.length ≤ 8) : ev S d 30 1 [a0, a1] (.inl x0 :: st) (sh, I, R) = bnd (cl d 123 [.inl x0] (sh, I, R)) (fun v M => ev S d 30 4 [a0, a1] (psh v st) M) := (ev_eq f_30_1).trans (congrArg (fin S d 30) (if_pos ⟨rfl, hr⟩))
theorem f_30_4 : fetch 30 4 = some (4, .ifCond .ne 5, 3, [9], 0) := (fm_30 4).trans rfl
theorem u_30_4 {S : Scr} {d : Nat} {a0 a1 : AV} {st : List AV} {sh : Shp} {I : IM} {R : RM} {x : Int} : ev S d 30 4 [a0, a1] (.inl x :: st) (sh, I, R) = if ¬ x = 0 then ev S d 30 9 [a0, a1] st (sh, I, R) else ev S d 30 7 [a0, a1] st (sh, I, R) := (ev_eq f_30_4).trans fin_if_ne
theorem f_30_7 : fetch 30 7 = some (7, .iconst 1, 1, [], 1) := (fm_30 7).trans rfl
theorem u_30_7 {S : Scr} {d : Nat} {a0 a1 : AV} {st : List AV} {sh : Shp} {I : IM} {R : RM} : ev S d 30 7 [a0, a1] st (sh, I, R) = ev S d 30 8 [a0, a1] (.inl 1 :: st) (sh, I, R) := (ev_eq f_30_7).trans rfl
theorem f_30_8 : fetch 30 8 = some (8, .ireturn, 1, [0], 0) := (fm_30 8).trans rfl
theorem u_30_8 {S : Scr} {d : Nat} {a0 a1 : AV} {sh : Shp} {I : IM} {R : RM} {x : Int} : ev S d 30 8 [a0, a1] [.inl x] (sh, I, R) = some (some (.inl x), (sh, I, R)) := (ev_eq f_30_8).trans fin_iret0
theorem f_30_9 : fetch 30 9 = some (9, .aload_n 0, 1, [0], 0) := (fm_30 9).trans rfl
theorem u_30_9 {S : Scr} {d : Nat} {a1 : AV} {st : List AV} {sh : Shp} {I : IM} {R : RM} {x : Nat} : ev S d 30 9 [.inr (.inl x), a1] st (sh, I, R) = ev S d 30 10 [.inr (.inl x), a1] (.inr (.inl x) :: st) (sh, I, R) := (ev_eq f_30_9).trans rfl
theorem f_30_10 : fetch 30 10 = some (10, .getfield 23, 3, [2, 2, 1, 8], 0) := (fm_30 10).trans rfl
theorem u_30_10 {S : Scr} {d : Nat} {a0 a1 : AV} {st : List AV} {sh : Shp} {I : IM} {R : RM} {k : Nat} (h : tg sh k = 2) : ev S d 30 10 [a0, a1] (.inr (.inl k) :: st) (sh, I, R) = ev S d 30 13 [a0, a1] (rv (R k 2) :: st) (sh, I, R) := (ev_eq f_30_10).trans (congrArg (fin S d 30) (if_pos h))
theorem f_30_13 : fetch 30 13 = some (13, .iload_n 1, 1, [1], 0) := (fm_30 13).trans rfl
theorem u_30_13 {S : Scr} {d : Nat} {a0 : AV} {st : List AV} {sh : Shp} {I : IM} {R : RM} {x : Int} : ev S d 30 13 [a0, .inl x] st (sh, I, R) = ev S d 30 14 [a0, .inl x] (.inl x :: st) (sh, I, R) := (ev_eq f_30_13).trans rfl
theorem f_30_14 : fetch 30 14 = some (14, .invokevirtual 146, 3, [6, 1, 33], 0) := (fm_30 14).trans rfl
theorem u_30_14 {S : Scr} {d : Nat} {a0 a1 : AV} {st : List AV} {sh : Shp} {I : IM} {R : RM} {x0 : Int} {k : Nat} (h : tg sh k = 1) (hr : st.length ≤ 8) : ev S d 30 14 [a0, a1] (.inl x0 :: .inr (.inl k) :: st) (sh, I, R) = bnd (cl d 6 [.inr (.inl k), .inl x0] (sh, I, R)) (fun v M => ev S d 30 17 [a0, a1] (psh v st) M) := (ev_eq f_30_14).trans (congrArg (fin S d 30) (if_pos ⟨h, rfl, hr⟩))
theorem f_30_17 : fetch 30 17 = some (17, .ifCond .ne 13, 3, [30], 0) := (fm_30 17).trans rfl
theorem u_30_17 {S : Scr} {d : Nat} {a0 a1 : AV} {st : List AV} {sh : Shp} {I : IM} {R : RM} {x : Int} : ev S d 30 17 [a0, a1] (.inl x :: st) (sh, I, R) = if ¬ x = 0 then ev S d 30 30 [a0, a1] st (sh, I, R) else ev S d 30 20 [a0, a1] st (sh, I, R) := (ev_eq f_30_17).trans fin_if_ne
theorem f_30_20 : fetch 30 20 = some (20, .aload_n 0, 1, [0], 0) := (fm_30 20).trans rfl
theorem u_30_20 {S : Scr} {d : Nat} {a1 : AV} {st : List AV} {sh : Shp} {I : IM} {R : RM} {x : Nat} : ev S d 30 20 [.inr (.inl x), a1] st (sh, I, R) = ev S d 30 21 [.inr (.inl x), a1] (.inr (.inl x) :: st) (sh, I, R) := (ev_eq f_30_20).trans rfl
theorem f_30_21 : fetch 30 21 = some (21, .getfield 23, 3, [2, 2, 1, 8], 0) := (fm_30 21).trans rfl
theorem u_30_21 {S : Scr} {d : Nat} {a0 a1 : AV} {st : List AV} {sh : Shp} {I : IM} {R : RM} {k : Nat} (h : tg sh k = 2) : ev S d 30 21 [a0, a1] (.inr (.inl k) :: st) (sh, I, R) = ev S d 30 24 [a0, a1] (rv (R k 2) :: st) (sh, I, R) := (ev_eq f_30_21).trans (congrArg (fin S d 30) (if_pos h))
theorem f_30_24 : fetch 30 24 = some (24, .invokevirtual 149, 3, [8, 0, 34], 0) := (fm_30 24).trans rfl
theorem u_30_24 {S : Scr} {d : Nat} {a0 a1 : AV} {st : List AV} {sh : Shp} {I : IM} {R : RM} {k : Nat} (h : tg sh k = 1) (hr : st.length ≤ 8) : ev S d 30 24 [a0, a1] (.inr (.inl k) :: st) (sh, I, R) = bnd (cl d 8 [.inr (.inl k)] (sh, I, R)) (fun v M => ev S d 30 27 [a0, a1] (psh v st) M) := (ev_eq f_30_24).trans (congrArg (fin S d 30) (if_pos ⟨h, rfl, hr⟩))
theorem f_30_27 : fetch 30 27 = some (27, .ifCond .eq 8, 3, [35], 0) := (fm_30 27).trans rfl
theorem u_30_27 {S : Scr} {d : Nat} {a0 a1 : AV} {st : List AV} {sh : Shp} {I : IM} {R : RM} {x : Int} : ev S d 30 27 [a0, a1] (.inl x :: st) (sh, I, R) = if x = 0 then ev S d 30 35 [a0, a1] st (sh, I, R) else ev S d 30 30 [a0, a1] st (sh, I, R) := (ev_eq f_30_27).trans fin_if_eq
theorem f_30_30 : fetch 30 30 = some (30, .bipush 6, 2, [], 6) := (fm_30 30).trans rfl
theorem u_30_30 {S : Scr} {d : Nat} {a0 a1 : AV} {st : List AV} {sh : Shp} {I : IM} {R : RM} : ev S d 30 30 [a0, a1] st (sh, I, R) = ev S d 30 32 [a0, a1] (.inl 6 :: st) (sh, I, R) := (ev_eq f_30_30).trans rfl
theorem f_30_32 : fetch 30 32 = some (32, .goto 4, 3, [36], 0) := (fm_30 32).trans rfl
theorem u_30_32 {S : Scr} {d : Nat} {a0 a1 : AV} {st : List AV} {sh : Shp} {I : IM} {R : RM} : ev S d 30 32 [a0, a1] st (sh, I, R) = ev S d 30 36 [a0, a1] st (sh, I, R) := (ev_eq f_30_32).trans rfl
theorem f_30_35 : fetch 30 35 = some (35, .iconst 0, 1, [], 0) := (fm_30 35).trans rfl
theorem u_30_35 {S : Scr} {d : Nat} {a0 a1 : AV} {st : List AV} {sh : Shp} {I : IM} {R : RM} : ev S d 30 35 [a0, a1] st (sh, I, R) = ev S d 30 36 [a0, a1] (.inl 0 :: st) (sh, I, R) := (ev_eq f_30_35).trans rfl
theorem f_30_36 : fetch 30 36 = some (36, .ireturn, 1, [0], 0) := (fm_30 36).trans rfl
theorem u_30_36 {S : Scr} {d : Nat} {a0 a1 : AV} {sh : Shp} {I : IM} {R : RM} {x : Int} : ev S d 30 36 [a0, a1] [.inl x] (sh, I, R) = some (some (.inl x), (sh, I, R)) := (ev_eq f_30_36).trans fin_iret0
theorem c_31 {d : Nat} {a0 : AV} {M : Mem} : cl (d + 1) 31 [a0] M = ev S0 d 31 0 [a0, .inr (.inr 1), .inr (.inr 1), .inr (.inr 1)] [] M := (cl_eq (as := [a0]) (show 1 ≤ maxOf 31 by decide +kernel)).trans rfl
theorem mt_31 : MT[31]? = some m_31 := rfl
theorem fm_31 (pc : Nat) : fetch 31 pc = lk m_31.2.2.2.2.2 pc := by
  unfold fetch
  rw [mt_31]
theorem f_31_0 : fetch 31 0 = some (0, .aload_n 0, 1, [0], 0) := (fm_31 0).trans rfl
theorem u_31_0 {S : Scr} {d : Nat} {a1 a2 a3 : AV} {st : List AV} {sh : Shp} {I : IM} {R : RM} {x : Nat} : ev S d 31 0 [.inr (.inl x), a1, a2, a3] st (sh, I, R) = ev S d 31 1 [.inr (.inl x), a1, a2, a3] (.inr (.inl x) :: st) (sh, I, R) := (ev_eq f_31_0).trans rfl
theorem f_31_1 : fetch 31 1 = some (1, .invokevirtual 51, 3, [20, 0, 8], 0) := (fm_31 1).trans rfl
theorem u_31_1 {S : Scr} {d : Nat} {a0 a1 a2 a3 : AV} {st : List AV} {sh : Shp} {I : IM} {R : RM} {k : Nat} (h : tg sh k = 2) (hr : st.length ≤ 8) : ev S d 31 1 [a0, a1, a2, a3] (.inr (.inl k) :: st) (sh, I, R) = bnd (cl d 20 [.inr (.inl k)] (sh, I, R)) (fun v M => ev S d 31 4 [a0, a1, a2, a3] (psh v st) M) := (ev_eq f_31_1).trans (congrArg (fin S d 31) (if_pos ⟨h, rfl, hr⟩))
theorem f_31_4 : fetch 31 4 = some (4, .bipush 45, 2, [], 45) := (fm_31 4).trans rfl
theorem u_31_4 {S : Scr} {d : Nat} {a0 a1 a2 a3 : AV} {st : List AV} {sh : Shp} {I : IM} {R : RM} : ev S d 31 4 [a0, a1, a2, a3] st (sh, I, R) = ev S d 31 6 [a0, a1, a2, a3] (.inl 45 :: st) (sh, I, R) := (ev_eq f_31_4).trans rfl
theorem f_31_6 : fetch 31 6 = some (6, .if_icmp .ne 7, 3, [13], 0) := (fm_31 6).trans rfl
theorem u_31_6 {S : Scr} {d : Nat} {a0 a1 a2 a3 : AV} {st : List AV} {sh : Shp} {I : IM} {R : RM} {x y : Int} : ev S d 31 6 [a0, a1, a2, a3] (.inl y :: .inl x :: st) (sh, I, R) = if ¬ x = y then ev S d 31 13 [a0, a1, a2, a3] st (sh, I, R) else ev S d 31 9 [a0, a1, a2, a3] st (sh, I, R) := (ev_eq f_31_6).trans fin_icmp_ne
theorem f_31_9 : fetch 31 9 = some (9, .iconst 1, 1, [], 1) := (fm_31 9).trans rfl
theorem u_31_9 {S : Scr} {d : Nat} {a0 a1 a2 a3 : AV} {st : List AV} {sh : Shp} {I : IM} {R : RM} : ev S d 31 9 [a0, a1, a2, a3] st (sh, I, R) = ev S d 31 10 [a0, a1, a2, a3] (.inl 1 :: st) (sh, I, R) := (ev_eq f_31_9).trans rfl
theorem f_31_10 : fetch 31 10 = some (10, .goto 4, 3, [14], 0) := (fm_31 10).trans rfl
theorem u_31_10 {S : Scr} {d : Nat} {a0 a1 a2 a3 : AV} {st : List AV} {sh : Shp} {I : IM} {R : RM} : ev S d 31 10 [a0, a1, a2, a3] st (sh, I, R) = ev S d 31 14 [a0, a1, a2, a3] st (sh, I, R) := (ev_eq f_31_10).trans rfl
theorem f_31_13 : fetch 31 13 = some (13, .iconst 0, 1, [], 0) := (fm_31 13).trans rfl
theorem u_31_13 {S : Scr} {d : Nat} {a0 a1 a2 a3 : AV} {st : List AV} {sh : Shp} {I : IM} {R : RM} : ev S d 31 13 [a0, a1, a2, a3] st (sh, I, R) = ev S d 31 14 [a0, a1, a2, a3] (.inl 0 :: st) (sh, I, R) := (ev_eq f_31_13).trans rfl
theorem f_31_14 : fetch 31 14 = some (14, .istore_n 1, 1, [1], 0) := (fm_31 14).trans rfl
theorem u_31_14 {S : Scr} {d : Nat} {a0 a1 a2 a3 : AV} {st : List AV} {sh : Shp} {I : IM} {R : RM} {x : Int} : ev S d 31 14 [a0, a1, a2, a3] (.inl x :: st) (sh, I, R) = ev S d 31 15 [a0, .inl x, a2, a3] st (sh, I, R) := (ev_eq f_31_14).trans rfl
theorem f_31_15 : fetch 31 15 = some (15, .iload_n 1, 1, [1], 0) := (fm_31 15).trans rfl
theorem u_31_15 {S : Scr} {d : Nat} {a0 a2 a3 : AV} {st : List AV} {sh : Shp} {I : IM} {R : RM} {x : Int} : ev S d 31 15 [a0, .inl x, a2, a3] st (sh, I, R) = ev S d 31 16 [a0, .inl x, a2, a3] (.inl x :: st) (sh, I, R) := (ev_eq f_31_15).trans rfl
theorem f_31_16 : fetch 31 16 = some (16, .ifCond .eq 13, 3, [29], 0) := (fm_31 16).trans rfl
theorem u_31_16 {S : Scr} {d : Nat} {a0 a1 a2 a3 : AV} {st : List AV} {sh : Shp} {I : IM} {R : RM} {x : Int} : ev S d 31 16 [a0, a1, a2, a3] (.inl x :: st) (sh, I, R) = if x = 0 then ev S d 31 29 [a0, a1, a2, a3] st (sh, I, R) else ev S d 31 19 [a0, a1, a2, a3] st (sh, I, R) := (ev_eq f_31_16).trans fin_if_eq
theorem f_31_19 : fetch 31 19 = some (19, .aload_n 0, 1, [0], 0) := (fm_31 19).trans rfl
theorem u_31_19 {S : Scr} {d : Nat} {a1 a2 a3 : AV} {st : List AV} {sh : Shp} {I : IM} {R : RM} {x : Nat} : ev S d 31 19 [.inr (.inl x), a1, a2, a3] st (sh, I, R) = ev S d 31 20 [.inr (.inl x), a1, a2, a3] (.inr (.inl x) :: st) (sh, I, R) := (ev_eq f_31_19).trans rfl
theorem f_31_20 : fetch 31 20 = some (20, .dup, 1, [], 0) := (fm_31 20).trans rfl
theorem u_31_20 {S : Scr} {d : Nat} {a0 a1 a2 a3 : AV} {st : List AV} {sh : Shp} {I : IM} {R : RM} {x : AV} : ev S d 31 20 [a0, a1, a2, a3] (x :: st) (sh, I, R) = ev S d 31 21 [a0, a1, a2, a3] (x :: x :: st) (sh, I, R) := (ev_eq f_31_20).trans rfl
theorem f_31_21 : fetch 31 21 = some (21, .getfield 39, 3, [2, 6, 0, 12], 0) := (fm_31 21).trans rfl
theorem u_31_21 {S : Scr} {d : Nat} {a0 a1 a2 a3 : AV} {st : List AV} {sh : Shp} {I : IM} {R : RM} {k : Nat} (h : tg sh k = 2) : ev S d 31 21 [a0, a1, a2, a3] (.inr (.inl k) :: st) (sh, I, R) = ev S d 31 24 [a0, a1, a2, a3] (.inl (I k 6) :: st) (sh, I, R) := (ev_eq f_31_21).trans (congrArg (fin S d 31) (if_pos h))
theorem f_31_24 : fetch 31 24 = some (24, .iconst 1, 1, [], 1) := (fm_31 24).trans rfl
theorem u_31_24 {S : Scr} {d : Nat} {a0 a1 a2 a3 : AV} {st : List AV} {sh : Shp} {I : IM} {R : RM} : ev S d 31 24 [a0, a1, a2, a3] st (sh, I, R) = ev S d 31 25 [a0, a1, a2, a3] (.inl 1 :: st) (sh, I, R) := (ev_eq f_31_24).trans rfl
theorem f_31_25 : fetch 31 25 = some (25, .iadd, 1, [], 0) := (fm_31 25).trans rfl
theorem u_31_25 {S : Scr} {d : Nat} {a0 a1 a2 a3 : AV} {st : List AV} {sh : Shp} {I : IM} {R : RM} {x y : Int} : ev S d 31 25 [a0, a1, a2, a3] (.inl y :: .inl x :: st) (sh, I, R) = ev S d 31 26 [a0, a1, a2, a3] (.inl (wr (x + y)) :: st) (sh, I, R) := (ev_eq f_31_25).trans rfl
theorem f_31_26 : fetch 31 26 = some (26, .putfield 39, 3, [2, 6, 0, 12], 0) := (fm_31 26).trans rfl
theorem u_31_26 {S : Scr} {d : Nat} {a0 a1 a2 a3 : AV} {st : List AV} {sh : Shp} {I : IM} {R : RM} {k : Nat} {x : Int} (h : tg sh k = 2) : ev S d 31 26 [a0, a1, a2, a3] (.inl x :: .inr (.inl k) :: st) (sh, I, R) = ev S d 31 29 [a0, a1, a2, a3] st (sh, up I k 6 x, R) := (ev_eq f_31_26).trans (congrArg (fin S d 31) (if_pos h))
theorem f_31_29 : fetch 31 29 = some (29, .aload_n 0, 1, [0], 0) := (fm_31 29).trans rfl
theorem u_31_29 {S : Scr} {d : Nat} {a1 a2 a3 : AV} {st : List AV} {sh : Shp} {I : IM} {R : RM} {x : Nat} : ev S d 31 29 [.inr (.inl x), a1, a2, a3] st (sh, I, R) = ev S d 31 30 [.inr (.inl x), a1, a2, a3] (.inr (.inl x) :: st) (sh, I, R) := (ev_eq f_31_29).trans rfl
theorem f_31_30 : fetch 31 30 = some (30, .iload_n 1, 1, [1], 0) := (fm_31 30).trans rfl
theorem u_31_30 {S : Scr} {d : Nat} {a0 a2 a3 : AV} {st : List AV} {sh : Shp} {I : IM} {R : RM} {x : Int} : ev S d 31 30 [a0, .inl x, a2, a3] st (sh, I, R) = ev S d 31 31 [a0, .inl x, a2, a3] (.inl x :: st) (sh, I, R) := (ev_eq f_31_30).trans rfl
theorem f_31_31 : fetch 31 31 = some (31, .ifCond .eq 7, 3, [38], 0) := (fm_31 31).trans rfl
theorem u_31_31 {S : Scr} {d : Nat} {a0 a1 a2 a3 : AV} {st : List AV} {sh : Shp} {I : IM} {R : RM} {x : Int} : ev S d 31 31 [a0, a1, a2, a3] (.inl x :: st) (sh, I, R) = if x = 0 then ev S d 31 38 [a0, a1, a2, a3] st (sh, I, R) else ev S d 31 34 [a0, a1, a2, a3] st (sh, I, R) := (ev_eq f_31_31).trans fin_if_eq
theorem f_31_34 : fetch 31 34 = some (34, .iconst 1, 1, [], 1) := (fm_31 34).trans rfl
theorem u_31_34 {S : Scr} {d : Nat} {a0 a1 a2 a3 : AV} {st : List AV} {sh : Shp} {I : IM} {R : RM} : ev S d 31 34 [a0, a1, a2, a3] st (sh, I, R) = ev S d 31 35 [a0, a1, a2, a3] (.inl 1 :: st) (sh, I, R) := (ev_eq f_31_34).trans rfl
theorem f_31_35 : fetch 31 35 = some (35, .goto 4, 3, [39], 0) := (fm_31 35).trans rfl
theorem u_31_35 {S : Scr} {d : Nat} {a0 a1 a2 a3 : AV} {st : List AV} {sh : Shp} {I : IM} {R : RM} : ev S d 31 35 [a0, a1, a2, a3] st (sh, I, R) = ev S d 31 39 [a0, a1, a2, a3] st (sh, I, R) := (ev_eq f_31_35).trans rfl
theorem f_31_38 : fetch 31 38 = some (38, .iconst 0, 1, [], 0) := (fm_31 38).trans rfl
theorem u_31_38 {S : Scr} {d : Nat} {a0 a1 a2 a3 : AV} {st : List AV} {sh : Shp} {I : IM} {R : RM} : ev S d 31 38 [a0, a1, a2, a3] st (sh, I, R) = ev S d 31 39 [a0, a1, a2, a3] (.inl 0 :: st) (sh, I, R) := (ev_eq f_31_38).trans rfl
theorem f_31_39 : fetch 31 39 = some (39, .bipush 9, 2, [], 9) := (fm_31 39).trans rfl
theorem u_31_39 {S : Scr} {d : Nat} {a0 a1 a2 a3 : AV} {st : List AV} {sh : Shp} {I : IM} {R : RM} : ev S d 31 39 [a0, a1, a2, a3] st (sh, I, R) = ev S d 31 41 [a0, a1, a2, a3] (.inl 9 :: st) (sh, I, R) := (ev_eq f_31_39).trans rfl
theorem f_31_41 : fetch 31 41 = some (41, .invokevirtual 101, 3, [28, 2, 20], 0) := (fm_31 41).trans rfl
theorem u_31_41 {S : Scr} {d : Nat} {a0 a1 a2 a3 : AV} {st : List AV} {sh : Shp} {I : IM} {R : RM} {x0 : Int} {x1 : Int} {k : Nat} (h : tg sh k = 2) (hr : st.length ≤ 8) : ev S d 31 41 [a0, a1, a2, a3] (.inl x1 :: .inl x0 :: .inr (.inl k) :: st) (sh, I, R) = bnd (cl d 28 [.inr (.inl k), .inl x0, .inl x1] (sh, I, R)) (fun v M => ev S d 31 44 [a0, a1, a2, a3] (psh v st) M) := (ev_eq f_31_41).trans (congrArg (fin S d 31) (if_pos ⟨h, rfl, hr⟩))
theorem f_31_44 : fetch 31 44 = some (44, .istore_n 2, 1, [2], 0) := (fm_31 44).trans rfl
theorem u_31_44 {S : Scr} {d : Nat} {a0 a1 a2 a3 : AV} {st : List AV} {sh : Shp} {I : IM} {R : RM} {x : Int} : ev S d 31 44 [a0, a1, a2, a3] (.inl x :: st) (sh, I, R) = ev S d 31 45 [a0, a1, .inl x, a3] st (sh, I, R) := (ev_eq f_31_44).trans rfl
theorem f_31_45 : fetch 31 45 = some (45, .iload_n 2, 1, [2], 0) := (fm_31 45).trans rfl
theorem u_31_45 {S : Scr} {d : Nat} {a0 a1 a3 : AV} {st : List AV} {sh : Shp} {I : IM} {R : RM} {x : Int} : ev S d 31 45 [a0, a1, .inl x, a3] st (sh, I, R) = ev S d 31 46 [a0, a1, .inl x, a3] (.inl x :: st) (sh, I, R) := (ev_eq f_31_45).trans rfl
theorem f_31_46 : fetch 31 46 = some (46, .ldc 50, 2, [2], (-1000000)) := (fm_31 46).trans rfl
theorem u_31_46 {S : Scr} {d : Nat} {a0 a1 a2 a3 : AV} {st : List AV} {sh : Shp} {I : IM} {R : RM} : ev S d 31 46 [a0, a1, a2, a3] st (sh, I, R) = ev S d 31 48 [a0, a1, a2, a3] (.inl (-1000000) :: st) (sh, I, R) := (ev_eq f_31_46).trans rfl
theorem f_31_48 : fetch 31 48 = some (48, .if_icmp .ne 6, 3, [54], 0) := (fm_31 48).trans rfl
theorem u_31_48 {S : Scr} {d : Nat} {a0 a1 a2 a3 : AV} {st : List AV} {sh : Shp} {I : IM} {R : RM} {x y : Int} : ev S d 31 48 [a0, a1, a2, a3] (.inl y :: .inl x :: st) (sh, I, R) = if ¬ x = y then ev S d 31 54 [a0, a1, a2, a3] st (sh, I, R) else ev S d 31 51 [a0, a1, a2, a3] st (sh, I, R) := (ev_eq f_31_48).trans fin_icmp_ne
theorem f_31_51 : fetch 31 51 = some (51, .ldc 50, 2, [2], (-1000000)) := (fm_31 51).trans rfl
theorem u_31_51 {S : Scr} {d : Nat} {a0 a1 a2 a3 : AV} {st : List AV} {sh : Shp} {I : IM} {R : RM} : ev S d 31 51 [a0, a1, a2, a3] st (sh, I, R) = ev S d 31 53 [a0, a1, a2, a3] (.inl (-1000000) :: st) (sh, I, R) := (ev_eq f_31_51).trans rfl
theorem f_31_53 : fetch 31 53 = some (53, .ireturn, 1, [0], 0) := (fm_31 53).trans rfl
theorem u_31_53 {S : Scr} {d : Nat} {a0 a1 a2 a3 : AV} {sh : Shp} {I : IM} {R : RM} {x : Int} : ev S d 31 53 [a0, a1, a2, a3] [.inl x] (sh, I, R) = some (some (.inl x), (sh, I, R)) := (ev_eq f_31_53).trans fin_iret0
theorem f_31_54 : fetch 31 54 = some (54, .aload_n 0, 1, [0], 0) := (fm_31 54).trans rfl
theorem u_31_54 {S : Scr} {d : Nat} {a1 a2 a3 : AV} {st : List AV} {sh : Shp} {I : IM} {R : RM} {x : Nat} : ev S d 31 54 [.inr (.inl x), a1, a2, a3] st (sh, I, R) = ev S d 31 55 [.inr (.inl x), a1, a2, a3] (.inr (.inl x) :: st) (sh, I, R) := (ev_eq f_31_54).trans rfl
theorem f_31_55 : fetch 31 55 = some (55, .invokevirtual 51, 3, [20, 0, 8], 0) := (fm_31 55).trans rfl
theorem u_31_55 {S : Scr} {d : Nat} {a0 a1 a2 a3 : AV} {st : List AV} {sh : Shp} {I : IM} {R : RM} {k : Nat} (h : tg sh k = 2) (hr : st.length ≤ 8) : ev S d 31 55 [a0, a1, a2, a3] (.inr (.inl k) :: st) (sh, I, R) = bnd (cl d 20 [.inr (.inl k)] (sh, I, R)) (fun v M => ev S d 31 58 [a0, a1, a2, a3] (psh v st) M) := (ev_eq f_31_55).trans (congrArg (fin S d 31) (if_pos ⟨h, rfl, hr⟩))
theorem f_31_58 : fetch 31 58 = some (58, .bipush 48, 2, [], 48) := (fm_31 58).trans rfl
theorem u_31_58 {S : Scr} {d : Nat} {a0 a1 a2 a3 : AV} {st : List AV} {sh : Shp} {I : IM} {R : RM} : ev S d 31 58 [a0, a1, a2, a3] st (sh, I, R) = ev S d 31 60 [a0, a1, a2, a3] (.inl 48 :: st) (sh, I, R) := (ev_eq f_31_58).trans rfl
theorem f_31_60 : fetch 31 60 = some (60, .isub, 1, [], 0) := (fm_31 60).trans rfl
theorem u_31_60 {S : Scr} {d : Nat} {a0 a1 a2 a3 : AV} {st : List AV} {sh : Shp} {I : IM} {R : RM} {x y : Int} : ev S d 31 60 [a0, a1, a2, a3] (.inl y :: .inl x :: st) (sh, I, R) = ev S d 31 61 [a0, a1, a2, a3] (.inl (wr (x - y)) :: st) (sh, I, R) := (ev_eq f_31_60).trans rfl
theorem f_31_61 : fetch 31 61 = some (61, .istore_n 3, 1, [3], 0) := (fm_31 61).trans rfl
theorem u_31_61 {S : Scr} {d : Nat} {a0 a1 a2 a3 : AV} {st : List AV} {sh : Shp} {I : IM} {R : RM} {x : Int} : ev S d 31 61 [a0, a1, a2, a3] (.inl x :: st) (sh, I, R) = ev S d 31 62 [a0, a1, a2, .inl x] st (sh, I, R) := (ev_eq f_31_61).trans rfl
theorem f_31_62 : fetch 31 62 = some (62, .iload_n 2, 1, [2], 0) := (fm_31 62).trans rfl
theorem u_31_62 {S : Scr} {d : Nat} {a0 a1 a3 : AV} {st : List AV} {sh : Shp} {I : IM} {R : RM} {x : Int} : ev S d 31 62 [a0, a1, .inl x, a3] st (sh, I, R) = ev S d 31 63 [a0, a1, .inl x, a3] (.inl x :: st) (sh, I, R) := (ev_eq f_31_62).trans rfl
theorem f_31_63 : fetch 31 63 = some (63, .ifCond .le 30, 3, [93], 0) := (fm_31 63).trans rfl
theorem u_31_63 {S : Scr} {d : Nat} {a0 a1 a2 a3 : AV} {st : List AV} {sh : Shp} {I : IM} {R : RM} {x : Int} : ev S d 31 63 [a0, a1, a2, a3] (.inl x :: st) (sh, I, R) = if x ≤ 0 then ev S d 31 93 [a0, a1, a2, a3] st (sh, I, R) else ev S d 31 66 [a0, a1, a2, a3] st (sh, I, R) := (ev_eq f_31_63).trans fin_if_le
theorem f_31_66 : fetch 31 66 = some (66, .iload_n 3, 1, [3], 0) := (fm_31 66).trans rfl
theorem u_31_66 {S : Scr} {d : Nat} {a0 a1 a2 : AV} {st : List AV} {sh : Shp} {I : IM} {R : RM} {x : Int} : ev S d 31 66 [a0, a1, a2, .inl x] st (sh, I, R) = ev S d 31 67 [a0, a1, a2, .inl x] (.inl x :: st) (sh, I, R) := (ev_eq f_31_66).trans rfl
theorem f_31_67 : fetch 31 67 = some (67, .ifCond .lt 26, 3, [93], 0) := (fm_31 67).trans rfl
theorem u_31_67 {S : Scr} {d : Nat} {a0 a1 a2 a3 : AV} {st : List AV} {sh : Shp} {I : IM} {R : RM} {x : Int} : ev S d 31 67 [a0, a1, a2, a3] (.inl x :: st) (sh, I, R) = if x < 0 then ev S d 31 93 [a0, a1, a2, a3] st (sh, I, R) else ev S d 31 70 [a0, a1, a2, a3] st (sh, I, R) := (ev_eq f_31_67).trans fin_if_lt
theorem f_31_70 : fetch 31 70 = some (70, .iload_n 3, 1, [3], 0) := (fm_31 70).trans rfl
theorem u_31_70 {S : Scr} {d : Nat} {a0 a1 a2 : AV} {st : List AV} {sh : Shp} {I : IM} {R : RM} {x : Int} : ev S d 31 70 [a0, a1, a2, .inl x] st (sh, I, R) = ev S d 31 71 [a0, a1, a2, .inl x] (.inl x :: st) (sh, I, R) := (ev_eq f_31_70).trans rfl
theorem f_31_71 : fetch 31 71 = some (71, .bipush 9, 2, [], 9) := (fm_31 71).trans rfl
theorem u_31_71 {S : Scr} {d : Nat} {a0 a1 a2 a3 : AV} {st : List AV} {sh : Shp} {I : IM} {R : RM} : ev S d 31 71 [a0, a1, a2, a3] st (sh, I, R) = ev S d 31 73 [a0, a1, a2, a3] (.inl 9 :: st) (sh, I, R) := (ev_eq f_31_71).trans rfl
theorem f_31_73 : fetch 31 73 = some (73, .if_icmp .gt 20, 3, [93], 0) := (fm_31 73).trans rfl
theorem u_31_73 {S : Scr} {d : Nat} {a0 a1 a2 a3 : AV} {st : List AV} {sh : Shp} {I : IM} {R : RM} {x y : Int} : ev S d 31 73 [a0, a1, a2, a3] (.inl y :: .inl x :: st) (sh, I, R) = if y < x then ev S d 31 93 [a0, a1, a2, a3] st (sh, I, R) else ev S d 31 76 [a0, a1, a2, a3] st (sh, I, R) := (ev_eq f_31_73).trans fin_icmp_gt
theorem f_31_76 : fetch 31 76 = some (76, .aload_n 0, 1, [0], 0) := (fm_31 76).trans rfl
theorem u_31_76 {S : Scr} {d : Nat} {a1 a2 a3 : AV} {st : List AV} {sh : Shp} {I : IM} {R : RM} {x : Nat} : ev S d 31 76 [.inr (.inl x), a1, a2, a3] st (sh, I, R) = ev S d 31 77 [.inr (.inl x), a1, a2, a3] (.inr (.inl x) :: st) (sh, I, R) := (ev_eq f_31_76).trans rfl
theorem f_31_77 : fetch 31 77 = some (77, .dup, 1, [], 0) := (fm_31 77).trans rfl
theorem u_31_77 {S : Scr} {d : Nat} {a0 a1 a2 a3 : AV} {st : List AV} {sh : Shp} {I : IM} {R : RM} {x : AV} : ev S d 31 77 [a0, a1, a2, a3] (x :: st) (sh, I, R) = ev S d 31 78 [a0, a1, a2, a3] (x :: x :: st) (sh, I, R) := (ev_eq f_31_77).trans rfl
theorem f_31_78 : fetch 31 78 = some (78, .getfield 39, 3, [2, 6, 0, 12], 0) := (fm_31 78).trans rfl
theorem u_31_78 {S : Scr} {d : Nat} {a0 a1 a2 a3 : AV} {st : List AV} {sh : Shp} {I : IM} {R : RM} {k : Nat} (h : tg sh k = 2) : ev S d 31 78 [a0, a1, a2, a3] (.inr (.inl k) :: st) (sh, I, R) = ev S d 31 81 [a0, a1, a2, a3] (.inl (I k 6) :: st) (sh, I, R) := (ev_eq f_31_78).trans (congrArg (fin S d 31) (if_pos h))
theorem f_31_81 : fetch 31 81 = some (81, .iconst 1, 1, [], 1) := (fm_31 81).trans rfl
theorem u_31_81 {S : Scr} {d : Nat} {a0 a1 a2 a3 : AV} {st : List AV} {sh : Shp} {I : IM} {R : RM} : ev S d 31 81 [a0, a1, a2, a3] st (sh, I, R) = ev S d 31 82 [a0, a1, a2, a3] (.inl 1 :: st) (sh, I, R) := (ev_eq f_31_81).trans rfl
theorem f_31_82 : fetch 31 82 = some (82, .iadd, 1, [], 0) := (fm_31 82).trans rfl
theorem u_31_82 {S : Scr} {d : Nat} {a0 a1 a2 a3 : AV} {st : List AV} {sh : Shp} {I : IM} {R : RM} {x y : Int} : ev S d 31 82 [a0, a1, a2, a3] (.inl y :: .inl x :: st) (sh, I, R) = ev S d 31 83 [a0, a1, a2, a3] (.inl (wr (x + y)) :: st) (sh, I, R) := (ev_eq f_31_82).trans rfl
theorem f_31_83 : fetch 31 83 = some (83, .putfield 39, 3, [2, 6, 0, 12], 0) := (fm_31 83).trans rfl
theorem u_31_83 {S : Scr} {d : Nat} {a0 a1 a2 a3 : AV} {st : List AV} {sh : Shp} {I : IM} {R : RM} {k : Nat} {x : Int} (h : tg sh k = 2) : ev S d 31 83 [a0, a1, a2, a3] (.inl x :: .inr (.inl k) :: st) (sh, I, R) = ev S d 31 86 [a0, a1, a2, a3] st (sh, up I k 6 x, R) := (ev_eq f_31_83).trans (congrArg (fin S d 31) (if_pos h))
theorem f_31_86 : fetch 31 86 = some (86, .bipush 10, 2, [], 10) := (fm_31 86).trans rfl
theorem u_31_86 {S : Scr} {d : Nat} {a0 a1 a2 a3 : AV} {st : List AV} {sh : Shp} {I : IM} {R : RM} : ev S d 31 86 [a0, a1, a2, a3] st (sh, I, R) = ev S d 31 88 [a0, a1, a2, a3] (.inl 10 :: st) (sh, I, R) := (ev_eq f_31_86).trans rfl
theorem f_31_88 : fetch 31 88 = some (88, .iload_n 2, 1, [2], 0) := (fm_31 88).trans rfl
theorem u_31_88 {S : Scr} {d : Nat} {a0 a1 a3 : AV} {st : List AV} {sh : Shp} {I : IM} {R : RM} {x : Int} : ev S d 31 88 [a0, a1, .inl x, a3] st (sh, I, R) = ev S d 31 89 [a0, a1, .inl x, a3] (.inl x :: st) (sh, I, R) := (ev_eq f_31_88).trans rfl
theorem f_31_89 : fetch 31 89 = some (89, .imul, 1, [], 0) := (fm_31 89).trans rfl
theorem u_31_89 {S : Scr} {d : Nat} {a0 a1 a2 a3 : AV} {st : List AV} {sh : Shp} {I : IM} {R : RM} {x y : Int} : ev S d 31 89 [a0, a1, a2, a3] (.inl y :: .inl x :: st) (sh, I, R) = ev S d 31 90 [a0, a1, a2, a3] (.inl (wr (x * y)) :: st) (sh, I, R) := (ev_eq f_31_89).trans rfl
theorem f_31_90 : fetch 31 90 = some (90, .iload_n 3, 1, [3], 0) := (fm_31 90).trans rfl
theorem u_31_90 {S : Scr} {d : Nat} {a0 a1 a2 : AV} {st : List AV} {sh : Shp} {I : IM} {R : RM} {x : Int} : ev S d 31 90 [a0, a1, a2, .inl x] st (sh, I, R) = ev S d 31 91 [a0, a1, a2, .inl x] (.inl x :: st) (sh, I, R) := (ev_eq f_31_90).trans rfl
theorem f_31_91 : fetch 31 91 = some (91, .iadd, 1, [], 0) := (fm_31 91).trans rfl
theorem u_31_91 {S : Scr} {d : Nat} {a0 a1 a2 a3 : AV} {st : List AV} {sh : Shp} {I : IM} {R : RM} {x y : Int} : ev S d 31 91 [a0, a1, a2, a3] (.inl y :: .inl x :: st) (sh, I, R) = ev S d 31 92 [a0, a1, a2, a3] (.inl (wr (x + y)) :: st) (sh, I, R) := (ev_eq f_31_91).trans rfl
theorem f_31_92 : fetch 31 92 = some (92, .istore_n 2, 1, [2], 0) := (fm_31 92).trans rfl
theorem u_31_92 {S : Scr} {d : Nat} {a0 a1 a2 a3 : AV} {st : List AV} {sh : Shp} {I : IM} {R : RM} {x : Int} : ev S d 31 92 [a0, a1, a2, a3] (.inl x :: st) (sh, I, R) = ev S d 31 93 [a0, a1, .inl x, a3] st (sh, I, R) := (ev_eq f_31_92).trans rfl
theorem f_31_93 : fetch 31 93 = some (93, .iload_n 1, 1, [1], 0) := (fm_31 93).trans rfl
theorem u_31_93 {S : Scr} {d : Nat} {a0 a2 a3 : AV} {st : List AV} {sh : Shp} {I : IM} {R : RM} {x : Int} : ev S d 31 93 [a0, .inl x, a2, a3] st (sh, I, R) = ev S d 31 94 [a0, .inl x, a2, a3] (.inl x :: st) (sh, I, R) := (ev_eq f_31_93).trans rfl
theorem f_31_94 : fetch 31 94 = some (94, .ifCond .eq 8, 3, [102], 0) := (fm_31 94).trans rfl
theorem u_31_94 {S : Scr} {d : Nat} {a0 a1 a2 a3 : AV} {st : List AV} {sh : Shp} {I : IM} {R : RM} {x : Int} : ev S d 31 94 [a0, a1, a2, a3] (.inl x :: st) (sh, I, R) = if x = 0 then ev S d 31 102 [a0, a1, a2, a3] st (sh, I, R) else ev S d 31 97 [a0, a1, a2, a3] st (sh, I, R) := (ev_eq f_31_94).trans fin_if_eq
theorem f_31_97 : fetch 31 97 = some (97, .iload_n 2, 1, [2], 0) := (fm_31 97).trans rfl
theorem u_31_97 {S : Scr} {d : Nat} {a0 a1 a3 : AV} {st : List AV} {sh : Shp} {I : IM} {R : RM} {x : Int} : ev S d 31 97 [a0, a1, .inl x, a3] st (sh, I, R) = ev S d 31 98 [a0, a1, .inl x, a3] (.inl x :: st) (sh, I, R) := (ev_eq f_31_97).trans rfl
theorem f_31_98 : fetch 31 98 = some (98, .ineg, 1, [], 0) := (fm_31 98).trans rfl
theorem u_31_98 {S : Scr} {d : Nat} {a0 a1 a2 a3 : AV} {st : List AV} {sh : Shp} {I : IM} {R : RM} {x : Int} : ev S d 31 98 [a0, a1, a2, a3] (.inl x :: st) (sh, I, R) = ev S d 31 99 [a0, a1, a2, a3] (.inl (wr (-x)) :: st) (sh, I, R) := (ev_eq f_31_98).trans rfl
theorem f_31_99 : fetch 31 99 = some (99, .goto 4, 3, [103], 0) := (fm_31 99).trans rfl
theorem u_31_99 {S : Scr} {d : Nat} {a0 a1 a2 a3 : AV} {st : List AV} {sh : Shp} {I : IM} {R : RM} : ev S d 31 99 [a0, a1, a2, a3] st (sh, I, R) = ev S d 31 103 [a0, a1, a2, a3] st (sh, I, R) := (ev_eq f_31_99).trans rfl
theorem f_31_102 : fetch 31 102 = some (102, .iload_n 2, 1, [2], 0) := (fm_31 102).trans rfl
theorem u_31_102 {S : Scr} {d : Nat} {a0 a1 a3 : AV} {st : List AV} {sh : Shp} {I : IM} {R : RM} {x : Int} : ev S d 31 102 [a0, a1, .inl x, a3] st (sh, I, R) = ev S d 31 103 [a0, a1, .inl x, a3] (.inl x :: st) (sh, I, R) := (ev_eq f_31_102).trans rfl
theorem f_31_103 : fetch 31 103 = some (103, .ireturn, 1, [0], 0) := (fm_31 103).trans rfl
theorem u_31_103 {S : Scr} {d : Nat} {a0 a1 a2 a3 : AV} {sh : Shp} {I : IM} {R : RM} {x : Int} : ev S d 31 103 [a0, a1, a2, a3] [.inl x] (sh, I, R) = some (some (.inl x), (sh, I, R)) := (ev_eq f_31_103).trans fin_iret0
theorem c_32 {d : Nat} {a0 a1 a2 : AV} {M : Mem} : cl (d + 1) 32 [a0, a1, a2] M = ev S0 d 32 0 [a0, a1, a2, .inr (.inr 1), .inr (.inr 1), .inr (.inr 1), .inr (.inr 1)] [] M := (cl_eq (as := [a0, a1, a2]) (show 3 ≤ maxOf 32 by decide +kernel)).trans rfl
theorem mt_32 : MT[32]? = some m_32 := rfl
theorem fm_32 (pc : Nat) : fetch 32 pc = lk m_32.2.2.2.2.2 pc := by
  unfold fetch
  rw [mt_32]
theorem f_32_0 : fetch 32 0 = some (0, .aload_n 0, 1, [0], 0) := (fm_32 0).trans rfl
theorem u_32_0 {S : Scr} {d : Nat} {a1 a2 a3 a4 a5 a6 : AV} {st : List AV} {sh : Shp} {I : IM} {R : RM} {x : Nat} : ev S d 32 0 [.inr (.inl x), a1, a2, a3, a4, a5, a6] st (sh, I, R) = ev S d 32 1 [.inr (.inl x), a1, a2, a3, a4, a5, a6] (.inr (.inl x) :: st) (sh, I, R) := (ev_eq f_32_0).trans rfl
theorem f_32_1 : fetch 32 1 = some (1, .getfield 31, 3, [2, 0, 1, 10], 0) := (fm_32 1).trans rfl
theorem u_32_1 {S : Scr} {d : Nat} {a0 a1 a2 a3 a4 a5 a6 : AV} {st : List AV} {sh : Shp} {I : IM} {R : RM} {k : Nat} (h : tg sh k = 2) : ev S d 32 1 [a0, a1, a2, a3, a4, a5, a6] (.inr (.inl k) :: st) (sh, I, R) = ev S d 32 4 [a0, a1, a2, a3, a4, a5, a6] (rv (R k 0) :: st) (sh, I, R) := (ev_eq f_32_1).trans (congrArg (fin S d 32) (if_pos h))
theorem f_32_4 : fetch 32 4 = some (4, .iload_n 1, 1, [1], 0) := (fm_32 4).trans rfl
theorem u_32_4 {S : Scr} {d : Nat} {a0 a2 a3 a4 a5 a6 : AV} {st : List AV} {sh : Shp} {I : IM} {R : RM} {x : Int} : ev S d 32 4 [a0, .inl x, a2, a3, a4, a5, a6] st (sh, I, R) = ev S d 32 5 [a0, .inl x, a2, a3, a4, a5, a6] (.inl x :: st) (sh, I, R) := (ev_eq f_32_4).trans rfl
theorem f_32_5 : fetch 32 5 = some (5, .invokevirtual 114, 3, [68, 1, 24], 0) := (fm_32 5).trans rfl
theorem u_32_5 {S : Scr} {d : Nat} {a0 a1 a2 a3 a4 a5 a6 : AV} {st : List AV} {sh : Shp} {I : IM} {R : RM} {x0 : Int} {k : Nat} (h : tg sh k = 7) (hr : st.length ≤ 8) : ev S d 32 5 [a0, a1, a2, a3, a4, a5, a6] (.inl x0 :: .inr (.inl k) :: st) (sh, I, R) = bnd (cl d 68 [.inr (.inl k), .inl x0] (sh, I, R)) (fun v M => ev S d 32 8 [a0, a1, a2, a3, a4, a5, a6] (psh v st) M) := (ev_eq f_32_5).trans (congrArg (fin S d 32) (if_pos ⟨h, rfl, hr⟩))
theorem f_32_8 : fetch 32 8 = some (8, .astore_n 3, 1, [3], 0) := (fm_32 8).trans rfl
theorem u_32_8 {S : Scr} {d : Nat} {a0 a1 a2 a3 a4 a5 a6 : AV} {st : List AV} {sh : Shp} {I : IM} {R : RM} {x : Nat} : ev S d 32 8 [a0, a1, a2, a3, a4, a5, a6] (.inr (.inl x) :: st) (sh, I, R) = ev S d 32 9 [a0, a1, a2, .inr (.inl x), a4, a5, a6] st (sh, I, R) := (ev_eq f_32_8).trans rfl
theorem u_32_8n {S : Scr} {d : Nat} {a0 a1 a2 a3 a4 a5 a6 : AV} {st : List AV} {sh : Shp} {I : IM} {R : RM} : ev S d 32 8 [a0, a1, a2, a3, a4, a5, a6] (.inr (.inr 0) :: st) (sh, I, R) = ev S d 32 9 [a0, a1, a2, .inr (.inr 0), a4, a5, a6] st (sh, I, R) := (ev_eq f_32_8).trans rfl
theorem f_32_9 : fetch 32 9 = some (9, .iconst 0, 1, [], 0) := (fm_32 9).trans rfl
theorem u_32_9 {S : Scr} {d : Nat} {a0 a1 a2 a3 a4 a5 a6 : AV} {st : List AV} {sh : Shp} {I : IM} {R : RM} : ev S d 32 9 [a0, a1, a2, a3, a4, a5, a6] st (sh, I, R) = ev S d 32 10 [a0, a1, a2, a3, a4, a5, a6] (.inl 0 :: st) (sh, I, R) := (ev_eq f_32_9).trans rfl
theorem f_32_10 : fetch 32 10 = some (10, .istore 4, 2, [4], 0) := (fm_32 10).trans rfl
theorem u_32_10 {S : Scr} {d : Nat} {a0 a1 a2 a3 a4 a5 a6 : AV} {st : List AV} {sh : Shp} {I : IM} {R : RM} {x : Int} : ev S d 32 10 [a0, a1, a2, a3, a4, a5, a6] (.inl x :: st) (sh, I, R) = ev S d 32 12 [a0, a1, a2, a3, .inl x, a5, a6] st (sh, I, R) := (ev_eq f_32_10).trans rfl
theorem f_32_12 : fetch 32 12 = some (12, .aload_n 3, 1, [3], 0) := (fm_32 12).trans rfl
theorem u_32_12 {S : Scr} {d : Nat} {a0 a1 a2 a4 a5 a6 : AV} {st : List AV} {sh : Shp} {I : IM} {R : RM} {x : Nat} : ev S d 32 12 [a0, a1, a2, .inr (.inl x), a4, a5, a6] st (sh, I, R) = ev S d 32 13 [a0, a1, a2, .inr (.inl x), a4, a5, a6] (.inr (.inl x) :: st) (sh, I, R) := (ev_eq f_32_12).trans rfl
theorem u_32_12n {S : Scr} {d : Nat} {a0 a1 a2 a4 a5 a6 : AV} {st : List AV} {sh : Shp} {I : IM} {R : RM} : ev S d 32 12 [a0, a1, a2, .inr (.inr 0), a4, a5, a6] st (sh, I, R) = ev S d 32 13 [a0, a1, a2, .inr (.inr 0), a4, a5, a6] (.inr (.inr 0) :: st) (sh, I, R) := (ev_eq f_32_12).trans rfl
theorem f_32_13 : fetch 32 13 = some (13, .ifnull 80, 3, [93], 0) := (fm_32 13).trans rfl
theorem u_32_13 {S : Scr} {d : Nat} {a0 a1 a2 a3 a4 a5 a6 : AV} {st : List AV} {sh : Shp} {I : IM} {R : RM} {x : Nat} : ev S d 32 13 [a0, a1, a2, a3, a4, a5, a6] (.inr (.inl x) :: st) (sh, I, R) = ev S d 32 16 [a0, a1, a2, a3, a4, a5, a6] st (sh, I, R) := (ev_eq f_32_13).trans rfl
theorem u_32_13n {S : Scr} {d : Nat} {a0 a1 a2 a3 a4 a5 a6 : AV} {st : List AV} {sh : Shp} {I : IM} {R : RM} : ev S d 32 13 [a0, a1, a2, a3, a4, a5, a6] (.inr (.inr 0) :: st) (sh, I, R) = ev S d 32 93 [a0, a1, a2, a3, a4, a5, a6] st (sh, I, R) := (ev_eq f_32_13).trans rfl
theorem f_32_16 : fetch 32 16 = some (16, .iload 4, 2, [4], 0) := (fm_32 16).trans rfl
theorem u_32_16 {S : Scr} {d : Nat} {a0 a1 a2 a3 a5 a6 : AV} {st : List AV} {sh : Shp} {I : IM} {R : RM} {x : Int} : ev S d 32 16 [a0, a1, a2, a3, .inl x, a5, a6] st (sh, I, R) = ev S d 32 18 [a0, a1, a2, a3, .inl x, a5, a6] (.inl x :: st) (sh, I, R) := (ev_eq f_32_16).trans rfl
theorem f_32_18 : fetch 32 18 = some (18, .aload_n 3, 1, [3], 0) := (fm_32 18).trans rfl
theorem u_32_18 {S : Scr} {d : Nat} {a0 a1 a2 a4 a5 a6 : AV} {st : List AV} {sh : Shp} {I : IM} {R : RM} {x : Nat} : ev S d 32 18 [a0, a1, a2, .inr (.inl x), a4, a5, a6] st (sh, I, R) = ev S d 32 19 [a0, a1, a2, .inr (.inl x), a4, a5, a6] (.inr (.inl x) :: st) (sh, I, R) := (ev_eq f_32_18).trans rfl
theorem u_32_18n {S : Scr} {d : Nat} {a0 a1 a2 a4 a5 a6 : AV} {st : List AV} {sh : Shp} {I : IM} {R : RM} : ev S d 32 18 [a0, a1, a2, .inr (.inr 0), a4, a5, a6] st (sh, I, R) = ev S d 32 19 [a0, a1, a2, .inr (.inr 0), a4, a5, a6] (.inr (.inr 0) :: st) (sh, I, R) := (ev_eq f_32_18).trans rfl
theorem f_32_19 : fetch 32 19 = some (19, .getfield 150, 3, [3, 4, 0, 17], 0) := (fm_32 19).trans rfl
theorem u_32_19 {S : Scr} {d : Nat} {a0 a1 a2 a3 a4 a5 a6 : AV} {st : List AV} {sh : Shp} {I : IM} {R : RM} {k : Nat} (h : tg sh k = 3) : ev S d 32 19 [a0, a1, a2, a3, a4, a5, a6] (.inr (.inl k) :: st) (sh, I, R) = ev S d 32 22 [a0, a1, a2, a3, a4, a5, a6] (.inl (I k 4) :: st) (sh, I, R) := (ev_eq f_32_19).trans (congrArg (fin S d 32) (if_pos h))
theorem f_32_22 : fetch 32 22 = some (22, .if_icmp .ge 71, 3, [93], 0) := (fm_32 22).trans rfl
theorem u_32_22 {S : Scr} {d : Nat} {a0 a1 a2 a3 a4 a5 a6 : AV} {st : List AV} {sh : Shp} {I : IM} {R : RM} {x y : Int} : ev S d 32 22 [a0, a1, a2, a3, a4, a5, a6] (.inl y :: .inl x :: st) (sh, I, R) = if y ≤ x then ev S d 32 93 [a0, a1, a2, a3, a4, a5, a6] st (sh, I, R) else ev S d 32 25 [a0, a1, a2, a3, a4, a5, a6] st (sh, I, R) := (ev_eq f_32_22).trans fin_icmp_ge
theorem f_32_25 : fetch 32 25 = some (25, .aload_n 0, 1, [0], 0) := (fm_32 25).trans rfl
theorem u_32_25 {S : Scr} {d : Nat} {a1 a2 a3 a4 a5 a6 : AV} {st : List AV} {sh : Shp} {I : IM} {R : RM} {x : Nat} : ev S d 32 25 [.inr (.inl x), a1, a2, a3, a4, a5, a6] st (sh, I, R) = ev S d 32 26 [.inr (.inl x), a1, a2, a3, a4, a5, a6] (.inr (.inl x) :: st) (sh, I, R) := (ev_eq f_32_25).trans rfl
theorem f_32_26 : fetch 32 26 = some (26, .getfield 39, 3, [2, 6, 0, 12], 0) := (fm_32 26).trans rfl
theorem u_32_26 {S : Scr} {d : Nat} {a0 a1 a2 a3 a4 a5 a6 : AV} {st : List AV} {sh : Shp} {I : IM} {R : RM} {k : Nat} (h : tg sh k = 2) : ev S d 32 26 [a0, a1, a2, a3, a4, a5, a6] (.inr (.inl k) :: st) (sh, I, R) = ev S d 32 29 [a0, a1, a2, a3, a4, a5, a6] (.inl (I k 6) :: st) (sh, I, R) := (ev_eq f_32_26).trans (congrArg (fin S d 32) (if_pos h))
theorem f_32_29 : fetch 32 29 = some (29, .istore 5, 2, [5], 0) := (fm_32 29).trans rfl
theorem u_32_29 {S : Scr} {d : Nat} {a0 a1 a2 a3 a4 a5 a6 : AV} {st : List AV} {sh : Shp} {I : IM} {R : RM} {x : Int} : ev S d 32 29 [a0, a1, a2, a3, a4, a5, a6] (.inl x :: st) (sh, I, R) = ev S d 32 31 [a0, a1, a2, a3, a4, .inl x, a6] st (sh, I, R) := (ev_eq f_32_29).trans rfl
theorem f_32_31 : fetch 32 31 = some (31, .aload_n 0, 1, [0], 0) := (fm_32 31).trans rfl
theorem u_32_31 {S : Scr} {d : Nat} {a1 a2 a3 a4 a5 a6 : AV} {st : List AV} {sh : Shp} {I : IM} {R : RM} {x : Nat} : ev S d 32 31 [.inr (.inl x), a1, a2, a3, a4, a5, a6] st (sh, I, R) = ev S d 32 32 [.inr (.inl x), a1, a2, a3, a4, a5, a6] (.inr (.inl x) :: st) (sh, I, R) := (ev_eq f_32_31).trans rfl
theorem f_32_32 : fetch 32 32 = some (32, .iload_n 2, 1, [2], 0) := (fm_32 32).trans rfl
theorem u_32_32 {S : Scr} {d : Nat} {a0 a1 a3 a4 a5 a6 : AV} {st : List AV} {sh : Shp} {I : IM} {R : RM} {x : Int} : ev S d 32 32 [a0, a1, .inl x, a3, a4, a5, a6] st (sh, I, R) = ev S d 32 33 [a0, a1, .inl x, a3, a4, a5, a6] (.inl x :: st) (sh, I, R) := (ev_eq f_32_32).trans rfl
theorem f_32_33 : fetch 32 33 = some (33, .iconst 1, 1, [], 1) := (fm_32 33).trans rfl
theorem u_32_33 {S : Scr} {d : Nat} {a0 a1 a2 a3 a4 a5 a6 : AV} {st : List AV} {sh : Shp} {I : IM} {R : RM} : ev S d 32 33 [a0, a1, a2, a3, a4, a5, a6] st (sh, I, R) = ev S d 32 34 [a0, a1, a2, a3, a4, a5, a6] (.inl 1 :: st) (sh, I, R) := (ev_eq f_32_33).trans rfl
theorem f_32_34 : fetch 32 34 = some (34, .iadd, 1, [], 0) := (fm_32 34).trans rfl
theorem u_32_34 {S : Scr} {d : Nat} {a0 a1 a2 a3 a4 a5 a6 : AV} {st : List AV} {sh : Shp} {I : IM} {R : RM} {x y : Int} : ev S d 32 34 [a0, a1, a2, a3, a4, a5, a6] (.inl y :: .inl x :: st) (sh, I, R) = ev S d 32 35 [a0, a1, a2, a3, a4, a5, a6] (.inl (wr (x + y)) :: st) (sh, I, R) := (ev_eq f_32_34).trans rfl
theorem f_32_35 : fetch 32 35 = some (35, .invokevirtual 46, 3, [21, 1, 7], 0) := (fm_32 35).trans rfl
theorem u_32_35 {S : Scr} {d : Nat} {a0 a1 a2 a3 a4 a5 a6 : AV} {st : List AV} {sh : Shp} {I : IM} {R : RM} {x0 : Int} {k : Nat} (h : tg sh k = 2) (hr : st.length ≤ 8) : ev S d 32 35 [a0, a1, a2, a3, a4, a5, a6] (.inl x0 :: .inr (.inl k) :: st) (sh, I, R) = bnd (cl d 21 [.inr (.inl k), .inl x0] (sh, I, R)) (fun v M => ev S d 32 38 [a0, a1, a2, a3, a4, a5, a6] (psh v st) M) := (ev_eq f_32_35).trans (congrArg (fin S d 32) (if_pos ⟨h, rfl, hr⟩))
theorem f_32_38 : fetch 32 38 = some (38, .istore 6, 2, [6], 0) := (fm_32 38).trans rfl
theorem u_32_38 {S : Scr} {d : Nat} {a0 a1 a2 a3 a4 a5 a6 : AV} {st : List AV} {sh : Shp} {I : IM} {R : RM} {x : Int} : ev S d 32 38 [a0, a1, a2, a3, a4, a5, a6] (.inl x :: st) (sh, I, R) = ev S d 32 40 [a0, a1, a2, a3, a4, a5, .inl x] st (sh, I, R) := (ev_eq f_32_38).trans rfl
theorem f_32_40 : fetch 32 40 = some (40, .iload 6, 2, [6], 0) := (fm_32 40).trans rfl
theorem u_32_40 {S : Scr} {d : Nat} {a0 a1 a2 a3 a4 a5 : AV} {st : List AV} {sh : Shp} {I : IM} {R : RM} {x : Int} : ev S d 32 40 [a0, a1, a2, a3, a4, a5, .inl x] st (sh, I, R) = ev S d 32 42 [a0, a1, a2, a3, a4, a5, .inl x] (.inl x :: st) (sh, I, R) := (ev_eq f_32_40).trans rfl
theorem f_32_42 : fetch 32 42 = some (42, .ldc 50, 2, [2], (-1000000)) := (fm_32 42).trans rfl
theorem u_32_42 {S : Scr} {d : Nat} {a0 a1 a2 a3 a4 a5 a6 : AV} {st : List AV} {sh : Shp} {I : IM} {R : RM} : ev S d 32 42 [a0, a1, a2, a3, a4, a5, a6] st (sh, I, R) = ev S d 32 44 [a0, a1, a2, a3, a4, a5, a6] (.inl (-1000000) :: st) (sh, I, R) := (ev_eq f_32_42).trans rfl
theorem f_32_44 : fetch 32 44 = some (44, .if_icmp .ne 5, 3, [49], 0) := (fm_32 44).trans rfl
theorem u_32_44 {S : Scr} {d : Nat} {a0 a1 a2 a3 a4 a5 a6 : AV} {st : List AV} {sh : Shp} {I : IM} {R : RM} {x y : Int} : ev S d 32 44 [a0, a1, a2, a3, a4, a5, a6] (.inl y :: .inl x :: st) (sh, I, R) = if ¬ x = y then ev S d 32 49 [a0, a1, a2, a3, a4, a5, a6] st (sh, I, R) else ev S d 32 47 [a0, a1, a2, a3, a4, a5, a6] st (sh, I, R) := (ev_eq f_32_44).trans fin_icmp_ne
theorem f_32_47 : fetch 32 47 = some (47, .iconst 0, 1, [], 0) := (fm_32 47).trans rfl
theorem u_32_47 {S : Scr} {d : Nat} {a0 a1 a2 a3 a4 a5 a6 : AV} {st : List AV} {sh : Shp} {I : IM} {R : RM} : ev S d 32 47 [a0, a1, a2, a3, a4, a5, a6] st (sh, I, R) = ev S d 32 48 [a0, a1, a2, a3, a4, a5, a6] (.inl 0 :: st) (sh, I, R) := (ev_eq f_32_47).trans rfl
theorem f_32_48 : fetch 32 48 = some (48, .ireturn, 1, [1], 0) := (fm_32 48).trans rfl
theorem u_32_48 {S : Scr} {d : Nat} {a0 a1 a2 a3 a4 a5 a6 : AV} {sh : Shp} {I : IM} {R : RM} {x : Int} (h : x = 0 ∨ x = 1) : ev S d 32 48 [a0, a1, a2, a3, a4, a5, a6] [.inl x] (sh, I, R) = some (some (.inl x), (sh, I, R)) := (ev_eq f_32_48).trans (fin_iret1 h)
theorem f_32_49 : fetch 32 49 = some (49, .aload_n 3, 1, [3], 0) := (fm_32 49).trans rfl
theorem u_32_49 {S : Scr} {d : Nat} {a0 a1 a2 a4 a5 a6 : AV} {st : List AV} {sh : Shp} {I : IM} {R : RM} {x : Nat} : ev S d 32 49 [a0, a1, a2, .inr (.inl x), a4, a5, a6] st (sh, I, R) = ev S d 32 50 [a0, a1, a2, .inr (.inl x), a4, a5, a6] (.inr (.inl x) :: st) (sh, I, R) := (ev_eq f_32_49).trans rfl
theorem u_32_49n {S : Scr} {d : Nat} {a0 a1 a2 a4 a5 a6 : AV} {st : List AV} {sh : Shp} {I : IM} {R : RM} : ev S d 32 49 [a0, a1, a2, .inr (.inr 0), a4, a5, a6] st (sh, I, R) = ev S d 32 50 [a0, a1, a2, .inr (.inr 0), a4, a5, a6] (.inr (.inr 0) :: st) (sh, I, R) := (ev_eq f_32_49).trans rfl
theorem f_32_50 : fetch 32 50 = some (50, .aload_n 0, 1, [0], 0) := (fm_32 50).trans rfl
theorem u_32_50 {S : Scr} {d : Nat} {a1 a2 a3 a4 a5 a6 : AV} {st : List AV} {sh : Shp} {I : IM} {R : RM} {x : Nat} : ev S d 32 50 [.inr (.inl x), a1, a2, a3, a4, a5, a6] st (sh, I, R) = ev S d 32 51 [.inr (.inl x), a1, a2, a3, a4, a5, a6] (.inr (.inl x) :: st) (sh, I, R) := (ev_eq f_32_50).trans rfl
theorem f_32_51 : fetch 32 51 = some (51, .getfield 31, 3, [2, 0, 1, 10], 0) := (fm_32 51).trans rfl
theorem u_32_51 {S : Scr} {d : Nat} {a0 a1 a2 a3 a4 a5 a6 : AV} {st : List AV} {sh : Shp} {I : IM} {R : RM} {k : Nat} (h : tg sh k = 2) : ev S d 32 51 [a0, a1, a2, a3, a4, a5, a6] (.inr (.inl k) :: st) (sh, I, R) = ev S d 32 54 [a0, a1, a2, a3, a4, a5, a6] (rv (R k 0) :: st) (sh, I, R) := (ev_eq f_32_51).trans (congrArg (fin S d 32) (if_pos h))
theorem f_32_54 : fetch 32 54 = some (54, .iload 6, 2, [6], 0) := (fm_32 54).trans rfl
theorem u_32_54 {S : Scr} {d : Nat} {a0 a1 a2 a3 a4 a5 : AV} {st : List AV} {sh : Shp} {I : IM} {R : RM} {x : Int} : ev S d 32 54 [a0, a1, a2, a3, a4, a5, .inl x] st (sh, I, R) = ev S d 32 56 [a0, a1, a2, a3, a4, a5, .inl x] (.inl x :: st) (sh, I, R) := (ev_eq f_32_54).trans rfl
theorem f_32_56 : fetch 32 56 = some (56, .invokevirtual 114, 3, [68, 1, 24], 0) := (fm_32 56).trans rfl
theorem u_32_56 {S : Scr} {d : Nat} {a0 a1 a2 a3 a4 a5 a6 : AV} {st : List AV} {sh : Shp} {I : IM} {R : RM} {x0 : Int} {k : Nat} (h : tg sh k = 7) (hr : st.length ≤ 8) : ev S d 32 56 [a0, a1, a2, a3, a4, a5, a6] (.inl x0 :: .inr (.inl k) :: st) (sh, I, R) = bnd (cl d 68 [.inr (.inl k), .inl x0] (sh, I, R)) (fun v M => ev S d 32 59 [a0, a1, a2, a3, a4, a5, a6] (psh v st) M) := (ev_eq f_32_56).trans (congrArg (fin S d 32) (if_pos ⟨h, rfl, hr⟩))
theorem f_32_59 : fetch 32 59 = some (59, .invokevirtual 153, 3, [37, 1, 35], 0) := (fm_32 59).trans rfl
theorem u_32_59 {S : Scr} {d : Nat} {a0 a1 a2 a3 a4 a5 a6 : AV} {st : List AV} {sh : Shp} {I : IM} {R : RM} {x0 : Nat} {k : Nat} (h : tg sh k = 3) (hr : st.length ≤ 8) : ev S d 32 59 [a0, a1, a2, a3, a4, a5, a6] (.inr (.inl x0) :: .inr (.inl k) :: st) (sh, I, R) = bnd (cl d 37 [.inr (.inl k), .inr (.inl x0)] (sh, I, R)) (fun v M => ev S d 32 62 [a0, a1, a2, a3, a4, a5, a6] (psh v st) M) := (ev_eq f_32_59).trans (congrArg (fin S d 32) (if_pos ⟨h, rfl, hr⟩))
theorem u_32_59n {S : Scr} {d : Nat} {a0 a1 a2 a3 a4 a5 a6 : AV} {st : List AV} {sh : Shp} {I : IM} {R : RM} {k : Nat} (h : tg sh k = 3) (hr : st.length ≤ 8) : ev S d 32 59 [a0, a1, a2, a3, a4, a5, a6] (.inr (.inr 0) :: .inr (.inl k) :: st) (sh, I, R) = bnd (cl d 37 [.inr (.inl k), .inr (.inr 0)] (sh, I, R)) (fun v M => ev S d 32 62 [a0, a1, a2, a3, a4, a5, a6] (psh v st) M) := (ev_eq f_32_59).trans (congrArg (fin S d 32) (if_pos ⟨h, rfl, hr⟩))
theorem f_32_62 : fetch 32 62 = some (62, .ifCond .ne 16, 3, [78], 0) := (fm_32 62).trans rfl
theorem u_32_62 {S : Scr} {d : Nat} {a0 a1 a2 a3 a4 a5 a6 : AV} {st : List AV} {sh : Shp} {I : IM} {R : RM} {x : Int} : ev S d 32 62 [a0, a1, a2, a3, a4, a5, a6] (.inl x :: st) (sh, I, R) = if ¬ x = 0 then ev S d 32 78 [a0, a1, a2, a3, a4, a5, a6] st (sh, I, R) else ev S d 32 65 [a0, a1, a2, a3, a4, a5, a6] st (sh, I, R) := (ev_eq f_32_62).trans fin_if_ne
theorem f_32_65 : fetch 32 65 = some (65, .aload_n 0, 1, [0], 0) := (fm_32 65).trans rfl
theorem u_32_65 {S : Scr} {d : Nat} {a1 a2 a3 a4 a5 a6 : AV} {st : List AV} {sh : Shp} {I : IM} {R : RM} {x : Nat} : ev S d 32 65 [.inr (.inl x), a1, a2, a3, a4, a5, a6] st (sh, I, R) = ev S d 32 66 [.inr (.inl x), a1, a2, a3, a4, a5, a6] (.inr (.inl x) :: st) (sh, I, R) := (ev_eq f_32_65).trans rfl
theorem f_32_66 : fetch 32 66 = some (66, .getfield 12, 3, [2, 1, 1, 7], 0) := (fm_32 66).trans rfl
theorem u_32_66 {S : Scr} {d : Nat} {a0 a1 a2 a3 a4 a5 a6 : AV} {st : List AV} {sh : Shp} {I : IM} {R : RM} {k : Nat} (h : tg sh k = 2) : ev S d 32 66 [a0, a1, a2, a3, a4, a5, a6] (.inr (.inl k) :: st) (sh, I, R) = ev S d 32 69 [a0, a1, a2, a3, a4, a5, a6] (rv (R k 1) :: st) (sh, I, R) := (ev_eq f_32_66).trans (congrArg (fin S d 32) (if_pos h))
theorem f_32_69 : fetch 32 69 = some (69, .iload 5, 2, [5], 0) := (fm_32 69).trans rfl
theorem u_32_69 {S : Scr} {d : Nat} {a0 a1 a2 a3 a4 a6 : AV} {st : List AV} {sh : Shp} {I : IM} {R : RM} {x : Int} : ev S d 32 69 [a0, a1, a2, a3, a4, .inl x, a6] st (sh, I, R) = ev S d 32 71 [a0, a1, a2, a3, a4, .inl x, a6] (.inl x :: st) (sh, I, R) := (ev_eq f_32_69).trans rfl
theorem f_32_71 : fetch 32 71 = some (71, .iconst 3, 1, [], 3) := (fm_32 71).trans rfl
theorem u_32_71 {S : Scr} {d : Nat} {a0 a1 a2 a3 a4 a5 a6 : AV} {st : List AV} {sh : Shp} {I : IM} {R : RM} : ev S d 32 71 [a0, a1, a2, a3, a4, a5, a6] st (sh, I, R) = ev S d 32 72 [a0, a1, a2, a3, a4, a5, a6] (.inl 3 :: st) (sh, I, R) := (ev_eq f_32_71).trans rfl
theorem f_32_72 : fetch 32 72 = some (72, .invokevirtual 55, 3, [1, 2, 9], 0) := (fm_32 72).trans rfl
theorem u_32_72 {S : Scr} {d : Nat} {a0 a1 a2 a3 a4 a5 a6 : AV} {st : List AV} {sh : Shp} {I : IM} {R : RM} {x0 : Int} {x1 : Int} {k : Nat} (h : tg sh k = 0) (hr : st.length ≤ 8) : ev S d 32 72 [a0, a1, a2, a3, a4, a5, a6] (.inl x1 :: .inl x0 :: .inr (.inl k) :: st) (sh, I, R) = bnd (cl d 1 [.inr (.inl k), .inl x0, .inl x1] (sh, I, R)) (fun v M => ev S d 32 75 [a0, a1, a2, a3, a4, a5, a6] (psh v st) M) := (ev_eq f_32_72).trans (congrArg (fin S d 32) (if_pos ⟨h, rfl, hr⟩))
theorem f_32_75 : fetch 32 75 = some (75, .pop, 1, [], 0) := (fm_32 75).trans rfl
theorem u_32_75 {S : Scr} {d : Nat} {a0 a1 a2 a3 a4 a5 a6 : AV} {st : List AV} {sh : Shp} {I : IM} {R : RM} {x : AV} : ev S d 32 75 [a0, a1, a2, a3, a4, a5, a6] (x :: st) (sh, I, R) = ev S d 32 76 [a0, a1, a2, a3, a4, a5, a6] st (sh, I, R) := (ev_eq f_32_75).trans rfl
theorem f_32_76 : fetch 32 76 = some (76, .iconst 0, 1, [], 0) := (fm_32 76).trans rfl
theorem u_32_76 {S : Scr} {d : Nat} {a0 a1 a2 a3 a4 a5 a6 : AV} {st : List AV} {sh : Shp} {I : IM} {R : RM} : ev S d 32 76 [a0, a1, a2, a3, a4, a5, a6] st (sh, I, R) = ev S d 32 77 [a0, a1, a2, a3, a4, a5, a6] (.inl 0 :: st) (sh, I, R) := (ev_eq f_32_76).trans rfl
theorem f_32_77 : fetch 32 77 = some (77, .ireturn, 1, [1], 0) := (fm_32 77).trans rfl
theorem u_32_77 {S : Scr} {d : Nat} {a0 a1 a2 a3 a4 a5 a6 : AV} {sh : Shp} {I : IM} {R : RM} {x : Int} (h : x = 0 ∨ x = 1) : ev S d 32 77 [a0, a1, a2, a3, a4, a5, a6] [.inl x] (sh, I, R) = some (some (.inl x), (sh, I, R)) := (ev_eq f_32_77).trans (fin_iret1 h)
theorem f_32_78 : fetch 32 78 = some (78, .aload_n 3, 1, [3], 0) := (fm_32 78).trans rfl
theorem u_32_78 {S : Scr} {d : Nat} {a0 a1 a2 a4 a5 a6 : AV} {st : List AV} {sh : Shp} {I : IM} {R : RM} {x : Nat} : ev S d 32 78 [a0, a1, a2, .inr (.inl x), a4, a5, a6] st (sh, I, R) = ev S d 32 79 [a0, a1, a2, .inr (.inl x), a4, a5, a6] (.inr (.inl x) :: st) (sh, I, R) := (ev_eq f_32_78).trans rfl
theorem u_32_78n {S : Scr} {d : Nat} {a0 a1 a2 a4 a5 a6 : AV} {st : List AV} {sh : Shp} {I : IM} {R : RM} : ev S d 32 78 [a0, a1, a2, .inr (.inr 0), a4, a5, a6] st (sh, I, R) = ev S d 32 79 [a0, a1, a2, .inr (.inr 0), a4, a5, a6] (.inr (.inr 0) :: st) (sh, I, R) := (ev_eq f_32_78).trans rfl
theorem f_32_79 : fetch 32 79 = some (79, .getfield 157, 3, [3, 1, 1, 18], 0) := (fm_32 79).trans rfl
theorem u_32_79 {S : Scr} {d : Nat} {a0 a1 a2 a3 a4 a5 a6 : AV} {st : List AV} {sh : Shp} {I : IM} {R : RM} {k : Nat} (h : tg sh k = 3) : ev S d 32 79 [a0, a1, a2, a3, a4, a5, a6] (.inr (.inl k) :: st) (sh, I, R) = ev S d 32 82 [a0, a1, a2, a3, a4, a5, a6] (rv (R k 1) :: st) (sh, I, R) := (ev_eq f_32_79).trans (congrArg (fin S d 32) (if_pos h))
theorem f_32_82 : fetch 32 82 = some (82, .iload 4, 2, [4], 0) := (fm_32 82).trans rfl
theorem u_32_82 {S : Scr} {d : Nat} {a0 a1 a2 a3 a5 a6 : AV} {st : List AV} {sh : Shp} {I : IM} {R : RM} {x : Int} : ev S d 32 82 [a0, a1, a2, a3, .inl x, a5, a6] st (sh, I, R) = ev S d 32 84 [a0, a1, a2, a3, .inl x, a5, a6] (.inl x :: st) (sh, I, R) := (ev_eq f_32_82).trans rfl
theorem f_32_84 : fetch 32 84 = some (84, .iload 6, 2, [6], 0) := (fm_32 84).trans rfl
theorem u_32_84 {S : Scr} {d : Nat} {a0 a1 a2 a3 a4 a5 : AV} {st : List AV} {sh : Shp} {I : IM} {R : RM} {x : Int} : ev S d 32 84 [a0, a1, a2, a3, a4, a5, .inl x] st (sh, I, R) = ev S d 32 86 [a0, a1, a2, a3, a4, a5, .inl x] (.inl x :: st) (sh, I, R) := (ev_eq f_32_84).trans rfl
theorem f_32_86 : fetch 32 86 = some (86, .iastore, 1, [], 0) := (fm_32 86).trans rfl
theorem u_32_86 {S : Scr} {d : Nat} {a0 a1 a2 a3 a4 a5 a6 : AV} {st : List AV} {sh : Shp} {I : IM} {R : RM} {k : Nat} {i x : Int} (h : tg sh k = 100) (h0 : 0 ≤ i) (h1 : i < ln sh k) : ev S d 32 86 [a0, a1, a2, a3, a4, a5, a6] (.inl x :: .inl i :: .inr (.inl k) :: st) (sh, I, R) = ev S d 32 87 [a0, a1, a2, a3, a4, a5, a6] st (sh, up I k i x, R) := (ev_eq f_32_86).trans (congrArg (fin S d 32) (if_pos ⟨h, h0, h1⟩))
theorem f_32_87 : fetch 32 87 = some (87, .iinc 4 1, 3, [4], 1) := (fm_32 87).trans rfl
theorem u_32_87 {S : Scr} {d : Nat} {a0 a1 a2 a3 a5 a6 : AV} {st : List AV} {sh : Shp} {I : IM} {R : RM} {x : Int} : ev S d 32 87 [a0, a1, a2, a3, .inl x, a5, a6] st (sh, I, R) = ev S d 32 90 [a0, a1, a2, a3, .inl (wr (x + 1)), a5, a6] st (sh, I, R) := (ev_eq f_32_87).trans rfl
theorem f_32_90 : fetch 32 90 = some (90, .goto (-78), 3, [12], 0) := (fm_32 90).trans rfl
theorem u_32_90 {S : Scr} {d : Nat} {a0 a1 a2 a3 a4 a5 a6 : AV} {st : List AV} {sh : Shp} {I : IM} {R : RM} : ev S d 32 90 [a0, a1, a2, a3, a4, a5, a6] st (sh, I, R) = ev S d 32 12 [a0, a1, a2, a3, a4, a5, a6] st (sh, I, R) := (ev_eq f_32_90).trans rfl
theorem f_32_93 : fetch 32 93 = some (93, .iconst 1, 1, [], 1) := (fm_32 93).trans rfl
theorem u_32_93 {S : Scr} {d : Nat} {a0 a1 a2 a3 a4 a5 a6 : AV} {st : List AV} {sh : Shp} {I : IM} {R : RM} : ev S d 32 93 [a0, a1, a2, a3, a4, a5, a6] st (sh, I, R) = ev S d 32 94 [a0, a1, a2, a3, a4, a5, a6] (.inl 1 :: st) (sh, I, R) := (ev_eq f_32_93).trans rfl
theorem f_32_94 : fetch 32 94 = some (94, .ireturn, 1, [1], 0) := (fm_32 94).trans rfl
theorem u_32_94 {S : Scr} {d : Nat} {a0 a1 a2 a3 a4 a5 a6 : AV} {sh : Shp} {I : IM} {R : RM} {x : Int} (h : x = 0 ∨ x = 1) : ev S d 32 94 [a0, a1, a2, a3, a4, a5, a6] [.inl x] (sh, I, R) = some (some (.inl x), (sh, I, R)) := (ev_eq f_32_94).trans (fin_iret1 h)
theorem c_33 {d : Nat} {a0 : AV} {M : Mem} : cl (d + 1) 33 [a0] M = ev S0 d 33 0 [a0] [] M := (cl_eq (as := [a0]) (show 1 ≤ maxOf 33 by decide +kernel)).trans rfl
theorem mt_33 : MT[33]? = some m_33 := rfl
theorem fm_33 (pc : Nat) : fetch 33 pc = lk m_33.2.2.2.2.2 pc := by
  unfold fetch
  rw [mt_33]
theorem f_33_0 : fetch 33 0 = some (0, .aload_n 0, 1, [0], 0) := (fm_33 0).trans rfl
theorem u_33_0 {S : Scr} {d : Nat} {st : List AV} {sh : Shp} {I : IM} {R : RM} {x : Nat} : ev S d 33 0 [.inr (.inl x)] st (sh, I, R) = ev S d 33 1 [.inr (.inl x)] (.inr (.inl x) :: st) (sh, I, R) := (ev_eq f_33_0).trans rfl
theorem f_33_1 : fetch 33 1 = some (1, .invokespecial 3, 3, [3], 0) := (fm_33 1).trans rfl
theorem u_33_1 {S : Scr} {d : Nat} {a0 : AV} {st : List AV} {sh : Shp} {I : IM} {R : RM} {k : Nat} (hr : st.length ≤ 8) : ev S d 33 1 [a0] (.inr (.inl k) :: st) (sh, I, R) = ev S d 33 4 [a0] st (sh, I, R) := (ev_eq f_33_1).trans (congrArg (fin S d 33) (if_pos hr))
theorem f_33_4 : fetch 33 4 = some (4, .aload_n 0, 1, [0], 0) := (fm_33 4).trans rfl
theorem u_33_4 {S : Scr} {d : Nat} {st : List AV} {sh : Shp} {I : IM} {R : RM} {x : Nat} : ev S d 33 4 [.inr (.inl x)] st (sh, I, R) = ev S d 33 5 [.inr (.inl x)] (.inr (.inl x) :: st) (sh, I, R) := (ev_eq f_33_4).trans rfl
theorem f_33_5 : fetch 33 5 = some (5, .new 9, 3, [1, 4, 2], 0) := (fm_33 5).trans rfl
theorem f_33_8 : fetch 33 8 = some (8, .dup, 1, [], 0) := (fm_33 8).trans rfl
theorem u_33_8 {S : Scr} {d : Nat} {a0 : AV} {st : List AV} {sh : Shp} {I : IM} {R : RM} {x : AV} : ev S d 33 8 [a0] (x :: st) (sh, I, R) = ev S d 33 9 [a0] (x :: x :: st) (sh, I, R) := (ev_eq f_33_8).trans rfl
theorem f_33_9 : fetch 33 9 = some (9, .bipush 6, 2, [], 6) := (fm_33 9).trans rfl
theorem u_33_9 {S : Scr} {d : Nat} {a0 : AV} {st : List AV} {sh : Shp} {I : IM} {R : RM} : ev S d 33 9 [a0] st (sh, I, R) = ev S d 33 11 [a0] (.inl 6 :: st) (sh, I, R) := (ev_eq f_33_9).trans rfl
theorem f_33_11 : fetch 33 11 = some (11, .invokespecial 11, 3, [4, 1, 36], 0) := (fm_33 11).trans rfl
theorem u_33_11 {S : Scr} {d : Nat} {a0 : AV} {st : List AV} {sh : Shp} {I : IM} {R : RM} {x0 : Int} {k : Nat} (h : tg sh k = 1) (hr : st.length ≤ 8) : ev S d 33 11 [a0] (.inl x0 :: .inr (.inl k) :: st) (sh, I, R) = bnd (cl d 4 [.inr (.inl k), .inl x0] (sh, I, R)) (fun v M => ev S d 33 14 [a0] (psh v st) M) := (ev_eq f_33_11).trans (congrArg (fin S d 33) (if_pos ⟨h, rfl, hr⟩))
theorem f_33_14 : fetch 33 14 = some (14, .putfield 14, 3, [3, 0, 1, 19], 0) := (fm_33 14).trans rfl
theorem u_33_14 {S : Scr} {d : Nat} {a0 : AV} {st : List AV} {sh : Shp} {I : IM} {R : RM} {k v : Nat} (h : tg sh k = 3) : ev S d 33 14 [a0] (.inr (.inl v) :: .inr (.inl k) :: st) (sh, I, R) = ev S d 33 17 [a0] st (sh, I, up R k 0 (some v)) := (ev_eq f_33_14).trans (congrArg (fin S d 33) (if_pos h))
theorem f_33_17 : fetch 33 17 = some (17, .aload_n 0, 1, [0], 0) := (fm_33 17).trans rfl
theorem u_33_17 {S : Scr} {d : Nat} {st : List AV} {sh : Shp} {I : IM} {R : RM} {x : Nat} : ev S d 33 17 [.inr (.inl x)] st (sh, I, R) = ev S d 33 18 [.inr (.inl x)] (.inr (.inl x) :: st) (sh, I, R) := (ev_eq f_33_17).trans rfl
theorem f_33_18 : fetch 33 18 = some (18, .bipush 6, 2, [], 6) := (fm_33 18).trans rfl
theorem u_33_18 {S : Scr} {d : Nat} {a0 : AV} {st : List AV} {sh : Shp} {I : IM} {R : RM} : ev S d 33 18 [a0] st (sh, I, R) = ev S d 33 20 [a0] (.inl 6 :: st) (sh, I, R) := (ev_eq f_33_18).trans rfl
theorem f_33_20 : fetch 33 20 = some (20, .newarray .int, 2, [], 0) := (fm_33 20).trans rfl
theorem f_33_22 : fetch 33 22 = some (22, .putfield 20, 3, [3, 1, 1, 20], 0) := (fm_33 22).trans rfl
theorem u_33_22 {S : Scr} {d : Nat} {a0 : AV} {st : List AV} {sh : Shp} {I : IM} {R : RM} {k v : Nat} (h : tg sh k = 3) : ev S d 33 22 [a0] (.inr (.inl v) :: .inr (.inl k) :: st) (sh, I, R) = ev S d 33 25 [a0] st (sh, I, up R k 1 (some v)) := (ev_eq f_33_22).trans (congrArg (fin S d 33) (if_pos h))
theorem f_33_25 : fetch 33 25 = some (25, .return_, 1, [], 0) := (fm_33 25).trans rfl
theorem u_33_25 {S : Scr} {d : Nat} {a0 : AV} {sh : Shp} {I : IM} {R : RM} : ev S d 33 25 [a0] [] (sh, I, R) = some (none, (sh, I, R)) := (ev_eq f_33_25).trans rfl
theorem c_34 {d : Nat} {a0 a1 a2 a3 : AV} {M : Mem} : cl (d + 1) 34 [a0, a1, a2, a3] M = ev S0 d 34 0 [a0, a1, a2, a3, .inr (.inr 1)] [] M := (cl_eq (as := [a0, a1, a2, a3]) (show 4 ≤ maxOf 34 by decide +kernel)).trans rfl
theorem mt_34 : MT[34]? = some m_34 := rfl
theorem fm_34 (pc : Nat) : fetch 34 pc = lk m_34.2.2.2.2.2 pc := by
  unfold fetch
  rw [mt_34]
theorem f_34_0 : fetch 34 0 = some (0, .aload_n 0, 1, [0], 0) := (fm_34 0).trans rfl
theorem u_34_0 {S : Scr} {d : Nat} {a1 a2 a3 a4 : AV} {st : List AV} {sh : Shp} {I : IM} {R : RM} {x : Nat} : ev S d 34 0 [.inr (.inl x), a1, a2, a3, a4] st (sh, I, R) = ev S d 34 1 [.inr (.inl x), a1, a2, a3, a4] (.inr (.inl x) :: st) (sh, I, R) := (ev_eq f_34_0).trans rfl
theorem f_34_1 : fetch 34 1 = some (1, .iload_n 1, 1, [1], 0) := (fm_34 1).trans rfl
theorem u_34_1 {S : Scr} {d : Nat} {a0 a2 a3 a4 : AV} {st : List AV} {sh : Shp} {I : IM} {R : RM} {x : Int} : ev S d 34 1 [a0, .inl x, a2, a3, a4] st (sh, I, R) = ev S d 34 2 [a0, .inl x, a2, a3, a4] (.inl x :: st) (sh, I, R) := (ev_eq f_34_1).trans rfl
theorem f_34_2 : fetch 34 2 = some (2, .putfield 24, 3, [3, 2, 0, 21], 0) := (fm_34 2).trans rfl
theorem u_34_2 {S : Scr} {d : Nat} {a0 a1 a2 a3 a4 : AV} {st : List AV} {sh : Shp} {I : IM} {R : RM} {k : Nat} {x : Int} (h : tg sh k = 3) : ev S d 34 2 [a0, a1, a2, a3, a4] (.inl x :: .inr (.inl k) :: st) (sh, I, R) = ev S d 34 5 [a0, a1, a2, a3, a4] st (sh, up I k 2 x, R) := (ev_eq f_34_2).trans (congrArg (fin S d 34) (if_pos h))
theorem f_34_5 : fetch 34 5 = some (5, .aload_n 0, 1, [0], 0) := (fm_34 5).trans rfl
theorem u_34_5 {S : Scr} {d : Nat} {a1 a2 a3 a4 : AV} {st : List AV} {sh : Shp} {I : IM} {R : RM} {x : Nat} : ev S d 34 5 [.inr (.inl x), a1, a2, a3, a4] st (sh, I, R) = ev S d 34 6 [.inr (.inl x), a1, a2, a3, a4] (.inr (.inl x) :: st) (sh, I, R) := (ev_eq f_34_5).trans rfl
theorem f_34_6 : fetch 34 6 = some (6, .iload_n 2, 1, [2], 0) := (fm_34 6).trans rfl
theorem u_34_6 {S : Scr} {d : Nat} {a0 a1 a3 a4 : AV} {st : List AV} {sh : Shp} {I : IM} {R : RM} {x : Int} : ev S d 34 6 [a0, a1, .inl x, a3, a4] st (sh, I, R) = ev S d 34 7 [a0, a1, .inl x, a3, a4] (.inl x :: st) (sh, I, R) := (ev_eq f_34_6).trans rfl
theorem f_34_7 : fetch 34 7 = some (7, .putfield 28, 3, [3, 3, 0, 22], 0) := (fm_34 7).trans rfl
theorem u_34_7 {S : Scr} {d : Nat} {a0 a1 a2 a3 a4 : AV} {st : List AV} {sh : Shp} {I : IM} {R : RM} {k : Nat} {x : Int} (h : tg sh k = 3) : ev S d 34 7 [a0, a1, a2, a3, a4] (.inl x :: .inr (.inl k) :: st) (sh, I, R) = ev S d 34 10 [a0, a1, a2, a3, a4] st (sh, up I k 3 x, R) := (ev_eq f_34_7).trans (congrArg (fin S d 34) (if_pos h))
theorem f_34_10 : fetch 34 10 = some (10, .aload_n 0, 1, [0], 0) := (fm_34 10).trans rfl
theorem u_34_10 {S : Scr} {d : Nat} {a1 a2 a3 a4 : AV} {st : List AV} {sh : Shp} {I : IM} {R : RM} {x : Nat} : ev S d 34 10 [.inr (.inl x), a1, a2, a3, a4] st (sh, I, R) = ev S d 34 11 [.inr (.inl x), a1, a2, a3, a4] (.inr (.inl x) :: st) (sh, I, R) := (ev_eq f_34_10).trans rfl
theorem f_34_11 : fetch 34 11 = some (11, .iconst 0, 1, [], 0) := (fm_34 11).trans rfl
theorem u_34_11 {S : Scr} {d : Nat} {a0 a1 a2 a3 a4 : AV} {st : List AV} {sh : Shp} {I : IM} {R : RM} : ev S d 34 11 [a0, a1, a2, a3, a4] st (sh, I, R) = ev S d 34 12 [a0, a1, a2, a3, a4] (.inl 0 :: st) (sh, I, R) := (ev_eq f_34_11).trans rfl
theorem f_34_12 : fetch 34 12 = some (12, .iload_n 3, 1, [3], 0) := (fm_34 12).trans rfl
theorem u_34_12 {S : Scr} {d : Nat} {a0 a1 a2 a4 : AV} {st : List AV} {sh : Shp} {I : IM} {R : RM} {x : Int} : ev S d 34 12 [a0, a1, a2, .inl x, a4] st (sh, I, R) = ev S d 34 13 [a0, a1, a2, .inl x, a4] (.inl x :: st) (sh, I, R) := (ev_eq f_34_12).trans rfl
theorem f_34_13 : fetch 34 13 = some (13, .bipush 6, 2, [], 6) := (fm_34 13).trans rfl
theorem u_34_13 {S : Scr} {d : Nat} {a0 a1 a2 a3 a4 : AV} {st : List AV} {sh : Shp} {I : IM} {R : RM} : ev S d 34 13 [a0, a1, a2, a3, a4] st (sh, I, R) = ev S d 34 15 [a0, a1, a2, a3, a4] (.inl 6 :: st) (sh, I, R) := (ev_eq f_34_13).trans rfl
theorem f_34_15 : fetch 34 15 = some (15, .invokestatic 31, 3, [1, 1], 0) := (fm_34 15).trans rfl
theorem u_34_15 {S : Scr} {d : Nat} {a0 a1 a2 a3 a4 : AV} {st : List AV} {sh : Shp} {I : IM} {R : RM} {x y : Int} (hr : st.length ≤ 8) : ev S d 34 15 [a0, a1, a2, a3, a4] (.inl y :: .inl x :: st) (sh, I, R) = ev S d 34 18 [a0, a1, a2, a3, a4] (.inl (if y < x then y else x) :: st) (sh, I, R) := (ev_eq f_34_15).trans (congrArg (fin S d 34) (if_pos hr))
theorem f_34_18 : fetch 34 18 = some (18, .invokestatic 37, 3, [0, 2], 0) := (fm_34 18).trans rfl
theorem u_34_18 {S : Scr} {d : Nat} {a0 a1 a2 a3 a4 : AV} {st : List AV} {sh : Shp} {I : IM} {R : RM} {x y : Int} (hr : st.length ≤ 8) : ev S d 34 18 [a0, a1, a2, a3, a4] (.inl y :: .inl x :: st) (sh, I, R) = ev S d 34 21 [a0, a1, a2, a3, a4] (.inl (if x < y then y else x) :: st) (sh, I, R) := (ev_eq f_34_18).trans (congrArg (fin S d 34) (if_pos hr))
theorem f_34_21 : fetch 34 21 = some (21, .putfield 40, 3, [3, 4, 0, 23], 0) := (fm_34 21).trans rfl
theorem u_34_21 {S : Scr} {d : Nat} {a0 a1 a2 a3 a4 : AV} {st : List AV} {sh : Shp} {I : IM} {R : RM} {k : Nat} {x : Int} (h : tg sh k = 3) : ev S d 34 21 [a0, a1, a2, a3, a4] (.inl x :: .inr (.inl k) :: st) (sh, I, R) = ev S d 34 24 [a0, a1, a2, a3, a4] st (sh, up I k 4 x, R) := (ev_eq f_34_21).trans (congrArg (fin S d 34) (if_pos h))
theorem f_34_24 : fetch 34 24 = some (24, .aload_n 0, 1, [0], 0) := (fm_34 24).trans rfl
theorem u_34_24 {S : Scr} {d : Nat} {a1 a2 a3 a4 : AV} {st : List AV} {sh : Shp} {I : IM} {R : RM} {x : Nat} : ev S d 34 24 [.inr (.inl x), a1, a2, a3, a4] st (sh, I, R) = ev S d 34 25 [.inr (.inl x), a1, a2, a3, a4] (.inr (.inl x) :: st) (sh, I, R) := (ev_eq f_34_24).trans rfl
theorem f_34_25 : fetch 34 25 = some (25, .getfield 14, 3, [3, 0, 1, 19], 0) := (fm_34 25).trans rfl
theorem u_34_25 {S : Scr} {d : Nat} {a0 a1 a2 a3 a4 : AV} {st : List AV} {sh : Shp} {I : IM} {R : RM} {k : Nat} (h : tg sh k = 3) : ev S d 34 25 [a0, a1, a2, a3, a4] (.inr (.inl k) :: st) (sh, I, R) = ev S d 34 28 [a0, a1, a2, a3, a4] (rv (R k 0) :: st) (sh, I, R) := (ev_eq f_34_25).trans (congrArg (fin S d 34) (if_pos h))
theorem f_34_28 : fetch 34 28 = some (28, .invokevirtual 43, 3, [12, 0, 37], 0) := (fm_34 28).trans rfl
theorem u_34_28 {S : Scr} {d : Nat} {a0 a1 a2 a3 a4 : AV} {st : List AV} {sh : Shp} {I : IM} {R : RM} {k : Nat} (h : tg sh k = 1) (hr : st.length ≤ 8) : ev S d 34 28 [a0, a1, a2, a3, a4] (.inr (.inl k) :: st) (sh, I, R) = bnd (cl d 12 [.inr (.inl k)] (sh, I, R)) (fun v M => ev S d 34 31 [a0, a1, a2, a3, a4] (psh v st) M) := (ev_eq f_34_28).trans (congrArg (fin S d 34) (if_pos ⟨h, rfl, hr⟩))
theorem f_34_31 : fetch 34 31 = some (31, .iconst 0, 1, [], 0) := (fm_34 31).trans rfl
theorem u_34_31 {S : Scr} {d : Nat} {a0 a1 a2 a3 a4 : AV} {st : List AV} {sh : Shp} {I : IM} {R : RM} : ev S d 34 31 [a0, a1, a2, a3, a4] st (sh, I, R) = ev S d 34 32 [a0, a1, a2, a3, a4] (.inl 0 :: st) (sh, I, R) := (ev_eq f_34_31).trans rfl
theorem f_34_32 : fetch 34 32 = some (32, .istore 4, 2, [4], 0) := (fm_34 32).trans rfl
theorem u_34_32 {S : Scr} {d : Nat} {a0 a1 a2 a3 a4 : AV} {st : List AV} {sh : Shp} {I : IM} {R : RM} {x : Int} : ev S d 34 32 [a0, a1, a2, a3, a4] (.inl x :: st) (sh, I, R) = ev S d 34 34 [a0, a1, a2, a3, .inl x] st (sh, I, R) := (ev_eq f_34_32).trans rfl
theorem f_34_34 : fetch 34 34 = some (34, .iload 4, 2, [4], 0) := (fm_34 34).trans rfl
theorem u_34_34 {S : Scr} {d : Nat} {a0 a1 a2 a3 : AV} {st : List AV} {sh : Shp} {I : IM} {R : RM} {x : Int} : ev S d 34 34 [a0, a1, a2, a3, .inl x] st (sh, I, R) = ev S d 34 36 [a0, a1, a2, a3, .inl x] (.inl x :: st) (sh, I, R) := (ev_eq f_34_34).trans rfl
theorem f_34_36 : fetch 34 36 = some (36, .bipush 6, 2, [], 6) := (fm_34 36).trans rfl
theorem u_34_36 {S : Scr} {d : Nat} {a0 a1 a2 a3 a4 : AV} {st : List AV} {sh : Shp} {I : IM} {R : RM} : ev S d 34 36 [a0, a1, a2, a3, a4] st (sh, I, R) = ev S d 34 38 [a0, a1, a2, a3, a4] (.inl 6 :: st) (sh, I, R) := (ev_eq f_34_36).trans rfl
theorem f_34_38 : fetch 34 38 = some (38, .if_icmp .ge 17, 3, [55], 0) := (fm_34 38).trans rfl
theorem u_34_38 {S : Scr} {d : Nat} {a0 a1 a2 a3 a4 : AV} {st : List AV} {sh : Shp} {I : IM} {R : RM} {x y : Int} : ev S d 34 38 [a0, a1, a2, a3, a4] (.inl y :: .inl x :: st) (sh, I, R) = if y ≤ x then ev S d 34 55 [a0, a1, a2, a3, a4] st (sh, I, R) else ev S d 34 41 [a0, a1, a2, a3, a4] st (sh, I, R) := (ev_eq f_34_38).trans fin_icmp_ge
theorem f_34_41 : fetch 34 41 = some (41, .aload_n 0, 1, [0], 0) := (fm_34 41).trans rfl
theorem u_34_41 {S : Scr} {d : Nat} {a1 a2 a3 a4 : AV} {st : List AV} {sh : Shp} {I : IM} {R : RM} {x : Nat} : ev S d 34 41 [.inr (.inl x), a1, a2, a3, a4] st (sh, I, R) = ev S d 34 42 [.inr (.inl x), a1, a2, a3, a4] (.inr (.inl x) :: st) (sh, I, R) := (ev_eq f_34_41).trans rfl
theorem f_34_42 : fetch 34 42 = some (42, .getfield 20, 3, [3, 1, 1, 20], 0) := (fm_34 42).trans rfl
theorem u_34_42 {S : Scr} {d : Nat} {a0 a1 a2 a3 a4 : AV} {st : List AV} {sh : Shp} {I : IM} {R : RM} {k : Nat} (h : tg sh k = 3) : ev S d 34 42 [a0, a1, a2, a3, a4] (.inr (.inl k) :: st) (sh, I, R) = ev S d 34 45 [a0, a1, a2, a3, a4] (rv (R k 1) :: st) (sh, I, R) := (ev_eq f_34_42).trans (congrArg (fin S d 34) (if_pos h))
theorem f_34_45 : fetch 34 45 = some (45, .iload 4, 2, [4], 0) := (fm_34 45).trans rfl
theorem u_34_45 {S : Scr} {d : Nat} {a0 a1 a2 a3 : AV} {st : List AV} {sh : Shp} {I : IM} {R : RM} {x : Int} : ev S d 34 45 [a0, a1, a2, a3, .inl x] st (sh, I, R) = ev S d 34 47 [a0, a1, a2, a3, .inl x] (.inl x :: st) (sh, I, R) := (ev_eq f_34_45).trans rfl
theorem f_34_47 : fetch 34 47 = some (47, .iconst (-1), 1, [], (-1)) := (fm_34 47).trans rfl
theorem u_34_47 {S : Scr} {d : Nat} {a0 a1 a2 a3 a4 : AV} {st : List AV} {sh : Shp} {I : IM} {R : RM} : ev S d 34 47 [a0, a1, a2, a3, a4] st (sh, I, R) = ev S d 34 48 [a0, a1, a2, a3, a4] (.inl (-1) :: st) (sh, I, R) := (ev_eq f_34_47).trans rfl
theorem f_34_48 : fetch 34 48 = some (48, .iastore, 1, [], 0) := (fm_34 48).trans rfl
theorem u_34_48 {S : Scr} {d : Nat} {a0 a1 a2 a3 a4 : AV} {st : List AV} {sh : Shp} {I : IM} {R : RM} {k : Nat} {i x : Int} (h : tg sh k = 100) (h0 : 0 ≤ i) (h1 : i < ln sh k) : ev S d 34 48 [a0, a1, a2, a3, a4] (.inl x :: .inl i :: .inr (.inl k) :: st) (sh, I, R) = ev S d 34 49 [a0, a1, a2, a3, a4] st (sh, up I k i x, R) := (ev_eq f_34_48).trans (congrArg (fin S d 34) (if_pos ⟨h, h0, h1⟩))
theorem f_34_49 : fetch 34 49 = some (49, .iinc 4 1, 3, [4], 1) := (fm_34 49).trans rfl
theorem u_34_49 {S : Scr} {d : Nat} {a0 a1 a2 a3 : AV} {st : List AV} {sh : Shp} {I : IM} {R : RM} {x : Int} : ev S d 34 49 [a0, a1, a2, a3, .inl x] st (sh, I, R) = ev S d 34 52 [a0, a1, a2, a3, .inl (wr (x + 1))] st (sh, I, R) := (ev_eq f_34_49).trans rfl
theorem f_34_52 : fetch 34 52 = some (52, .goto (-18), 3, [34], 0) := (fm_34 52).trans rfl
theorem u_34_52 {S : Scr} {d : Nat} {a0 a1 a2 a3 a4 : AV} {st : List AV} {sh : Shp} {I : IM} {R : RM} : ev S d 34 52 [a0, a1, a2, a3, a4] st (sh, I, R) = ev S d 34 34 [a0, a1, a2, a3, a4] st (sh, I, R) := (ev_eq f_34_52).trans rfl
theorem f_34_55 : fetch 34 55 = some (55, .return_, 1, [], 0) := (fm_34 55).trans rfl
theorem u_34_55 {S : Scr} {d : Nat} {a0 a1 a2 a3 a4 : AV} {sh : Shp} {I : IM} {R : RM} : ev S d 34 55 [a0, a1, a2, a3, a4] [] (sh, I, R) = some (none, (sh, I, R)) := (ev_eq f_34_55).trans rfl
theorem c_35 {d : Nat} {a0 a1 : AV} {M : Mem} : cl (d + 1) 35 [a0, a1] M = ev S0 d 35 0 [a0, a1] [] M := (cl_eq (as := [a0, a1]) (show 2 ≤ maxOf 35 by decide +kernel)).trans rfl
theorem mt_35 : MT[35]? = some m_35 := rfl
theorem fm_35 (pc : Nat) : fetch 35 pc = lk m_35.2.2.2.2.2 pc := by
  unfold fetch
  rw [mt_35]
theorem f_35_0 : fetch 35 0 = some (0, .aload_n 0, 1, [0], 0) := (fm_35 0).trans rfl
theorem u_35_0 {S : Scr} {d : Nat} {a1 : AV} {st : List AV} {sh : Shp} {I : IM} {R : RM} {x : Nat} : ev S d 35 0 [.inr (.inl x), a1] st (sh, I, R) = ev S d 35 1 [.inr (.inl x), a1] (.inr (.inl x) :: st) (sh, I, R) := (ev_eq f_35_0).trans rfl
theorem f_35_1 : fetch 35 1 = some (1, .aload_n 1, 1, [1], 0) := (fm_35 1).trans rfl
theorem u_35_1 {S : Scr} {d : Nat} {a0 : AV} {st : List AV} {sh : Shp} {I : IM} {R : RM} {x : Nat} : ev S d 35 1 [a0, .inr (.inl x)] st (sh, I, R) = ev S d 35 2 [a0, .inr (.inl x)] (.inr (.inl x) :: st) (sh, I, R) := (ev_eq f_35_1).trans rfl
theorem u_35_1n {S : Scr} {d : Nat} {a0 : AV} {st : List AV} {sh : Shp} {I : IM} {R : RM} : ev S d 35 1 [a0, .inr (.inr 0)] st (sh, I, R) = ev S d 35 2 [a0, .inr (.inr 0)] (.inr (.inr 0) :: st) (sh, I, R) := (ev_eq f_35_1).trans rfl
theorem f_35_2 : fetch 35 2 = some (2, .getfield 24, 3, [3, 2, 0, 21], 0) := (fm_35 2).trans rfl
theorem u_35_2 {S : Scr} {d : Nat} {a0 a1 : AV} {st : List AV} {sh : Shp} {I : IM} {R : RM} {k : Nat} (h : tg sh k = 3) : ev S d 35 2 [a0, a1] (.inr (.inl k) :: st) (sh, I, R) = ev S d 35 5 [a0, a1] (.inl (I k 2) :: st) (sh, I, R) := (ev_eq f_35_2).trans (congrArg (fin S d 35) (if_pos h))
theorem f_35_5 : fetch 35 5 = some (5, .putfield 24, 3, [3, 2, 0, 21], 0) := (fm_35 5).trans rfl
theorem u_35_5 {S : Scr} {d : Nat} {a0 a1 : AV} {st : List AV} {sh : Shp} {I : IM} {R : RM} {k : Nat} {x : Int} (h : tg sh k = 3) : ev S d 35 5 [a0, a1] (.inl x :: .inr (.inl k) :: st) (sh, I, R) = ev S d 35 8 [a0, a1] st (sh, up I k 2 x, R) := (ev_eq f_35_5).trans (congrArg (fin S d 35) (if_pos h))
theorem f_35_8 : fetch 35 8 = some (8, .aload_n 0, 1, [0], 0) := (fm_35 8).trans rfl
theorem u_35_8 {S : Scr} {d : Nat} {a1 : AV} {st : List AV} {sh : Shp} {I : IM} {R : RM} {x : Nat} : ev S d 35 8 [.inr (.inl x), a1] st (sh, I, R) = ev S d 35 9 [.inr (.inl x), a1] (.inr (.inl x) :: st) (sh, I, R) := (ev_eq f_35_8).trans rfl
theorem f_35_9 : fetch 35 9 = some (9, .aload_n 1, 1, [1], 0) := (fm_35 9).trans rfl
theorem u_35_9 {S : Scr} {d : Nat} {a0 : AV} {st : List AV} {sh : Shp} {I : IM} {R : RM} {x : Nat} : ev S d 35 9 [a0, .inr (.inl x)] st (sh, I, R) = ev S d 35 10 [a0, .inr (.inl x)] (.inr (.inl x) :: st) (sh, I, R) := (ev_eq f_35_9).trans rfl
theorem u_35_9n {S : Scr} {d : Nat} {a0 : AV} {st : List AV} {sh : Shp} {I : IM} {R : RM} : ev S d 35 9 [a0, .inr (.inr 0)] st (sh, I, R) = ev S d 35 10 [a0, .inr (.inr 0)] (.inr (.inr 0) :: st) (sh, I, R) := (ev_eq f_35_9).trans rfl
theorem f_35_10 : fetch 35 10 = some (10, .getfield 28, 3, [3, 3, 0, 22], 0) := (fm_35 10).trans rfl
theorem u_35_10 {S : Scr} {d : Nat} {a0 a1 : AV} {st : List AV} {sh : Shp} {I : IM} {R : RM} {k : Nat} (h : tg sh k = 3) : ev S d 35 10 [a0, a1] (.inr (.inl k) :: st) (sh, I, R) = ev S d 35 13 [a0, a1] (.inl (I k 3) :: st) (sh, I, R) := (ev_eq f_35_10).trans (congrArg (fin S d 35) (if_pos h))
theorem f_35_13 : fetch 35 13 = some (13, .putfield 28, 3, [3, 3, 0, 22], 0) := (fm_35 13).trans rfl
theorem u_35_13 {S : Scr} {d : Nat} {a0 a1 : AV} {st : List AV} {sh : Shp} {I : IM} {R : RM} {k : Nat} {x : Int} (h : tg sh k = 3) : ev S d 35 13 [a0, a1] (.inl x :: .inr (.inl k) :: st) (sh, I, R) = ev S d 35 16 [a0, a1] st (sh, up I k 3 x, R) := (ev_eq f_35_13).trans (congrArg (fin S d 35) (if_pos h))
theorem f_35_16 : fetch 35 16 = some (16, .aload_n 0, 1, [0], 0) := (fm_35 16).trans rfl
theorem u_35_16 {S : Scr} {d : Nat} {a1 : AV} {st : List AV} {sh : Shp} {I : IM} {R : RM} {x : Nat} : ev S d 35 16 [.inr (.inl x), a1] st (sh, I, R) = ev S d 35 17 [.inr (.inl x), a1] (.inr (.inl x) :: st) (sh, I, R) := (ev_eq f_35_16).trans rfl
theorem f_35_17 : fetch 35 17 = some (17, .aload_n 1, 1, [1], 0) := (fm_35 17).trans rfl
theorem u_35_17 {S : Scr} {d : Nat} {a0 : AV} {st : List AV} {sh : Shp} {I : IM} {R : RM} {x : Nat} : ev S d 35 17 [a0, .inr (.inl x)] st (sh, I, R) = ev S d 35 18 [a0, .inr (.inl x)] (.inr (.inl x) :: st) (sh, I, R) := (ev_eq f_35_17).trans rfl
theorem u_35_17n {S : Scr} {d : Nat} {a0 : AV} {st : List AV} {sh : Shp} {I : IM} {R : RM} : ev S d 35 17 [a0, .inr (.inr 0)] st (sh, I, R) = ev S d 35 18 [a0, .inr (.inr 0)] (.inr (.inr 0) :: st) (sh, I, R) := (ev_eq f_35_17).trans rfl
theorem f_35_18 : fetch 35 18 = some (18, .getfield 40, 3, [3, 4, 0, 23], 0) := (fm_35 18).trans rfl
theorem u_35_18 {S : Scr} {d : Nat} {a0 a1 : AV} {st : List AV} {sh : Shp} {I : IM} {R : RM} {k : Nat} (h : tg sh k = 3) : ev S d 35 18 [a0, a1] (.inr (.inl k) :: st) (sh, I, R) = ev S d 35 21 [a0, a1] (.inl (I k 4) :: st) (sh, I, R) := (ev_eq f_35_18).trans (congrArg (fin S d 35) (if_pos h))
theorem f_35_21 : fetch 35 21 = some (21, .putfield 40, 3, [3, 4, 0, 23], 0) := (fm_35 21).trans rfl
theorem u_35_21 {S : Scr} {d : Nat} {a0 a1 : AV} {st : List AV} {sh : Shp} {I : IM} {R : RM} {k : Nat} {x : Int} (h : tg sh k = 3) : ev S d 35 21 [a0, a1] (.inl x :: .inr (.inl k) :: st) (sh, I, R) = ev S d 35 24 [a0, a1] st (sh, up I k 4 x, R) := (ev_eq f_35_21).trans (congrArg (fin S d 35) (if_pos h))
theorem f_35_24 : fetch 35 24 = some (24, .aload_n 0, 1, [0], 0) := (fm_35 24).trans rfl
theorem u_35_24 {S : Scr} {d : Nat} {a1 : AV} {st : List AV} {sh : Shp} {I : IM} {R : RM} {x : Nat} : ev S d 35 24 [.inr (.inl x), a1] st (sh, I, R) = ev S d 35 25 [.inr (.inl x), a1] (.inr (.inl x) :: st) (sh, I, R) := (ev_eq f_35_24).trans rfl
theorem f_35_25 : fetch 35 25 = some (25, .getfield 14, 3, [3, 0, 1, 19], 0) := (fm_35 25).trans rfl
theorem u_35_25 {S : Scr} {d : Nat} {a0 a1 : AV} {st : List AV} {sh : Shp} {I : IM} {R : RM} {k : Nat} (h : tg sh k = 3) : ev S d 35 25 [a0, a1] (.inr (.inl k) :: st) (sh, I, R) = ev S d 35 28 [a0, a1] (rv (R k 0) :: st) (sh, I, R) := (ev_eq f_35_25).trans (congrArg (fin S d 35) (if_pos h))
theorem f_35_28 : fetch 35 28 = some (28, .aload_n 1, 1, [1], 0) := (fm_35 28).trans rfl
theorem u_35_28 {S : Scr} {d : Nat} {a0 : AV} {st : List AV} {sh : Shp} {I : IM} {R : RM} {x : Nat} : ev S d 35 28 [a0, .inr (.inl x)] st (sh, I, R) = ev S d 35 29 [a0, .inr (.inl x)] (.inr (.inl x) :: st) (sh, I, R) := (ev_eq f_35_28).trans rfl
theorem u_35_28n {S : Scr} {d : Nat} {a0 : AV} {st : List AV} {sh : Shp} {I : IM} {R : RM} : ev S d 35 28 [a0, .inr (.inr 0)] st (sh, I, R) = ev S d 35 29 [a0, .inr (.inr 0)] (.inr (.inr 0) :: st) (sh, I, R) := (ev_eq f_35_28).trans rfl
theorem f_35_29 : fetch 35 29 = some (29, .getfield 14, 3, [3, 0, 1, 19], 0) := (fm_35 29).trans rfl
theorem u_35_29 {S : Scr} {d : Nat} {a0 a1 : AV} {st : List AV} {sh : Shp} {I : IM} {R : RM} {k : Nat} (h : tg sh k = 3) : ev S d 35 29 [a0, a1] (.inr (.inl k) :: st) (sh, I, R) = ev S d 35 32 [a0, a1] (rv (R k 0) :: st) (sh, I, R) := (ev_eq f_35_29).trans (congrArg (fin S d 35) (if_pos h))
theorem f_35_32 : fetch 35 32 = some (32, .invokevirtual 46, 3, [13, 1, 38], 0) := (fm_35 32).trans rfl
theorem u_35_32 {S : Scr} {d : Nat} {a0 a1 : AV} {st : List AV} {sh : Shp} {I : IM} {R : RM} {x0 : Nat} {k : Nat} (h : tg sh k = 1) (hr : st.length ≤ 8) : ev S d 35 32 [a0, a1] (.inr (.inl x0) :: .inr (.inl k) :: st) (sh, I, R) = bnd (cl d 13 [.inr (.inl k), .inr (.inl x0)] (sh, I, R)) (fun v M => ev S d 35 35 [a0, a1] (psh v st) M) := (ev_eq f_35_32).trans (congrArg (fin S d 35) (if_pos ⟨h, rfl, hr⟩))
theorem u_35_32n {S : Scr} {d : Nat} {a0 a1 : AV} {st : List AV} {sh : Shp} {I : IM} {R : RM} {k : Nat} (h : tg sh k = 1) (hr : st.length ≤ 8) : ev S d 35 32 [a0, a1] (.inr (.inr 0) :: .inr (.inl k) :: st) (sh, I, R) = bnd (cl d 13 [.inr (.inl k), .inr (.inr 0)] (sh, I, R)) (fun v M => ev S d 35 35 [a0, a1] (psh v st) M) := (ev_eq f_35_32).trans (congrArg (fin S d 35) (if_pos ⟨h, rfl, hr⟩))
theorem f_35_35 : fetch 35 35 = some (35, .aload_n 1, 1, [1], 0) := (fm_35 35).trans rfl
theorem u_35_35 {S : Scr} {d : Nat} {a0 : AV} {st : List AV} {sh : Shp} {I : IM} {R : RM} {x : Nat} : ev S d 35 35 [a0, .inr (.inl x)] st (sh, I, R) = ev S d 35 36 [a0, .inr (.inl x)] (.inr (.inl x) :: st) (sh, I, R) := (ev_eq f_35_35).trans rfl
theorem u_35_35n {S : Scr} {d : Nat} {a0 : AV} {st : List AV} {sh : Shp} {I : IM} {R : RM} : ev S d 35 35 [a0, .inr (.inr 0)] st (sh, I, R) = ev S d 35 36 [a0, .inr (.inr 0)] (.inr (.inr 0) :: st) (sh, I, R) := (ev_eq f_35_35).trans rfl
theorem f_35_36 : fetch 35 36 = some (36, .getfield 20, 3, [3, 1, 1, 20], 0) := (fm_35 36).trans rfl
theorem u_35_36 {S : Scr} {d : Nat} {a0 a1 : AV} {st : List AV} {sh : Shp} {I : IM} {R : RM} {k : Nat} (h : tg sh k = 3) : ev S d 35 36 [a0, a1] (.inr (.inl k) :: st) (sh, I, R) = ev S d 35 39 [a0, a1] (rv (R k 1) :: st) (sh, I, R) := (ev_eq f_35_36).trans (congrArg (fin S d 35) (if_pos h))
theorem f_35_39 : fetch 35 39 = some (39, .iconst 0, 1, [], 0) := (fm_35 39).trans rfl
theorem u_35_39 {S : Scr} {d : Nat} {a0 a1 : AV} {st : List AV} {sh : Shp} {I : IM} {R : RM} : ev S d 35 39 [a0, a1] st (sh, I, R) = ev S d 35 40 [a0, a1] (.inl 0 :: st) (sh, I, R) := (ev_eq f_35_39).trans rfl
theorem f_35_40 : fetch 35 40 = some (40, .aload_n 0, 1, [0], 0) := (fm_35 40).trans rfl
theorem u_35_40 {S : Scr} {d : Nat} {a1 : AV} {st : List AV} {sh : Shp} {I : IM} {R : RM} {x : Nat} : ev S d 35 40 [.inr (.inl x), a1] st (sh, I, R) = ev S d 35 41 [.inr (.inl x), a1] (.inr (.inl x) :: st) (sh, I, R) := (ev_eq f_35_40).trans rfl
theorem f_35_41 : fetch 35 41 = some (41, .getfield 20, 3, [3, 1, 1, 20], 0) := (fm_35 41).trans rfl
theorem u_35_41 {S : Scr} {d : Nat} {a0 a1 : AV} {st : List AV} {sh : Shp} {I : IM} {R : RM} {k : Nat} (h : tg sh k = 3) : ev S d 35 41 [a0, a1] (.inr (.inl k) :: st) (sh, I, R) = ev S d 35 44 [a0, a1] (rv (R k 1) :: st) (sh, I, R) := (ev_eq f_35_41).trans (congrArg (fin S d 35) (if_pos h))
theorem f_35_44 : fetch 35 44 = some (44, .iconst 0, 1, [], 0) := (fm_35 44).trans rfl
theorem u_35_44 {S : Scr} {d : Nat} {a0 a1 : AV} {st : List AV} {sh : Shp} {I : IM} {R : RM} : ev S d 35 44 [a0, a1] st (sh, I, R) = ev S d 35 45 [a0, a1] (.inl 0 :: st) (sh, I, R) := (ev_eq f_35_44).trans rfl
theorem f_35_45 : fetch 35 45 = some (45, .bipush 6, 2, [], 6) := (fm_35 45).trans rfl
theorem u_35_45 {S : Scr} {d : Nat} {a0 a1 : AV} {st : List AV} {sh : Shp} {I : IM} {R : RM} : ev S d 35 45 [a0, a1] st (sh, I, R) = ev S d 35 47 [a0, a1] (.inl 6 :: st) (sh, I, R) := (ev_eq f_35_45).trans rfl
theorem f_35_47 : fetch 35 47 = some (47, .invokestatic 50, 3, [0], 0) := (fm_35 47).trans rfl
theorem u_35_47 {S : Scr} {d : Nat} {a0 a1 : AV} {st : List AV} {sh : Shp} {I : IM} {R : RM} {k0 k1 : Nat} {sp dp c : Int} (h : tg sh k0 = 100 ∧ tg sh k1 = 100 ∧ k0 ≠ k1 ∧ 0 ≤ sp ∧ 0 ≤ dp ∧ 0 ≤ c ∧ sp + c ≤ ln sh k0 ∧ dp + c ≤ ln sh k1 ∧ st.length ≤ 8) : ev S d 35 47 [a0, a1] (.inl c :: .inl dp :: .inr (.inl k1) :: .inl sp :: .inr (.inl k0) :: st) (sh, I, R) = ev S d 35 50 [a0, a1] st (sh, cp I k0 sp k1 dp c, R) := (ev_eq f_35_47).trans (congrArg (fin S d 35) (if_pos h))
theorem f_35_50 : fetch 35 50 = some (50, .return_, 1, [], 0) := (fm_35 50).trans rfl
theorem u_35_50 {S : Scr} {d : Nat} {a0 a1 : AV} {sh : Shp} {I : IM} {R : RM} : ev S d 35 50 [a0, a1] [] (sh, I, R) = some (none, (sh, I, R)) := (ev_eq f_35_50).trans rfl
theorem c_36 {d : Nat} {a0 a1 : AV} {M : Mem} : cl (d + 1) 36 [a0, a1] M = ev S0 d 36 0 [a0, a1] [] M := (cl_eq (as := [a0, a1]) (show 2 ≤ maxOf 36 by decide +kernel)).trans rfl
theorem mt_36 : MT[36]? = some m_36 := rfl
theorem fm_36 (pc : Nat) : fetch 36 pc = lk m_36.2.2.2.2.2 pc := by
  unfold fetch
  rw [mt_36]
theorem f_36_0 : fetch 36 0 = some (0, .iload_n 1, 1, [1], 0) := (fm_36 0).trans rfl
theorem u_36_0 {S : Scr} {d : Nat} {a0 : AV} {st : List AV} {sh : Shp} {I : IM} {R : RM} {x : Int} : ev S d 36 0 [a0, .inl x] st (sh, I, R) = ev S d 36 1 [a0, .inl x] (.inl x :: st) (sh, I, R) := (ev_eq f_36_0).trans rfl
theorem f_36_1 : fetch 36 1 = some (1, .ifCond .lt 15, 3, [16], 0) := (fm_36 1).trans rfl
theorem u_36_1 {S : Scr} {d : Nat} {a0 a1 : AV} {st : List AV} {sh : Shp} {I : IM} {R : RM} {x : Int} : ev S d 36 1 [a0, a1] (.inl x :: st) (sh, I, R) = if x < 0 then ev S d 36 16 [a0, a1] st (sh, I, R) else ev S d 36 4 [a0, a1] st (sh, I, R) := (ev_eq f_36_1).trans fin_if_lt
theorem f_36_4 : fetch 36 4 = some (4, .iload_n 1, 1, [1], 0) := (fm_36 4).trans rfl
theorem u_36_4 {S : Scr} {d : Nat} {a0 : AV} {st : List AV} {sh : Shp} {I : IM} {R : RM} {x : Int} : ev S d 36 4 [a0, .inl x] st (sh, I, R) = ev S d 36 5 [a0, .inl x] (.inl x :: st) (sh, I, R) := (ev_eq f_36_4).trans rfl
theorem f_36_5 : fetch 36 5 = some (5, .aload_n 0, 1, [0], 0) := (fm_36 5).trans rfl
theorem u_36_5 {S : Scr} {d : Nat} {a1 : AV} {st : List AV} {sh : Shp} {I : IM} {R : RM} {x : Nat} : ev S d 36 5 [.inr (.inl x), a1] st (sh, I, R) = ev S d 36 6 [.inr (.inl x), a1] (.inr (.inl x) :: st) (sh, I, R) := (ev_eq f_36_5).trans rfl
theorem f_36_6 : fetch 36 6 = some (6, .getfield 40, 3, [3, 4, 0, 23], 0) := (fm_36 6).trans rfl
theorem u_36_6 {S : Scr} {d : Nat} {a0 a1 : AV} {st : List AV} {sh : Shp} {I : IM} {R : RM} {k : Nat} (h : tg sh k = 3) : ev S d 36 6 [a0, a1] (.inr (.inl k) :: st) (sh, I, R) = ev S d 36 9 [a0, a1] (.inl (I k 4) :: st) (sh, I, R) := (ev_eq f_36_6).trans (congrArg (fin S d 36) (if_pos h))
theorem f_36_9 : fetch 36 9 = some (9, .if_icmp .ge 7, 3, [16], 0) := (fm_36 9).trans rfl
theorem u_36_9 {S : Scr} {d : Nat} {a0 a1 : AV} {st : List AV} {sh : Shp} {I : IM} {R : RM} {x y : Int} : ev S d 36 9 [a0, a1] (.inl y :: .inl x :: st) (sh, I, R) = if y ≤ x then ev S d 36 16 [a0, a1] st (sh, I, R) else ev S d 36 12 [a0, a1] st (sh, I, R) := (ev_eq f_36_9).trans fin_icmp_ge
theorem f_36_12 : fetch 36 12 = some (12, .iconst 1, 1, [], 1) := (fm_36 12).trans rfl
theorem u_36_12 {S : Scr} {d : Nat} {a0 a1 : AV} {st : List AV} {sh : Shp} {I : IM} {R : RM} : ev S d 36 12 [a0, a1] st (sh, I, R) = ev S d 36 13 [a0, a1] (.inl 1 :: st) (sh, I, R) := (ev_eq f_36_12).trans rfl
theorem f_36_13 : fetch 36 13 = some (13, .goto 4, 3, [17], 0) := (fm_36 13).trans rfl
theorem u_36_13 {S : Scr} {d : Nat} {a0 a1 : AV} {st : List AV} {sh : Shp} {I : IM} {R : RM} : ev S d 36 13 [a0, a1] st (sh, I, R) = ev S d 36 17 [a0, a1] st (sh, I, R) := (ev_eq f_36_13).trans rfl
theorem f_36_16 : fetch 36 16 = some (16, .iconst 0, 1, [], 0) := (fm_36 16).trans rfl
theorem u_36_16 {S : Scr} {d : Nat} {a0 a1 : AV} {st : List AV} {sh : Shp} {I : IM} {R : RM} : ev S d 36 16 [a0, a1] st (sh, I, R) = ev S d 36 17 [a0, a1] (.inl 0 :: st) (sh, I, R) := (ev_eq f_36_16).trans rfl
theorem f_36_17 : fetch 36 17 = some (17, .ireturn, 1, [1], 0) := (fm_36 17).trans rfl
theorem u_36_17 {S : Scr} {d : Nat} {a0 a1 : AV} {sh : Shp} {I : IM} {R : RM} {x : Int} (h : x = 0 ∨ x = 1) : ev S d 36 17 [a0, a1] [.inl x] (sh, I, R) = some (some (.inl x), (sh, I, R)) := (ev_eq f_36_17).trans (fin_iret1 h)
theorem c_37 {d : Nat} {a0 a1 : AV} {M : Mem} : cl (d + 1) 37 [a0, a1] M = ev S0 d 37 0 [a0, a1] [] M := (cl_eq (as := [a0, a1]) (show 2 ≤ maxOf 37 by decide +kernel)).trans rfl
theorem mt_37 : MT[37]? = some m_37 := rfl
theorem fm_37 (pc : Nat) : fetch 37 pc = lk m_37.2.2.2.2.2 pc := by
  unfold fetch
  rw [mt_37]
theorem f_37_0 : fetch 37 0 = some (0, .aload_n 1, 1, [1], 0) := (fm_37 0).trans rfl
theorem u_37_0 {S : Scr} {d : Nat} {a0 : AV} {st : List AV} {sh : Shp} {I : IM} {R : RM} {x : Nat} : ev S d 37 0 [a0, .inr (.inl x)] st (sh, I, R) = ev S d 37 1 [a0, .inr (.inl x)] (.inr (.inl x) :: st) (sh, I, R) := (ev_eq f_37_0).trans rfl
theorem u_37_0n {S : Scr} {d : Nat} {a0 : AV} {st : List AV} {sh : Shp} {I : IM} {R : RM} : ev S d 37 0 [a0, .inr (.inr 0)] st (sh, I, R) = ev S d 37 1 [a0, .inr (.inr 0)] (.inr (.inr 0) :: st) (sh, I, R) := (ev_eq f_37_0).trans rfl
theorem f_37_1 : fetch 37 1 = some (1, .ifnull 18, 3, [19], 0) := (fm_37 1).trans rfl
theorem u_37_1 {S : Scr} {d : Nat} {a0 a1 : AV} {st : List AV} {sh : Shp} {I : IM} {R : RM} {x : Nat} : ev S d 37 1 [a0, a1] (.inr (.inl x) :: st) (sh, I, R) = ev S d 37 4 [a0, a1] st (sh, I, R) := (ev_eq f_37_1).trans rfl
theorem u_37_1n {S : Scr} {d : Nat} {a0 a1 : AV} {st : List AV} {sh : Shp} {I : IM} {R : RM} : ev S d 37 1 [a0, a1] (.inr (.inr 0) :: st) (sh, I, R) = ev S d 37 19 [a0, a1] st (sh, I, R) := (ev_eq f_37_1).trans rfl
theorem f_37_4 : fetch 37 4 = some (4, .aload_n 0, 1, [0], 0) := (fm_37 4).trans rfl
theorem u_37_4 {S : Scr} {d : Nat} {a1 : AV} {st : List AV} {sh : Shp} {I : IM} {R : RM} {x : Nat} : ev S d 37 4 [.inr (.inl x), a1] st (sh, I, R) = ev S d 37 5 [.inr (.inl x), a1] (.inr (.inl x) :: st) (sh, I, R) := (ev_eq f_37_4).trans rfl
theorem f_37_5 : fetch 37 5 = some (5, .getfield 24, 3, [3, 2, 0, 21], 0) := (fm_37 5).trans rfl
theorem u_37_5 {S : Scr} {d : Nat} {a0 a1 : AV} {st : List AV} {sh : Shp} {I : IM} {R : RM} {k : Nat} (h : tg sh k = 3) : ev S d 37 5 [a0, a1] (.inr (.inl k) :: st) (sh, I, R) = ev S d 37 8 [a0, a1] (.inl (I k 2) :: st) (sh, I, R) := (ev_eq f_37_5).trans (congrArg (fin S d 37) (if_pos h))
theorem f_37_8 : fetch 37 8 = some (8, .iconst 4, 1, [], 4) := (fm_37 8).trans rfl
theorem u_37_8 {S : Scr} {d : Nat} {a0 a1 : AV} {st : List AV} {sh : Shp} {I : IM} {R : RM} : ev S d 37 8 [a0, a1] st (sh, I, R) = ev S d 37 9 [a0, a1] (.inl 4 :: st) (sh, I, R) := (ev_eq f_37_8).trans rfl
theorem f_37_9 : fetch 37 9 = some (9, .if_icmp .ne 10, 3, [19], 0) := (fm_37 9).trans rfl
theorem u_37_9 {S : Scr} {d : Nat} {a0 a1 : AV} {st : List AV} {sh : Shp} {I : IM} {R : RM} {x y : Int} : ev S d 37 9 [a0, a1] (.inl y :: .inl x :: st) (sh, I, R) = if ¬ x = y then ev S d 37 19 [a0, a1] st (sh, I, R) else ev S d 37 12 [a0, a1] st (sh, I, R) := (ev_eq f_37_9).trans fin_icmp_ne
theorem f_37_12 : fetch 37 12 = some (12, .aload_n 0, 1, [0], 0) := (fm_37 12).trans rfl
theorem u_37_12 {S : Scr} {d : Nat} {a1 : AV} {st : List AV} {sh : Shp} {I : IM} {R : RM} {x : Nat} : ev S d 37 12 [.inr (.inl x), a1] st (sh, I, R) = ev S d 37 13 [.inr (.inl x), a1] (.inr (.inl x) :: st) (sh, I, R) := (ev_eq f_37_12).trans rfl
theorem f_37_13 : fetch 37 13 = some (13, .getfield 28, 3, [3, 3, 0, 22], 0) := (fm_37 13).trans rfl
theorem u_37_13 {S : Scr} {d : Nat} {a0 a1 : AV} {st : List AV} {sh : Shp} {I : IM} {R : RM} {k : Nat} (h : tg sh k = 3) : ev S d 37 13 [a0, a1] (.inr (.inl k) :: st) (sh, I, R) = ev S d 37 16 [a0, a1] (.inl (I k 3) :: st) (sh, I, R) := (ev_eq f_37_13).trans (congrArg (fin S d 37) (if_pos h))
theorem f_37_16 : fetch 37 16 = some (16, .ifCond .ne 5, 3, [21], 0) := (fm_37 16).trans rfl
theorem u_37_16 {S : Scr} {d : Nat} {a0 a1 : AV} {st : List AV} {sh : Shp} {I : IM} {R : RM} {x : Int} : ev S d 37 16 [a0, a1] (.inl x :: st) (sh, I, R) = if ¬ x = 0 then ev S d 37 21 [a0, a1] st (sh, I, R) else ev S d 37 19 [a0, a1] st (sh, I, R) := (ev_eq f_37_16).trans fin_if_ne
theorem f_37_19 : fetch 37 19 = some (19, .iconst 1, 1, [], 1) := (fm_37 19).trans rfl
theorem u_37_19 {S : Scr} {d : Nat} {a0 a1 : AV} {st : List AV} {sh : Shp} {I : IM} {R : RM} : ev S d 37 19 [a0, a1] st (sh, I, R) = ev S d 37 20 [a0, a1] (.inl 1 :: st) (sh, I, R) := (ev_eq f_37_19).trans rfl
theorem f_37_20 : fetch 37 20 = some (20, .ireturn, 1, [1], 0) := (fm_37 20).trans rfl
theorem u_37_20 {S : Scr} {d : Nat} {a0 a1 : AV} {sh : Shp} {I : IM} {R : RM} {x : Int} (h : x = 0 ∨ x = 1) : ev S d 37 20 [a0, a1] [.inl x] (sh, I, R) = some (some (.inl x), (sh, I, R)) := (ev_eq f_37_20).trans (fin_iret1 h)
theorem f_37_21 : fetch 37 21 = some (21, .aload_n 1, 1, [1], 0) := (fm_37 21).trans rfl
theorem u_37_21 {S : Scr} {d : Nat} {a0 : AV} {st : List AV} {sh : Shp} {I : IM} {R : RM} {x : Nat} : ev S d 37 21 [a0, .inr (.inl x)] st (sh, I, R) = ev S d 37 22 [a0, .inr (.inl x)] (.inr (.inl x) :: st) (sh, I, R) := (ev_eq f_37_21).trans rfl
theorem u_37_21n {S : Scr} {d : Nat} {a0 : AV} {st : List AV} {sh : Shp} {I : IM} {R : RM} : ev S d 37 21 [a0, .inr (.inr 0)] st (sh, I, R) = ev S d 37 22 [a0, .inr (.inr 0)] (.inr (.inr 0) :: st) (sh, I, R) := (ev_eq f_37_21).trans rfl
theorem f_37_22 : fetch 37 22 = some (22, .getfield 24, 3, [3, 2, 0, 21], 0) := (fm_37 22).trans rfl
theorem u_37_22 {S : Scr} {d : Nat} {a0 a1 : AV} {st : List AV} {sh : Shp} {I : IM} {R : RM} {k : Nat} (h : tg sh k = 3) : ev S d 37 22 [a0, a1] (.inr (.inl k) :: st) (sh, I, R) = ev S d 37 25 [a0, a1] (.inl (I k 2) :: st) (sh, I, R) := (ev_eq f_37_22).trans (congrArg (fin S d 37) (if_pos h))
theorem f_37_25 : fetch 37 25 = some (25, .aload_n 0, 1, [0], 0) := (fm_37 25).trans rfl
theorem u_37_25 {S : Scr} {d : Nat} {a1 : AV} {st : List AV} {sh : Shp} {I : IM} {R : RM} {x : Nat} : ev S d 37 25 [.inr (.inl x), a1] st (sh, I, R) = ev S d 37 26 [.inr (.inl x), a1] (.inr (.inl x) :: st) (sh, I, R) := (ev_eq f_37_25).trans rfl
theorem f_37_26 : fetch 37 26 = some (26, .getfield 28, 3, [3, 3, 0, 22], 0) := (fm_37 26).trans rfl
theorem u_37_26 {S : Scr} {d : Nat} {a0 a1 : AV} {st : List AV} {sh : Shp} {I : IM} {R : RM} {k : Nat} (h : tg sh k = 3) : ev S d 37 26 [a0, a1] (.inr (.inl k) :: st) (sh, I, R) = ev S d 37 29 [a0, a1] (.inl (I k 3) :: st) (sh, I, R) := (ev_eq f_37_26).trans (congrArg (fin S d 37) (if_pos h))
theorem f_37_29 : fetch 37 29 = some (29, .if_icmp .eq 19, 3, [48], 0) := (fm_37 29).trans rfl
theorem u_37_29 {S : Scr} {d : Nat} {a0 a1 : AV} {st : List AV} {sh : Shp} {I : IM} {R : RM} {x y : Int} : ev S d 37 29 [a0, a1] (.inl y :: .inl x :: st) (sh, I, R) = if x = y then ev S d 37 48 [a0, a1] st (sh, I, R) else ev S d 37 32 [a0, a1] st (sh, I, R) := (ev_eq f_37_29).trans fin_icmp_eq
theorem f_37_32 : fetch 37 32 = some (32, .aload_n 0, 1, [0], 0) := (fm_37 32).trans rfl
theorem u_37_32 {S : Scr} {d : Nat} {a1 : AV} {st : List AV} {sh : Shp} {I : IM} {R : RM} {x : Nat} : ev S d 37 32 [.inr (.inl x), a1] st (sh, I, R) = ev S d 37 33 [.inr (.inl x), a1] (.inr (.inl x) :: st) (sh, I, R) := (ev_eq f_37_32).trans rfl
theorem f_37_33 : fetch 37 33 = some (33, .getfield 28, 3, [3, 3, 0, 22], 0) := (fm_37 33).trans rfl
theorem u_37_33 {S : Scr} {d : Nat} {a0 a1 : AV} {st : List AV} {sh : Shp} {I : IM} {R : RM} {k : Nat} (h : tg sh k = 3) : ev S d 37 33 [a0, a1] (.inr (.inl k) :: st) (sh, I, R) = ev S d 37 36 [a0, a1] (.inl (I k 3) :: st) (sh, I, R) := (ev_eq f_37_33).trans (congrArg (fin S d 37) (if_pos h))
theorem f_37_36 : fetch 37 36 = some (36, .iconst 2, 1, [], 2) := (fm_37 36).trans rfl
theorem u_37_36 {S : Scr} {d : Nat} {a0 a1 : AV} {st : List AV} {sh : Shp} {I : IM} {R : RM} : ev S d 37 36 [a0, a1] st (sh, I, R) = ev S d 37 37 [a0, a1] (.inl 2 :: st) (sh, I, R) := (ev_eq f_37_36).trans rfl
theorem f_37_37 : fetch 37 37 = some (37, .if_icmp .ne 15, 3, [52], 0) := (fm_37 37).trans rfl
theorem u_37_37 {S : Scr} {d : Nat} {a0 a1 : AV} {st : List AV} {sh : Shp} {I : IM} {R : RM} {x y : Int} : ev S d 37 37 [a0, a1] (.inl y :: .inl x :: st) (sh, I, R) = if ¬ x = y then ev S d 37 52 [a0, a1] st (sh, I, R) else ev S d 37 40 [a0, a1] st (sh, I, R) := (ev_eq f_37_37).trans fin_icmp_ne
theorem f_37_40 : fetch 37 40 = some (40, .aload_n 1, 1, [1], 0) := (fm_37 40).trans rfl
theorem u_37_40 {S : Scr} {d : Nat} {a0 : AV} {st : List AV} {sh : Shp} {I : IM} {R : RM} {x : Nat} : ev S d 37 40 [a0, .inr (.inl x)] st (sh, I, R) = ev S d 37 41 [a0, .inr (.inl x)] (.inr (.inl x) :: st) (sh, I, R) := (ev_eq f_37_40).trans rfl
theorem u_37_40n {S : Scr} {d : Nat} {a0 : AV} {st : List AV} {sh : Shp} {I : IM} {R : RM} : ev S d 37 40 [a0, .inr (.inr 0)] st (sh, I, R) = ev S d 37 41 [a0, .inr (.inr 0)] (.inr (.inr 0) :: st) (sh, I, R) := (ev_eq f_37_40).trans rfl
theorem f_37_41 : fetch 37 41 = some (41, .getfield 24, 3, [3, 2, 0, 21], 0) := (fm_37 41).trans rfl
theorem u_37_41 {S : Scr} {d : Nat} {a0 a1 : AV} {st : List AV} {sh : Shp} {I : IM} {R : RM} {k : Nat} (h : tg sh k = 3) : ev S d 37 41 [a0, a1] (.inr (.inl k) :: st) (sh, I, R) = ev S d 37 44 [a0, a1] (.inl (I k 2) :: st) (sh, I, R) := (ev_eq f_37_41).trans (congrArg (fin S d 37) (if_pos h))
theorem f_37_44 : fetch 37 44 = some (44, .iconst 3, 1, [], 3) := (fm_37 44).trans rfl
theorem u_37_44 {S : Scr} {d : Nat} {a0 a1 : AV} {st : List AV} {sh : Shp} {I : IM} {R : RM} : ev S d 37 44 [a0, a1] st (sh, I, R) = ev S d 37 45 [a0, a1] (.inl 3 :: st) (sh, I, R) := (ev_eq f_37_44).trans rfl
theorem f_37_45 : fetch 37 45 = some (45, .if_icmp .ne 7, 3, [52], 0) := (fm_37 45).trans rfl
theorem u_37_45 {S : Scr} {d : Nat} {a0 a1 : AV} {st : List AV} {sh : Shp} {I : IM} {R : RM} {x y : Int} : ev S d 37 45 [a0, a1] (.inl y :: .inl x :: st) (sh, I, R) = if ¬ x = y then ev S d 37 52 [a0, a1] st (sh, I, R) else ev S d 37 48 [a0, a1] st (sh, I, R) := (ev_eq f_37_45).trans fin_icmp_ne
theorem f_37_48 : fetch 37 48 = some (48, .iconst 1, 1, [], 1) := (fm_37 48).trans rfl
theorem u_37_48 {S : Scr} {d : Nat} {a0 a1 : AV} {st : List AV} {sh : Shp} {I : IM} {R : RM} : ev S d 37 48 [a0, a1] st (sh, I, R) = ev S d 37 49 [a0, a1] (.inl 1 :: st) (sh, I, R) := (ev_eq f_37_48).trans rfl
theorem f_37_49 : fetch 37 49 = some (49, .goto 4, 3, [53], 0) := (fm_37 49).trans rfl
theorem u_37_49 {S : Scr} {d : Nat} {a0 a1 : AV} {st : List AV} {sh : Shp} {I : IM} {R : RM} : ev S d 37 49 [a0, a1] st (sh, I, R) = ev S d 37 53 [a0, a1] st (sh, I, R) := (ev_eq f_37_49).trans rfl
theorem f_37_52 : fetch 37 52 = some (52, .iconst 0, 1, [], 0) := (fm_37 52).trans rfl
theorem u_37_52 {S : Scr} {d : Nat} {a0 a1 : AV} {st : List AV} {sh : Shp} {I : IM} {R : RM} : ev S d 37 52 [a0, a1] st (sh, I, R) = ev S d 37 53 [a0, a1] (.inl 0 :: st) (sh, I, R) := (ev_eq f_37_52).trans rfl
theorem f_37_53 : fetch 37 53 = some (53, .ireturn, 1, [1], 0) := (fm_37 53).trans rfl
theorem u_37_53 {S : Scr} {d : Nat} {a0 a1 : AV} {sh : Shp} {I : IM} {R : RM} {x : Int} (h : x = 0 ∨ x = 1) : ev S d 37 53 [a0, a1] [.inl x] (sh, I, R) = some (some (.inl x), (sh, I, R)) := (ev_eq f_37_53).trans (fin_iret1 h)
theorem c_38 {d : Nat} {a0 a1 : AV} {M : Mem} : cl (d + 1) 38 [a0, a1] M = ev S0 d 38 0 [a0, a1] [] M := (cl_eq (as := [a0, a1]) (show 2 ≤ maxOf 38 by decide +kernel)).trans rfl
theorem mt_38 : MT[38]? = some m_38 := rfl
theorem fm_38 (pc : Nat) : fetch 38 pc = lk m_38.2.2.2.2.2 pc := by
  unfold fetch
  rw [mt_38]
theorem f_38_0 : fetch 38 0 = some (0, .aload_n 0, 1, [0], 0) := (fm_38 0).trans rfl
theorem u_38_0 {S : Scr} {d : Nat} {a1 : AV} {st : List AV} {sh : Shp} {I : IM} {R : RM} {x : Nat} : ev S d 38 0 [.inr (.inl x), a1] st (sh, I, R) = ev S d 38 1 [.inr (.inl x), a1] (.inr (.inl x) :: st) (sh, I, R) := (ev_eq f_38_0).trans rfl
theorem f_38_1 : fetch 38 1 = some (1, .getfield 24, 3, [3, 2, 0, 21], 0) := (fm_38 1).trans rfl
theorem u_38_1 {S : Scr} {d : Nat} {a0 a1 : AV} {st : List AV} {sh : Shp} {I : IM} {R : RM} {k : Nat} (h : tg sh k = 3) : ev S d 38 1 [a0, a1] (.inr (.inl k) :: st) (sh, I, R) = ev S d 38 4 [a0, a1] (.inl (I k 2) :: st) (sh, I, R) := (ev_eq f_38_1).trans (congrArg (fin S d 38) (if_pos h))
theorem f_38_4 : fetch 38 4 = some (4, .aload_n 1, 1, [1], 0) := (fm_38 4).trans rfl
theorem u_38_4 {S : Scr} {d : Nat} {a0 : AV} {st : List AV} {sh : Shp} {I : IM} {R : RM} {x : Nat} : ev S d 38 4 [a0, .inr (.inl x)] st (sh, I, R) = ev S d 38 5 [a0, .inr (.inl x)] (.inr (.inl x) :: st) (sh, I, R) := (ev_eq f_38_4).trans rfl
theorem u_38_4n {S : Scr} {d : Nat} {a0 : AV} {st : List AV} {sh : Shp} {I : IM} {R : RM} : ev S d 38 4 [a0, .inr (.inr 0)] st (sh, I, R) = ev S d 38 5 [a0, .inr (.inr 0)] (.inr (.inr 0) :: st) (sh, I, R) := (ev_eq f_38_4).trans rfl
theorem f_38_5 : fetch 38 5 = some (5, .getfield 24, 3, [3, 2, 0, 21], 0) := (fm_38 5).trans rfl
theorem u_38_5 {S : Scr} {d : Nat} {a0 a1 : AV} {st : List AV} {sh : Shp} {I : IM} {R : RM} {k : Nat} (h : tg sh k = 3) : ev S d 38 5 [a0, a1] (.inr (.inl k) :: st) (sh, I, R) = ev S d 38 8 [a0, a1] (.inl (I k 2) :: st) (sh, I, R) := (ev_eq f_38_5).trans (congrArg (fin S d 38) (if_pos h))
theorem f_38_8 : fetch 38 8 = some (8, .if_icmp .ne 43, 3, [51], 0) := (fm_38 8).trans rfl
theorem u_38_8 {S : Scr} {d : Nat} {a0 a1 : AV} {st : List AV} {sh : Shp} {I : IM} {R : RM} {x y : Int} : ev S d 38 8 [a0, a1] (.inl y :: .inl x :: st) (sh, I, R) = if ¬ x = y then ev S d 38 51 [a0, a1] st (sh, I, R) else ev S d 38 11 [a0, a1] st (sh, I, R) := (ev_eq f_38_8).trans fin_icmp_ne
theorem f_38_11 : fetch 38 11 = some (11, .aload_n 0, 1, [0], 0) := (fm_38 11).trans rfl
theorem u_38_11 {S : Scr} {d : Nat} {a1 : AV} {st : List AV} {sh : Shp} {I : IM} {R : RM} {x : Nat} : ev S d 38 11 [.inr (.inl x), a1] st (sh, I, R) = ev S d 38 12 [.inr (.inl x), a1] (.inr (.inl x) :: st) (sh, I, R) := (ev_eq f_38_11).trans rfl
theorem f_38_12 : fetch 38 12 = some (12, .getfield 28, 3, [3, 3, 0, 22], 0) := (fm_38 12).trans rfl
theorem u_38_12 {S : Scr} {d : Nat} {a0 a1 : AV} {st : List AV} {sh : Shp} {I : IM} {R : RM} {k : Nat} (h : tg sh k = 3) : ev S d 38 12 [a0, a1] (.inr (.inl k) :: st) (sh, I, R) = ev S d 38 15 [a0, a1] (.inl (I k 3) :: st) (sh, I, R) := (ev_eq f_38_12).trans (congrArg (fin S d 38) (if_pos h))
theorem f_38_15 : fetch 38 15 = some (15, .aload_n 1, 1, [1], 0) := (fm_38 15).trans rfl
theorem u_38_15 {S : Scr} {d : Nat} {a0 : AV} {st : List AV} {sh : Shp} {I : IM} {R : RM} {x : Nat} : ev S d 38 15 [a0, .inr (.inl x)] st (sh, I, R) = ev S d 38 16 [a0, .inr (.inl x)] (.inr (.inl x) :: st) (sh, I, R) := (ev_eq f_38_15).trans rfl
theorem u_38_15n {S : Scr} {d : Nat} {a0 : AV} {st : List AV} {sh : Shp} {I : IM} {R : RM} : ev S d 38 15 [a0, .inr (.inr 0)] st (sh, I, R) = ev S d 38 16 [a0, .inr (.inr 0)] (.inr (.inr 0) :: st) (sh, I, R) := (ev_eq f_38_15).trans rfl
theorem f_38_16 : fetch 38 16 = some (16, .getfield 28, 3, [3, 3, 0, 22], 0) := (fm_38 16).trans rfl
theorem u_38_16 {S : Scr} {d : Nat} {a0 a1 : AV} {st : List AV} {sh : Shp} {I : IM} {R : RM} {k : Nat} (h : tg sh k = 3) : ev S d 38 16 [a0, a1] (.inr (.inl k) :: st) (sh, I, R) = ev S d 38 19 [a0, a1] (.inl (I k 3) :: st) (sh, I, R) := (ev_eq f_38_16).trans (congrArg (fin S d 38) (if_pos h))
theorem f_38_19 : fetch 38 19 = some (19, .if_icmp .ne 32, 3, [51], 0) := (fm_38 19).trans rfl
theorem u_38_19 {S : Scr} {d : Nat} {a0 a1 : AV} {st : List AV} {sh : Shp} {I : IM} {R : RM} {x y : Int} : ev S d 38 19 [a0, a1] (.inl y :: .inl x :: st) (sh, I, R) = if ¬ x = y then ev S d 38 51 [a0, a1] st (sh, I, R) else ev S d 38 22 [a0, a1] st (sh, I, R) := (ev_eq f_38_19).trans fin_icmp_ne
theorem f_38_22 : fetch 38 22 = some (22, .aload_n 0, 1, [0], 0) := (fm_38 22).trans rfl
theorem u_38_22 {S : Scr} {d : Nat} {a1 : AV} {st : List AV} {sh : Shp} {I : IM} {R : RM} {x : Nat} : ev S d 38 22 [.inr (.inl x), a1] st (sh, I, R) = ev S d 38 23 [.inr (.inl x), a1] (.inr (.inl x) :: st) (sh, I, R) := (ev_eq f_38_22).trans rfl
theorem f_38_23 : fetch 38 23 = some (23, .getfield 40, 3, [3, 4, 0, 23], 0) := (fm_38 23).trans rfl
theorem u_38_23 {S : Scr} {d : Nat} {a0 a1 : AV} {st : List AV} {sh : Shp} {I : IM} {R : RM} {k : Nat} (h : tg sh k = 3) : ev S d 38 23 [a0, a1] (.inr (.inl k) :: st) (sh, I, R) = ev S d 38 26 [a0, a1] (.inl (I k 4) :: st) (sh, I, R) := (ev_eq f_38_23).trans (congrArg (fin S d 38) (if_pos h))
theorem f_38_26 : fetch 38 26 = some (26, .aload_n 1, 1, [1], 0) := (fm_38 26).trans rfl
theorem u_38_26 {S : Scr} {d : Nat} {a0 : AV} {st : List AV} {sh : Shp} {I : IM} {R : RM} {x : Nat} : ev S d 38 26 [a0, .inr (.inl x)] st (sh, I, R) = ev S d 38 27 [a0, .inr (.inl x)] (.inr (.inl x) :: st) (sh, I, R) := (ev_eq f_38_26).trans rfl
theorem u_38_26n {S : Scr} {d : Nat} {a0 : AV} {st : List AV} {sh : Shp} {I : IM} {R : RM} : ev S d 38 26 [a0, .inr (.inr 0)] st (sh, I, R) = ev S d 38 27 [a0, .inr (.inr 0)] (.inr (.inr 0) :: st) (sh, I, R) := (ev_eq f_38_26).trans rfl
theorem f_38_27 : fetch 38 27 = some (27, .getfield 40, 3, [3, 4, 0, 23], 0) := (fm_38 27).trans rfl
theorem u_38_27 {S : Scr} {d : Nat} {a0 a1 : AV} {st : List AV} {sh : Shp} {I : IM} {R : RM} {k : Nat} (h : tg sh k = 3) : ev S d 38 27 [a0, a1] (.inr (.inl k) :: st) (sh, I, R) = ev S d 38 30 [a0, a1] (.inl (I k 4) :: st) (sh, I, R) := (ev_eq f_38_27).trans (congrArg (fin S d 38) (if_pos h))
theorem f_38_30 : fetch 38 30 = some (30, .if_icmp .ne 21, 3, [51], 0) := (fm_38 30).trans rfl
theorem u_38_30 {S : Scr} {d : Nat} {a0 a1 : AV} {st : List AV} {sh : Shp} {I : IM} {R : RM} {x y : Int} : ev S d 38 30 [a0, a1] (.inl y :: .inl x :: st) (sh, I, R) = if ¬ x = y then ev S d 38 51 [a0, a1] st (sh, I, R) else ev S d 38 33 [a0, a1] st (sh, I, R) := (ev_eq f_38_30).trans fin_icmp_ne
theorem f_38_33 : fetch 38 33 = some (33, .aload_n 0, 1, [0], 0) := (fm_38 33).trans rfl
theorem u_38_33 {S : Scr} {d : Nat} {a1 : AV} {st : List AV} {sh : Shp} {I : IM} {R : RM} {x : Nat} : ev S d 38 33 [.inr (.inl x), a1] st (sh, I, R) = ev S d 38 34 [.inr (.inl x), a1] (.inr (.inl x) :: st) (sh, I, R) := (ev_eq f_38_33).trans rfl
theorem f_38_34 : fetch 38 34 = some (34, .getfield 14, 3, [3, 0, 1, 19], 0) := (fm_38 34).trans rfl
theorem u_38_34 {S : Scr} {d : Nat} {a0 a1 : AV} {st : List AV} {sh : Shp} {I : IM} {R : RM} {k : Nat} (h : tg sh k = 3) : ev S d 38 34 [a0, a1] (.inr (.inl k) :: st) (sh, I, R) = ev S d 38 37 [a0, a1] (rv (R k 0) :: st) (sh, I, R) := (ev_eq f_38_34).trans (congrArg (fin S d 38) (if_pos h))
theorem f_38_37 : fetch 38 37 = some (37, .aload_n 1, 1, [1], 0) := (fm_38 37).trans rfl
theorem u_38_37 {S : Scr} {d : Nat} {a0 : AV} {st : List AV} {sh : Shp} {I : IM} {R : RM} {x : Nat} : ev S d 38 37 [a0, .inr (.inl x)] st (sh, I, R) = ev S d 38 38 [a0, .inr (.inl x)] (.inr (.inl x) :: st) (sh, I, R) := (ev_eq f_38_37).trans rfl
theorem u_38_37n {S : Scr} {d : Nat} {a0 : AV} {st : List AV} {sh : Shp} {I : IM} {R : RM} : ev S d 38 37 [a0, .inr (.inr 0)] st (sh, I, R) = ev S d 38 38 [a0, .inr (.inr 0)] (.inr (.inr 0) :: st) (sh, I, R) := (ev_eq f_38_37).trans rfl
theorem f_38_38 : fetch 38 38 = some (38, .getfield 14, 3, [3, 0, 1, 19], 0) := (fm_38 38).trans rfl
theorem u_38_38 {S : Scr} {d : Nat} {a0 a1 : AV} {st : List AV} {sh : Shp} {I : IM} {R : RM} {k : Nat} (h : tg sh k = 3) : ev S d 38 38 [a0, a1] (.inr (.inl k) :: st) (sh, I, R) = ev S d 38 41 [a0, a1] (rv (R k 0) :: st) (sh, I, R) := (ev_eq f_38_38).trans (congrArg (fin S d 38) (if_pos h))
theorem f_38_41 : fetch 38 41 = some (41, .invokevirtual 56, 3, [16, 1, 39], 0) := (fm_38 41).trans rfl
theorem u_38_41 {S : Scr} {d : Nat} {a0 a1 : AV} {st : List AV} {sh : Shp} {I : IM} {R : RM} {x0 : Nat} {k : Nat} (h : tg sh k = 1) (hr : st.length ≤ 8) : ev S d 38 41 [a0, a1] (.inr (.inl x0) :: .inr (.inl k) :: st) (sh, I, R) = bnd (cl d 16 [.inr (.inl k), .inr (.inl x0)] (sh, I, R)) (fun v M => ev S d 38 44 [a0, a1] (psh v st) M) := (ev_eq f_38_41).trans (congrArg (fin S d 38) (if_pos ⟨h, rfl, hr⟩))
theorem u_38_41n {S : Scr} {d : Nat} {a0 a1 : AV} {st : List AV} {sh : Shp} {I : IM} {R : RM} {k : Nat} (h : tg sh k = 1) (hr : st.length ≤ 8) : ev S d 38 41 [a0, a1] (.inr (.inr 0) :: .inr (.inl k) :: st) (sh, I, R) = bnd (cl d 16 [.inr (.inl k), .inr (.inr 0)] (sh, I, R)) (fun v M => ev S d 38 44 [a0, a1] (psh v st) M) := (ev_eq f_38_41).trans (congrArg (fin S d 38) (if_pos ⟨h, rfl, hr⟩))
theorem f_38_44 : fetch 38 44 = some (44, .ifCond .eq 7, 3, [51], 0) := (fm_38 44).trans rfl
theorem u_38_44 {S : Scr} {d : Nat} {a0 a1 : AV} {st : List AV} {sh : Shp} {I : IM} {R : RM} {x : Int} : ev S d 38 44 [a0, a1] (.inl x :: st) (sh, I, R) = if x = 0 then ev S d 38 51 [a0, a1] st (sh, I, R) else ev S d 38 47 [a0, a1] st (sh, I, R) := (ev_eq f_38_44).trans fin_if_eq
theorem f_38_47 : fetch 38 47 = some (47, .iconst 1, 1, [], 1) := (fm_38 47).trans rfl
theorem u_38_47 {S : Scr} {d : Nat} {a0 a1 : AV} {st : List AV} {sh : Shp} {I : IM} {R : RM} : ev S d 38 47 [a0, a1] st (sh, I, R) = ev S d 38 48 [a0, a1] (.inl 1 :: st) (sh, I, R) := (ev_eq f_38_47).trans rfl
theorem f_38_48 : fetch 38 48 = some (48, .goto 4, 3, [52], 0) := (fm_38 48).trans rfl
theorem u_38_48 {S : Scr} {d : Nat} {a0 a1 : AV} {st : List AV} {sh : Shp} {I : IM} {R : RM} : ev S d 38 48 [a0, a1] st (sh, I, R) = ev S d 38 52 [a0, a1] st (sh, I, R) := (ev_eq f_38_48).trans rfl
theorem f_38_51 : fetch 38 51 = some (51, .iconst 0, 1, [], 0) := (fm_38 51).trans rfl
theorem u_38_51 {S : Scr} {d : Nat} {a0 a1 : AV} {st : List AV} {sh : Shp} {I : IM} {R : RM} : ev S d 38 51 [a0, a1] st (sh, I, R) = ev S d 38 52 [a0, a1] (.inl 0 :: st) (sh, I, R) := (ev_eq f_38_51).trans rfl
theorem f_38_52 : fetch 38 52 = some (52, .ireturn, 1, [1], 0) := (fm_38 52).trans rfl
theorem u_38_52 {S : Scr} {d : Nat} {a0 a1 : AV} {sh : Shp} {I : IM} {R : RM} {x : Int} (h : x = 0 ∨ x = 1) : ev S d 38 52 [a0, a1] [.inl x] (sh, I, R) = some (some (.inl x), (sh, I, R)) := (ev_eq f_38_52).trans (fin_iret1 h)
theorem c_39 {d : Nat} {a0 : AV} {M : Mem} : cl (d + 1) 39 [a0] M = ev S0 d 39 0 [a0, .inr (.inr 1), .inr (.inr 1)] [] M := (cl_eq (as := [a0]) (show 1 ≤ maxOf 39 by decide +kernel)).trans rfl
theorem mt_39 : MT[39]? = some m_39 := rfl
theorem fm_39 (pc : Nat) : fetch 39 pc = lk m_39.2.2.2.2.2 pc := by
  unfold fetch
  rw [mt_39]
theorem f_39_0 : fetch 39 0 = some (0, .iconst 0, 1, [], 0) := (fm_39 0).trans rfl
theorem u_39_0 {S : Scr} {d : Nat} {a0 a1 a2 : AV} {st : List AV} {sh : Shp} {I : IM} {R : RM} : ev S d 39 0 [a0, a1, a2] st (sh, I, R) = ev S d 39 1 [a0, a1, a2] (.inl 0 :: st) (sh, I, R) := (ev_eq f_39_0).trans rfl
theorem f_39_1 : fetch 39 1 = some (1, .istore_n 1, 1, [1], 0) := (fm_39 1).trans rfl
theorem u_39_1 {S : Scr} {d : Nat} {a0 a1 a2 : AV} {st : List AV} {sh : Shp} {I : IM} {R : RM} {x : Int} : ev S d 39 1 [a0, a1, a2] (.inl x :: st) (sh, I, R) = ev S d 39 2 [a0, .inl x, a2] st (sh, I, R) := (ev_eq f_39_1).trans rfl
theorem f_39_2 : fetch 39 2 = some (2, .iconst 0, 1, [], 0) := (fm_39 2).trans rfl
theorem u_39_2 {S : Scr} {d : Nat} {a0 a1 a2 : AV} {st : List AV} {sh : Shp} {I : IM} {R : RM} : ev S d 39 2 [a0, a1, a2] st (sh, I, R) = ev S d 39 3 [a0, a1, a2] (.inl 0 :: st) (sh, I, R) := (ev_eq f_39_2).trans rfl
theorem f_39_3 : fetch 39 3 = some (3, .istore_n 2, 1, [2], 0) := (fm_39 3).trans rfl
theorem u_39_3 {S : Scr} {d : Nat} {a0 a1 a2 : AV} {st : List AV} {sh : Shp} {I : IM} {R : RM} {x : Int} : ev S d 39 3 [a0, a1, a2] (.inl x :: st) (sh, I, R) = ev S d 39 4 [a0, a1, .inl x] st (sh, I, R) := (ev_eq f_39_3).trans rfl
theorem f_39_4 : fetch 39 4 = some (4, .iload_n 2, 1, [2], 0) := (fm_39 4).trans rfl
theorem u_39_4 {S : Scr} {d : Nat} {a0 a1 : AV} {st : List AV} {sh : Shp} {I : IM} {R : RM} {x : Int} : ev S d 39 4 [a0, a1, .inl x] st (sh, I, R) = ev S d 39 5 [a0, a1, .inl x] (.inl x :: st) (sh, I, R) := (ev_eq f_39_4).trans rfl
theorem f_39_5 : fetch 39 5 = some (5, .aload_n 0, 1, [0], 0) := (fm_39 5).trans rfl
theorem u_39_5 {S : Scr} {d : Nat} {a1 a2 : AV} {st : List AV} {sh : Shp} {I : IM} {R : RM} {x : Nat} : ev S d 39 5 [.inr (.inl x), a1, a2] st (sh, I, R) = ev S d 39 6 [.inr (.inl x), a1, a2] (.inr (.inl x) :: st) (sh, I, R) := (ev_eq f_39_5).trans rfl
theorem f_39_6 : fetch 39 6 = some (6, .getfield 40, 3, [3, 4, 0, 23], 0) := (fm_39 6).trans rfl
theorem u_39_6 {S : Scr} {d : Nat} {a0 a1 a2 : AV} {st : List AV} {sh : Shp} {I : IM} {R : RM} {k : Nat} (h : tg sh k = 3) : ev S d 39 6 [a0, a1, a2] (.inr (.inl k) :: st) (sh, I, R) = ev S d 39 9 [a0, a1, a2] (.inl (I k 4) :: st) (sh, I, R) := (ev_eq f_39_6).trans (congrArg (fin S d 39) (if_pos h))
theorem f_39_9 : fetch 39 9 = some (9, .if_icmp .ge 27, 3, [36], 0) := (fm_39 9).trans rfl
theorem u_39_9 {S : Scr} {d : Nat} {a0 a1 a2 : AV} {st : List AV} {sh : Shp} {I : IM} {R : RM} {x y : Int} : ev S d 39 9 [a0, a1, a2] (.inl y :: .inl x :: st) (sh, I, R) = if y ≤ x then ev S d 39 36 [a0, a1, a2] st (sh, I, R) else ev S d 39 12 [a0, a1, a2] st (sh, I, R) := (ev_eq f_39_9).trans fin_icmp_ge
theorem f_39_12 : fetch 39 12 = some (12, .iload_n 1, 1, [1], 0) := (fm_39 12).trans rfl
theorem u_39_12 {S : Scr} {d : Nat} {a0 a2 : AV} {st : List AV} {sh : Shp} {I : IM} {R : RM} {x : Int} : ev S d 39 12 [a0, .inl x, a2] st (sh, I, R) = ev S d 39 13 [a0, .inl x, a2] (.inl x :: st) (sh, I, R) := (ev_eq f_39_12).trans rfl
theorem f_39_13 : fetch 39 13 = some (13, .aload_n 0, 1, [0], 0) := (fm_39 13).trans rfl
theorem u_39_13 {S : Scr} {d : Nat} {a1 a2 : AV} {st : List AV} {sh : Shp} {I : IM} {R : RM} {x : Nat} : ev S d 39 13 [.inr (.inl x), a1, a2] st (sh, I, R) = ev S d 39 14 [.inr (.inl x), a1, a2] (.inr (.inl x) :: st) (sh, I, R) := (ev_eq f_39_13).trans rfl
theorem f_39_14 : fetch 39 14 = some (14, .getfield 20, 3, [3, 1, 1, 20], 0) := (fm_39 14).trans rfl
theorem u_39_14 {S : Scr} {d : Nat} {a0 a1 a2 : AV} {st : List AV} {sh : Shp} {I : IM} {R : RM} {k : Nat} (h : tg sh k = 3) : ev S d 39 14 [a0, a1, a2] (.inr (.inl k) :: st) (sh, I, R) = ev S d 39 17 [a0, a1, a2] (rv (R k 1) :: st) (sh, I, R) := (ev_eq f_39_14).trans (congrArg (fin S d 39) (if_pos h))
theorem f_39_17 : fetch 39 17 = some (17, .iload_n 2, 1, [2], 0) := (fm_39 17).trans rfl
theorem u_39_17 {S : Scr} {d : Nat} {a0 a1 : AV} {st : List AV} {sh : Shp} {I : IM} {R : RM} {x : Int} : ev S d 39 17 [a0, a1, .inl x] st (sh, I, R) = ev S d 39 18 [a0, a1, .inl x] (.inl x :: st) (sh, I, R) := (ev_eq f_39_17).trans rfl
theorem f_39_18 : fetch 39 18 = some (18, .iaload, 1, [], 0) := (fm_39 18).trans rfl
theorem u_39_18 {S : Scr} {d : Nat} {a0 a1 a2 : AV} {st : List AV} {sh : Shp} {I : IM} {R : RM} {k : Nat} {i : Int} (h : tg sh k = 100) (h0 : 0 ≤ i) (h1 : i < ln sh k) : ev S d 39 18 [a0, a1, a2] (.inl i :: .inr (.inl k) :: st) (sh, I, R) = ev S d 39 19 [a0, a1, a2] (.inl (I k i) :: st) (sh, I, R) := (ev_eq f_39_18).trans (congrArg (fin S d 39) (if_pos ⟨h, h0, h1⟩))
theorem f_39_19 : fetch 39 19 = some (19, .iconst (-1), 1, [], (-1)) := (fm_39 19).trans rfl
theorem u_39_19 {S : Scr} {d : Nat} {a0 a1 a2 : AV} {st : List AV} {sh : Shp} {I : IM} {R : RM} : ev S d 39 19 [a0, a1, a2] st (sh, I, R) = ev S d 39 20 [a0, a1, a2] (.inl (-1) :: st) (sh, I, R) := (ev_eq f_39_19).trans rfl
theorem f_39_20 : fetch 39 20 = some (20, .if_icmp .ne 7, 3, [27], 0) := (fm_39 20).trans rfl
theorem u_39_20 {S : Scr} {d : Nat} {a0 a1 a2 : AV} {st : List AV} {sh : Shp} {I : IM} {R : RM} {x y : Int} : ev S d 39 20 [a0, a1, a2] (.inl y :: .inl x :: st) (sh, I, R) = if ¬ x = y then ev S d 39 27 [a0, a1, a2] st (sh, I, R) else ev S d 39 23 [a0, a1, a2] st (sh, I, R) := (ev_eq f_39_20).trans fin_icmp_ne
theorem f_39_23 : fetch 39 23 = some (23, .iconst 0, 1, [], 0) := (fm_39 23).trans rfl
theorem u_39_23 {S : Scr} {d : Nat} {a0 a1 a2 : AV} {st : List AV} {sh : Shp} {I : IM} {R : RM} : ev S d 39 23 [a0, a1, a2] st (sh, I, R) = ev S d 39 24 [a0, a1, a2] (.inl 0 :: st) (sh, I, R) := (ev_eq f_39_23).trans rfl
theorem f_39_24 : fetch 39 24 = some (24, .goto 4, 3, [28], 0) := (fm_39 24).trans rfl
theorem u_39_24 {S : Scr} {d : Nat} {a0 a1 a2 : AV} {st : List AV} {sh : Shp} {I : IM} {R : RM} : ev S d 39 24 [a0, a1, a2] st (sh, I, R) = ev S d 39 28 [a0, a1, a2] st (sh, I, R) := (ev_eq f_39_24).trans rfl
theorem f_39_27 : fetch 39 27 = some (27, .iconst 1, 1, [], 1) := (fm_39 27).trans rfl
theorem u_39_27 {S : Scr} {d : Nat} {a0 a1 a2 : AV} {st : List AV} {sh : Shp} {I : IM} {R : RM} : ev S d 39 27 [a0, a1, a2] st (sh, I, R) = ev S d 39 28 [a0, a1, a2] (.inl 1 :: st) (sh, I, R) := (ev_eq f_39_27).trans rfl
theorem f_39_28 : fetch 39 28 = some (28, .iadd, 1, [], 0) := (fm_39 28).trans rfl
theorem u_39_28 {S : Scr} {d : Nat} {a0 a1 a2 : AV} {st : List AV} {sh : Shp} {I : IM} {R : RM} {x y : Int} : ev S d 39 28 [a0, a1, a2] (.inl y :: .inl x :: st) (sh, I, R) = ev S d 39 29 [a0, a1, a2] (.inl (wr (x + y)) :: st) (sh, I, R) := (ev_eq f_39_28).trans rfl
theorem f_39_29 : fetch 39 29 = some (29, .istore_n 1, 1, [1], 0) := (fm_39 29).trans rfl
theorem u_39_29 {S : Scr} {d : Nat} {a0 a1 a2 : AV} {st : List AV} {sh : Shp} {I : IM} {R : RM} {x : Int} : ev S d 39 29 [a0, a1, a2] (.inl x :: st) (sh, I, R) = ev S d 39 30 [a0, .inl x, a2] st (sh, I, R) := (ev_eq f_39_29).trans rfl
theorem f_39_30 : fetch 39 30 = some (30, .iinc 2 1, 3, [2], 1) := (fm_39 30).trans rfl
theorem u_39_30 {S : Scr} {d : Nat} {a0 a1 : AV} {st : List AV} {sh : Shp} {I : IM} {R : RM} {x : Int} : ev S d 39 30 [a0, a1, .inl x] st (sh, I, R) = ev S d 39 33 [a0, a1, .inl (wr (x + 1))] st (sh, I, R) := (ev_eq f_39_30).trans rfl
theorem f_39_33 : fetch 39 33 = some (33, .goto (-29), 3, [4], 0) := (fm_39 33).trans rfl
theorem u_39_33 {S : Scr} {d : Nat} {a0 a1 a2 : AV} {st : List AV} {sh : Shp} {I : IM} {R : RM} : ev S d 39 33 [a0, a1, a2] st (sh, I, R) = ev S d 39 4 [a0, a1, a2] st (sh, I, R) := (ev_eq f_39_33).trans rfl
theorem f_39_36 : fetch 39 36 = some (36, .iload_n 1, 1, [1], 0) := (fm_39 36).trans rfl
theorem u_39_36 {S : Scr} {d : Nat} {a0 a2 : AV} {st : List AV} {sh : Shp} {I : IM} {R : RM} {x : Int} : ev S d 39 36 [a0, .inl x, a2] st (sh, I, R) = ev S d 39 37 [a0, .inl x, a2] (.inl x :: st) (sh, I, R) := (ev_eq f_39_36).trans rfl
theorem f_39_37 : fetch 39 37 = some (37, .ireturn, 1, [0], 0) := (fm_39 37).trans rfl
theorem u_39_37 {S : Scr} {d : Nat} {a0 a1 a2 : AV} {sh : Shp} {I : IM} {R : RM} {x : Int} : ev S d 39 37 [a0, a1, a2] [.inl x] (sh, I, R) = some (some (.inl x), (sh, I, R)) := (ev_eq f_39_37).trans fin_iret0
theorem c_40 {d : Nat} {a0 a1 : AV} {M : Mem} : cl (d + 1) 40 [a0, a1] M = ev S0 d 40 0 [a0, a1] [] M := (cl_eq (as := [a0, a1]) (show 2 ≤ maxOf 40 by decide +kernel)).trans rfl
theorem mt_40 : MT[40]? = some m_40 := rfl
theorem fm_40 (pc : Nat) : fetch 40 pc = lk m_40.2.2.2.2.2 pc := by
  unfold fetch
  rw [mt_40]
theorem f_40_0 : fetch 40 0 = some (0, .aload_n 0, 1, [0], 0) := (fm_40 0).trans rfl
theorem u_40_0 {S : Scr} {d : Nat} {a1 : AV} {st : List AV} {sh : Shp} {I : IM} {R : RM} {x : Nat} : ev S d 40 0 [.inr (.inl x), a1] st (sh, I, R) = ev S d 40 1 [.inr (.inl x), a1] (.inr (.inl x) :: st) (sh, I, R) := (ev_eq f_40_0).trans rfl
theorem f_40_1 : fetch 40 1 = some (1, .invokespecial 3, 3, [4], 0) := (fm_40 1).trans rfl
theorem u_40_1 {S : Scr} {d : Nat} {a0 a1 : AV} {st : List AV} {sh : Shp} {I : IM} {R : RM} {k : Nat} (hr : st.length ≤ 8) : ev S d 40 1 [a0, a1] (.inr (.inl k) :: st) (sh, I, R) = ev S d 40 4 [a0, a1] st (sh, I, R) := (ev_eq f_40_1).trans (congrArg (fin S d 40) (if_pos hr))
theorem f_40_4 : fetch 40 4 = some (4, .aload_n 0, 1, [0], 0) := (fm_40 4).trans rfl
theorem u_40_4 {S : Scr} {d : Nat} {a1 : AV} {st : List AV} {sh : Shp} {I : IM} {R : RM} {x : Nat} : ev S d 40 4 [.inr (.inl x), a1] st (sh, I, R) = ev S d 40 5 [.inr (.inl x), a1] (.inr (.inl x) :: st) (sh, I, R) := (ev_eq f_40_4).trans rfl
theorem f_40_5 : fetch 40 5 = some (5, .bipush 30, 2, [], 30) := (fm_40 5).trans rfl
theorem u_40_5 {S : Scr} {d : Nat} {a0 a1 : AV} {st : List AV} {sh : Shp} {I : IM} {R : RM} : ev S d 40 5 [a0, a1] st (sh, I, R) = ev S d 40 7 [a0, a1] (.inl 30 :: st) (sh, I, R) := (ev_eq f_40_5).trans rfl
theorem f_40_7 : fetch 40 7 = some (7, .newarray .int, 2, [], 0) := (fm_40 7).trans rfl
theorem f_40_9 : fetch 40 9 = some (9, .putfield 9, 3, [4, 1, 1, 24], 0) := (fm_40 9).trans rfl
theorem u_40_9 {S : Scr} {d : Nat} {a0 a1 : AV} {st : List AV} {sh : Shp} {I : IM} {R : RM} {k v : Nat} (h : tg sh k = 4) : ev S d 40 9 [a0, a1] (.inr (.inl v) :: .inr (.inl k) :: st) (sh, I, R) = ev S d 40 12 [a0, a1] st (sh, I, up R k 1 (some v)) := (ev_eq f_40_9).trans (congrArg (fin S d 40) (if_pos h))
theorem f_40_12 : fetch 40 12 = some (12, .aload_n 0, 1, [0], 0) := (fm_40 12).trans rfl
theorem u_40_12 {S : Scr} {d : Nat} {a1 : AV} {st : List AV} {sh : Shp} {I : IM} {R : RM} {x : Nat} : ev S d 40 12 [.inr (.inl x), a1] st (sh, I, R) = ev S d 40 13 [.inr (.inl x), a1] (.inr (.inl x) :: st) (sh, I, R) := (ev_eq f_40_12).trans rfl
theorem f_40_13 : fetch 40 13 = some (13, .bipush 30, 2, [], 30) := (fm_40 13).trans rfl
theorem u_40_13 {S : Scr} {d : Nat} {a0 a1 : AV} {st : List AV} {sh : Shp} {I : IM} {R : RM} : ev S d 40 13 [a0, a1] st (sh, I, R) = ev S d 40 15 [a0, a1] (.inl 30 :: st) (sh, I, R) := (ev_eq f_40_13).trans rfl
theorem f_40_15 : fetch 40 15 = some (15, .newarray .int, 2, [], 0) := (fm_40 15).trans rfl
theorem f_40_17 : fetch 40 17 = some (17, .putfield 15, 3, [4, 2, 1, 25], 0) := (fm_40 17).trans rfl
theorem u_40_17 {S : Scr} {d : Nat} {a0 a1 : AV} {st : List AV} {sh : Shp} {I : IM} {R : RM} {k v : Nat} (h : tg sh k = 4) : ev S d 40 17 [a0, a1] (.inr (.inl v) :: .inr (.inl k) :: st) (sh, I, R) = ev S d 40 20 [a0, a1] st (sh, I, up R k 2 (some v)) := (ev_eq f_40_17).trans (congrArg (fin S d 40) (if_pos h))
theorem f_40_20 : fetch 40 20 = some (20, .aload_n 0, 1, [0], 0) := (fm_40 20).trans rfl
theorem u_40_20 {S : Scr} {d : Nat} {a1 : AV} {st : List AV} {sh : Shp} {I : IM} {R : RM} {x : Nat} : ev S d 40 20 [.inr (.inl x), a1] st (sh, I, R) = ev S d 40 21 [.inr (.inl x), a1] (.inr (.inl x) :: st) (sh, I, R) := (ev_eq f_40_20).trans rfl
theorem f_40_21 : fetch 40 21 = some (21, .bipush 30, 2, [], 30) := (fm_40 21).trans rfl
theorem u_40_21 {S : Scr} {d : Nat} {a0 a1 : AV} {st : List AV} {sh : Shp} {I : IM} {R : RM} : ev S d 40 21 [a0, a1] st (sh, I, R) = ev S d 40 23 [a0, a1] (.inl 30 :: st) (sh, I, R) := (ev_eq f_40_21).trans rfl
theorem f_40_23 : fetch 40 23 = some (23, .newarray .int, 2, [], 0) := (fm_40 23).trans rfl
theorem f_40_25 : fetch 40 25 = some (25, .putfield 18, 3, [4, 3, 1, 26], 0) := (fm_40 25).trans rfl
theorem u_40_25 {S : Scr} {d : Nat} {a0 a1 : AV} {st : List AV} {sh : Shp} {I : IM} {R : RM} {k v : Nat} (h : tg sh k = 4) : ev S d 40 25 [a0, a1] (.inr (.inl v) :: .inr (.inl k) :: st) (sh, I, R) = ev S d 40 28 [a0, a1] st (sh, I, up R k 3 (some v)) := (ev_eq f_40_25).trans (congrArg (fin S d 40) (if_pos h))
theorem f_40_28 : fetch 40 28 = some (28, .aload_n 0, 1, [0], 0) := (fm_40 28).trans rfl
theorem u_40_28 {S : Scr} {d : Nat} {a1 : AV} {st : List AV} {sh : Shp} {I : IM} {R : RM} {x : Nat} : ev S d 40 28 [.inr (.inl x), a1] st (sh, I, R) = ev S d 40 29 [.inr (.inl x), a1] (.inr (.inl x) :: st) (sh, I, R) := (ev_eq f_40_28).trans rfl
theorem f_40_29 : fetch 40 29 = some (29, .aload_n 1, 1, [1], 0) := (fm_40 29).trans rfl
theorem u_40_29 {S : Scr} {d : Nat} {a0 : AV} {st : List AV} {sh : Shp} {I : IM} {R : RM} {x : Nat} : ev S d 40 29 [a0, .inr (.inl x)] st (sh, I, R) = ev S d 40 30 [a0, .inr (.inl x)] (.inr (.inl x) :: st) (sh, I, R) := (ev_eq f_40_29).trans rfl
theorem u_40_29n {S : Scr} {d : Nat} {a0 : AV} {st : List AV} {sh : Shp} {I : IM} {R : RM} : ev S d 40 29 [a0, .inr (.inr 0)] st (sh, I, R) = ev S d 40 30 [a0, .inr (.inr 0)] (.inr (.inr 0) :: st) (sh, I, R) := (ev_eq f_40_29).trans rfl
theorem f_40_30 : fetch 40 30 = some (30, .putfield 21, 3, [4, 0, 1, 27], 0) := (fm_40 30).trans rfl
theorem u_40_30 {S : Scr} {d : Nat} {a0 a1 : AV} {st : List AV} {sh : Shp} {I : IM} {R : RM} {k v : Nat} (h : tg sh k = 4) : ev S d 40 30 [a0, a1] (.inr (.inl v) :: .inr (.inl k) :: st) (sh, I, R) = ev S d 40 33 [a0, a1] st (sh, I, up R k 0 (some v)) := (ev_eq f_40_30).trans (congrArg (fin S d 40) (if_pos h))
theorem f_40_33 : fetch 40 33 = some (33, .return_, 1, [], 0) := (fm_40 33).trans rfl
theorem u_40_33 {S : Scr} {d : Nat} {a0 a1 : AV} {sh : Shp} {I : IM} {R : RM} : ev S d 40 33 [a0, a1] [] (sh, I, R) = some (none, (sh, I, R)) := (ev_eq f_40_33).trans rfl
theorem c_41 {d : Nat} {a0 a1 a2 : AV} {M : Mem} : cl (d + 1) 41 [a0, a1, a2] M = ev S0 d 41 0 [a0, a1, a2, .inr (.inr 1), .inr (.inr 1)] [] M := (cl_eq (as := [a0, a1, a2]) (show 3 ≤ maxOf 41 by decide +kernel)).trans rfl
theorem mt_41 : MT[41]? = some m_41 := rfl
theorem fm_41 (pc : Nat) : fetch 41 pc = lk m_41.2.2.2.2.2 pc := by
  unfold fetch
  rw [mt_41]
theorem f_41_0 : fetch 41 0 = some (0, .aload_n 0, 1, [0], 0) := (fm_41 0).trans rfl
theorem u_41_0 {S : Scr} {d : Nat} {a1 a2 a3 a4 : AV} {st : List AV} {sh : Shp} {I : IM} {R : RM} {x : Nat} : ev S d 41 0 [.inr (.inl x), a1, a2, a3, a4] st (sh, I, R) = ev S d 41 1 [.inr (.inl x), a1, a2, a3, a4] (.inr (.inl x) :: st) (sh, I, R) := (ev_eq f_41_0).trans rfl
theorem f_41_1 : fetch 41 1 = some (1, .iconst 0, 1, [], 0) := (fm_41 1).trans rfl
theorem u_41_1 {S : Scr} {d : Nat} {a0 a1 a2 a3 a4 : AV} {st : List AV} {sh : Shp} {I : IM} {R : RM} : ev S d 41 1 [a0, a1, a2, a3, a4] st (sh, I, R) = ev S d 41 2 [a0, a1, a2, a3, a4] (.inl 0 :: st) (sh, I, R) := (ev_eq f_41_1).trans rfl
theorem f_41_2 : fetch 41 2 = some (2, .putfield 25, 3, [4, 4, 0, 28], 0) := (fm_41 2).trans rfl
theorem u_41_2 {S : Scr} {d : Nat} {a0 a1 a2 a3 a4 : AV} {st : List AV} {sh : Shp} {I : IM} {R : RM} {k : Nat} {x : Int} (h : tg sh k = 4) : ev S d 41 2 [a0, a1, a2, a3, a4] (.inl x :: .inr (.inl k) :: st) (sh, I, R) = ev S d 41 5 [a0, a1, a2, a3, a4] st (sh, up I k 4 x, R) := (ev_eq f_41_2).trans (congrArg (fin S d 41) (if_pos h))
theorem f_41_5 : fetch 41 5 = some (5, .iconst 0, 1, [], 0) := (fm_41 5).trans rfl
theorem u_41_5 {S : Scr} {d : Nat} {a0 a1 a2 a3 a4 : AV} {st : List AV} {sh : Shp} {I : IM} {R : RM} : ev S d 41 5 [a0, a1, a2, a3, a4] st (sh, I, R) = ev S d 41 6 [a0, a1, a2, a3, a4] (.inl 0 :: st) (sh, I, R) := (ev_eq f_41_5).trans rfl
theorem f_41_6 : fetch 41 6 = some (6, .istore_n 3, 1, [3], 0) := (fm_41 6).trans rfl
theorem u_41_6 {S : Scr} {d : Nat} {a0 a1 a2 a3 a4 : AV} {st : List AV} {sh : Shp} {I : IM} {R : RM} {x : Int} : ev S d 41 6 [a0, a1, a2, a3, a4] (.inl x :: st) (sh, I, R) = ev S d 41 7 [a0, a1, a2, .inl x, a4] st (sh, I, R) := (ev_eq f_41_6).trans rfl
theorem f_41_7 : fetch 41 7 = some (7, .iload_n 3, 1, [3], 0) := (fm_41 7).trans rfl
theorem u_41_7 {S : Scr} {d : Nat} {a0 a1 a2 a4 : AV} {st : List AV} {sh : Shp} {I : IM} {R : RM} {x : Int} : ev S d 41 7 [a0, a1, a2, .inl x, a4] st (sh, I, R) = ev S d 41 8 [a0, a1, a2, .inl x, a4] (.inl x :: st) (sh, I, R) := (ev_eq f_41_7).trans rfl
theorem f_41_8 : fetch 41 8 = some (8, .bipush 30, 2, [], 30) := (fm_41 8).trans rfl
theorem u_41_8 {S : Scr} {d : Nat} {a0 a1 a2 a3 a4 : AV} {st : List AV} {sh : Shp} {I : IM} {R : RM} : ev S d 41 8 [a0, a1, a2, a3, a4] st (sh, I, R) = ev S d 41 10 [a0, a1, a2, a3, a4] (.inl 30 :: st) (sh, I, R) := (ev_eq f_41_8).trans rfl
theorem f_41_10 : fetch 41 10 = some (10, .if_icmp .ge 23, 3, [33], 0) := (fm_41 10).trans rfl
theorem u_41_10 {S : Scr} {d : Nat} {a0 a1 a2 a3 a4 : AV} {st : List AV} {sh : Shp} {I : IM} {R : RM} {x y : Int} : ev S d 41 10 [a0, a1, a2, a3, a4] (.inl y :: .inl x :: st) (sh, I, R) = if y ≤ x then ev S d 41 33 [a0, a1, a2, a3, a4] st (sh, I, R) else ev S d 41 13 [a0, a1, a2, a3, a4] st (sh, I, R) := (ev_eq f_41_10).trans fin_icmp_ge
theorem f_41_13 : fetch 41 13 = some (13, .aload_n 0, 1, [0], 0) := (fm_41 13).trans rfl
theorem u_41_13 {S : Scr} {d : Nat} {a1 a2 a3 a4 : AV} {st : List AV} {sh : Shp} {I : IM} {R : RM} {x : Nat} : ev S d 41 13 [.inr (.inl x), a1, a2, a3, a4] st (sh, I, R) = ev S d 41 14 [.inr (.inl x), a1, a2, a3, a4] (.inr (.inl x) :: st) (sh, I, R) := (ev_eq f_41_13).trans rfl
theorem f_41_14 : fetch 41 14 = some (14, .getfield 9, 3, [4, 1, 1, 24], 0) := (fm_41 14).trans rfl
theorem u_41_14 {S : Scr} {d : Nat} {a0 a1 a2 a3 a4 : AV} {st : List AV} {sh : Shp} {I : IM} {R : RM} {k : Nat} (h : tg sh k = 4) : ev S d 41 14 [a0, a1, a2, a3, a4] (.inr (.inl k) :: st) (sh, I, R) = ev S d 41 17 [a0, a1, a2, a3, a4] (rv (R k 1) :: st) (sh, I, R) := (ev_eq f_41_14).trans (congrArg (fin S d 41) (if_pos h))
theorem f_41_17 : fetch 41 17 = some (17, .iload_n 3, 1, [3], 0) := (fm_41 17).trans rfl
theorem u_41_17 {S : Scr} {d : Nat} {a0 a1 a2 a4 : AV} {st : List AV} {sh : Shp} {I : IM} {R : RM} {x : Int} : ev S d 41 17 [a0, a1, a2, .inl x, a4] st (sh, I, R) = ev S d 41 18 [a0, a1, a2, .inl x, a4] (.inl x :: st) (sh, I, R) := (ev_eq f_41_17).trans rfl
theorem f_41_18 : fetch 41 18 = some (18, .iconst (-1), 1, [], (-1)) := (fm_41 18).trans rfl
theorem u_41_18 {S : Scr} {d : Nat} {a0 a1 a2 a3 a4 : AV} {st : List AV} {sh : Shp} {I : IM} {R : RM} : ev S d 41 18 [a0, a1, a2, a3, a4] st (sh, I, R) = ev S d 41 19 [a0, a1, a2, a3, a4] (.inl (-1) :: st) (sh, I, R) := (ev_eq f_41_18).trans rfl
theorem f_41_19 : fetch 41 19 = some (19, .iastore, 1, [], 0) := (fm_41 19).trans rfl
theorem u_41_19 {S : Scr} {d : Nat} {a0 a1 a2 a3 a4 : AV} {st : List AV} {sh : Shp} {I : IM} {R : RM} {k : Nat} {i x : Int} (h : tg sh k = 100) (h0 : 0 ≤ i) (h1 : i < ln sh k) : ev S d 41 19 [a0, a1, a2, a3, a4] (.inl x :: .inl i :: .inr (.inl k) :: st) (sh, I, R) = ev S d 41 20 [a0, a1, a2, a3, a4] st (sh, up I k i x, R) := (ev_eq f_41_19).trans (congrArg (fin S d 41) (if_pos ⟨h, h0, h1⟩))
theorem f_41_20 : fetch 41 20 = some (20, .aload_n 0, 1, [0], 0) := (fm_41 20).trans rfl
theorem u_41_20 {S : Scr} {d : Nat} {a1 a2 a3 a4 : AV} {st : List AV} {sh : Shp} {I : IM} {R : RM} {x : Nat} : ev S d 41 20 [.inr (.inl x), a1, a2, a3, a4] st (sh, I, R) = ev S d 41 21 [.inr (.inl x), a1, a2, a3, a4] (.inr (.inl x) :: st) (sh, I, R) := (ev_eq f_41_20).trans rfl
theorem f_41_21 : fetch 41 21 = some (21, .getfield 15, 3, [4, 2, 1, 25], 0) := (fm_41 21).trans rfl
theorem u_41_21 {S : Scr} {d : Nat} {a0 a1 a2 a3 a4 : AV} {st : List AV} {sh : Shp} {I : IM} {R : RM} {k : Nat} (h : tg sh k = 4) : ev S d 41 21 [a0, a1, a2, a3, a4] (.inr (.inl k) :: st) (sh, I, R) = ev S d 41 24 [a0, a1, a2, a3, a4] (rv (R k 2) :: st) (sh, I, R) := (ev_eq f_41_21).trans (congrArg (fin S d 41) (if_pos h))
theorem f_41_24 : fetch 41 24 = some (24, .iload_n 3, 1, [3], 0) := (fm_41 24).trans rfl
theorem u_41_24 {S : Scr} {d : Nat} {a0 a1 a2 a4 : AV} {st : List AV} {sh : Shp} {I : IM} {R : RM} {x : Int} : ev S d 41 24 [a0, a1, a2, .inl x, a4] st (sh, I, R) = ev S d 41 25 [a0, a1, a2, .inl x, a4] (.inl x :: st) (sh, I, R) := (ev_eq f_41_24).trans rfl
theorem f_41_25 : fetch 41 25 = some (25, .iconst (-1), 1, [], (-1)) := (fm_41 25).trans rfl
theorem u_41_25 {S : Scr} {d : Nat} {a0 a1 a2 a3 a4 : AV} {st : List AV} {sh : Shp} {I : IM} {R : RM} : ev S d 41 25 [a0, a1, a2, a3, a4] st (sh, I, R) = ev S d 41 26 [a0, a1, a2, a3, a4] (.inl (-1) :: st) (sh, I, R) := (ev_eq f_41_25).trans rfl
theorem f_41_26 : fetch 41 26 = some (26, .iastore, 1, [], 0) := (fm_41 26).trans rfl
theorem u_41_26 {S : Scr} {d : Nat} {a0 a1 a2 a3 a4 : AV} {st : List AV} {sh : Shp} {I : IM} {R : RM} {k : Nat} {i x : Int} (h : tg sh k = 100) (h0 : 0 ≤ i) (h1 : i < ln sh k) : ev S d 41 26 [a0, a1, a2, a3, a4] (.inl x :: .inl i :: .inr (.inl k) :: st) (sh, I, R) = ev S d 41 27 [a0, a1, a2, a3, a4] st (sh, up I k i x, R) := (ev_eq f_41_26).trans (congrArg (fin S d 41) (if_pos ⟨h, h0, h1⟩))
theorem f_41_27 : fetch 41 27 = some (27, .iinc 3 1, 3, [3], 1) := (fm_41 27).trans rfl
theorem u_41_27 {S : Scr} {d : Nat} {a0 a1 a2 a4 : AV} {st : List AV} {sh : Shp} {I : IM} {R : RM} {x : Int} : ev S d 41 27 [a0, a1, a2, .inl x, a4] st (sh, I, R) = ev S d 41 30 [a0, a1, a2, .inl (wr (x + 1)), a4] st (sh, I, R) := (ev_eq f_41_27).trans rfl
theorem f_41_30 : fetch 41 30 = some (30, .goto (-23), 3, [7], 0) := (fm_41 30).trans rfl
theorem u_41_30 {S : Scr} {d : Nat} {a0 a1 a2 a3 a4 : AV} {st : List AV} {sh : Shp} {I : IM} {R : RM} : ev S d 41 30 [a0, a1, a2, a3, a4] st (sh, I, R) = ev S d 41 7 [a0, a1, a2, a3, a4] st (sh, I, R) := (ev_eq f_41_30).trans rfl
theorem f_41_33 : fetch 41 33 = some (33, .aload_n 0, 1, [0], 0) := (fm_41 33).trans rfl
theorem u_41_33 {S : Scr} {d : Nat} {a1 a2 a3 a4 : AV} {st : List AV} {sh : Shp} {I : IM} {R : RM} {x : Nat} : ev S d 41 33 [.inr (.inl x), a1, a2, a3, a4] st (sh, I, R) = ev S d 41 34 [.inr (.inl x), a1, a2, a3, a4] (.inr (.inl x) :: st) (sh, I, R) := (ev_eq f_41_33).trans rfl
theorem f_41_34 : fetch 41 34 = some (34, .iload_n 1, 1, [1], 0) := (fm_41 34).trans rfl
theorem u_41_34 {S : Scr} {d : Nat} {a0 a2 a3 a4 : AV} {st : List AV} {sh : Shp} {I : IM} {R : RM} {x : Int} : ev S d 41 34 [a0, .inl x, a2, a3, a4] st (sh, I, R) = ev S d 41 35 [a0, .inl x, a2, a3, a4] (.inl x :: st) (sh, I, R) := (ev_eq f_41_34).trans rfl
theorem f_41_35 : fetch 41 35 = some (35, .iload_n 2, 1, [2], 0) := (fm_41 35).trans rfl
theorem u_41_35 {S : Scr} {d : Nat} {a0 a1 a3 a4 : AV} {st : List AV} {sh : Shp} {I : IM} {R : RM} {x : Int} : ev S d 41 35 [a0, a1, .inl x, a3, a4] st (sh, I, R) = ev S d 41 36 [a0, a1, .inl x, a3, a4] (.inl x :: st) (sh, I, R) := (ev_eq f_41_35).trans rfl
theorem f_41_36 : fetch 41 36 = some (36, .invokevirtual 29, 3, [43, 2, 40], 0) := (fm_41 36).trans rfl
theorem u_41_36 {S : Scr} {d : Nat} {a0 a1 a2 a3 a4 : AV} {st : List AV} {sh : Shp} {I : IM} {R : RM} {x0 : Int} {x1 : Int} {k : Nat} (h : tg sh k = 4) (hr : st.length ≤ 8) : ev S d 41 36 [a0, a1, a2, a3, a4] (.inl x1 :: .inl x0 :: .inr (.inl k) :: st) (sh, I, R) = bnd (cl d 43 [.inr (.inl k), .inl x0, .inl x1] (sh, I, R)) (fun v M => ev S d 41 39 [a0, a1, a2, a3, a4] (psh v st) M) := (ev_eq f_41_36).trans (congrArg (fin S d 41) (if_pos ⟨h, rfl, hr⟩))
theorem f_41_39 : fetch 41 39 = some (39, .istore_n 3, 1, [3], 0) := (fm_41 39).trans rfl
theorem u_41_39 {S : Scr} {d : Nat} {a0 a1 a2 a3 a4 : AV} {st : List AV} {sh : Shp} {I : IM} {R : RM} {x : Int} : ev S d 41 39 [a0, a1, a2, a3, a4] (.inl x :: st) (sh, I, R) = ev S d 41 40 [a0, a1, a2, .inl x, a4] st (sh, I, R) := (ev_eq f_41_39).trans rfl
theorem f_41_40 : fetch 41 40 = some (40, .iconst 0, 1, [], 0) := (fm_41 40).trans rfl
theorem u_41_40 {S : Scr} {d : Nat} {a0 a1 a2 a3 a4 : AV} {st : List AV} {sh : Shp} {I : IM} {R : RM} : ev S d 41 40 [a0, a1, a2, a3, a4] st (sh, I, R) = ev S d 41 41 [a0, a1, a2, a3, a4] (.inl 0 :: st) (sh, I, R) := (ev_eq f_41_40).trans rfl
theorem f_41_41 : fetch 41 41 = some (41, .istore 4, 2, [4], 0) := (fm_41 41).trans rfl
theorem u_41_41 {S : Scr} {d : Nat} {a0 a1 a2 a3 a4 : AV} {st : List AV} {sh : Shp} {I : IM} {R : RM} {x : Int} : ev S d 41 41 [a0, a1, a2, a3, a4] (.inl x :: st) (sh, I, R) = ev S d 41 43 [a0, a1, a2, a3, .inl x] st (sh, I, R) := (ev_eq f_41_41).trans rfl
theorem f_41_43 : fetch 41 43 = some (43, .iload_n 3, 1, [3], 0) := (fm_41 43).trans rfl
theorem u_41_43 {S : Scr} {d : Nat} {a0 a1 a2 a4 : AV} {st : List AV} {sh : Shp} {I : IM} {R : RM} {x : Int} : ev S d 41 43 [a0, a1, a2, .inl x, a4] st (sh, I, R) = ev S d 41 44 [a0, a1, a2, .inl x, a4] (.inl x :: st) (sh, I, R) := (ev_eq f_41_43).trans rfl
theorem f_41_44 : fetch 41 44 = some (44, .ifCond .eq 63, 3, [107], 0) := (fm_41 44).trans rfl
theorem u_41_44 {S : Scr} {d : Nat} {a0 a1 a2 a3 a4 : AV} {st : List AV} {sh : Shp} {I : IM} {R : RM} {x : Int} : ev S d 41 44 [a0, a1, a2, a3, a4] (.inl x :: st) (sh, I, R) = if x = 0 then ev S d 41 107 [a0, a1, a2, a3, a4] st (sh, I, R) else ev S d 41 47 [a0, a1, a2, a3, a4] st (sh, I, R) := (ev_eq f_41_44).trans fin_if_eq
theorem f_41_47 : fetch 41 47 = some (47, .iload 4, 2, [4], 0) := (fm_41 47).trans rfl
theorem u_41_47 {S : Scr} {d : Nat} {a0 a1 a2 a3 : AV} {st : List AV} {sh : Shp} {I : IM} {R : RM} {x : Int} : ev S d 41 47 [a0, a1, a2, a3, .inl x] st (sh, I, R) = ev S d 41 49 [a0, a1, a2, a3, .inl x] (.inl x :: st) (sh, I, R) := (ev_eq f_41_47).trans rfl
theorem f_41_49 : fetch 41 49 = some (49, .aload_n 0, 1, [0], 0) := (fm_41 49).trans rfl
theorem u_41_49 {S : Scr} {d : Nat} {a1 a2 a3 a4 : AV} {st : List AV} {sh : Shp} {I : IM} {R : RM} {x : Nat} : ev S d 41 49 [.inr (.inl x), a1, a2, a3, a4] st (sh, I, R) = ev S d 41 50 [.inr (.inl x), a1, a2, a3, a4] (.inr (.inl x) :: st) (sh, I, R) := (ev_eq f_41_49).trans rfl
theorem f_41_50 : fetch 41 50 = some (50, .getfield 25, 3, [4, 4, 0, 28], 0) := (fm_41 50).trans rfl
theorem u_41_50 {S : Scr} {d : Nat} {a0 a1 a2 a3 a4 : AV} {st : List AV} {sh : Shp} {I : IM} {R : RM} {k : Nat} (h : tg sh k = 4) : ev S d 41 50 [a0, a1, a2, a3, a4] (.inr (.inl k) :: st) (sh, I, R) = ev S d 41 53 [a0, a1, a2, a3, a4] (.inl (I k 4) :: st) (sh, I, R) := (ev_eq f_41_50).trans (congrArg (fin S d 41) (if_pos h))
theorem f_41_53 : fetch 41 53 = some (53, .if_icmp .ge 54, 3, [107], 0) := (fm_41 53).trans rfl
theorem u_41_53 {S : Scr} {d : Nat} {a0 a1 a2 a3 a4 : AV} {st : List AV} {sh : Shp} {I : IM} {R : RM} {x y : Int} : ev S d 41 53 [a0, a1, a2, a3, a4] (.inl y :: .inl x :: st) (sh, I, R) = if y ≤ x then ev S d 41 107 [a0, a1, a2, a3, a4] st (sh, I, R) else ev S d 41 56 [a0, a1, a2, a3, a4] st (sh, I, R) := (ev_eq f_41_53).trans fin_icmp_ge
theorem f_41_56 : fetch 41 56 = some (56, .iload 4, 2, [4], 0) := (fm_41 56).trans rfl
theorem u_41_56 {S : Scr} {d : Nat} {a0 a1 a2 a3 : AV} {st : List AV} {sh : Shp} {I : IM} {R : RM} {x : Int} : ev S d 41 56 [a0, a1, a2, a3, .inl x] st (sh, I, R) = ev S d 41 58 [a0, a1, a2, a3, .inl x] (.inl x :: st) (sh, I, R) := (ev_eq f_41_56).trans rfl
theorem f_41_58 : fetch 41 58 = some (58, .bipush 30, 2, [], 30) := (fm_41 58).trans rfl
theorem u_41_58 {S : Scr} {d : Nat} {a0 a1 a2 a3 a4 : AV} {st : List AV} {sh : Shp} {I : IM} {R : RM} : ev S d 41 58 [a0, a1, a2, a3, a4] st (sh, I, R) = ev S d 41 60 [a0, a1, a2, a3, a4] (.inl 30 :: st) (sh, I, R) := (ev_eq f_41_58).trans rfl
theorem f_41_60 : fetch 41 60 = some (60, .if_icmp .ge 47, 3, [107], 0) := (fm_41 60).trans rfl
theorem u_41_60 {S : Scr} {d : Nat} {a0 a1 a2 a3 a4 : AV} {st : List AV} {sh : Shp} {I : IM} {R : RM} {x y : Int} : ev S d 41 60 [a0, a1, a2, a3, a4] (.inl y :: .inl x :: st) (sh, I, R) = if y ≤ x then ev S d 41 107 [a0, a1, a2, a3, a4] st (sh, I, R) else ev S d 41 63 [a0, a1, a2, a3, a4] st (sh, I, R) := (ev_eq f_41_60).trans fin_icmp_ge
theorem f_41_63 : fetch 41 63 = some (63, .aload_n 0, 1, [0], 0) := (fm_41 63).trans rfl
theorem u_41_63 {S : Scr} {d : Nat} {a1 a2 a3 a4 : AV} {st : List AV} {sh : Shp} {I : IM} {R : RM} {x : Nat} : ev S d 41 63 [.inr (.inl x), a1, a2, a3, a4] st (sh, I, R) = ev S d 41 64 [.inr (.inl x), a1, a2, a3, a4] (.inr (.inl x) :: st) (sh, I, R) := (ev_eq f_41_63).trans rfl
theorem f_41_64 : fetch 41 64 = some (64, .aload_n 0, 1, [0], 0) := (fm_41 64).trans rfl
theorem u_41_64 {S : Scr} {d : Nat} {a1 a2 a3 a4 : AV} {st : List AV} {sh : Shp} {I : IM} {R : RM} {x : Nat} : ev S d 41 64 [.inr (.inl x), a1, a2, a3, a4] st (sh, I, R) = ev S d 41 65 [.inr (.inl x), a1, a2, a3, a4] (.inr (.inl x) :: st) (sh, I, R) := (ev_eq f_41_64).trans rfl
theorem f_41_65 : fetch 41 65 = some (65, .getfield 21, 3, [4, 0, 1, 27], 0) := (fm_41 65).trans rfl
theorem u_41_65 {S : Scr} {d : Nat} {a0 a1 a2 a3 a4 : AV} {st : List AV} {sh : Shp} {I : IM} {R : RM} {k : Nat} (h : tg sh k = 4) : ev S d 41 65 [a0, a1, a2, a3, a4] (.inr (.inl k) :: st) (sh, I, R) = ev S d 41 68 [a0, a1, a2, a3, a4] (rv (R k 0) :: st) (sh, I, R) := (ev_eq f_41_65).trans (congrArg (fin S d 41) (if_pos h))
theorem f_41_68 : fetch 41 68 = some (68, .aload_n 0, 1, [0], 0) := (fm_41 68).trans rfl
theorem u_41_68 {S : Scr} {d : Nat} {a1 a2 a3 a4 : AV} {st : List AV} {sh : Shp} {I : IM} {R : RM} {x : Nat} : ev S d 41 68 [.inr (.inl x), a1, a2, a3, a4] st (sh, I, R) = ev S d 41 69 [.inr (.inl x), a1, a2, a3, a4] (.inr (.inl x) :: st) (sh, I, R) := (ev_eq f_41_68).trans rfl
theorem f_41_69 : fetch 41 69 = some (69, .getfield 18, 3, [4, 3, 1, 26], 0) := (fm_41 69).trans rfl
theorem u_41_69 {S : Scr} {d : Nat} {a0 a1 a2 a3 a4 : AV} {st : List AV} {sh : Shp} {I : IM} {R : RM} {k : Nat} (h : tg sh k = 4) : ev S d 41 69 [a0, a1, a2, a3, a4] (.inr (.inl k) :: st) (sh, I, R) = ev S d 41 72 [a0, a1, a2, a3, a4] (rv (R k 3) :: st) (sh, I, R) := (ev_eq f_41_69).trans (congrArg (fin S d 41) (if_pos h))
theorem f_41_72 : fetch 41 72 = some (72, .iload 4, 2, [4], 0) := (fm_41 72).trans rfl
theorem u_41_72 {S : Scr} {d : Nat} {a0 a1 a2 a3 : AV} {st : List AV} {sh : Shp} {I : IM} {R : RM} {x : Int} : ev S d 41 72 [a0, a1, a2, a3, .inl x] st (sh, I, R) = ev S d 41 74 [a0, a1, a2, a3, .inl x] (.inl x :: st) (sh, I, R) := (ev_eq f_41_72).trans rfl
theorem f_41_74 : fetch 41 74 = some (74, .iaload, 1, [], 0) := (fm_41 74).trans rfl
theorem u_41_74 {S : Scr} {d : Nat} {a0 a1 a2 a3 a4 : AV} {st : List AV} {sh : Shp} {I : IM} {R : RM} {k : Nat} {i : Int} (h : tg sh k = 100) (h0 : 0 ≤ i) (h1 : i < ln sh k) : ev S d 41 74 [a0, a1, a2, a3, a4] (.inl i :: .inr (.inl k) :: st) (sh, I, R) = ev S d 41 75 [a0, a1, a2, a3, a4] (.inl (I k i) :: st) (sh, I, R) := (ev_eq f_41_74).trans (congrArg (fin S d 41) (if_pos ⟨h, h0, h1⟩))
theorem f_41_75 : fetch 41 75 = some (75, .invokevirtual 33, 3, [68, 1, 41], 0) := (fm_41 75).trans rfl
theorem u_41_75 {S : Scr} {d : Nat} {a0 a1 a2 a3 a4 : AV} {st : List AV} {sh : Shp} {I : IM} {R : RM} {x0 : Int} {k : Nat} (h : tg sh k = 7) (hr : st.length ≤ 8) : ev S d 41 75 [a0, a1, a2, a3, a4] (.inl x0 :: .inr (.inl k) :: st) (sh, I, R) = bnd (cl d 68 [.inr (.inl k), .inl x0] (sh, I, R)) (fun v M => ev S d 41 78 [a0, a1, a2, a3, a4] (psh v st) M) := (ev_eq f_41_75).trans (congrArg (fin S d 41) (if_pos ⟨h, rfl, hr⟩))
theorem f_41_78 : fetch 41 78 = some (78, .aload_n 0, 1, [0], 0) := (fm_41 78).trans rfl
theorem u_41_78 {S : Scr} {d : Nat} {a1 a2 a3 a4 : AV} {st : List AV} {sh : Shp} {I : IM} {R : RM} {x : Nat} : ev S d 41 78 [.inr (.inl x), a1, a2, a3, a4] st (sh, I, R) = ev S d 41 79 [.inr (.inl x), a1, a2, a3, a4] (.inr (.inl x) :: st) (sh, I, R) := (ev_eq f_41_78).trans rfl
theorem f_41_79 : fetch 41 79 = some (79, .getfield 21, 3, [4, 0, 1, 27], 0) := (fm_41 79).trans rfl
theorem u_41_79 {S : Scr} {d : Nat} {a0 a1 a2 a3 a4 : AV} {st : List AV} {sh : Shp} {I : IM} {R : RM} {k : Nat} (h : tg sh k = 4) : ev S d 41 79 [a0, a1, a2, a3, a4] (.inr (.inl k) :: st) (sh, I, R) = ev S d 41 82 [a0, a1, a2, a3, a4] (rv (R k 0) :: st) (sh, I, R) := (ev_eq f_41_79).trans (congrArg (fin S d 41) (if_pos h))
theorem f_41_82 : fetch 41 82 = some (82, .aload_n 0, 1, [0], 0) := (fm_41 82).trans rfl
theorem u_41_82 {S : Scr} {d : Nat} {a1 a2 a3 a4 : AV} {st : List AV} {sh : Shp} {I : IM} {R : RM} {x : Nat} : ev S d 41 82 [.inr (.inl x), a1, a2, a3, a4] st (sh, I, R) = ev S d 41 83 [.inr (.inl x), a1, a2, a3, a4] (.inr (.inl x) :: st) (sh, I, R) := (ev_eq f_41_82).trans rfl
theorem f_41_83 : fetch 41 83 = some (83, .getfield 9, 3, [4, 1, 1, 24], 0) := (fm_41 83).trans rfl
theorem u_41_83 {S : Scr} {d : Nat} {a0 a1 a2 a3 a4 : AV} {st : List AV} {sh : Shp} {I : IM} {R : RM} {k : Nat} (h : tg sh k = 4) : ev S d 41 83 [a0, a1, a2, a3, a4] (.inr (.inl k) :: st) (sh, I, R) = ev S d 41 86 [a0, a1, a2, a3, a4] (rv (R k 1) :: st) (sh, I, R) := (ev_eq f_41_83).trans (congrArg (fin S d 41) (if_pos h))
theorem f_41_86 : fetch 41 86 = some (86, .aload_n 0, 1, [0], 0) := (fm_41 86).trans rfl
theorem u_41_86 {S : Scr} {d : Nat} {a1 a2 a3 a4 : AV} {st : List AV} {sh : Shp} {I : IM} {R : RM} {x : Nat} : ev S d 41 86 [.inr (.inl x), a1, a2, a3, a4] st (sh, I, R) = ev S d 41 87 [.inr (.inl x), a1, a2, a3, a4] (.inr (.inl x) :: st) (sh, I, R) := (ev_eq f_41_86).trans rfl
theorem f_41_87 : fetch 41 87 = some (87, .getfield 18, 3, [4, 3, 1, 26], 0) := (fm_41 87).trans rfl
theorem u_41_87 {S : Scr} {d : Nat} {a0 a1 a2 a3 a4 : AV} {st : List AV} {sh : Shp} {I : IM} {R : RM} {k : Nat} (h : tg sh k = 4) : ev S d 41 87 [a0, a1, a2, a3, a4] (.inr (.inl k) :: st) (sh, I, R) = ev S d 41 90 [a0, a1, a2, a3, a4] (rv (R k 3) :: st) (sh, I, R) := (ev_eq f_41_87).trans (congrArg (fin S d 41) (if_pos h))
theorem f_41_90 : fetch 41 90 = some (90, .iload 4, 2, [4], 0) := (fm_41 90).trans rfl
theorem u_41_90 {S : Scr} {d : Nat} {a0 a1 a2 a3 : AV} {st : List AV} {sh : Shp} {I : IM} {R : RM} {x : Int} : ev S d 41 90 [a0, a1, a2, a3, .inl x] st (sh, I, R) = ev S d 41 92 [a0, a1, a2, a3, .inl x] (.inl x :: st) (sh, I, R) := (ev_eq f_41_90).trans rfl
theorem f_41_92 : fetch 41 92 = some (92, .iaload, 1, [], 0) := (fm_41 92).trans rfl
theorem u_41_92 {S : Scr} {d : Nat} {a0 a1 a2 a3 a4 : AV} {st : List AV} {sh : Shp} {I : IM} {R : RM} {k : Nat} {i : Int} (h : tg sh k = 100) (h0 : 0 ≤ i) (h1 : i < ln sh k) : ev S d 41 92 [a0, a1, a2, a3, a4] (.inl i :: .inr (.inl k) :: st) (sh, I, R) = ev S d 41 93 [a0, a1, a2, a3, a4] (.inl (I k i) :: st) (sh, I, R) := (ev_eq f_41_92).trans (congrArg (fin S d 41) (if_pos ⟨h, h0, h1⟩))
theorem f_41_93 : fetch 41 93 = some (93, .iaload, 1, [], 0) := (fm_41 93).trans rfl
theorem u_41_93 {S : Scr} {d : Nat} {a0 a1 a2 a3 a4 : AV} {st : List AV} {sh : Shp} {I : IM} {R : RM} {k : Nat} {i : Int} (h : tg sh k = 100) (h0 : 0 ≤ i) (h1 : i < ln sh k) : ev S d 41 93 [a0, a1, a2, a3, a4] (.inl i :: .inr (.inl k) :: st) (sh, I, R) = ev S d 41 94 [a0, a1, a2, a3, a4] (.inl (I k i) :: st) (sh, I, R) := (ev_eq f_41_93).trans (congrArg (fin S d 41) (if_pos ⟨h, h0, h1⟩))
theorem f_41_94 : fetch 41 94 = some (94, .invokevirtual 33, 3, [68, 1, 41], 0) := (fm_41 94).trans rfl
theorem u_41_94 {S : Scr} {d : Nat} {a0 a1 a2 a3 a4 : AV} {st : List AV} {sh : Shp} {I : IM} {R : RM} {x0 : Int} {k : Nat} (h : tg sh k = 7) (hr : st.length ≤ 8) : ev S d 41 94 [a0, a1, a2, a3, a4] (.inl x0 :: .inr (.inl k) :: st) (sh, I, R) = bnd (cl d 68 [.inr (.inl k), .inl x0] (sh, I, R)) (fun v M => ev S d 41 97 [a0, a1, a2, a3, a4] (psh v st) M) := (ev_eq f_41_94).trans (congrArg (fin S d 41) (if_pos ⟨h, rfl, hr⟩))
theorem f_41_97 : fetch 41 97 = some (97, .invokevirtual 39, 3, [42, 2, 42], 0) := (fm_41 97).trans rfl
theorem u_41_97 {S : Scr} {d : Nat} {a0 a1 a2 a3 a4 : AV} {st : List AV} {sh : Shp} {I : IM} {R : RM} {x0 : Nat} {x1 : Nat} {k : Nat} (h : tg sh k = 4) (hr : st.length ≤ 8) : ev S d 41 97 [a0, a1, a2, a3, a4] (.inr (.inl x1) :: .inr (.inl x0) :: .inr (.inl k) :: st) (sh, I, R) = bnd (cl d 42 [.inr (.inl k), .inr (.inl x0), .inr (.inl x1)] (sh, I, R)) (fun v M => ev S d 41 100 [a0, a1, a2, a3, a4] (psh v st) M) := (ev_eq f_41_97).trans (congrArg (fin S d 41) (if_pos ⟨h, rfl, hr⟩))
theorem u_41_97kn {S : Scr} {d : Nat} {a0 a1 a2 a3 a4 : AV} {st : List AV} {sh : Shp} {I : IM} {R : RM} {x0 : Nat} {k : Nat} (h : tg sh k = 4) (hr : st.length ≤ 8) : ev S d 41 97 [a0, a1, a2, a3, a4] (.inr (.inr 0) :: .inr (.inl x0) :: .inr (.inl k) :: st) (sh, I, R) = bnd (cl d 42 [.inr (.inl k), .inr (.inl x0), .inr (.inr 0)] (sh, I, R)) (fun v M => ev S d 41 100 [a0, a1, a2, a3, a4] (psh v st) M) := (ev_eq f_41_97).trans (congrArg (fin S d 41) (if_pos ⟨h, rfl, hr⟩))
theorem u_41_97nk {S : Scr} {d : Nat} {a0 a1 a2 a3 a4 : AV} {st : List AV} {sh : Shp} {I : IM} {R : RM} {x1 : Nat} {k : Nat} (h : tg sh k = 4) (hr : st.length ≤ 8) : ev S d 41 97 [a0, a1, a2, a3, a4] (.inr (.inl x1) :: .inr (.inr 0) :: .inr (.inl k) :: st) (sh, I, R) = bnd (cl d 42 [.inr (.inl k), .inr (.inr 0), .inr (.inl x1)] (sh, I, R)) (fun v M => ev S d 41 100 [a0, a1, a2, a3, a4] (psh v st) M) := (ev_eq f_41_97).trans (congrArg (fin S d 41) (if_pos ⟨h, rfl, hr⟩))
theorem u_41_97nn {S : Scr} {d : Nat} {a0 a1 a2 a3 a4 : AV} {st : List AV} {sh : Shp} {I : IM} {R : RM} {k : Nat} (h : tg sh k = 4) (hr : st.length ≤ 8) : ev S d 41 97 [a0, a1, a2, a3, a4] (.inr (.inr 0) :: .inr (.inr 0) :: .inr (.inl k) :: st) (sh, I, R) = bnd (cl d 42 [.inr (.inl k), .inr (.inr 0), .inr (.inr 0)] (sh, I, R)) (fun v M => ev S d 41 100 [a0, a1, a2, a3, a4] (psh v st) M) := (ev_eq f_41_97).trans (congrArg (fin S d 41) (if_pos ⟨h, rfl, hr⟩))
theorem f_41_100 : fetch 41 100 = some (100, .istore_n 3, 1, [3], 0) := (fm_41 100).trans rfl
theorem u_41_100 {S : Scr} {d : Nat} {a0 a1 a2 a3 a4 : AV} {st : List AV} {sh : Shp} {I : IM} {R : RM} {x : Int} : ev S d 41 100 [a0, a1, a2, a3, a4] (.inl x :: st) (sh, I, R) = ev S d 41 101 [a0, a1, a2, .inl x, a4] st (sh, I, R) := (ev_eq f_41_100).trans rfl
theorem f_41_101 : fetch 41 101 = some (101, .iinc 4 1, 3, [4], 1) := (fm_41 101).trans rfl
theorem u_41_101 {S : Scr} {d : Nat} {a0 a1 a2 a3 : AV} {st : List AV} {sh : Shp} {I : IM} {R : RM} {x : Int} : ev S d 41 101 [a0, a1, a2, a3, .inl x] st (sh, I, R) = ev S d 41 104 [a0, a1, a2, a3, .inl (wr (x + 1))] st (sh, I, R) := (ev_eq f_41_101).trans rfl
theorem f_41_104 : fetch 41 104 = some (104, .goto (-61), 3, [43], 0) := (fm_41 104).trans rfl
theorem u_41_104 {S : Scr} {d : Nat} {a0 a1 a2 a3 a4 : AV} {st : List AV} {sh : Shp} {I : IM} {R : RM} : ev S d 41 104 [a0, a1, a2, a3, a4] st (sh, I, R) = ev S d 41 43 [a0, a1, a2, a3, a4] st (sh, I, R) := (ev_eq f_41_104).trans rfl
theorem f_41_107 : fetch 41 107 = some (107, .iload_n 3, 1, [3], 0) := (fm_41 107).trans rfl
theorem u_41_107 {S : Scr} {d : Nat} {a0 a1 a2 a4 : AV} {st : List AV} {sh : Shp} {I : IM} {R : RM} {x : Int} : ev S d 41 107 [a0, a1, a2, .inl x, a4] st (sh, I, R) = ev S d 41 108 [a0, a1, a2, .inl x, a4] (.inl x :: st) (sh, I, R) := (ev_eq f_41_107).trans rfl
theorem f_41_108 : fetch 41 108 = some (108, .ireturn, 1, [1], 0) := (fm_41 108).trans rfl
theorem u_41_108 {S : Scr} {d : Nat} {a0 a1 a2 a3 a4 : AV} {sh : Shp} {I : IM} {R : RM} {x : Int} (h : x = 0 ∨ x = 1) : ev S d 41 108 [a0, a1, a2, a3, a4] [.inl x] (sh, I, R) = some (some (.inl x), (sh, I, R)) := (ev_eq f_41_108).trans (fin_iret1 h)
theorem c_42 {d : Nat} {a0 a1 a2 : AV} {M : Mem} : cl (d + 1) 42 [a0, a1, a2] M = ev S0 d 42 0 [a0, a1, a2, .inr (.inr 1), .inr (.inr 1)] [] M := (cl_eq (as := [a0, a1, a2]) (show 3 ≤ maxOf 42 by decide +kernel)).trans rfl
theorem mt_42 : MT[42]? = some m_42 := rfl
theorem fm_42 (pc : Nat) : fetch 42 pc = lk m_42.2.2.2.2.2 pc := by
  unfold fetch
  rw [mt_42]
theorem f_42_0 : fetch 42 0 = some (0, .aload_n 1, 1, [1], 0) := (fm_42 0).trans rfl
theorem u_42_0 {S : Scr} {d : Nat} {a0 a2 a3 a4 : AV} {st : List AV} {sh : Shp} {I : IM} {R : RM} {x : Nat} : ev S d 42 0 [a0, .inr (.inl x), a2, a3, a4] st (sh, I, R) = ev S d 42 1 [a0, .inr (.inl x), a2, a3, a4] (.inr (.inl x) :: st) (sh, I, R) := (ev_eq f_42_0).trans rfl
theorem u_42_0n {S : Scr} {d : Nat} {a0 a2 a3 a4 : AV} {st : List AV} {sh : Shp} {I : IM} {R : RM} : ev S d 42 0 [a0, .inr (.inr 0), a2, a3, a4] st (sh, I, R) = ev S d 42 1 [a0, .inr (.inr 0), a2, a3, a4] (.inr (.inr 0) :: st) (sh, I, R) := (ev_eq f_42_0).trans rfl
theorem f_42_1 : fetch 42 1 = some (1, .ifnull 11, 3, [12], 0) := (fm_42 1).trans rfl
theorem u_42_1 {S : Scr} {d : Nat} {a0 a1 a2 a3 a4 : AV} {st : List AV} {sh : Shp} {I : IM} {R : RM} {x : Nat} : ev S d 42 1 [a0, a1, a2, a3, a4] (.inr (.inl x) :: st) (sh, I, R) = ev S d 42 4 [a0, a1, a2, a3, a4] st (sh, I, R) := (ev_eq f_42_1).trans rfl
theorem u_42_1n {S : Scr} {d : Nat} {a0 a1 a2 a3 a4 : AV} {st : List AV} {sh : Shp} {I : IM} {R : RM} : ev S d 42 1 [a0, a1, a2, a3, a4] (.inr (.inr 0) :: st) (sh, I, R) = ev S d 42 12 [a0, a1, a2, a3, a4] st (sh, I, R) := (ev_eq f_42_1).trans rfl
theorem f_42_4 : fetch 42 4 = some (4, .aload_n 2, 1, [2], 0) := (fm_42 4).trans rfl
theorem u_42_4 {S : Scr} {d : Nat} {a0 a1 a3 a4 : AV} {st : List AV} {sh : Shp} {I : IM} {R : RM} {x : Nat} : ev S d 42 4 [a0, a1, .inr (.inl x), a3, a4] st (sh, I, R) = ev S d 42 5 [a0, a1, .inr (.inl x), a3, a4] (.inr (.inl x) :: st) (sh, I, R) := (ev_eq f_42_4).trans rfl
theorem u_42_4n {S : Scr} {d : Nat} {a0 a1 a3 a4 : AV} {st : List AV} {sh : Shp} {I : IM} {R : RM} : ev S d 42 4 [a0, a1, .inr (.inr 0), a3, a4] st (sh, I, R) = ev S d 42 5 [a0, a1, .inr (.inr 0), a3, a4] (.inr (.inr 0) :: st) (sh, I, R) := (ev_eq f_42_4).trans rfl
theorem f_42_5 : fetch 42 5 = some (5, .ifnull 7, 3, [12], 0) := (fm_42 5).trans rfl
theorem u_42_5 {S : Scr} {d : Nat} {a0 a1 a2 a3 a4 : AV} {st : List AV} {sh : Shp} {I : IM} {R : RM} {x : Nat} : ev S d 42 5 [a0, a1, a2, a3, a4] (.inr (.inl x) :: st) (sh, I, R) = ev S d 42 8 [a0, a1, a2, a3, a4] st (sh, I, R) := (ev_eq f_42_5).trans rfl
theorem u_42_5n {S : Scr} {d : Nat} {a0 a1 a2 a3 a4 : AV} {st : List AV} {sh : Shp} {I : IM} {R : RM} : ev S d 42 5 [a0, a1, a2, a3, a4] (.inr (.inr 0) :: st) (sh, I, R) = ev S d 42 12 [a0, a1, a2, a3, a4] st (sh, I, R) := (ev_eq f_42_5).trans rfl
theorem f_42_8 : fetch 42 8 = some (8, .iconst 1, 1, [], 1) := (fm_42 8).trans rfl
theorem u_42_8 {S : Scr} {d : Nat} {a0 a1 a2 a3 a4 : AV} {st : List AV} {sh : Shp} {I : IM} {R : RM} : ev S d 42 8 [a0, a1, a2, a3, a4] st (sh, I, R) = ev S d 42 9 [a0, a1, a2, a3, a4] (.inl 1 :: st) (sh, I, R) := (ev_eq f_42_8).trans rfl
theorem f_42_9 : fetch 42 9 = some (9, .goto 4, 3, [13], 0) := (fm_42 9).trans rfl
theorem u_42_9 {S : Scr} {d : Nat} {a0 a1 a2 a3 a4 : AV} {st : List AV} {sh : Shp} {I : IM} {R : RM} : ev S d 42 9 [a0, a1, a2, a3, a4] st (sh, I, R) = ev S d 42 13 [a0, a1, a2, a3, a4] st (sh, I, R) := (ev_eq f_42_9).trans rfl
theorem f_42_12 : fetch 42 12 = some (12, .iconst 0, 1, [], 0) := (fm_42 12).trans rfl
theorem u_42_12 {S : Scr} {d : Nat} {a0 a1 a2 a3 a4 : AV} {st : List AV} {sh : Shp} {I : IM} {R : RM} : ev S d 42 12 [a0, a1, a2, a3, a4] st (sh, I, R) = ev S d 42 13 [a0, a1, a2, a3, a4] (.inl 0 :: st) (sh, I, R) := (ev_eq f_42_12).trans rfl
theorem f_42_13 : fetch 42 13 = some (13, .istore_n 3, 1, [3], 0) := (fm_42 13).trans rfl
theorem u_42_13 {S : Scr} {d : Nat} {a0 a1 a2 a3 a4 : AV} {st : List AV} {sh : Shp} {I : IM} {R : RM} {x : Int} : ev S d 42 13 [a0, a1, a2, a3, a4] (.inl x :: st) (sh, I, R) = ev S d 42 14 [a0, a1, a2, .inl x, a4] st (sh, I, R) := (ev_eq f_42_13).trans rfl
theorem f_42_14 : fetch 42 14 = some (14, .iconst 0, 1, [], 0) := (fm_42 14).trans rfl
theorem u_42_14 {S : Scr} {d : Nat} {a0 a1 a2 a3 a4 : AV} {st : List AV} {sh : Shp} {I : IM} {R : RM} : ev S d 42 14 [a0, a1, a2, a3, a4] st (sh, I, R) = ev S d 42 15 [a0, a1, a2, a3, a4] (.inl 0 :: st) (sh, I, R) := (ev_eq f_42_14).trans rfl
theorem f_42_15 : fetch 42 15 = some (15, .istore 4, 2, [4], 0) := (fm_42 15).trans rfl
theorem u_42_15 {S : Scr} {d : Nat} {a0 a1 a2 a3 a4 : AV} {st : List AV} {sh : Shp} {I : IM} {R : RM} {x : Int} : ev S d 42 15 [a0, a1, a2, a3, a4] (.inl x :: st) (sh, I, R) = ev S d 42 17 [a0, a1, a2, a3, .inl x] st (sh, I, R) := (ev_eq f_42_15).trans rfl
theorem f_42_17 : fetch 42 17 = some (17, .iload_n 3, 1, [3], 0) := (fm_42 17).trans rfl
theorem u_42_17 {S : Scr} {d : Nat} {a0 a1 a2 a4 : AV} {st : List AV} {sh : Shp} {I : IM} {R : RM} {x : Int} : ev S d 42 17 [a0, a1, a2, .inl x, a4] st (sh, I, R) = ev S d 42 18 [a0, a1, a2, .inl x, a4] (.inl x :: st) (sh, I, R) := (ev_eq f_42_17).trans rfl
theorem f_42_18 : fetch 42 18 = some (18, .ifCond .eq 37, 3, [55], 0) := (fm_42 18).trans rfl
theorem u_42_18 {S : Scr} {d : Nat} {a0 a1 a2 a3 a4 : AV} {st : List AV} {sh : Shp} {I : IM} {R : RM} {x : Int} : ev S d 42 18 [a0, a1, a2, a3, a4] (.inl x :: st) (sh, I, R) = if x = 0 then ev S d 42 55 [a0, a1, a2, a3, a4] st (sh, I, R) else ev S d 42 21 [a0, a1, a2, a3, a4] st (sh, I, R) := (ev_eq f_42_18).trans fin_if_eq
theorem f_42_21 : fetch 42 21 = some (21, .iload 4, 2, [4], 0) := (fm_42 21).trans rfl
theorem u_42_21 {S : Scr} {d : Nat} {a0 a1 a2 a3 : AV} {st : List AV} {sh : Shp} {I : IM} {R : RM} {x : Int} : ev S d 42 21 [a0, a1, a2, a3, .inl x] st (sh, I, R) = ev S d 42 23 [a0, a1, a2, a3, .inl x] (.inl x :: st) (sh, I, R) := (ev_eq f_42_21).trans rfl
theorem f_42_23 : fetch 42 23 = some (23, .aload_n 1, 1, [1], 0) := (fm_42 23).trans rfl
theorem u_42_23 {S : Scr} {d : Nat} {a0 a2 a3 a4 : AV} {st : List AV} {sh : Shp} {I : IM} {R : RM} {x : Nat} : ev S d 42 23 [a0, .inr (.inl x), a2, a3, a4] st (sh, I, R) = ev S d 42 24 [a0, .inr (.inl x), a2, a3, a4] (.inr (.inl x) :: st) (sh, I, R) := (ev_eq f_42_23).trans rfl
theorem u_42_23n {S : Scr} {d : Nat} {a0 a2 a3 a4 : AV} {st : List AV} {sh : Shp} {I : IM} {R : RM} : ev S d 42 23 [a0, .inr (.inr 0), a2, a3, a4] st (sh, I, R) = ev S d 42 24 [a0, .inr (.inr 0), a2, a3, a4] (.inr (.inr 0) :: st) (sh, I, R) := (ev_eq f_42_23).trans rfl
theorem f_42_24 : fetch 42 24 = some (24, .getfield 43, 3, [3, 4, 0, 29], 0) := (fm_42 24).trans rfl
theorem u_42_24 {S : Scr} {d : Nat} {a0 a1 a2 a3 a4 : AV} {st : List AV} {sh : Shp} {I : IM} {R : RM} {k : Nat} (h : tg sh k = 3) : ev S d 42 24 [a0, a1, a2, a3, a4] (.inr (.inl k) :: st) (sh, I, R) = ev S d 42 27 [a0, a1, a2, a3, a4] (.inl (I k 4) :: st) (sh, I, R) := (ev_eq f_42_24).trans (congrArg (fin S d 42) (if_pos h))
theorem f_42_27 : fetch 42 27 = some (27, .if_icmp .ge 28, 3, [55], 0) := (fm_42 27).trans rfl
theorem u_42_27 {S : Scr} {d : Nat} {a0 a1 a2 a3 a4 : AV} {st : List AV} {sh : Shp} {I : IM} {R : RM} {x y : Int} : ev S d 42 27 [a0, a1, a2, a3, a4] (.inl y :: .inl x :: st) (sh, I, R) = if y ≤ x then ev S d 42 55 [a0, a1, a2, a3, a4] st (sh, I, R) else ev S d 42 30 [a0, a1, a2, a3, a4] st (sh, I, R) := (ev_eq f_42_27).trans fin_icmp_ge
theorem f_42_30 : fetch 42 30 = some (30, .aload_n 0, 1, [0], 0) := (fm_42 30).trans rfl
theorem u_42_30 {S : Scr} {d : Nat} {a1 a2 a3 a4 : AV} {st : List AV} {sh : Shp} {I : IM} {R : RM} {x : Nat} : ev S d 42 30 [.inr (.inl x), a1, a2, a3, a4] st (sh, I, R) = ev S d 42 31 [.inr (.inl x), a1, a2, a3, a4] (.inr (.inl x) :: st) (sh, I, R) := (ev_eq f_42_30).trans rfl
theorem f_42_31 : fetch 42 31 = some (31, .aload_n 1, 1, [1], 0) := (fm_42 31).trans rfl
theorem u_42_31 {S : Scr} {d : Nat} {a0 a2 a3 a4 : AV} {st : List AV} {sh : Shp} {I : IM} {R : RM} {x : Nat} : ev S d 42 31 [a0, .inr (.inl x), a2, a3, a4] st (sh, I, R) = ev S d 42 32 [a0, .inr (.inl x), a2, a3, a4] (.inr (.inl x) :: st) (sh, I, R) := (ev_eq f_42_31).trans rfl
theorem u_42_31n {S : Scr} {d : Nat} {a0 a2 a3 a4 : AV} {st : List AV} {sh : Shp} {I : IM} {R : RM} : ev S d 42 31 [a0, .inr (.inr 0), a2, a3, a4] st (sh, I, R) = ev S d 42 32 [a0, .inr (.inr 0), a2, a3, a4] (.inr (.inr 0) :: st) (sh, I, R) := (ev_eq f_42_31).trans rfl
theorem f_42_32 : fetch 42 32 = some (32, .getfield 48, 3, [3, 1, 1, 30], 0) := (fm_42 32).trans rfl
theorem u_42_32 {S : Scr} {d : Nat} {a0 a1 a2 a3 a4 : AV} {st : List AV} {sh : Shp} {I : IM} {R : RM} {k : Nat} (h : tg sh k = 3) : ev S d 42 32 [a0, a1, a2, a3, a4] (.inr (.inl k) :: st) (sh, I, R) = ev S d 42 35 [a0, a1, a2, a3, a4] (rv (R k 1) :: st) (sh, I, R) := (ev_eq f_42_32).trans (congrArg (fin S d 42) (if_pos h))
theorem f_42_35 : fetch 42 35 = some (35, .iload 4, 2, [4], 0) := (fm_42 35).trans rfl
theorem u_42_35 {S : Scr} {d : Nat} {a0 a1 a2 a3 : AV} {st : List AV} {sh : Shp} {I : IM} {R : RM} {x : Int} : ev S d 42 35 [a0, a1, a2, a3, .inl x] st (sh, I, R) = ev S d 42 37 [a0, a1, a2, a3, .inl x] (.inl x :: st) (sh, I, R) := (ev_eq f_42_35).trans rfl
theorem f_42_37 : fetch 42 37 = some (37, .iaload, 1, [], 0) := (fm_42 37).trans rfl
theorem u_42_37 {S : Scr} {d : Nat} {a0 a1 a2 a3 a4 : AV} {st : List AV} {sh : Shp} {I : IM} {R : RM} {k : Nat} {i : Int} (h : tg sh k = 100) (h0 : 0 ≤ i) (h1 : i < ln sh k) : ev S d 42 37 [a0, a1, a2, a3, a4] (.inl i :: .inr (.inl k) :: st) (sh, I, R) = ev S d 42 38 [a0, a1, a2, a3, a4] (.inl (I k i) :: st) (sh, I, R) := (ev_eq f_42_37).trans (congrArg (fin S d 42) (if_pos ⟨h, h0, h1⟩))
theorem f_42_38 : fetch 42 38 = some (38, .aload_n 2, 1, [2], 0) := (fm_42 38).trans rfl
theorem u_42_38 {S : Scr} {d : Nat} {a0 a1 a3 a4 : AV} {st : List AV} {sh : Shp} {I : IM} {R : RM} {x : Nat} : ev S d 42 38 [a0, a1, .inr (.inl x), a3, a4] st (sh, I, R) = ev S d 42 39 [a0, a1, .inr (.inl x), a3, a4] (.inr (.inl x) :: st) (sh, I, R) := (ev_eq f_42_38).trans rfl
theorem u_42_38n {S : Scr} {d : Nat} {a0 a1 a3 a4 : AV} {st : List AV} {sh : Shp} {I : IM} {R : RM} : ev S d 42 38 [a0, a1, .inr (.inr 0), a3, a4] st (sh, I, R) = ev S d 42 39 [a0, a1, .inr (.inr 0), a3, a4] (.inr (.inr 0) :: st) (sh, I, R) := (ev_eq f_42_38).trans rfl
theorem f_42_39 : fetch 42 39 = some (39, .getfield 48, 3, [3, 1, 1, 30], 0) := (fm_42 39).trans rfl
theorem u_42_39 {S : Scr} {d : Nat} {a0 a1 a2 a3 a4 : AV} {st : List AV} {sh : Shp} {I : IM} {R : RM} {k : Nat} (h : tg sh k = 3) : ev S d 42 39 [a0, a1, a2, a3, a4] (.inr (.inl k) :: st) (sh, I, R) = ev S d 42 42 [a0, a1, a2, a3, a4] (rv (R k 1) :: st) (sh, I, R) := (ev_eq f_42_39).trans (congrArg (fin S d 42) (if_pos h))
theorem f_42_42 : fetch 42 42 = some (42, .iload 4, 2, [4], 0) := (fm_42 42).trans rfl
theorem u_42_42 {S : Scr} {d : Nat} {a0 a1 a2 a3 : AV} {st : List AV} {sh : Shp} {I : IM} {R : RM} {x : Int} : ev S d 42 42 [a0, a1, a2, a3, .inl x] st (sh, I, R) = ev S d 42 44 [a0, a1, a2, a3, .inl x] (.inl x :: st) (sh, I, R) := (ev_eq f_42_42).trans rfl
theorem f_42_44 : fetch 42 44 = some (44, .iaload, 1, [], 0) := (fm_42 44).trans rfl
theorem u_42_44 {S : Scr} {d : Nat} {a0 a1 a2 a3 a4 : AV} {st : List AV} {sh : Shp} {I : IM} {R : RM} {k : Nat} {i : Int} (h : tg sh k = 100) (h0 : 0 ≤ i) (h1 : i < ln sh k) : ev S d 42 44 [a0, a1, a2, a3, a4] (.inl i :: .inr (.inl k) :: st) (sh, I, R) = ev S d 42 45 [a0, a1, a2, a3, a4] (.inl (I k i) :: st) (sh, I, R) := (ev_eq f_42_44).trans (congrArg (fin S d 42) (if_pos ⟨h, h0, h1⟩))
theorem f_42_45 : fetch 42 45 = some (45, .invokevirtual 29, 3, [43, 2, 40], 0) := (fm_42 45).trans rfl
theorem u_42_45 {S : Scr} {d : Nat} {a0 a1 a2 a3 a4 : AV} {st : List AV} {sh : Shp} {I : IM} {R : RM} {x0 : Int} {x1 : Int} {k : Nat} (h : tg sh k = 4) (hr : st.length ≤ 8) : ev S d 42 45 [a0, a1, a2, a3, a4] (.inl x1 :: .inl x0 :: .inr (.inl k) :: st) (sh, I, R) = bnd (cl d 43 [.inr (.inl k), .inl x0, .inl x1] (sh, I, R)) (fun v M => ev S d 42 48 [a0, a1, a2, a3, a4] (psh v st) M) := (ev_eq f_42_45).trans (congrArg (fin S d 42) (if_pos ⟨h, rfl, hr⟩))
theorem f_42_48 : fetch 42 48 = some (48, .istore_n 3, 1, [3], 0) := (fm_42 48).trans rfl
theorem u_42_48 {S : Scr} {d : Nat} {a0 a1 a2 a3 a4 : AV} {st : List AV} {sh : Shp} {I : IM} {R : RM} {x : Int} : ev S d 42 48 [a0, a1, a2, a3, a4] (.inl x :: st) (sh, I, R) = ev S d 42 49 [a0, a1, a2, .inl x, a4] st (sh, I, R) := (ev_eq f_42_48).trans rfl
theorem f_42_49 : fetch 42 49 = some (49, .iinc 4 1, 3, [4], 1) := (fm_42 49).trans rfl
theorem u_42_49 {S : Scr} {d : Nat} {a0 a1 a2 a3 : AV} {st : List AV} {sh : Shp} {I : IM} {R : RM} {x : Int} : ev S d 42 49 [a0, a1, a2, a3, .inl x] st (sh, I, R) = ev S d 42 52 [a0, a1, a2, a3, .inl (wr (x + 1))] st (sh, I, R) := (ev_eq f_42_49).trans rfl
theorem f_42_52 : fetch 42 52 = some (52, .goto (-35), 3, [17], 0) := (fm_42 52).trans rfl
theorem u_42_52 {S : Scr} {d : Nat} {a0 a1 a2 a3 a4 : AV} {st : List AV} {sh : Shp} {I : IM} {R : RM} : ev S d 42 52 [a0, a1, a2, a3, a4] st (sh, I, R) = ev S d 42 17 [a0, a1, a2, a3, a4] st (sh, I, R) := (ev_eq f_42_52).trans rfl
theorem f_42_55 : fetch 42 55 = some (55, .iload_n 3, 1, [3], 0) := (fm_42 55).trans rfl
theorem u_42_55 {S : Scr} {d : Nat} {a0 a1 a2 a4 : AV} {st : List AV} {sh : Shp} {I : IM} {R : RM} {x : Int} : ev S d 42 55 [a0, a1, a2, .inl x, a4] st (sh, I, R) = ev S d 42 56 [a0, a1, a2, .inl x, a4] (.inl x :: st) (sh, I, R) := (ev_eq f_42_55).trans rfl
theorem f_42_56 : fetch 42 56 = some (56, .ireturn, 1, [1], 0) := (fm_42 56).trans rfl
theorem u_42_56 {S : Scr} {d : Nat} {a0 a1 a2 a3 a4 : AV} {sh : Shp} {I : IM} {R : RM} {x : Int} (h : x = 0 ∨ x = 1) : ev S d 42 56 [a0, a1, a2, a3, a4] [.inl x] (sh, I, R) = some (some (.inl x), (sh, I, R)) := (ev_eq f_42_56).trans (fin_iret1 h)
theorem c_43 {d : Nat} {a0 a1 a2 : AV} {M : Mem} : cl (d + 1) 43 [a0, a1, a2] M = ev S0 d 43 0 [a0, a1, a2, .inr (.inr 1), .inr (.inr 1)] [] M := (cl_eq (as := [a0, a1, a2]) (show 3 ≤ maxOf 43 by decide +kernel)).trans rfl
theorem mt_43 : MT[43]? = some m_43 := rfl
theorem fm_43 (pc : Nat) : fetch 43 pc = lk m_43.2.2.2.2.2 pc := by
  unfold fetch
  rw [mt_43]
theorem f_43_0 : fetch 43 0 = some (0, .aload_n 0, 1, [0], 0) := (fm_43 0).trans rfl
theorem u_43_0 {S : Scr} {d : Nat} {a1 a2 a3 a4 : AV} {st : List AV} {sh : Shp} {I : IM} {R : RM} {x : Nat} : ev S d 43 0 [.inr (.inl x), a1, a2, a3, a4] st (sh, I, R) = ev S d 43 1 [.inr (.inl x), a1, a2, a3, a4] (.inr (.inl x) :: st) (sh, I, R) := (ev_eq f_43_0).trans rfl
theorem f_43_1 : fetch 43 1 = some (1, .getfield 21, 3, [4, 0, 1, 27], 0) := (fm_43 1).trans rfl
theorem u_43_1 {S : Scr} {d : Nat} {a0 a1 a2 a3 a4 : AV} {st : List AV} {sh : Shp} {I : IM} {R : RM} {k : Nat} (h : tg sh k = 4) : ev S d 43 1 [a0, a1, a2, a3, a4] (.inr (.inl k) :: st) (sh, I, R) = ev S d 43 4 [a0, a1, a2, a3, a4] (rv (R k 0) :: st) (sh, I, R) := (ev_eq f_43_1).trans (congrArg (fin S d 43) (if_pos h))
theorem f_43_4 : fetch 43 4 = some (4, .iload_n 1, 1, [1], 0) := (fm_43 4).trans rfl
theorem u_43_4 {S : Scr} {d : Nat} {a0 a2 a3 a4 : AV} {st : List AV} {sh : Shp} {I : IM} {R : RM} {x : Int} : ev S d 43 4 [a0, .inl x, a2, a3, a4] st (sh, I, R) = ev S d 43 5 [a0, .inl x, a2, a3, a4] (.inl x :: st) (sh, I, R) := (ev_eq f_43_4).trans rfl
theorem f_43_5 : fetch 43 5 = some (5, .invokevirtual 33, 3, [68, 1, 41], 0) := (fm_43 5).trans rfl
theorem u_43_5 {S : Scr} {d : Nat} {a0 a1 a2 a3 a4 : AV} {st : List AV} {sh : Shp} {I : IM} {R : RM} {x0 : Int} {k : Nat} (h : tg sh k = 7) (hr : st.length ≤ 8) : ev S d 43 5 [a0, a1, a2, a3, a4] (.inl x0 :: .inr (.inl k) :: st) (sh, I, R) = bnd (cl d 68 [.inr (.inl k), .inl x0] (sh, I, R)) (fun v M => ev S d 43 8 [a0, a1, a2, a3, a4] (psh v st) M) := (ev_eq f_43_5).trans (congrArg (fin S d 43) (if_pos ⟨h, rfl, hr⟩))
theorem f_43_8 : fetch 43 8 = some (8, .astore_n 3, 1, [3], 0) := (fm_43 8).trans rfl
theorem u_43_8 {S : Scr} {d : Nat} {a0 a1 a2 a3 a4 : AV} {st : List AV} {sh : Shp} {I : IM} {R : RM} {x : Nat} : ev S d 43 8 [a0, a1, a2, a3, a4] (.inr (.inl x) :: st) (sh, I, R) = ev S d 43 9 [a0, a1, a2, .inr (.inl x), a4] st (sh, I, R) := (ev_eq f_43_8).trans rfl
theorem u_43_8n {S : Scr} {d : Nat} {a0 a1 a2 a3 a4 : AV} {st : List AV} {sh : Shp} {I : IM} {R : RM} : ev S d 43 8 [a0, a1, a2, a3, a4] (.inr (.inr 0) :: st) (sh, I, R) = ev S d 43 9 [a0, a1, a2, .inr (.inr 0), a4] st (sh, I, R) := (ev_eq f_43_8).trans rfl
theorem f_43_9 : fetch 43 9 = some (9, .aload_n 0, 1, [0], 0) := (fm_43 9).trans rfl
theorem u_43_9 {S : Scr} {d : Nat} {a1 a2 a3 a4 : AV} {st : List AV} {sh : Shp} {I : IM} {R : RM} {x : Nat} : ev S d 43 9 [.inr (.inl x), a1, a2, a3, a4] st (sh, I, R) = ev S d 43 10 [.inr (.inl x), a1, a2, a3, a4] (.inr (.inl x) :: st) (sh, I, R) := (ev_eq f_43_9).trans rfl
theorem f_43_10 : fetch 43 10 = some (10, .getfield 21, 3, [4, 0, 1, 27], 0) := (fm_43 10).trans rfl
theorem u_43_10 {S : Scr} {d : Nat} {a0 a1 a2 a3 a4 : AV} {st : List AV} {sh : Shp} {I : IM} {R : RM} {k : Nat} (h : tg sh k = 4) : ev S d 43 10 [a0, a1, a2, a3, a4] (.inr (.inl k) :: st) (sh, I, R) = ev S d 43 13 [a0, a1, a2, a3, a4] (rv (R k 0) :: st) (sh, I, R) := (ev_eq f_43_10).trans (congrArg (fin S d 43) (if_pos h))
theorem f_43_13 : fetch 43 13 = some (13, .iload_n 2, 1, [2], 0) := (fm_43 13).trans rfl
theorem u_43_13 {S : Scr} {d : Nat} {a0 a1 a3 a4 : AV} {st : List AV} {sh : Shp} {I : IM} {R : RM} {x : Int} : ev S d 43 13 [a0, a1, .inl x, a3, a4] st (sh, I, R) = ev S d 43 14 [a0, a1, .inl x, a3, a4] (.inl x :: st) (sh, I, R) := (ev_eq f_43_13).trans rfl
theorem f_43_14 : fetch 43 14 = some (14, .invokevirtual 33, 3, [68, 1, 41], 0) := (fm_43 14).trans rfl
theorem u_43_14 {S : Scr} {d : Nat} {a0 a1 a2 a3 a4 : AV} {st : List AV} {sh : Shp} {I : IM} {R : RM} {x0 : Int} {k : Nat} (h : tg sh k = 7) (hr : st.length ≤ 8) : ev S d 43 14 [a0, a1, a2, a3, a4] (.inl x0 :: .inr (.inl k) :: st) (sh, I, R) = bnd (cl d 68 [.inr (.inl k), .inl x0] (sh, I, R)) (fun v M => ev S d 43 17 [a0, a1, a2, a3, a4] (psh v st) M) := (ev_eq f_43_14).trans (congrArg (fin S d 43) (if_pos ⟨h, rfl, hr⟩))
theorem f_43_17 : fetch 43 17 = some (17, .astore 4, 2, [4], 0) := (fm_43 17).trans rfl
theorem u_43_17 {S : Scr} {d : Nat} {a0 a1 a2 a3 a4 : AV} {st : List AV} {sh : Shp} {I : IM} {R : RM} {x : Nat} : ev S d 43 17 [a0, a1, a2, a3, a4] (.inr (.inl x) :: st) (sh, I, R) = ev S d 43 19 [a0, a1, a2, a3, .inr (.inl x)] st (sh, I, R) := (ev_eq f_43_17).trans rfl
theorem u_43_17n {S : Scr} {d : Nat} {a0 a1 a2 a3 a4 : AV} {st : List AV} {sh : Shp} {I : IM} {R : RM} : ev S d 43 17 [a0, a1, a2, a3, a4] (.inr (.inr 0) :: st) (sh, I, R) = ev S d 43 19 [a0, a1, a2, a3, .inr (.inr 0)] st (sh, I, R) := (ev_eq f_43_17).trans rfl
theorem f_43_19 : fetch 43 19 = some (19, .aload_n 3, 1, [3], 0) := (fm_43 19).trans rfl
theorem u_43_19 {S : Scr} {d : Nat} {a0 a1 a2 a4 : AV} {st : List AV} {sh : Shp} {I : IM} {R : RM} {x : Nat} : ev S d 43 19 [a0, a1, a2, .inr (.inl x), a4] st (sh, I, R) = ev S d 43 20 [a0, a1, a2, .inr (.inl x), a4] (.inr (.inl x) :: st) (sh, I, R) := (ev_eq f_43_19).trans rfl
theorem u_43_19n {S : Scr} {d : Nat} {a0 a1 a2 a4 : AV} {st : List AV} {sh : Shp} {I : IM} {R : RM} : ev S d 43 19 [a0, a1, a2, .inr (.inr 0), a4] st (sh, I, R) = ev S d 43 20 [a0, a1, a2, .inr (.inr 0), a4] (.inr (.inr 0) :: st) (sh, I, R) := (ev_eq f_43_19).trans rfl
theorem f_43_20 : fetch 43 20 = some (20, .ifnull 8, 3, [28], 0) := (fm_43 20).trans rfl
theorem u_43_20 {S : Scr} {d : Nat} {a0 a1 a2 a3 a4 : AV} {st : List AV} {sh : Shp} {I : IM} {R : RM} {x : Nat} : ev S d 43 20 [a0, a1, a2, a3, a4] (.inr (.inl x) :: st) (sh, I, R) = ev S d 43 23 [a0, a1, a2, a3, a4] st (sh, I, R) := (ev_eq f_43_20).trans rfl
theorem u_43_20n {S : Scr} {d : Nat} {a0 a1 a2 a3 a4 : AV} {st : List AV} {sh : Shp} {I : IM} {R : RM} : ev S d 43 20 [a0, a1, a2, a3, a4] (.inr (.inr 0) :: st) (sh, I, R) = ev S d 43 28 [a0, a1, a2, a3, a4] st (sh, I, R) := (ev_eq f_43_20).trans rfl
theorem f_43_23 : fetch 43 23 = some (23, .aload 4, 2, [4], 0) := (fm_43 23).trans rfl
theorem u_43_23 {S : Scr} {d : Nat} {a0 a1 a2 a3 : AV} {st : List AV} {sh : Shp} {I : IM} {R : RM} {x : Nat} : ev S d 43 23 [a0, a1, a2, a3, .inr (.inl x)] st (sh, I, R) = ev S d 43 25 [a0, a1, a2, a3, .inr (.inl x)] (.inr (.inl x) :: st) (sh, I, R) := (ev_eq f_43_23).trans rfl
theorem u_43_23n {S : Scr} {d : Nat} {a0 a1 a2 a3 : AV} {st : List AV} {sh : Shp} {I : IM} {R : RM} : ev S d 43 23 [a0, a1, a2, a3, .inr (.inr 0)] st (sh, I, R) = ev S d 43 25 [a0, a1, a2, a3, .inr (.inr 0)] (.inr (.inr 0) :: st) (sh, I, R) := (ev_eq f_43_23).trans rfl
theorem f_43_25 : fetch 43 25 = some (25, .ifnonnull 18, 3, [43], 0) := (fm_43 25).trans rfl
theorem u_43_25 {S : Scr} {d : Nat} {a0 a1 a2 a3 a4 : AV} {st : List AV} {sh : Shp} {I : IM} {R : RM} {x : Nat} : ev S d 43 25 [a0, a1, a2, a3, a4] (.inr (.inl x) :: st) (sh, I, R) = ev S d 43 43 [a0, a1, a2, a3, a4] st (sh, I, R) := (ev_eq f_43_25).trans rfl
theorem u_43_25n {S : Scr} {d : Nat} {a0 a1 a2 a3 a4 : AV} {st : List AV} {sh : Shp} {I : IM} {R : RM} : ev S d 43 25 [a0, a1, a2, a3, a4] (.inr (.inr 0) :: st) (sh, I, R) = ev S d 43 28 [a0, a1, a2, a3, a4] st (sh, I, R) := (ev_eq f_43_25).trans rfl
theorem f_43_28 : fetch 43 28 = some (28, .aload_n 3, 1, [3], 0) := (fm_43 28).trans rfl
theorem u_43_28 {S : Scr} {d : Nat} {a0 a1 a2 a4 : AV} {st : List AV} {sh : Shp} {I : IM} {R : RM} {x : Nat} : ev S d 43 28 [a0, a1, a2, .inr (.inl x), a4] st (sh, I, R) = ev S d 43 29 [a0, a1, a2, .inr (.inl x), a4] (.inr (.inl x) :: st) (sh, I, R) := (ev_eq f_43_28).trans rfl
theorem u_43_28n {S : Scr} {d : Nat} {a0 a1 a2 a4 : AV} {st : List AV} {sh : Shp} {I : IM} {R : RM} : ev S d 43 28 [a0, a1, a2, .inr (.inr 0), a4] st (sh, I, R) = ev S d 43 29 [a0, a1, a2, .inr (.inr 0), a4] (.inr (.inr 0) :: st) (sh, I, R) := (ev_eq f_43_28).trans rfl
theorem f_43_29 : fetch 43 29 = some (29, .ifnonnull 12, 3, [41], 0) := (fm_43 29).trans rfl
theorem u_43_29 {S : Scr} {d : Nat} {a0 a1 a2 a3 a4 : AV} {st : List AV} {sh : Shp} {I : IM} {R : RM} {x : Nat} : ev S d 43 29 [a0, a1, a2, a3, a4] (.inr (.inl x) :: st) (sh, I, R) = ev S d 43 41 [a0, a1, a2, a3, a4] st (sh, I, R) := (ev_eq f_43_29).trans rfl
theorem u_43_29n {S : Scr} {d : Nat} {a0 a1 a2 a3 a4 : AV} {st : List AV} {sh : Shp} {I : IM} {R : RM} : ev S d 43 29 [a0, a1, a2, a3, a4] (.inr (.inr 0) :: st) (sh, I, R) = ev S d 43 32 [a0, a1, a2, a3, a4] st (sh, I, R) := (ev_eq f_43_29).trans rfl
theorem f_43_32 : fetch 43 32 = some (32, .aload 4, 2, [4], 0) := (fm_43 32).trans rfl
theorem u_43_32 {S : Scr} {d : Nat} {a0 a1 a2 a3 : AV} {st : List AV} {sh : Shp} {I : IM} {R : RM} {x : Nat} : ev S d 43 32 [a0, a1, a2, a3, .inr (.inl x)] st (sh, I, R) = ev S d 43 34 [a0, a1, a2, a3, .inr (.inl x)] (.inr (.inl x) :: st) (sh, I, R) := (ev_eq f_43_32).trans rfl
theorem u_43_32n {S : Scr} {d : Nat} {a0 a1 a2 a3 : AV} {st : List AV} {sh : Shp} {I : IM} {R : RM} : ev S d 43 32 [a0, a1, a2, a3, .inr (.inr 0)] st (sh, I, R) = ev S d 43 34 [a0, a1, a2, a3, .inr (.inr 0)] (.inr (.inr 0) :: st) (sh, I, R) := (ev_eq f_43_32).trans rfl
theorem f_43_34 : fetch 43 34 = some (34, .ifnonnull 7, 3, [41], 0) := (fm_43 34).trans rfl
theorem u_43_34 {S : Scr} {d : Nat} {a0 a1 a2 a3 a4 : AV} {st : List AV} {sh : Shp} {I : IM} {R : RM} {x : Nat} : ev S d 43 34 [a0, a1, a2, a3, a4] (.inr (.inl x) :: st) (sh, I, R) = ev S d 43 41 [a0, a1, a2, a3, a4] st (sh, I, R) := (ev_eq f_43_34).trans rfl
theorem u_43_34n {S : Scr} {d : Nat} {a0 a1 a2 a3 a4 : AV} {st : List AV} {sh : Shp} {I : IM} {R : RM} : ev S d 43 34 [a0, a1, a2, a3, a4] (.inr (.inr 0) :: st) (sh, I, R) = ev S d 43 37 [a0, a1, a2, a3, a4] st (sh, I, R) := (ev_eq f_43_34).trans rfl
theorem f_43_37 : fetch 43 37 = some (37, .iconst 1, 1, [], 1) := (fm_43 37).trans rfl
theorem u_43_37 {S : Scr} {d : Nat} {a0 a1 a2 a3 a4 : AV} {st : List AV} {sh : Shp} {I : IM} {R : RM} : ev S d 43 37 [a0, a1, a2, a3, a4] st (sh, I, R) = ev S d 43 38 [a0, a1, a2, a3, a4] (.inl 1 :: st) (sh, I, R) := (ev_eq f_43_37).trans rfl
theorem f_43_38 : fetch 43 38 = some (38, .goto 4, 3, [42], 0) := (fm_43 38).trans rfl
theorem u_43_38 {S : Scr} {d : Nat} {a0 a1 a2 a3 a4 : AV} {st : List AV} {sh : Shp} {I : IM} {R : RM} : ev S d 43 38 [a0, a1, a2, a3, a4] st (sh, I, R) = ev S d 43 42 [a0, a1, a2, a3, a4] st (sh, I, R) := (ev_eq f_43_38).trans rfl
theorem f_43_41 : fetch 43 41 = some (41, .iconst 0, 1, [], 0) := (fm_43 41).trans rfl
theorem u_43_41 {S : Scr} {d : Nat} {a0 a1 a2 a3 a4 : AV} {st : List AV} {sh : Shp} {I : IM} {R : RM} : ev S d 43 41 [a0, a1, a2, a3, a4] st (sh, I, R) = ev S d 43 42 [a0, a1, a2, a3, a4] (.inl 0 :: st) (sh, I, R) := (ev_eq f_43_41).trans rfl
theorem f_43_42 : fetch 43 42 = some (42, .ireturn, 1, [1], 0) := (fm_43 42).trans rfl
theorem u_43_42 {S : Scr} {d : Nat} {a0 a1 a2 a3 a4 : AV} {sh : Shp} {I : IM} {R : RM} {x : Int} (h : x = 0 ∨ x = 1) : ev S d 43 42 [a0, a1, a2, a3, a4] [.inl x] (sh, I, R) = some (some (.inl x), (sh, I, R)) := (ev_eq f_43_42).trans (fin_iret1 h)
theorem f_43_43 : fetch 43 43 = some (43, .aload_n 0, 1, [0], 0) := (fm_43 43).trans rfl
theorem u_43_43 {S : Scr} {d : Nat} {a1 a2 a3 a4 : AV} {st : List AV} {sh : Shp} {I : IM} {R : RM} {x : Nat} : ev S d 43 43 [.inr (.inl x), a1, a2, a3, a4] st (sh, I, R) = ev S d 43 44 [.inr (.inl x), a1, a2, a3, a4] (.inr (.inl x) :: st) (sh, I, R) := (ev_eq f_43_43).trans rfl
theorem f_43_44 : fetch 43 44 = some (44, .getfield 9, 3, [4, 1, 1, 24], 0) := (fm_43 44).trans rfl
theorem u_43_44 {S : Scr} {d : Nat} {a0 a1 a2 a3 a4 : AV} {st : List AV} {sh : Shp} {I : IM} {R : RM} {k : Nat} (h : tg sh k = 4) : ev S d 43 44 [a0, a1, a2, a3, a4] (.inr (.inl k) :: st) (sh, I, R) = ev S d 43 47 [a0, a1, a2, a3, a4] (rv (R k 1) :: st) (sh, I, R) := (ev_eq f_43_44).trans (congrArg (fin S d 43) (if_pos h))
theorem f_43_47 : fetch 43 47 = some (47, .iload_n 1, 1, [1], 0) := (fm_43 47).trans rfl
theorem u_43_47 {S : Scr} {d : Nat} {a0 a2 a3 a4 : AV} {st : List AV} {sh : Shp} {I : IM} {R : RM} {x : Int} : ev S d 43 47 [a0, .inl x, a2, a3, a4] st (sh, I, R) = ev S d 43 48 [a0, .inl x, a2, a3, a4] (.inl x :: st) (sh, I, R) := (ev_eq f_43_47).trans rfl
theorem f_43_48 : fetch 43 48 = some (48, .iaload, 1, [], 0) := (fm_43 48).trans rfl
theorem u_43_48 {S : Scr} {d : Nat} {a0 a1 a2 a3 a4 : AV} {st : List AV} {sh : Shp} {I : IM} {R : RM} {k : Nat} {i : Int} (h : tg sh k = 100) (h0 : 0 ≤ i) (h1 : i < ln sh k) : ev S d 43 48 [a0, a1, a2, a3, a4] (.inl i :: .inr (.inl k) :: st) (sh, I, R) = ev S d 43 49 [a0, a1, a2, a3, a4] (.inl (I k i) :: st) (sh, I, R) := (ev_eq f_43_48).trans (congrArg (fin S d 43) (if_pos ⟨h, h0, h1⟩))
theorem f_43_49 : fetch 43 49 = some (49, .iconst (-1), 1, [], (-1)) := (fm_43 49).trans rfl
theorem u_43_49 {S : Scr} {d : Nat} {a0 a1 a2 a3 a4 : AV} {st : List AV} {sh : Shp} {I : IM} {R : RM} : ev S d 43 49 [a0, a1, a2, a3, a4] st (sh, I, R) = ev S d 43 50 [a0, a1, a2, a3, a4] (.inl (-1) :: st) (sh, I, R) := (ev_eq f_43_49).trans rfl
theorem f_43_50 : fetch 43 50 = some (50, .if_icmp .ne 13, 3, [63], 0) := (fm_43 50).trans rfl
theorem u_43_50 {S : Scr} {d : Nat} {a0 a1 a2 a3 a4 : AV} {st : List AV} {sh : Shp} {I : IM} {R : RM} {x y : Int} : ev S d 43 50 [a0, a1, a2, a3, a4] (.inl y :: .inl x :: st) (sh, I, R) = if ¬ x = y then ev S d 43 63 [a0, a1, a2, a3, a4] st (sh, I, R) else ev S d 43 53 [a0, a1, a2, a3, a4] st (sh, I, R) := (ev_eq f_43_50).trans fin_icmp_ne
theorem f_43_53 : fetch 43 53 = some (53, .aload_n 0, 1, [0], 0) := (fm_43 53).trans rfl
theorem u_43_53 {S : Scr} {d : Nat} {a1 a2 a3 a4 : AV} {st : List AV} {sh : Shp} {I : IM} {R : RM} {x : Nat} : ev S d 43 53 [.inr (.inl x), a1, a2, a3, a4] st (sh, I, R) = ev S d 43 54 [.inr (.inl x), a1, a2, a3, a4] (.inr (.inl x) :: st) (sh, I, R) := (ev_eq f_43_53).trans rfl
theorem f_43_54 : fetch 43 54 = some (54, .getfield 15, 3, [4, 2, 1, 25], 0) := (fm_43 54).trans rfl
theorem u_43_54 {S : Scr} {d : Nat} {a0 a1 a2 a3 a4 : AV} {st : List AV} {sh : Shp} {I : IM} {R : RM} {k : Nat} (h : tg sh k = 4) : ev S d 43 54 [a0, a1, a2, a3, a4] (.inr (.inl k) :: st) (sh, I, R) = ev S d 43 57 [a0, a1, a2, a3, a4] (rv (R k 2) :: st) (sh, I, R) := (ev_eq f_43_54).trans (congrArg (fin S d 43) (if_pos h))
theorem f_43_57 : fetch 43 57 = some (57, .iload_n 2, 1, [2], 0) := (fm_43 57).trans rfl
theorem u_43_57 {S : Scr} {d : Nat} {a0 a1 a3 a4 : AV} {st : List AV} {sh : Shp} {I : IM} {R : RM} {x : Int} : ev S d 43 57 [a0, a1, .inl x, a3, a4] st (sh, I, R) = ev S d 43 58 [a0, a1, .inl x, a3, a4] (.inl x :: st) (sh, I, R) := (ev_eq f_43_57).trans rfl
theorem f_43_58 : fetch 43 58 = some (58, .iaload, 1, [], 0) := (fm_43 58).trans rfl
theorem u_43_58 {S : Scr} {d : Nat} {a0 a1 a2 a3 a4 : AV} {st : List AV} {sh : Shp} {I : IM} {R : RM} {k : Nat} {i : Int} (h : tg sh k = 100) (h0 : 0 ≤ i) (h1 : i < ln sh k) : ev S d 43 58 [a0, a1, a2, a3, a4] (.inl i :: .inr (.inl k) :: st) (sh, I, R) = ev S d 43 59 [a0, a1, a2, a3, a4] (.inl (I k i) :: st) (sh, I, R) := (ev_eq f_43_58).trans (congrArg (fin S d 43) (if_pos ⟨h, h0, h1⟩))
theorem f_43_59 : fetch 43 59 = some (59, .iconst (-1), 1, [], (-1)) := (fm_43 59).trans rfl
theorem u_43_59 {S : Scr} {d : Nat} {a0 a1 a2 a3 a4 : AV} {st : List AV} {sh : Shp} {I : IM} {R : RM} : ev S d 43 59 [a0, a1, a2, a3, a4] st (sh, I, R) = ev S d 43 60 [a0, a1, a2, a3, a4] (.inl (-1) :: st) (sh, I, R) := (ev_eq f_43_59).trans rfl
theorem f_43_60 : fetch 43 60 = some (60, .if_icmp .eq 19, 3, [79], 0) := (fm_43 60).trans rfl
theorem u_43_60 {S : Scr} {d : Nat} {a0 a1 a2 a3 a4 : AV} {st : List AV} {sh : Shp} {I : IM} {R : RM} {x y : Int} : ev S d 43 60 [a0, a1, a2, a3, a4] (.inl y :: .inl x :: st) (sh, I, R) = if x = y then ev S d 43 79 [a0, a1, a2, a3, a4] st (sh, I, R) else ev S d 43 63 [a0, a1, a2, a3, a4] st (sh, I, R) := (ev_eq f_43_60).trans fin_icmp_eq
theorem f_43_63 : fetch 43 63 = some (63, .aload_n 0, 1, [0], 0) := (fm_43 63).trans rfl
theorem u_43_63 {S : Scr} {d : Nat} {a1 a2 a3 a4 : AV} {st : List AV} {sh : Shp} {I : IM} {R : RM} {x : Nat} : ev S d 43 63 [.inr (.inl x), a1, a2, a3, a4] st (sh, I, R) = ev S d 43 64 [.inr (.inl x), a1, a2, a3, a4] (.inr (.inl x) :: st) (sh, I, R) := (ev_eq f_43_63).trans rfl
theorem f_43_64 : fetch 43 64 = some (64, .getfield 9, 3, [4, 1, 1, 24], 0) := (fm_43 64).trans rfl
theorem u_43_64 {S : Scr} {d : Nat} {a0 a1 a2 a3 a4 : AV} {st : List AV} {sh : Shp} {I : IM} {R : RM} {k : Nat} (h : tg sh k = 4) : ev S d 43 64 [a0, a1, a2, a3, a4] (.inr (.inl k) :: st) (sh, I, R) = ev S d 43 67 [a0, a1, a2, a3, a4] (rv (R k 1) :: st) (sh, I, R) := (ev_eq f_43_64).trans (congrArg (fin S d 43) (if_pos h))
theorem f_43_67 : fetch 43 67 = some (67, .iload_n 1, 1, [1], 0) := (fm_43 67).trans rfl
theorem u_43_67 {S : Scr} {d : Nat} {a0 a2 a3 a4 : AV} {st : List AV} {sh : Shp} {I : IM} {R : RM} {x : Int} : ev S d 43 67 [a0, .inl x, a2, a3, a4] st (sh, I, R) = ev S d 43 68 [a0, .inl x, a2, a3, a4] (.inl x :: st) (sh, I, R) := (ev_eq f_43_67).trans rfl
theorem f_43_68 : fetch 43 68 = some (68, .iaload, 1, [], 0) := (fm_43 68).trans rfl
theorem u_43_68 {S : Scr} {d : Nat} {a0 a1 a2 a3 a4 : AV} {st : List AV} {sh : Shp} {I : IM} {R : RM} {k : Nat} {i : Int} (h : tg sh k = 100) (h0 : 0 ≤ i) (h1 : i < ln sh k) : ev S d 43 68 [a0, a1, a2, a3, a4] (.inl i :: .inr (.inl k) :: st) (sh, I, R) = ev S d 43 69 [a0, a1, a2, a3, a4] (.inl (I k i) :: st) (sh, I, R) := (ev_eq f_43_68).trans (congrArg (fin S d 43) (if_pos ⟨h, h0, h1⟩))
theorem f_43_69 : fetch 43 69 = some (69, .iload_n 2, 1, [2], 0) := (fm_43 69).trans rfl
theorem u_43_69 {S : Scr} {d : Nat} {a0 a1 a3 a4 : AV} {st : List AV} {sh : Shp} {I : IM} {R : RM} {x : Int} : ev S d 43 69 [a0, a1, .inl x, a3, a4] st (sh, I, R) = ev S d 43 70 [a0, a1, .inl x, a3, a4] (.inl x :: st) (sh, I, R) := (ev_eq f_43_69).trans rfl
theorem f_43_70 : fetch 43 70 = some (70, .if_icmp .ne 7, 3, [77], 0) := (fm_43 70).trans rfl
theorem u_43_70 {S : Scr} {d : Nat} {a0 a1 a2 a3 a4 : AV} {st : List AV} {sh : Shp} {I : IM} {R : RM} {x y : Int} : ev S d 43 70 [a0, a1, a2, a3, a4] (.inl y :: .inl x :: st) (sh, I, R) = if ¬ x = y then ev S d 43 77 [a0, a1, a2, a3, a4] st (sh, I, R) else ev S d 43 73 [a0, a1, a2, a3, a4] st (sh, I, R) := (ev_eq f_43_70).trans fin_icmp_ne
theorem f_43_73 : fetch 43 73 = some (73, .iconst 1, 1, [], 1) := (fm_43 73).trans rfl
theorem u_43_73 {S : Scr} {d : Nat} {a0 a1 a2 a3 a4 : AV} {st : List AV} {sh : Shp} {I : IM} {R : RM} : ev S d 43 73 [a0, a1, a2, a3, a4] st (sh, I, R) = ev S d 43 74 [a0, a1, a2, a3, a4] (.inl 1 :: st) (sh, I, R) := (ev_eq f_43_73).trans rfl
theorem f_43_74 : fetch 43 74 = some (74, .goto 4, 3, [78], 0) := (fm_43 74).trans rfl
theorem u_43_74 {S : Scr} {d : Nat} {a0 a1 a2 a3 a4 : AV} {st : List AV} {sh : Shp} {I : IM} {R : RM} : ev S d 43 74 [a0, a1, a2, a3, a4] st (sh, I, R) = ev S d 43 78 [a0, a1, a2, a3, a4] st (sh, I, R) := (ev_eq f_43_74).trans rfl
theorem f_43_77 : fetch 43 77 = some (77, .iconst 0, 1, [], 0) := (fm_43 77).trans rfl
theorem u_43_77 {S : Scr} {d : Nat} {a0 a1 a2 a3 a4 : AV} {st : List AV} {sh : Shp} {I : IM} {R : RM} : ev S d 43 77 [a0, a1, a2, a3, a4] st (sh, I, R) = ev S d 43 78 [a0, a1, a2, a3, a4] (.inl 0 :: st) (sh, I, R) := (ev_eq f_43_77).trans rfl
theorem f_43_78 : fetch 43 78 = some (78, .ireturn, 1, [1], 0) := (fm_43 78).trans rfl
theorem u_43_78 {S : Scr} {d : Nat} {a0 a1 a2 a3 a4 : AV} {sh : Shp} {I : IM} {R : RM} {x : Int} (h : x = 0 ∨ x = 1) : ev S d 43 78 [a0, a1, a2, a3, a4] [.inl x] (sh, I, R) = some (some (.inl x), (sh, I, R)) := (ev_eq f_43_78).trans (fin_iret1 h)
theorem f_43_79 : fetch 43 79 = some (79, .aload_n 3, 1, [3], 0) := (fm_43 79).trans rfl
theorem u_43_79 {S : Scr} {d : Nat} {a0 a1 a2 a4 : AV} {st : List AV} {sh : Shp} {I : IM} {R : RM} {x : Nat} : ev S d 43 79 [a0, a1, a2, .inr (.inl x), a4] st (sh, I, R) = ev S d 43 80 [a0, a1, a2, .inr (.inl x), a4] (.inr (.inl x) :: st) (sh, I, R) := (ev_eq f_43_79).trans rfl
theorem u_43_79n {S : Scr} {d : Nat} {a0 a1 a2 a4 : AV} {st : List AV} {sh : Shp} {I : IM} {R : RM} : ev S d 43 79 [a0, a1, a2, .inr (.inr 0), a4] st (sh, I, R) = ev S d 43 80 [a0, a1, a2, .inr (.inr 0), a4] (.inr (.inr 0) :: st) (sh, I, R) := (ev_eq f_43_79).trans rfl
theorem f_43_80 : fetch 43 80 = some (80, .aload 4, 2, [4], 0) := (fm_43 80).trans rfl
theorem u_43_80 {S : Scr} {d : Nat} {a0 a1 a2 a3 : AV} {st : List AV} {sh : Shp} {I : IM} {R : RM} {x : Nat} : ev S d 43 80 [a0, a1, a2, a3, .inr (.inl x)] st (sh, I, R) = ev S d 43 82 [a0, a1, a2, a3, .inr (.inl x)] (.inr (.inl x) :: st) (sh, I, R) := (ev_eq f_43_80).trans rfl
theorem u_43_80n {S : Scr} {d : Nat} {a0 a1 a2 a3 : AV} {st : List AV} {sh : Shp} {I : IM} {R : RM} : ev S d 43 80 [a0, a1, a2, a3, .inr (.inr 0)] st (sh, I, R) = ev S d 43 82 [a0, a1, a2, a3, .inr (.inr 0)] (.inr (.inr 0) :: st) (sh, I, R) := (ev_eq f_43_80).trans rfl
theorem f_43_82 : fetch 43 82 = some (82, .invokevirtual 51, 3, [38, 1, 43], 0) := (fm_43 82).trans rfl
theorem u_43_82 {S : Scr} {d : Nat} {a0 a1 a2 a3 a4 : AV} {st : List AV} {sh : Shp} {I : IM} {R : RM} {x0 : Nat} {k : Nat} (h : tg sh k = 3) (hr : st.length ≤ 8) : ev S d 43 82 [a0, a1, a2, a3, a4] (.inr (.inl x0) :: .inr (.inl k) :: st) (sh, I, R) = bnd (cl d 38 [.inr (.inl k), .inr (.inl x0)] (sh, I, R)) (fun v M => ev S d 43 85 [a0, a1, a2, a3, a4] (psh v st) M) := (ev_eq f_43_82).trans (congrArg (fin S d 43) (if_pos ⟨h, rfl, hr⟩))
theorem u_43_82n {S : Scr} {d : Nat} {a0 a1 a2 a3 a4 : AV} {st : List AV} {sh : Shp} {I : IM} {R : RM} {k : Nat} (h : tg sh k = 3) (hr : st.length ≤ 8) : ev S d 43 82 [a0, a1, a2, a3, a4] (.inr (.inr 0) :: .inr (.inl k) :: st) (sh, I, R) = bnd (cl d 38 [.inr (.inl k), .inr (.inr 0)] (sh, I, R)) (fun v M => ev S d 43 85 [a0, a1, a2, a3, a4] (psh v st) M) := (ev_eq f_43_82).trans (congrArg (fin S d 43) (if_pos ⟨h, rfl, hr⟩))
theorem f_43_85 : fetch 43 85 = some (85, .ifCond .eq 12, 3, [97], 0) := (fm_43 85).trans rfl
theorem u_43_85 {S : Scr} {d : Nat} {a0 a1 a2 a3 a4 : AV} {st : List AV} {sh : Shp} {I : IM} {R : RM} {x : Int} : ev S d 43 85 [a0, a1, a2, a3, a4] (.inl x :: st) (sh, I, R) = if x = 0 then ev S d 43 97 [a0, a1, a2, a3, a4] st (sh, I, R) else ev S d 43 88 [a0, a1, a2, a3, a4] st (sh, I, R) := (ev_eq f_43_85).trans fin_if_eq
theorem f_43_88 : fetch 43 88 = some (88, .aload_n 0, 1, [0], 0) := (fm_43 88).trans rfl
theorem u_43_88 {S : Scr} {d : Nat} {a1 a2 a3 a4 : AV} {st : List AV} {sh : Shp} {I : IM} {R : RM} {x : Nat} : ev S d 43 88 [.inr (.inl x), a1, a2, a3, a4] st (sh, I, R) = ev S d 43 89 [.inr (.inl x), a1, a2, a3, a4] (.inr (.inl x) :: st) (sh, I, R) := (ev_eq f_43_88).trans rfl
theorem f_43_89 : fetch 43 89 = some (89, .getfield 25, 3, [4, 4, 0, 28], 0) := (fm_43 89).trans rfl
theorem u_43_89 {S : Scr} {d : Nat} {a0 a1 a2 a3 a4 : AV} {st : List AV} {sh : Shp} {I : IM} {R : RM} {k : Nat} (h : tg sh k = 4) : ev S d 43 89 [a0, a1, a2, a3, a4] (.inr (.inl k) :: st) (sh, I, R) = ev S d 43 92 [a0, a1, a2, a3, a4] (.inl (I k 4) :: st) (sh, I, R) := (ev_eq f_43_89).trans (congrArg (fin S d 43) (if_pos h))
theorem f_43_92 : fetch 43 92 = some (92, .bipush 30, 2, [], 30) := (fm_43 92).trans rfl
theorem u_43_92 {S : Scr} {d : Nat} {a0 a1 a2 a3 a4 : AV} {st : List AV} {sh : Shp} {I : IM} {R : RM} : ev S d 43 92 [a0, a1, a2, a3, a4] st (sh, I, R) = ev S d 43 94 [a0, a1, a2, a3, a4] (.inl 30 :: st) (sh, I, R) := (ev_eq f_43_92).trans rfl
theorem f_43_94 : fetch 43 94 = some (94, .if_icmp .lt 5, 3, [99], 0) := (fm_43 94).trans rfl
theorem u_43_94 {S : Scr} {d : Nat} {a0 a1 a2 a3 a4 : AV} {st : List AV} {sh : Shp} {I : IM} {R : RM} {x y : Int} : ev S d 43 94 [a0, a1, a2, a3, a4] (.inl y :: .inl x :: st) (sh, I, R) = if x < y then ev S d 43 99 [a0, a1, a2, a3, a4] st (sh, I, R) else ev S d 43 97 [a0, a1, a2, a3, a4] st (sh, I, R) := (ev_eq f_43_94).trans fin_icmp_lt
theorem f_43_97 : fetch 43 97 = some (97, .iconst 0, 1, [], 0) := (fm_43 97).trans rfl
theorem u_43_97 {S : Scr} {d : Nat} {a0 a1 a2 a3 a4 : AV} {st : List AV} {sh : Shp} {I : IM} {R : RM} : ev S d 43 97 [a0, a1, a2, a3, a4] st (sh, I, R) = ev S d 43 98 [a0, a1, a2, a3, a4] (.inl 0 :: st) (sh, I, R) := (ev_eq f_43_97).trans rfl
theorem f_43_98 : fetch 43 98 = some (98, .ireturn, 1, [1], 0) := (fm_43 98).trans rfl
theorem u_43_98 {S : Scr} {d : Nat} {a0 a1 a2 a3 a4 : AV} {sh : Shp} {I : IM} {R : RM} {x : Int} (h : x = 0 ∨ x = 1) : ev S d 43 98 [a0, a1, a2, a3, a4] [.inl x] (sh, I, R) = some (some (.inl x), (sh, I, R)) := (ev_eq f_43_98).trans (fin_iret1 h)
theorem f_43_99 : fetch 43 99 = some (99, .aload_n 0, 1, [0], 0) := (fm_43 99).trans rfl
theorem u_43_99 {S : Scr} {d : Nat} {a1 a2 a3 a4 : AV} {st : List AV} {sh : Shp} {I : IM} {R : RM} {x : Nat} : ev S d 43 99 [.inr (.inl x), a1, a2, a3, a4] st (sh, I, R) = ev S d 43 100 [.inr (.inl x), a1, a2, a3, a4] (.inr (.inl x) :: st) (sh, I, R) := (ev_eq f_43_99).trans rfl
theorem f_43_100 : fetch 43 100 = some (100, .getfield 9, 3, [4, 1, 1, 24], 0) := (fm_43 100).trans rfl
theorem u_43_100 {S : Scr} {d : Nat} {a0 a1 a2 a3 a4 : AV} {st : List AV} {sh : Shp} {I : IM} {R : RM} {k : Nat} (h : tg sh k = 4) : ev S d 43 100 [a0, a1, a2, a3, a4] (.inr (.inl k) :: st) (sh, I, R) = ev S d 43 103 [a0, a1, a2, a3, a4] (rv (R k 1) :: st) (sh, I, R) := (ev_eq f_43_100).trans (congrArg (fin S d 43) (if_pos h))
theorem f_43_103 : fetch 43 103 = some (103, .iload_n 1, 1, [1], 0) := (fm_43 103).trans rfl
theorem u_43_103 {S : Scr} {d : Nat} {a0 a2 a3 a4 : AV} {st : List AV} {sh : Shp} {I : IM} {R : RM} {x : Int} : ev S d 43 103 [a0, .inl x, a2, a3, a4] st (sh, I, R) = ev S d 43 104 [a0, .inl x, a2, a3, a4] (.inl x :: st) (sh, I, R) := (ev_eq f_43_103).trans rfl
theorem f_43_104 : fetch 43 104 = some (104, .iload_n 2, 1, [2], 0) := (fm_43 104).trans rfl
theorem u_43_104 {S : Scr} {d : Nat} {a0 a1 a3 a4 : AV} {st : List AV} {sh : Shp} {I : IM} {R : RM} {x : Int} : ev S d 43 104 [a0, a1, .inl x, a3, a4] st (sh, I, R) = ev S d 43 105 [a0, a1, .inl x, a3, a4] (.inl x :: st) (sh, I, R) := (ev_eq f_43_104).trans rfl
theorem f_43_105 : fetch 43 105 = some (105, .iastore, 1, [], 0) := (fm_43 105).trans rfl
theorem u_43_105 {S : Scr} {d : Nat} {a0 a1 a2 a3 a4 : AV} {st : List AV} {sh : Shp} {I : IM} {R : RM} {k : Nat} {i x : Int} (h : tg sh k = 100) (h0 : 0 ≤ i) (h1 : i < ln sh k) : ev S d 43 105 [a0, a1, a2, a3, a4] (.inl x :: .inl i :: .inr (.inl k) :: st) (sh, I, R) = ev S d 43 106 [a0, a1, a2, a3, a4] st (sh, up I k i x, R) := (ev_eq f_43_105).trans (congrArg (fin S d 43) (if_pos ⟨h, h0, h1⟩))
theorem f_43_106 : fetch 43 106 = some (106, .aload_n 0, 1, [0], 0) := (fm_43 106).trans rfl
theorem u_43_106 {S : Scr} {d : Nat} {a1 a2 a3 a4 : AV} {st : List AV} {sh : Shp} {I : IM} {R : RM} {x : Nat} : ev S d 43 106 [.inr (.inl x), a1, a2, a3, a4] st (sh, I, R) = ev S d 43 107 [.inr (.inl x), a1, a2, a3, a4] (.inr (.inl x) :: st) (sh, I, R) := (ev_eq f_43_106).trans rfl
theorem f_43_107 : fetch 43 107 = some (107, .getfield 15, 3, [4, 2, 1, 25], 0) := (fm_43 107).trans rfl
theorem u_43_107 {S : Scr} {d : Nat} {a0 a1 a2 a3 a4 : AV} {st : List AV} {sh : Shp} {I : IM} {R : RM} {k : Nat} (h : tg sh k = 4) : ev S d 43 107 [a0, a1, a2, a3, a4] (.inr (.inl k) :: st) (sh, I, R) = ev S d 43 110 [a0, a1, a2, a3, a4] (rv (R k 2) :: st) (sh, I, R) := (ev_eq f_43_107).trans (congrArg (fin S d 43) (if_pos h))
theorem f_43_110 : fetch 43 110 = some (110, .iload_n 2, 1, [2], 0) := (fm_43 110).trans rfl
theorem u_43_110 {S : Scr} {d : Nat} {a0 a1 a3 a4 : AV} {st : List AV} {sh : Shp} {I : IM} {R : RM} {x : Int} : ev S d 43 110 [a0, a1, .inl x, a3, a4] st (sh, I, R) = ev S d 43 111 [a0, a1, .inl x, a3, a4] (.inl x :: st) (sh, I, R) := (ev_eq f_43_110).trans rfl
theorem f_43_111 : fetch 43 111 = some (111, .iload_n 1, 1, [1], 0) := (fm_43 111).trans rfl
theorem u_43_111 {S : Scr} {d : Nat} {a0 a2 a3 a4 : AV} {st : List AV} {sh : Shp} {I : IM} {R : RM} {x : Int} : ev S d 43 111 [a0, .inl x, a2, a3, a4] st (sh, I, R) = ev S d 43 112 [a0, .inl x, a2, a3, a4] (.inl x :: st) (sh, I, R) := (ev_eq f_43_111).trans rfl
theorem f_43_112 : fetch 43 112 = some (112, .iastore, 1, [], 0) := (fm_43 112).trans rfl
theorem u_43_112 {S : Scr} {d : Nat} {a0 a1 a2 a3 a4 : AV} {st : List AV} {sh : Shp} {I : IM} {R : RM} {k : Nat} {i x : Int} (h : tg sh k = 100) (h0 : 0 ≤ i) (h1 : i < ln sh k) : ev S d 43 112 [a0, a1, a2, a3, a4] (.inl x :: .inl i :: .inr (.inl k) :: st) (sh, I, R) = ev S d 43 113 [a0, a1, a2, a3, a4] st (sh, up I k i x, R) := (ev_eq f_43_112).trans (congrArg (fin S d 43) (if_pos ⟨h, h0, h1⟩))
theorem f_43_113 : fetch 43 113 = some (113, .aload_n 0, 1, [0], 0) := (fm_43 113).trans rfl
theorem u_43_113 {S : Scr} {d : Nat} {a1 a2 a3 a4 : AV} {st : List AV} {sh : Shp} {I : IM} {R : RM} {x : Nat} : ev S d 43 113 [.inr (.inl x), a1, a2, a3, a4] st (sh, I, R) = ev S d 43 114 [.inr (.inl x), a1, a2, a3, a4] (.inr (.inl x) :: st) (sh, I, R) := (ev_eq f_43_113).trans rfl
theorem f_43_114 : fetch 43 114 = some (114, .getfield 18, 3, [4, 3, 1, 26], 0) := (fm_43 114).trans rfl
theorem u_43_114 {S : Scr} {d : Nat} {a0 a1 a2 a3 a4 : AV} {st : List AV} {sh : Shp} {I : IM} {R : RM} {k : Nat} (h : tg sh k = 4) : ev S d 43 114 [a0, a1, a2, a3, a4] (.inr (.inl k) :: st) (sh, I, R) = ev S d 43 117 [a0, a1, a2, a3, a4] (rv (R k 3) :: st) (sh, I, R) := (ev_eq f_43_114).trans (congrArg (fin S d 43) (if_pos h))
theorem f_43_117 : fetch 43 117 = some (117, .aload_n 0, 1, [0], 0) := (fm_43 117).trans rfl
theorem u_43_117 {S : Scr} {d : Nat} {a1 a2 a3 a4 : AV} {st : List AV} {sh : Shp} {I : IM} {R : RM} {x : Nat} : ev S d 43 117 [.inr (.inl x), a1, a2, a3, a4] st (sh, I, R) = ev S d 43 118 [.inr (.inl x), a1, a2, a3, a4] (.inr (.inl x) :: st) (sh, I, R) := (ev_eq f_43_117).trans rfl
theorem f_43_118 : fetch 43 118 = some (118, .getfield 25, 3, [4, 4, 0, 28], 0) := (fm_43 118).trans rfl
theorem u_43_118 {S : Scr} {d : Nat} {a0 a1 a2 a3 a4 : AV} {st : List AV} {sh : Shp} {I : IM} {R : RM} {k : Nat} (h : tg sh k = 4) : ev S d 43 118 [a0, a1, a2, a3, a4] (.inr (.inl k) :: st) (sh, I, R) = ev S d 43 121 [a0, a1, a2, a3, a4] (.inl (I k 4) :: st) (sh, I, R) := (ev_eq f_43_118).trans (congrArg (fin S d 43) (if_pos h))
theorem f_43_121 : fetch 43 121 = some (121, .iload_n 1, 1, [1], 0) := (fm_43 121).trans rfl
theorem u_43_121 {S : Scr} {d : Nat} {a0 a2 a3 a4 : AV} {st : List AV} {sh : Shp} {I : IM} {R : RM} {x : Int} : ev S d 43 121 [a0, .inl x, a2, a3, a4] st (sh, I, R) = ev S d 43 122 [a0, .inl x, a2, a3, a4] (.inl x :: st) (sh, I, R) := (ev_eq f_43_121).trans rfl
theorem f_43_122 : fetch 43 122 = some (122, .iastore, 1, [], 0) := (fm_43 122).trans rfl
theorem u_43_122 {S : Scr} {d : Nat} {a0 a1 a2 a3 a4 : AV} {st : List AV} {sh : Shp} {I : IM} {R : RM} {k : Nat} {i x : Int} (h : tg sh k = 100) (h0 : 0 ≤ i) (h1 : i < ln sh k) : ev S d 43 122 [a0, a1, a2, a3, a4] (.inl x :: .inl i :: .inr (.inl k) :: st) (sh, I, R) = ev S d 43 123 [a0, a1, a2, a3, a4] st (sh, up I k i x, R) := (ev_eq f_43_122).trans (congrArg (fin S d 43) (if_pos ⟨h, h0, h1⟩))
theorem f_43_123 : fetch 43 123 = some (123, .aload_n 0, 1, [0], 0) := (fm_43 123).trans rfl
theorem u_43_123 {S : Scr} {d : Nat} {a1 a2 a3 a4 : AV} {st : List AV} {sh : Shp} {I : IM} {R : RM} {x : Nat} : ev S d 43 123 [.inr (.inl x), a1, a2, a3, a4] st (sh, I, R) = ev S d 43 124 [.inr (.inl x), a1, a2, a3, a4] (.inr (.inl x) :: st) (sh, I, R) := (ev_eq f_43_123).trans rfl
theorem f_43_124 : fetch 43 124 = some (124, .dup, 1, [], 0) := (fm_43 124).trans rfl
theorem u_43_124 {S : Scr} {d : Nat} {a0 a1 a2 a3 a4 : AV} {st : List AV} {sh : Shp} {I : IM} {R : RM} {x : AV} : ev S d 43 124 [a0, a1, a2, a3, a4] (x :: st) (sh, I, R) = ev S d 43 125 [a0, a1, a2, a3, a4] (x :: x :: st) (sh, I, R) := (ev_eq f_43_124).trans rfl
theorem f_43_125 : fetch 43 125 = some (125, .getfield 25, 3, [4, 4, 0, 28], 0) := (fm_43 125).trans rfl
theorem u_43_125 {S : Scr} {d : Nat} {a0 a1 a2 a3 a4 : AV} {st : List AV} {sh : Shp} {I : IM} {R : RM} {k : Nat} (h : tg sh k = 4) : ev S d 43 125 [a0, a1, a2, a3, a4] (.inr (.inl k) :: st) (sh, I, R) = ev S d 43 128 [a0, a1, a2, a3, a4] (.inl (I k 4) :: st) (sh, I, R) := (ev_eq f_43_125).trans (congrArg (fin S d 43) (if_pos h))
theorem f_43_128 : fetch 43 128 = some (128, .iconst 1, 1, [], 1) := (fm_43 128).trans rfl
theorem u_43_128 {S : Scr} {d : Nat} {a0 a1 a2 a3 a4 : AV} {st : List AV} {sh : Shp} {I : IM} {R : RM} : ev S d 43 128 [a0, a1, a2, a3, a4] st (sh, I, R) = ev S d 43 129 [a0, a1, a2, a3, a4] (.inl 1 :: st) (sh, I, R) := (ev_eq f_43_128).trans rfl
theorem f_43_129 : fetch 43 129 = some (129, .iadd, 1, [], 0) := (fm_43 129).trans rfl
theorem u_43_129 {S : Scr} {d : Nat} {a0 a1 a2 a3 a4 : AV} {st : List AV} {sh : Shp} {I : IM} {R : RM} {x y : Int} : ev S d 43 129 [a0, a1, a2, a3, a4] (.inl y :: .inl x :: st) (sh, I, R) = ev S d 43 130 [a0, a1, a2, a3, a4] (.inl (wr (x + y)) :: st) (sh, I, R) := (ev_eq f_43_129).trans rfl
theorem f_43_130 : fetch 43 130 = some (130, .putfield 25, 3, [4, 4, 0, 28], 0) := (fm_43 130).trans rfl
theorem u_43_130 {S : Scr} {d : Nat} {a0 a1 a2 a3 a4 : AV} {st : List AV} {sh : Shp} {I : IM} {R : RM} {k : Nat} {x : Int} (h : tg sh k = 4) : ev S d 43 130 [a0, a1, a2, a3, a4] (.inl x :: .inr (.inl k) :: st) (sh, I, R) = ev S d 43 133 [a0, a1, a2, a3, a4] st (sh, up I k 4 x, R) := (ev_eq f_43_130).trans (congrArg (fin S d 43) (if_pos h))
theorem f_43_133 : fetch 43 133 = some (133, .iconst 1, 1, [], 1) := (fm_43 133).trans rfl
theorem u_43_133 {S : Scr} {d : Nat} {a0 a1 a2 a3 a4 : AV} {st : List AV} {sh : Shp} {I : IM} {R : RM} : ev S d 43 133 [a0, a1, a2, a3, a4] st (sh, I, R) = ev S d 43 134 [a0, a1, a2, a3, a4] (.inl 1 :: st) (sh, I, R) := (ev_eq f_43_133).trans rfl
theorem f_43_134 : fetch 43 134 = some (134, .ireturn, 1, [1], 0) := (fm_43 134).trans rfl
theorem u_43_134 {S : Scr} {d : Nat} {a0 a1 a2 a3 a4 : AV} {sh : Shp} {I : IM} {R : RM} {x : Int} (h : x = 0 ∨ x = 1) : ev S d 43 134 [a0, a1, a2, a3, a4] [.inl x] (sh, I, R) = some (some (.inl x), (sh, I, R)) := (ev_eq f_43_134).trans (fin_iret1 h)
