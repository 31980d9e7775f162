/-! one step each (by program): 44 GraphSaver$SignRow.<init>, 45 GraphSaver$SignRow.isNothing, 46 GraphSaver$SignRow.isTooLong, 47 GraphSaver$SignRow.hasPlace, 48 GraphSaver$SignRow.signAt, 49 GraphSaver$SignRow.becomeZeros, 50 GraphSaver$SignRow.add, 51 GraphSaver$SignRow.takeFrom, 52 GraphSaver$SignRow.firstOtherThan, 53 GraphSaver$Walk.<init>, 54 GraphSaver$Walk.begin, 55 GraphSaver$Walk.goOn, 56 GraphSaver$Walk.goThrough, 57 GraphSaver$Walk.hasMet, 58 GraphSaver$Walk.meet, 59 GraphSaver$Walk.tellHead, 60 GraphSaver$Walk.tellNumber, 61 GraphSaver$Walk.howManyShared, 62 GraphSaver$Walk.clearNumbers, 63 GraphSaver$Walk.countRefs, 64 GraphSaver$Walk.measureDepth, 65 GraphSaver$Walk.deepenAll, 66 GraphSaver$Walk.deepestRefOf, 67 GraphSaver$World.<init>, 68 GraphSaver$World.at, 69 GraphSaver$World.schemaOf, 70 GraphSaver$World.currentSchemaOf, 71 GraphSaver$World.freeNumber, 72 GraphSaver$World.isFull, 73 GraphSaver$World.make, 74 GraphSaver$World.makeSame, 75 GraphSaver$World.drop, 76 GraphSaver$World.addDefaults, 77 GraphSaver$World.keptOf, 78 GraphSaver$World.howManyOf, 79 GraphSaver$World.howMany, 80 GraphSaver$World.howManyFields, 81 GraphSaver$World.howManyRefs, 82 GraphSaver$World.howManyNames, 83 GraphSaver$World.takeFrom -/
theorem c_44 {d : Nat} {a0 : AV} {M : Mem} : cl (d + 1) 44 [a0] M = ev S0 d 44 0 [a0] [] M := (cl_eq (as := [a0]) (show 1 ≤ maxOf 44 by decide +kernel)).trans rfl
theorem mt_44 : MT[44]? = some m_44 := rfl
theorem fm_44 (pc : Nat) : fetch 44 pc = lk m_44.2.2.2.2.2 pc := by
  unfold fetch
  rw [mt_44]
theorem f_44_0 : fetch 44 0 = some (0, .aload_n 0, 1, [0], 0) := (fm_44 0).trans rfl
theorem u_44_0 {S : Scr} {d : Nat} {st : List AV} {sh : Shp} {I : IM} {R : RM} {x : Nat} : ev S d 44 0 [.inr (.inl x)] st (sh, I, R) = ev S d 44 1 [.inr (.inl x)] (.inr (.inl x) :: st) (sh, I, R) := (ev_eq f_44_0).trans rfl
theorem f_44_1 : fetch 44 1 = some (1, .invokespecial 3, 3, [5], 0) := (fm_44 1).trans rfl
theorem u_44_1 {S : Scr} {d : Nat} {a0 : AV} {st : List AV} {sh : Shp} {I : IM} {R : RM} {k : Nat} (hr : st.length ≤ 8) : ev S d 44 1 [a0] (.inr (.inl k) :: st) (sh, I, R) = ev S d 44 4 [a0] st (sh, I, R) := (ev_eq f_44_1).trans (congrArg (fin S d 44) (if_pos hr))
theorem f_44_4 : fetch 44 4 = some (4, .aload_n 0, 1, [0], 0) := (fm_44 4).trans rfl
theorem u_44_4 {S : Scr} {d : Nat} {st : List AV} {sh : Shp} {I : IM} {R : RM} {x : Nat} : ev S d 44 4 [.inr (.inl x)] st (sh, I, R) = ev S d 44 5 [.inr (.inl x)] (.inr (.inl x) :: st) (sh, I, R) := (ev_eq f_44_4).trans rfl
theorem f_44_5 : fetch 44 5 = some (5, .sipush 200, 3, [], 200) := (fm_44 5).trans rfl
theorem u_44_5 {S : Scr} {d : Nat} {a0 : AV} {st : List AV} {sh : Shp} {I : IM} {R : RM} : ev S d 44 5 [a0] st (sh, I, R) = ev S d 44 8 [a0] (.inl 200 :: st) (sh, I, R) := (ev_eq f_44_5).trans rfl
theorem f_44_8 : fetch 44 8 = some (8, .newarray .int, 2, [], 0) := (fm_44 8).trans rfl
theorem f_44_10 : fetch 44 10 = some (10, .putfield 9, 3, [5, 0, 1, 31], 0) := (fm_44 10).trans rfl
theorem u_44_10 {S : Scr} {d : Nat} {a0 : AV} {st : List AV} {sh : Shp} {I : IM} {R : RM} {k v : Nat} (h : tg sh k = 5) : ev S d 44 10 [a0] (.inr (.inl v) :: .inr (.inl k) :: st) (sh, I, R) = ev S d 44 13 [a0] st (sh, I, up R k 0 (some v)) := (ev_eq f_44_10).trans (congrArg (fin S d 44) (if_pos h))
theorem f_44_13 : fetch 44 13 = some (13, .aload_n 0, 1, [0], 0) := (fm_44 13).trans rfl
theorem u_44_13 {S : Scr} {d : Nat} {st : List AV} {sh : Shp} {I : IM} {R : RM} {x : Nat} : ev S d 44 13 [.inr (.inl x)] st (sh, I, R) = ev S d 44 14 [.inr (.inl x)] (.inr (.inl x) :: st) (sh, I, R) := (ev_eq f_44_13).trans rfl
theorem f_44_14 : fetch 44 14 = some (14, .iconst (-1), 1, [], (-1)) := (fm_44 14).trans rfl
theorem u_44_14 {S : Scr} {d : Nat} {a0 : AV} {st : List AV} {sh : Shp} {I : IM} {R : RM} : ev S d 44 14 [a0] st (sh, I, R) = ev S d 44 15 [a0] (.inl (-1) :: st) (sh, I, R) := (ev_eq f_44_14).trans rfl
theorem f_44_15 : fetch 44 15 = some (15, .putfield 15, 3, [5, 1, 0, 32], 0) := (fm_44 15).trans rfl
theorem u_44_15 {S : Scr} {d : Nat} {a0 : AV} {st : List AV} {sh : Shp} {I : IM} {R : RM} {k : Nat} {x : Int} (h : tg sh k = 5) : ev S d 44 15 [a0] (.inl x :: .inr (.inl k) :: st) (sh, I, R) = ev S d 44 18 [a0] st (sh, up I k 1 x, R) := (ev_eq f_44_15).trans (congrArg (fin S d 44) (if_pos h))
theorem f_44_18 : fetch 44 18 = some (18, .return_, 1, [], 0) := (fm_44 18).trans rfl
theorem u_44_18 {S : Scr} {d : Nat} {a0 : AV} {sh : Shp} {I : IM} {R : RM} : ev S d 44 18 [a0] [] (sh, I, R) = some (none, (sh, I, R)) := (ev_eq f_44_18).trans rfl
theorem c_45 {d : Nat} {a0 : AV} {M : Mem} : cl (d + 1) 45 [a0] M = ev S0 d 45 0 [a0] [] M := (cl_eq (as := [a0]) (show 1 ≤ maxOf 45 by decide +kernel)).trans rfl
theorem mt_45 : MT[45]? = some m_45 := rfl
theorem fm_45 (pc : Nat) : fetch 45 pc = lk m_45.2.2.2.2.2 pc := by
  unfold fetch
  rw [mt_45]
theorem f_45_0 : fetch 45 0 = some (0, .aload_n 0, 1, [0], 0) := (fm_45 0).trans rfl
theorem u_45_0 {S : Scr} {d : Nat} {st : List AV} {sh : Shp} {I : IM} {R : RM} {x : Nat} : ev S d 45 0 [.inr (.inl x)] st (sh, I, R) = ev S d 45 1 [.inr (.inl x)] (.inr (.inl x) :: st) (sh, I, R) := (ev_eq f_45_0).trans rfl
theorem f_45_1 : fetch 45 1 = some (1, .getfield 15, 3, [5, 1, 0, 32], 0) := (fm_45 1).trans rfl
theorem u_45_1 {S : Scr} {d : Nat} {a0 : AV} {st : List AV} {sh : Shp} {I : IM} {R : RM} {k : Nat} (h : tg sh k = 5) : ev S d 45 1 [a0] (.inr (.inl k) :: st) (sh, I, R) = ev S d 45 4 [a0] (.inl (I k 1) :: st) (sh, I, R) := (ev_eq f_45_1).trans (congrArg (fin S d 45) (if_pos h))
theorem f_45_4 : fetch 45 4 = some (4, .iconst (-1), 1, [], (-1)) := (fm_45 4).trans rfl
theorem u_45_4 {S : Scr} {d : Nat} {a0 : AV} {st : List AV} {sh : Shp} {I : IM} {R : RM} : ev S d 45 4 [a0] st (sh, I, R) = ev S d 45 5 [a0] (.inl (-1) :: st) (sh, I, R) := (ev_eq f_45_4).trans rfl
theorem f_45_5 : fetch 45 5 = some (5, .if_icmp .ne 7, 3, [12], 0) := (fm_45 5).trans rfl
theorem u_45_5 {S : Scr} {d : Nat} {a0 : AV} {st : List AV} {sh : Shp} {I : IM} {R : RM} {x y : Int} : ev S d 45 5 [a0] (.inl y :: .inl x :: st) (sh, I, R) = if ¬ x = y then ev S d 45 12 [a0] st (sh, I, R) else ev S d 45 8 [a0] st (sh, I, R) := (ev_eq f_45_5).trans fin_icmp_ne
theorem f_45_8 : fetch 45 8 = some (8, .iconst 1, 1, [], 1) := (fm_45 8).trans rfl
theorem u_45_8 {S : Scr} {d : Nat} {a0 : AV} {st : List AV} {sh : Shp} {I : IM} {R : RM} : ev S d 45 8 [a0] st (sh, I, R) = ev S d 45 9 [a0] (.inl 1 :: st) (sh, I, R) := (ev_eq f_45_8).trans rfl
theorem f_45_9 : fetch 45 9 = some (9, .goto 4, 3, [13], 0) := (fm_45 9).trans rfl
theorem u_45_9 {S : Scr} {d : Nat} {a0 : AV} {st : List AV} {sh : Shp} {I : IM} {R : RM} : ev S d 45 9 [a0] st (sh, I, R) = ev S d 45 13 [a0] st (sh, I, R) := (ev_eq f_45_9).trans rfl
theorem f_45_12 : fetch 45 12 = some (12, .iconst 0, 1, [], 0) := (fm_45 12).trans rfl
theorem u_45_12 {S : Scr} {d : Nat} {a0 : AV} {st : List AV} {sh : Shp} {I : IM} {R : RM} : ev S d 45 12 [a0] st (sh, I, R) = ev S d 45 13 [a0] (.inl 0 :: st) (sh, I, R) := (ev_eq f_45_12).trans rfl
theorem f_45_13 : fetch 45 13 = some (13, .ireturn, 1, [1], 0) := (fm_45 13).trans rfl
theorem u_45_13 {S : Scr} {d : Nat} {a0 : AV} {sh : Shp} {I : IM} {R : RM} {x : Int} (h : x = 0 ∨ x = 1) : ev S d 45 13 [a0] [.inl x] (sh, I, R) = some (some (.inl x), (sh, I, R)) := (ev_eq f_45_13).trans (fin_iret1 h)
theorem c_46 {d : Nat} {a0 : AV} {M : Mem} : cl (d + 1) 46 [a0] M = ev S0 d 46 0 [a0] [] M := (cl_eq (as := [a0]) (show 1 ≤ maxOf 46 by decide +kernel)).trans rfl
theorem mt_46 : MT[46]? = some m_46 := rfl
theorem fm_46 (pc : Nat) : fetch 46 pc = lk m_46.2.2.2.2.2 pc := by
  unfold fetch
  rw [mt_46]
theorem f_46_0 : fetch 46 0 = some (0, .aload_n 0, 1, [0], 0) := (fm_46 0).trans rfl
theorem u_46_0 {S : Scr} {d : Nat} {st : List AV} {sh : Shp} {I : IM} {R : RM} {x : Nat} : ev S d 46 0 [.inr (.inl x)] st (sh, I, R) = ev S d 46 1 [.inr (.inl x)] (.inr (.inl x) :: st) (sh, I, R) := (ev_eq f_46_0).trans rfl
theorem f_46_1 : fetch 46 1 = some (1, .getfield 15, 3, [5, 1, 0, 32], 0) := (fm_46 1).trans rfl
theorem u_46_1 {S : Scr} {d : Nat} {a0 : AV} {st : List AV} {sh : Shp} {I : IM} {R : RM} {k : Nat} (h : tg sh k = 5) : ev S d 46 1 [a0] (.inr (.inl k) :: st) (sh, I, R) = ev S d 46 4 [a0] (.inl (I k 1) :: st) (sh, I, R) := (ev_eq f_46_1).trans (congrArg (fin S d 46) (if_pos h))
theorem f_46_4 : fetch 46 4 = some (4, .sipush 200, 3, [], 200) := (fm_46 4).trans rfl
theorem u_46_4 {S : Scr} {d : Nat} {a0 : AV} {st : List AV} {sh : Shp} {I : IM} {R : RM} : ev S d 46 4 [a0] st (sh, I, R) = ev S d 46 7 [a0] (.inl 200 :: st) (sh, I, R) := (ev_eq f_46_4).trans rfl
theorem f_46_7 : fetch 46 7 = some (7, .if_icmp .le 7, 3, [14], 0) := (fm_46 7).trans rfl
theorem u_46_7 {S : Scr} {d : Nat} {a0 : AV} {st : List AV} {sh : Shp} {I : IM} {R : RM} {x y : Int} : ev S d 46 7 [a0] (.inl y :: .inl x :: st) (sh, I, R) = if x ≤ y then ev S d 46 14 [a0] st (sh, I, R) else ev S d 46 10 [a0] st (sh, I, R) := (ev_eq f_46_7).trans fin_icmp_le
theorem f_46_10 : fetch 46 10 = some (10, .iconst 1, 1, [], 1) := (fm_46 10).trans rfl
theorem u_46_10 {S : Scr} {d : Nat} {a0 : AV} {st : List AV} {sh : Shp} {I : IM} {R : RM} : ev S d 46 10 [a0] st (sh, I, R) = ev S d 46 11 [a0] (.inl 1 :: st) (sh, I, R) := (ev_eq f_46_10).trans rfl
theorem f_46_11 : fetch 46 11 = some (11, .goto 4, 3, [15], 0) := (fm_46 11).trans rfl
theorem u_46_11 {S : Scr} {d : Nat} {a0 : AV} {st : List AV} {sh : Shp} {I : IM} {R : RM} : ev S d 46 11 [a0] st (sh, I, R) = ev S d 46 15 [a0] st (sh, I, R) := (ev_eq f_46_11).trans rfl
theorem f_46_14 : fetch 46 14 = some (14, .iconst 0, 1, [], 0) := (fm_46 14).trans rfl
theorem u_46_14 {S : Scr} {d : Nat} {a0 : AV} {st : List AV} {sh : Shp} {I : IM} {R : RM} : ev S d 46 14 [a0] st (sh, I, R) = ev S d 46 15 [a0] (.inl 0 :: st) (sh, I, R) := (ev_eq f_46_14).trans rfl
theorem f_46_15 : fetch 46 15 = some (15, .ireturn, 1, [1], 0) := (fm_46 15).trans rfl
theorem u_46_15 {S : Scr} {d : Nat} {a0 : AV} {sh : Shp} {I : IM} {R : RM} {x : Int} (h : x = 0 ∨ x = 1) : ev S d 46 15 [a0] [.inl x] (sh, I, R) = some (some (.inl x), (sh, I, R)) := (ev_eq f_46_15).trans (fin_iret1 h)
theorem c_47 {d : Nat} {a0 a1 : AV} {M : Mem} : cl (d + 1) 47 [a0, a1] M = ev S0 d 47 0 [a0, a1] [] M := (cl_eq (as := [a0, a1]) (show 2 ≤ maxOf 47 by decide +kernel)).trans rfl
theorem mt_47 : MT[47]? = some m_47 := rfl
theorem fm_47 (pc : Nat) : fetch 47 pc = lk m_47.2.2.2.2.2 pc := by
  unfold fetch
  rw [mt_47]
theorem f_47_0 : fetch 47 0 = some (0, .iload_n 1, 1, [1], 0) := (fm_47 0).trans rfl
theorem u_47_0 {S : Scr} {d : Nat} {a0 : AV} {st : List AV} {sh : Shp} {I : IM} {R : RM} {x : Int} : ev S d 47 0 [a0, .inl x] st (sh, I, R) = ev S d 47 1 [a0, .inl x] (.inl x :: st) (sh, I, R) := (ev_eq f_47_0).trans rfl
theorem f_47_1 : fetch 47 1 = some (1, .ifCond .lt 22, 3, [23], 0) := (fm_47 1).trans rfl
theorem u_47_1 {S : Scr} {d : Nat} {a0 a1 : AV} {st : List AV} {sh : Shp} {I : IM} {R : RM} {x : Int} : ev S d 47 1 [a0, a1] (.inl x :: st) (sh, I, R) = if x < 0 then ev S d 47 23 [a0, a1] st (sh, I, R) else ev S d 47 4 [a0, a1] st (sh, I, R) := (ev_eq f_47_1).trans fin_if_lt
theorem f_47_4 : fetch 47 4 = some (4, .iload_n 1, 1, [1], 0) := (fm_47 4).trans rfl
theorem u_47_4 {S : Scr} {d : Nat} {a0 : AV} {st : List AV} {sh : Shp} {I : IM} {R : RM} {x : Int} : ev S d 47 4 [a0, .inl x] st (sh, I, R) = ev S d 47 5 [a0, .inl x] (.inl x :: st) (sh, I, R) := (ev_eq f_47_4).trans rfl
theorem f_47_5 : fetch 47 5 = some (5, .aload_n 0, 1, [0], 0) := (fm_47 5).trans rfl
theorem u_47_5 {S : Scr} {d : Nat} {a1 : AV} {st : List AV} {sh : Shp} {I : IM} {R : RM} {x : Nat} : ev S d 47 5 [.inr (.inl x), a1] st (sh, I, R) = ev S d 47 6 [.inr (.inl x), a1] (.inr (.inl x) :: st) (sh, I, R) := (ev_eq f_47_5).trans rfl
theorem f_47_6 : fetch 47 6 = some (6, .getfield 15, 3, [5, 1, 0, 32], 0) := (fm_47 6).trans rfl
theorem u_47_6 {S : Scr} {d : Nat} {a0 a1 : AV} {st : List AV} {sh : Shp} {I : IM} {R : RM} {k : Nat} (h : tg sh k = 5) : ev S d 47 6 [a0, a1] (.inr (.inl k) :: st) (sh, I, R) = ev S d 47 9 [a0, a1] (.inl (I k 1) :: st) (sh, I, R) := (ev_eq f_47_6).trans (congrArg (fin S d 47) (if_pos h))
theorem f_47_9 : fetch 47 9 = some (9, .if_icmp .ge 14, 3, [23], 0) := (fm_47 9).trans rfl
theorem u_47_9 {S : Scr} {d : Nat} {a0 a1 : AV} {st : List AV} {sh : Shp} {I : IM} {R : RM} {x y : Int} : ev S d 47 9 [a0, a1] (.inl y :: .inl x :: st) (sh, I, R) = if y ≤ x then ev S d 47 23 [a0, a1] st (sh, I, R) else ev S d 47 12 [a0, a1] st (sh, I, R) := (ev_eq f_47_9).trans fin_icmp_ge
theorem f_47_12 : fetch 47 12 = some (12, .iload_n 1, 1, [1], 0) := (fm_47 12).trans rfl
theorem u_47_12 {S : Scr} {d : Nat} {a0 : AV} {st : List AV} {sh : Shp} {I : IM} {R : RM} {x : Int} : ev S d 47 12 [a0, .inl x] st (sh, I, R) = ev S d 47 13 [a0, .inl x] (.inl x :: st) (sh, I, R) := (ev_eq f_47_12).trans rfl
theorem f_47_13 : fetch 47 13 = some (13, .sipush 200, 3, [], 200) := (fm_47 13).trans rfl
theorem u_47_13 {S : Scr} {d : Nat} {a0 a1 : AV} {st : List AV} {sh : Shp} {I : IM} {R : RM} : ev S d 47 13 [a0, a1] st (sh, I, R) = ev S d 47 16 [a0, a1] (.inl 200 :: st) (sh, I, R) := (ev_eq f_47_13).trans rfl
theorem f_47_16 : fetch 47 16 = some (16, .if_icmp .ge 7, 3, [23], 0) := (fm_47 16).trans rfl
theorem u_47_16 {S : Scr} {d : Nat} {a0 a1 : AV} {st : List AV} {sh : Shp} {I : IM} {R : RM} {x y : Int} : ev S d 47 16 [a0, a1] (.inl y :: .inl x :: st) (sh, I, R) = if y ≤ x then ev S d 47 23 [a0, a1] st (sh, I, R) else ev S d 47 19 [a0, a1] st (sh, I, R) := (ev_eq f_47_16).trans fin_icmp_ge
theorem f_47_19 : fetch 47 19 = some (19, .iconst 1, 1, [], 1) := (fm_47 19).trans rfl
theorem u_47_19 {S : Scr} {d : Nat} {a0 a1 : AV} {st : List AV} {sh : Shp} {I : IM} {R : RM} : ev S d 47 19 [a0, a1] st (sh, I, R) = ev S d 47 20 [a0, a1] (.inl 1 :: st) (sh, I, R) := (ev_eq f_47_19).trans rfl
theorem f_47_20 : fetch 47 20 = some (20, .goto 4, 3, [24], 0) := (fm_47 20).trans rfl
theorem u_47_20 {S : Scr} {d : Nat} {a0 a1 : AV} {st : List AV} {sh : Shp} {I : IM} {R : RM} : ev S d 47 20 [a0, a1] st (sh, I, R) = ev S d 47 24 [a0, a1] st (sh, I, R) := (ev_eq f_47_20).trans rfl
theorem f_47_23 : fetch 47 23 = some (23, .iconst 0, 1, [], 0) := (fm_47 23).trans rfl
theorem u_47_23 {S : Scr} {d : Nat} {a0 a1 : AV} {st : List AV} {sh : Shp} {I : IM} {R : RM} : ev S d 47 23 [a0, a1] st (sh, I, R) = ev S d 47 24 [a0, a1] (.inl 0 :: st) (sh, I, R) := (ev_eq f_47_23).trans rfl
theorem f_47_24 : fetch 47 24 = some (24, .ireturn, 1, [1], 0) := (fm_47 24).trans rfl
theorem u_47_24 {S : Scr} {d : Nat} {a0 a1 : AV} {sh : Shp} {I : IM} {R : RM} {x : Int} (h : x = 0 ∨ x = 1) : ev S d 47 24 [a0, a1] [.inl x] (sh, I, R) = some (some (.inl x), (sh, I, R)) := (ev_eq f_47_24).trans (fin_iret1 h)
theorem c_48 {d : Nat} {a0 a1 : AV} {M : Mem} : cl (d + 1) 48 [a0, a1] M = ev S0 d 48 0 [a0, a1] [] M := (cl_eq (as := [a0, a1]) (show 2 ≤ maxOf 48 by decide +kernel)).trans rfl
theorem mt_48 : MT[48]? = some m_48 := rfl
theorem fm_48 (pc : Nat) : fetch 48 pc = lk m_48.2.2.2.2.2 pc := by
  unfold fetch
  rw [mt_48]
theorem f_48_0 : fetch 48 0 = some (0, .aload_n 0, 1, [0], 0) := (fm_48 0).trans rfl
theorem u_48_0 {S : Scr} {d : Nat} {a1 : AV} {st : List AV} {sh : Shp} {I : IM} {R : RM} {x : Nat} : ev S d 48 0 [.inr (.inl x), a1] st (sh, I, R) = ev S d 48 1 [.inr (.inl x), a1] (.inr (.inl x) :: st) (sh, I, R) := (ev_eq f_48_0).trans rfl
theorem f_48_1 : fetch 48 1 = some (1, .iload_n 1, 1, [1], 0) := (fm_48 1).trans rfl
theorem u_48_1 {S : Scr} {d : Nat} {a0 : AV} {st : List AV} {sh : Shp} {I : IM} {R : RM} {x : Int} : ev S d 48 1 [a0, .inl x] st (sh, I, R) = ev S d 48 2 [a0, .inl x] (.inl x :: st) (sh, I, R) := (ev_eq f_48_1).trans rfl
theorem f_48_2 : fetch 48 2 = some (2, .invokevirtual 19, 3, [47, 1, 44], 0) := (fm_48 2).trans rfl
theorem u_48_2 {S : Scr} {d : Nat} {a0 a1 : AV} {st : List AV} {sh : Shp} {I : IM} {R : RM} {x0 : Int} {k : Nat} (h : tg sh k = 5) (hr : st.length ≤ 8) : ev S d 48 2 [a0, a1] (.inl x0 :: .inr (.inl k) :: st) (sh, I, R) = bnd (cl d 47 [.inr (.inl k), .inl x0] (sh, I, R)) (fun v M => ev S d 48 5 [a0, a1] (psh v st) M) := (ev_eq f_48_2).trans (congrArg (fin S d 48) (if_pos ⟨h, rfl, hr⟩))
theorem f_48_5 : fetch 48 5 = some (5, .ifCond .eq 12, 3, [17], 0) := (fm_48 5).trans rfl
theorem u_48_5 {S : Scr} {d : Nat} {a0 a1 : AV} {st : List AV} {sh : Shp} {I : IM} {R : RM} {x : Int} : ev S d 48 5 [a0, a1] (.inl x :: st) (sh, I, R) = if x = 0 then ev S d 48 17 [a0, a1] st (sh, I, R) else ev S d 48 8 [a0, a1] st (sh, I, R) := (ev_eq f_48_5).trans fin_if_eq
theorem f_48_8 : fetch 48 8 = some (8, .aload_n 0, 1, [0], 0) := (fm_48 8).trans rfl
theorem u_48_8 {S : Scr} {d : Nat} {a1 : AV} {st : List AV} {sh : Shp} {I : IM} {R : RM} {x : Nat} : ev S d 48 8 [.inr (.inl x), a1] st (sh, I, R) = ev S d 48 9 [.inr (.inl x), a1] (.inr (.inl x) :: st) (sh, I, R) := (ev_eq f_48_8).trans rfl
theorem f_48_9 : fetch 48 9 = some (9, .getfield 9, 3, [5, 0, 1, 31], 0) := (fm_48 9).trans rfl
theorem u_48_9 {S : Scr} {d : Nat} {a0 a1 : AV} {st : List AV} {sh : Shp} {I : IM} {R : RM} {k : Nat} (h : tg sh k = 5) : ev S d 48 9 [a0, a1] (.inr (.inl k) :: st) (sh, I, R) = ev S d 48 12 [a0, a1] (rv (R k 0) :: st) (sh, I, R) := (ev_eq f_48_9).trans (congrArg (fin S d 48) (if_pos h))
theorem f_48_12 : fetch 48 12 = some (12, .iload_n 1, 1, [1], 0) := (fm_48 12).trans rfl
theorem u_48_12 {S : Scr} {d : Nat} {a0 : AV} {st : List AV} {sh : Shp} {I : IM} {R : RM} {x : Int} : ev S d 48 12 [a0, .inl x] st (sh, I, R) = ev S d 48 13 [a0, .inl x] (.inl x :: st) (sh, I, R) := (ev_eq f_48_12).trans rfl
theorem f_48_13 : fetch 48 13 = some (13, .iaload, 1, [], 0) := (fm_48 13).trans rfl
theorem u_48_13 {S : Scr} {d : Nat} {a0 a1 : AV} {st : List AV} {sh : Shp} {I : IM} {R : RM} {k : Nat} {i : Int} (h : tg sh k = 100) (h0 : 0 ≤ i) (h1 : i < ln sh k) : ev S d 48 13 [a0, a1] (.inl i :: .inr (.inl k) :: st) (sh, I, R) = ev S d 48 14 [a0, a1] (.inl (I k i) :: st) (sh, I, R) := (ev_eq f_48_13).trans (congrArg (fin S d 48) (if_pos ⟨h, h0, h1⟩))
theorem f_48_14 : fetch 48 14 = some (14, .goto 4, 3, [18], 0) := (fm_48 14).trans rfl
theorem u_48_14 {S : Scr} {d : Nat} {a0 a1 : AV} {st : List AV} {sh : Shp} {I : IM} {R : RM} : ev S d 48 14 [a0, a1] st (sh, I, R) = ev S d 48 18 [a0, a1] st (sh, I, R) := (ev_eq f_48_14).trans rfl
theorem f_48_17 : fetch 48 17 = some (17, .iconst (-1), 1, [], (-1)) := (fm_48 17).trans rfl
theorem u_48_17 {S : Scr} {d : Nat} {a0 a1 : AV} {st : List AV} {sh : Shp} {I : IM} {R : RM} : ev S d 48 17 [a0, a1] st (sh, I, R) = ev S d 48 18 [a0, a1] (.inl (-1) :: st) (sh, I, R) := (ev_eq f_48_17).trans rfl
theorem f_48_18 : fetch 48 18 = some (18, .ireturn, 1, [0], 0) := (fm_48 18).trans rfl
theorem u_48_18 {S : Scr} {d : Nat} {a0 a1 : AV} {sh : Shp} {I : IM} {R : RM} {x : Int} : ev S d 48 18 [a0, a1] [.inl x] (sh, I, R) = some (some (.inl x), (sh, I, R)) := (ev_eq f_48_18).trans fin_iret0
theorem c_49 {d : Nat} {a0 a1 : AV} {M : Mem} : cl (d + 1) 49 [a0, a1] M = ev S0 d 49 0 [a0, a1, .inr (.inr 1)] [] M := (cl_eq (as := [a0, a1]) (show 2 ≤ maxOf 49 by decide +kernel)).trans rfl
theorem mt_49 : MT[49]? = some m_49 := rfl
theorem fm_49 (pc : Nat) : fetch 49 pc = lk m_49.2.2.2.2.2 pc := by
  unfold fetch
  rw [mt_49]
theorem f_49_0 : fetch 49 0 = some (0, .aload_n 0, 1, [0], 0) := (fm_49 0).trans rfl
theorem u_49_0 {S : Scr} {d : Nat} {a1 a2 : AV} {st : List AV} {sh : Shp} {I : IM} {R : RM} {x : Nat} : ev S d 49 0 [.inr (.inl x), a1, a2] st (sh, I, R) = ev S d 49 1 [.inr (.inl x), a1, a2] (.inr (.inl x) :: st) (sh, I, R) := (ev_eq f_49_0).trans rfl
theorem f_49_1 : fetch 49 1 = some (1, .iload_n 1, 1, [1], 0) := (fm_49 1).trans rfl
theorem u_49_1 {S : Scr} {d : Nat} {a0 a2 : AV} {st : List AV} {sh : Shp} {I : IM} {R : RM} {x : Int} : ev S d 49 1 [a0, .inl x, a2] st (sh, I, R) = ev S d 49 2 [a0, .inl x, a2] (.inl x :: st) (sh, I, R) := (ev_eq f_49_1).trans rfl
theorem f_49_2 : fetch 49 2 = some (2, .putfield 15, 3, [5, 1, 0, 32], 0) := (fm_49 2).trans rfl
theorem u_49_2 {S : Scr} {d : Nat} {a0 a1 a2 : AV} {st : List AV} {sh : Shp} {I : IM} {R : RM} {k : Nat} {x : Int} (h : tg sh k = 5) : ev S d 49 2 [a0, a1, a2] (.inl x :: .inr (.inl k) :: st) (sh, I, R) = ev S d 49 5 [a0, a1, a2] st (sh, up I k 1 x, R) := (ev_eq f_49_2).trans (congrArg (fin S d 49) (if_pos h))
theorem f_49_5 : fetch 49 5 = some (5, .iconst 0, 1, [], 0) := (fm_49 5).trans rfl
theorem u_49_5 {S : Scr} {d : Nat} {a0 a1 a2 : AV} {st : List AV} {sh : Shp} {I : IM} {R : RM} : ev S d 49 5 [a0, a1, a2] st (sh, I, R) = ev S d 49 6 [a0, a1, a2] (.inl 0 :: st) (sh, I, R) := (ev_eq f_49_5).trans rfl
theorem f_49_6 : fetch 49 6 = some (6, .istore_n 2, 1, [2], 0) := (fm_49 6).trans rfl
theorem u_49_6 {S : Scr} {d : Nat} {a0 a1 a2 : AV} {st : List AV} {sh : Shp} {I : IM} {R : RM} {x : Int} : ev S d 49 6 [a0, a1, a2] (.inl x :: st) (sh, I, R) = ev S d 49 7 [a0, a1, .inl x] st (sh, I, R) := (ev_eq f_49_6).trans rfl
theorem f_49_7 : fetch 49 7 = some (7, .iload_n 2, 1, [2], 0) := (fm_49 7).trans rfl
theorem u_49_7 {S : Scr} {d : Nat} {a0 a1 : AV} {st : List AV} {sh : Shp} {I : IM} {R : RM} {x : Int} : ev S d 49 7 [a0, a1, .inl x] st (sh, I, R) = ev S d 49 8 [a0, a1, .inl x] (.inl x :: st) (sh, I, R) := (ev_eq f_49_7).trans rfl
theorem f_49_8 : fetch 49 8 = some (8, .sipush 200, 3, [], 200) := (fm_49 8).trans rfl
theorem u_49_8 {S : Scr} {d : Nat} {a0 a1 a2 : AV} {st : List AV} {sh : Shp} {I : IM} {R : RM} : ev S d 49 8 [a0, a1, a2] st (sh, I, R) = ev S d 49 11 [a0, a1, a2] (.inl 200 :: st) (sh, I, R) := (ev_eq f_49_8).trans rfl
theorem f_49_11 : fetch 49 11 = some (11, .if_icmp .ge 16, 3, [27], 0) := (fm_49 11).trans rfl
theorem u_49_11 {S : Scr} {d : Nat} {a0 a1 a2 : AV} {st : List AV} {sh : Shp} {I : IM} {R : RM} {x y : Int} : ev S d 49 11 [a0, a1, a2] (.inl y :: .inl x :: st) (sh, I, R) = if y ≤ x then ev S d 49 27 [a0, a1, a2] st (sh, I, R) else ev S d 49 14 [a0, a1, a2] st (sh, I, R) := (ev_eq f_49_11).trans fin_icmp_ge
theorem f_49_14 : fetch 49 14 = some (14, .aload_n 0, 1, [0], 0) := (fm_49 14).trans rfl
theorem u_49_14 {S : Scr} {d : Nat} {a1 a2 : AV} {st : List AV} {sh : Shp} {I : IM} {R : RM} {x : Nat} : ev S d 49 14 [.inr (.inl x), a1, a2] st (sh, I, R) = ev S d 49 15 [.inr (.inl x), a1, a2] (.inr (.inl x) :: st) (sh, I, R) := (ev_eq f_49_14).trans rfl
theorem f_49_15 : fetch 49 15 = some (15, .getfield 9, 3, [5, 0, 1, 31], 0) := (fm_49 15).trans rfl
theorem u_49_15 {S : Scr} {d : Nat} {a0 a1 a2 : AV} {st : List AV} {sh : Shp} {I : IM} {R : RM} {k : Nat} (h : tg sh k = 5) : ev S d 49 15 [a0, a1, a2] (.inr (.inl k) :: st) (sh, I, R) = ev S d 49 18 [a0, a1, a2] (rv (R k 0) :: st) (sh, I, R) := (ev_eq f_49_15).trans (congrArg (fin S d 49) (if_pos h))
theorem f_49_18 : fetch 49 18 = some (18, .iload_n 2, 1, [2], 0) := (fm_49 18).trans rfl
theorem u_49_18 {S : Scr} {d : Nat} {a0 a1 : AV} {st : List AV} {sh : Shp} {I : IM} {R : RM} {x : Int} : ev S d 49 18 [a0, a1, .inl x] st (sh, I, R) = ev S d 49 19 [a0, a1, .inl x] (.inl x :: st) (sh, I, R) := (ev_eq f_49_18).trans rfl
theorem f_49_19 : fetch 49 19 = some (19, .iconst 0, 1, [], 0) := (fm_49 19).trans rfl
theorem u_49_19 {S : Scr} {d : Nat} {a0 a1 a2 : AV} {st : List AV} {sh : Shp} {I : IM} {R : RM} : ev S d 49 19 [a0, a1, a2] st (sh, I, R) = ev S d 49 20 [a0, a1, a2] (.inl 0 :: st) (sh, I, R) := (ev_eq f_49_19).trans rfl
theorem f_49_20 : fetch 49 20 = some (20, .iastore, 1, [], 0) := (fm_49 20).trans rfl
theorem u_49_20 {S : Scr} {d : Nat} {a0 a1 a2 : AV} {st : List AV} {sh : Shp} {I : IM} {R : RM} {k : Nat} {i x : Int} (h : tg sh k = 100) (h0 : 0 ≤ i) (h1 : i < ln sh k) : ev S d 49 20 [a0, a1, a2] (.inl x :: .inl i :: .inr (.inl k) :: st) (sh, I, R) = ev S d 49 21 [a0, a1, a2] st (sh, up I k i x, R) := (ev_eq f_49_20).trans (congrArg (fin S d 49) (if_pos ⟨h, h0, h1⟩))
theorem f_49_21 : fetch 49 21 = some (21, .iinc 2 1, 3, [2], 1) := (fm_49 21).trans rfl
theorem u_49_21 {S : Scr} {d : Nat} {a0 a1 : AV} {st : List AV} {sh : Shp} {I : IM} {R : RM} {x : Int} : ev S d 49 21 [a0, a1, .inl x] st (sh, I, R) = ev S d 49 24 [a0, a1, .inl (wr (x + 1))] st (sh, I, R) := (ev_eq f_49_21).trans rfl
theorem f_49_24 : fetch 49 24 = some (24, .goto (-17), 3, [7], 0) := (fm_49 24).trans rfl
theorem u_49_24 {S : Scr} {d : Nat} {a0 a1 a2 : AV} {st : List AV} {sh : Shp} {I : IM} {R : RM} : ev S d 49 24 [a0, a1, a2] st (sh, I, R) = ev S d 49 7 [a0, a1, a2] st (sh, I, R) := (ev_eq f_49_24).trans rfl
theorem f_49_27 : fetch 49 27 = some (27, .return_, 1, [], 0) := (fm_49 27).trans rfl
theorem u_49_27 {S : Scr} {d : Nat} {a0 a1 a2 : AV} {sh : Shp} {I : IM} {R : RM} : ev S d 49 27 [a0, a1, a2] [] (sh, I, R) = some (none, (sh, I, R)) := (ev_eq f_49_27).trans rfl
theorem c_50 {d : Nat} {a0 a1 : AV} {M : Mem} : cl (d + 1) 50 [a0, a1] M = ev S0 d 50 0 [a0, a1] [] M := (cl_eq (as := [a0, a1]) (show 2 ≤ maxOf 50 by decide +kernel)).trans rfl
theorem mt_50 : MT[50]? = some m_50 := rfl
theorem fm_50 (pc : Nat) : fetch 50 pc = lk m_50.2.2.2.2.2 pc := by
  unfold fetch
  rw [mt_50]
theorem f_50_0 : fetch 50 0 = some (0, .aload_n 0, 1, [0], 0) := (fm_50 0).trans rfl
theorem u_50_0 {S : Scr} {d : Nat} {a1 : AV} {st : List AV} {sh : Shp} {I : IM} {R : RM} {x : Nat} : ev S d 50 0 [.inr (.inl x), a1] st (sh, I, R) = ev S d 50 1 [.inr (.inl x), a1] (.inr (.inl x) :: st) (sh, I, R) := (ev_eq f_50_0).trans rfl
theorem f_50_1 : fetch 50 1 = some (1, .getfield 15, 3, [5, 1, 0, 32], 0) := (fm_50 1).trans rfl
theorem u_50_1 {S : Scr} {d : Nat} {a0 a1 : AV} {st : List AV} {sh : Shp} {I : IM} {R : RM} {k : Nat} (h : tg sh k = 5) : ev S d 50 1 [a0, a1] (.inr (.inl k) :: st) (sh, I, R) = ev S d 50 4 [a0, a1] (.inl (I k 1) :: st) (sh, I, R) := (ev_eq f_50_1).trans (congrArg (fin S d 50) (if_pos h))
theorem f_50_4 : fetch 50 4 = some (4, .ifCond .lt 23, 3, [27], 0) := (fm_50 4).trans rfl
theorem u_50_4 {S : Scr} {d : Nat} {a0 a1 : AV} {st : List AV} {sh : Shp} {I : IM} {R : RM} {x : Int} : ev S d 50 4 [a0, a1] (.inl x :: st) (sh, I, R) = if x < 0 then ev S d 50 27 [a0, a1] st (sh, I, R) else ev S d 50 7 [a0, a1] st (sh, I, R) := (ev_eq f_50_4).trans fin_if_lt
theorem f_50_7 : fetch 50 7 = some (7, .aload_n 0, 1, [0], 0) := (fm_50 7).trans rfl
theorem u_50_7 {S : Scr} {d : Nat} {a1 : AV} {st : List AV} {sh : Shp} {I : IM} {R : RM} {x : Nat} : ev S d 50 7 [.inr (.inl x), a1] st (sh, I, R) = ev S d 50 8 [.inr (.inl x), a1] (.inr (.inl x) :: st) (sh, I, R) := (ev_eq f_50_7).trans rfl
theorem f_50_8 : fetch 50 8 = some (8, .getfield 15, 3, [5, 1, 0, 32], 0) := (fm_50 8).trans rfl
theorem u_50_8 {S : Scr} {d : Nat} {a0 a1 : AV} {st : List AV} {sh : Shp} {I : IM} {R : RM} {k : Nat} (h : tg sh k = 5) : ev S d 50 8 [a0, a1] (.inr (.inl k) :: st) (sh, I, R) = ev S d 50 11 [a0, a1] (.inl (I k 1) :: st) (sh, I, R) := (ev_eq f_50_8).trans (congrArg (fin S d 50) (if_pos h))
theorem f_50_11 : fetch 50 11 = some (11, .sipush 200, 3, [], 200) := (fm_50 11).trans rfl
theorem u_50_11 {S : Scr} {d : Nat} {a0 a1 : AV} {st : List AV} {sh : Shp} {I : IM} {R : RM} : ev S d 50 11 [a0, a1] st (sh, I, R) = ev S d 50 14 [a0, a1] (.inl 200 :: st) (sh, I, R) := (ev_eq f_50_11).trans rfl
theorem f_50_14 : fetch 50 14 = some (14, .if_icmp .ge 13, 3, [27], 0) := (fm_50 14).trans rfl
theorem u_50_14 {S : Scr} {d : Nat} {a0 a1 : AV} {st : List AV} {sh : Shp} {I : IM} {R : RM} {x y : Int} : ev S d 50 14 [a0, a1] (.inl y :: .inl x :: st) (sh, I, R) = if y ≤ x then ev S d 50 27 [a0, a1] st (sh, I, R) else ev S d 50 17 [a0, a1] st (sh, I, R) := (ev_eq f_50_14).trans fin_icmp_ge
theorem f_50_17 : fetch 50 17 = some (17, .aload_n 0, 1, [0], 0) := (fm_50 17).trans rfl
theorem u_50_17 {S : Scr} {d : Nat} {a1 : AV} {st : List AV} {sh : Shp} {I : IM} {R : RM} {x : Nat} : ev S d 50 17 [.inr (.inl x), a1] st (sh, I, R) = ev S d 50 18 [.inr (.inl x), a1] (.inr (.inl x) :: st) (sh, I, R) := (ev_eq f_50_17).trans rfl
theorem f_50_18 : fetch 50 18 = some (18, .getfield 9, 3, [5, 0, 1, 31], 0) := (fm_50 18).trans rfl
theorem u_50_18 {S : Scr} {d : Nat} {a0 a1 : AV} {st : List AV} {sh : Shp} {I : IM} {R : RM} {k : Nat} (h : tg sh k = 5) : ev S d 50 18 [a0, a1] (.inr (.inl k) :: st) (sh, I, R) = ev S d 50 21 [a0, a1] (rv (R k 0) :: st) (sh, I, R) := (ev_eq f_50_18).trans (congrArg (fin S d 50) (if_pos h))
theorem f_50_21 : fetch 50 21 = some (21, .aload_n 0, 1, [0], 0) := (fm_50 21).trans rfl
theorem u_50_21 {S : Scr} {d : Nat} {a1 : AV} {st : List AV} {sh : Shp} {I : IM} {R : RM} {x : Nat} : ev S d 50 21 [.inr (.inl x), a1] st (sh, I, R) = ev S d 50 22 [.inr (.inl x), a1] (.inr (.inl x) :: st) (sh, I, R) := (ev_eq f_50_21).trans rfl
theorem f_50_22 : fetch 50 22 = some (22, .getfield 15, 3, [5, 1, 0, 32], 0) := (fm_50 22).trans rfl
theorem u_50_22 {S : Scr} {d : Nat} {a0 a1 : AV} {st : List AV} {sh : Shp} {I : IM} {R : RM} {k : Nat} (h : tg sh k = 5) : ev S d 50 22 [a0, a1] (.inr (.inl k) :: st) (sh, I, R) = ev S d 50 25 [a0, a1] (.inl (I k 1) :: st) (sh, I, R) := (ev_eq f_50_22).trans (congrArg (fin S d 50) (if_pos h))
theorem f_50_25 : fetch 50 25 = some (25, .iload_n 1, 1, [1], 0) := (fm_50 25).trans rfl
theorem u_50_25 {S : Scr} {d : Nat} {a0 : AV} {st : List AV} {sh : Shp} {I : IM} {R : RM} {x : Int} : ev S d 50 25 [a0, .inl x] st (sh, I, R) = ev S d 50 26 [a0, .inl x] (.inl x :: st) (sh, I, R) := (ev_eq f_50_25).trans rfl
theorem f_50_26 : fetch 50 26 = some (26, .iastore, 1, [], 0) := (fm_50 26).trans rfl
theorem u_50_26 {S : Scr} {d : Nat} {a0 a1 : AV} {st : List AV} {sh : Shp} {I : IM} {R : RM} {k : Nat} {i x : Int} (h : tg sh k = 100) (h0 : 0 ≤ i) (h1 : i < ln sh k) : ev S d 50 26 [a0, a1] (.inl x :: .inl i :: .inr (.inl k) :: st) (sh, I, R) = ev S d 50 27 [a0, a1] st (sh, up I k i x, R) := (ev_eq f_50_26).trans (congrArg (fin S d 50) (if_pos ⟨h, h0, h1⟩))
theorem f_50_27 : fetch 50 27 = some (27, .aload_n 0, 1, [0], 0) := (fm_50 27).trans rfl
theorem u_50_27 {S : Scr} {d : Nat} {a1 : AV} {st : List AV} {sh : Shp} {I : IM} {R : RM} {x : Nat} : ev S d 50 27 [.inr (.inl x), a1] st (sh, I, R) = ev S d 50 28 [.inr (.inl x), a1] (.inr (.inl x) :: st) (sh, I, R) := (ev_eq f_50_27).trans rfl
theorem f_50_28 : fetch 50 28 = some (28, .dup, 1, [], 0) := (fm_50 28).trans rfl
theorem u_50_28 {S : Scr} {d : Nat} {a0 a1 : AV} {st : List AV} {sh : Shp} {I : IM} {R : RM} {x : AV} : ev S d 50 28 [a0, a1] (x :: st) (sh, I, R) = ev S d 50 29 [a0, a1] (x :: x :: st) (sh, I, R) := (ev_eq f_50_28).trans rfl
theorem f_50_29 : fetch 50 29 = some (29, .getfield 15, 3, [5, 1, 0, 32], 0) := (fm_50 29).trans rfl
theorem u_50_29 {S : Scr} {d : Nat} {a0 a1 : AV} {st : List AV} {sh : Shp} {I : IM} {R : RM} {k : Nat} (h : tg sh k = 5) : ev S d 50 29 [a0, a1] (.inr (.inl k) :: st) (sh, I, R) = ev S d 50 32 [a0, a1] (.inl (I k 1) :: st) (sh, I, R) := (ev_eq f_50_29).trans (congrArg (fin S d 50) (if_pos h))
theorem f_50_32 : fetch 50 32 = some (32, .iconst 1, 1, [], 1) := (fm_50 32).trans rfl
theorem u_50_32 {S : Scr} {d : Nat} {a0 a1 : AV} {st : List AV} {sh : Shp} {I : IM} {R : RM} : ev S d 50 32 [a0, a1] st (sh, I, R) = ev S d 50 33 [a0, a1] (.inl 1 :: st) (sh, I, R) := (ev_eq f_50_32).trans rfl
theorem f_50_33 : fetch 50 33 = some (33, .iadd, 1, [], 0) := (fm_50 33).trans rfl
theorem u_50_33 {S : Scr} {d : Nat} {a0 a1 : AV} {st : List AV} {sh : Shp} {I : IM} {R : RM} {x y : Int} : ev S d 50 33 [a0, a1] (.inl y :: .inl x :: st) (sh, I, R) = ev S d 50 34 [a0, a1] (.inl (wr (x + y)) :: st) (sh, I, R) := (ev_eq f_50_33).trans rfl
theorem f_50_34 : fetch 50 34 = some (34, .putfield 15, 3, [5, 1, 0, 32], 0) := (fm_50 34).trans rfl
theorem u_50_34 {S : Scr} {d : Nat} {a0 a1 : AV} {st : List AV} {sh : Shp} {I : IM} {R : RM} {k : Nat} {x : Int} (h : tg sh k = 5) : ev S d 50 34 [a0, a1] (.inl x :: .inr (.inl k) :: st) (sh, I, R) = ev S d 50 37 [a0, a1] st (sh, up I k 1 x, R) := (ev_eq f_50_34).trans (congrArg (fin S d 50) (if_pos h))
theorem f_50_37 : fetch 50 37 = some (37, .return_, 1, [], 0) := (fm_50 37).trans rfl
theorem u_50_37 {S : Scr} {d : Nat} {a0 a1 : AV} {sh : Shp} {I : IM} {R : RM} : ev S d 50 37 [a0, a1] [] (sh, I, R) = some (none, (sh, I, R)) := (ev_eq f_50_37).trans rfl
theorem c_51 {d : Nat} {a0 a1 : AV} {M : Mem} : cl (d + 1) 51 [a0, a1] M = ev S0 d 51 0 [a0, a1] [] M := (cl_eq (as := [a0, a1]) (show 2 ≤ maxOf 51 by decide +kernel)).trans rfl
theorem mt_51 : MT[51]? = some m_51 := rfl
theorem fm_51 (pc : Nat) : fetch 51 pc = lk m_51.2.2.2.2.2 pc := by
  unfold fetch
  rw [mt_51]
theorem f_51_0 : fetch 51 0 = some (0, .aload_n 0, 1, [0], 0) := (fm_51 0).trans rfl
theorem u_51_0 {S : Scr} {d : Nat} {a1 : AV} {st : List AV} {sh : Shp} {I : IM} {R : RM} {x : Nat} : ev S d 51 0 [.inr (.inl x), a1] st (sh, I, R) = ev S d 51 1 [.inr (.inl x), a1] (.inr (.inl x) :: st) (sh, I, R) := (ev_eq f_51_0).trans rfl
theorem f_51_1 : fetch 51 1 = some (1, .aload_n 1, 1, [1], 0) := (fm_51 1).trans rfl
theorem u_51_1 {S : Scr} {d : Nat} {a0 : AV} {st : List AV} {sh : Shp} {I : IM} {R : RM} {x : Nat} : ev S d 51 1 [a0, .inr (.inl x)] st (sh, I, R) = ev S d 51 2 [a0, .inr (.inl x)] (.inr (.inl x) :: st) (sh, I, R) := (ev_eq f_51_1).trans rfl
theorem u_51_1n {S : Scr} {d : Nat} {a0 : AV} {st : List AV} {sh : Shp} {I : IM} {R : RM} : ev S d 51 1 [a0, .inr (.inr 0)] st (sh, I, R) = ev S d 51 2 [a0, .inr (.inr 0)] (.inr (.inr 0) :: st) (sh, I, R) := (ev_eq f_51_1).trans rfl
theorem f_51_2 : fetch 51 2 = some (2, .getfield 15, 3, [5, 1, 0, 32], 0) := (fm_51 2).trans rfl
theorem u_51_2 {S : Scr} {d : Nat} {a0 a1 : AV} {st : List AV} {sh : Shp} {I : IM} {R : RM} {k : Nat} (h : tg sh k = 5) : ev S d 51 2 [a0, a1] (.inr (.inl k) :: st) (sh, I, R) = ev S d 51 5 [a0, a1] (.inl (I k 1) :: st) (sh, I, R) := (ev_eq f_51_2).trans (congrArg (fin S d 51) (if_pos h))
theorem f_51_5 : fetch 51 5 = some (5, .putfield 15, 3, [5, 1, 0, 32], 0) := (fm_51 5).trans rfl
theorem u_51_5 {S : Scr} {d : Nat} {a0 a1 : AV} {st : List AV} {sh : Shp} {I : IM} {R : RM} {k : Nat} {x : Int} (h : tg sh k = 5) : ev S d 51 5 [a0, a1] (.inl x :: .inr (.inl k) :: st) (sh, I, R) = ev S d 51 8 [a0, a1] st (sh, up I k 1 x, R) := (ev_eq f_51_5).trans (congrArg (fin S d 51) (if_pos h))
theorem f_51_8 : fetch 51 8 = some (8, .aload_n 1, 1, [1], 0) := (fm_51 8).trans rfl
theorem u_51_8 {S : Scr} {d : Nat} {a0 : AV} {st : List AV} {sh : Shp} {I : IM} {R : RM} {x : Nat} : ev S d 51 8 [a0, .inr (.inl x)] st (sh, I, R) = ev S d 51 9 [a0, .inr (.inl x)] (.inr (.inl x) :: st) (sh, I, R) := (ev_eq f_51_8).trans rfl
theorem u_51_8n {S : Scr} {d : Nat} {a0 : AV} {st : List AV} {sh : Shp} {I : IM} {R : RM} : ev S d 51 8 [a0, .inr (.inr 0)] st (sh, I, R) = ev S d 51 9 [a0, .inr (.inr 0)] (.inr (.inr 0) :: st) (sh, I, R) := (ev_eq f_51_8).trans rfl
theorem f_51_9 : fetch 51 9 = some (9, .getfield 9, 3, [5, 0, 1, 31], 0) := (fm_51 9).trans rfl
theorem u_51_9 {S : Scr} {d : Nat} {a0 a1 : AV} {st : List AV} {sh : Shp} {I : IM} {R : RM} {k : Nat} (h : tg sh k = 5) : ev S d 51 9 [a0, a1] (.inr (.inl k) :: st) (sh, I, R) = ev S d 51 12 [a0, a1] (rv (R k 0) :: st) (sh, I, R) := (ev_eq f_51_9).trans (congrArg (fin S d 51) (if_pos h))
theorem f_51_12 : fetch 51 12 = some (12, .iconst 0, 1, [], 0) := (fm_51 12).trans rfl
theorem u_51_12 {S : Scr} {d : Nat} {a0 a1 : AV} {st : List AV} {sh : Shp} {I : IM} {R : RM} : ev S d 51 12 [a0, a1] st (sh, I, R) = ev S d 51 13 [a0, a1] (.inl 0 :: st) (sh, I, R) := (ev_eq f_51_12).trans rfl
theorem f_51_13 : fetch 51 13 = some (13, .aload_n 0, 1, [0], 0) := (fm_51 13).trans rfl
theorem u_51_13 {S : Scr} {d : Nat} {a1 : AV} {st : List AV} {sh : Shp} {I : IM} {R : RM} {x : Nat} : ev S d 51 13 [.inr (.inl x), a1] st (sh, I, R) = ev S d 51 14 [.inr (.inl x), a1] (.inr (.inl x) :: st) (sh, I, R) := (ev_eq f_51_13).trans rfl
theorem f_51_14 : fetch 51 14 = some (14, .getfield 9, 3, [5, 0, 1, 31], 0) := (fm_51 14).trans rfl
theorem u_51_14 {S : Scr} {d : Nat} {a0 a1 : AV} {st : List AV} {sh : Shp} {I : IM} {R : RM} {k : Nat} (h : tg sh k = 5) : ev S d 51 14 [a0, a1] (.inr (.inl k) :: st) (sh, I, R) = ev S d 51 17 [a0, a1] (rv (R k 0) :: st) (sh, I, R) := (ev_eq f_51_14).trans (congrArg (fin S d 51) (if_pos h))
theorem f_51_17 : fetch 51 17 = some (17, .iconst 0, 1, [], 0) := (fm_51 17).trans rfl
theorem u_51_17 {S : Scr} {d : Nat} {a0 a1 : AV} {st : List AV} {sh : Shp} {I : IM} {R : RM} : ev S d 51 17 [a0, a1] st (sh, I, R) = ev S d 51 18 [a0, a1] (.inl 0 :: st) (sh, I, R) := (ev_eq f_51_17).trans rfl
theorem f_51_18 : fetch 51 18 = some (18, .sipush 200, 3, [], 200) := (fm_51 18).trans rfl
theorem u_51_18 {S : Scr} {d : Nat} {a0 a1 : AV} {st : List AV} {sh : Shp} {I : IM} {R : RM} : ev S d 51 18 [a0, a1] st (sh, I, R) = ev S d 51 21 [a0, a1] (.inl 200 :: st) (sh, I, R) := (ev_eq f_51_18).trans rfl
theorem f_51_21 : fetch 51 21 = some (21, .invokestatic 23, 3, [1], 0) := (fm_51 21).trans rfl
theorem u_51_21 {S : Scr} {d : Nat} {a0 a1 : AV} {st : List AV} {sh : Shp} {I : IM} {R : RM} {k0 k1 : Nat} {sp dp c : Int} (h : tg sh k0 = 100 ∧ tg sh k1 = 100 ∧ k0 ≠ k1 ∧ 0 ≤ sp ∧ 0 ≤ dp ∧ 0 ≤ c ∧ sp + c ≤ ln sh k0 ∧ dp + c ≤ ln sh k1 ∧ st.length ≤ 8) : ev S d 51 21 [a0, a1] (.inl c :: .inl dp :: .inr (.inl k1) :: .inl sp :: .inr (.inl k0) :: st) (sh, I, R) = ev S d 51 24 [a0, a1] st (sh, cp I k0 sp k1 dp c, R) := (ev_eq f_51_21).trans (congrArg (fin S d 51) (if_pos h))
theorem f_51_24 : fetch 51 24 = some (24, .return_, 1, [], 0) := (fm_51 24).trans rfl
theorem u_51_24 {S : Scr} {d : Nat} {a0 a1 : AV} {sh : Shp} {I : IM} {R : RM} : ev S d 51 24 [a0, a1] [] (sh, I, R) = some (none, (sh, I, R)) := (ev_eq f_51_24).trans rfl
theorem c_52 {d : Nat} {a0 a1 : AV} {M : Mem} : cl (d + 1) 52 [a0, a1] M = ev S0 d 52 0 [a0, a1, .inr (.inr 1)] [] M := (cl_eq (as := [a0, a1]) (show 2 ≤ maxOf 52 by decide +kernel)).trans rfl
theorem mt_52 : MT[52]? = some m_52 := rfl
theorem fm_52 (pc : Nat) : fetch 52 pc = lk m_52.2.2.2.2.2 pc := by
  unfold fetch
  rw [mt_52]
theorem f_52_0 : fetch 52 0 = some (0, .iconst 0, 1, [], 0) := (fm_52 0).trans rfl
theorem u_52_0 {S : Scr} {d : Nat} {a0 a1 a2 : AV} {st : List AV} {sh : Shp} {I : IM} {R : RM} : ev S d 52 0 [a0, a1, a2] st (sh, I, R) = ev S d 52 1 [a0, a1, a2] (.inl 0 :: st) (sh, I, R) := (ev_eq f_52_0).trans rfl
theorem f_52_1 : fetch 52 1 = some (1, .istore_n 2, 1, [2], 0) := (fm_52 1).trans rfl
theorem u_52_1 {S : Scr} {d : Nat} {a0 a1 a2 : AV} {st : List AV} {sh : Shp} {I : IM} {R : RM} {x : Int} : ev S d 52 1 [a0, a1, a2] (.inl x :: st) (sh, I, R) = ev S d 52 2 [a0, a1, .inl x] st (sh, I, R) := (ev_eq f_52_1).trans rfl
theorem f_52_2 : fetch 52 2 = some (2, .iload_n 2, 1, [2], 0) := (fm_52 2).trans rfl
theorem u_52_2 {S : Scr} {d : Nat} {a0 a1 : AV} {st : List AV} {sh : Shp} {I : IM} {R : RM} {x : Int} : ev S d 52 2 [a0, a1, .inl x] st (sh, I, R) = ev S d 52 3 [a0, a1, .inl x] (.inl x :: st) (sh, I, R) := (ev_eq f_52_2).trans rfl
theorem f_52_3 : fetch 52 3 = some (3, .aload_n 0, 1, [0], 0) := (fm_52 3).trans rfl
theorem u_52_3 {S : Scr} {d : Nat} {a1 a2 : AV} {st : List AV} {sh : Shp} {I : IM} {R : RM} {x : Nat} : ev S d 52 3 [.inr (.inl x), a1, a2] st (sh, I, R) = ev S d 52 4 [.inr (.inl x), a1, a2] (.inr (.inl x) :: st) (sh, I, R) := (ev_eq f_52_3).trans rfl
theorem f_52_4 : fetch 52 4 = some (4, .getfield 15, 3, [5, 1, 0, 32], 0) := (fm_52 4).trans rfl
theorem u_52_4 {S : Scr} {d : Nat} {a0 a1 a2 : AV} {st : List AV} {sh : Shp} {I : IM} {R : RM} {k : Nat} (h : tg sh k = 5) : ev S d 52 4 [a0, a1, a2] (.inr (.inl k) :: st) (sh, I, R) = ev S d 52 7 [a0, a1, a2] (.inl (I k 1) :: st) (sh, I, R) := (ev_eq f_52_4).trans (congrArg (fin S d 52) (if_pos h))
theorem f_52_7 : fetch 52 7 = some (7, .if_icmp .ge 24, 3, [31], 0) := (fm_52 7).trans rfl
theorem u_52_7 {S : Scr} {d : Nat} {a0 a1 a2 : AV} {st : List AV} {sh : Shp} {I : IM} {R : RM} {x y : Int} : ev S d 52 7 [a0, a1, a2] (.inl y :: .inl x :: st) (sh, I, R) = if y ≤ x then ev S d 52 31 [a0, a1, a2] st (sh, I, R) else ev S d 52 10 [a0, a1, a2] st (sh, I, R) := (ev_eq f_52_7).trans fin_icmp_ge
theorem f_52_10 : fetch 52 10 = some (10, .aload_n 0, 1, [0], 0) := (fm_52 10).trans rfl
theorem u_52_10 {S : Scr} {d : Nat} {a1 a2 : AV} {st : List AV} {sh : Shp} {I : IM} {R : RM} {x : Nat} : ev S d 52 10 [.inr (.inl x), a1, a2] st (sh, I, R) = ev S d 52 11 [.inr (.inl x), a1, a2] (.inr (.inl x) :: st) (sh, I, R) := (ev_eq f_52_10).trans rfl
theorem f_52_11 : fetch 52 11 = some (11, .iload_n 2, 1, [2], 0) := (fm_52 11).trans rfl
theorem u_52_11 {S : Scr} {d : Nat} {a0 a1 : AV} {st : List AV} {sh : Shp} {I : IM} {R : RM} {x : Int} : ev S d 52 11 [a0, a1, .inl x] st (sh, I, R) = ev S d 52 12 [a0, a1, .inl x] (.inl x :: st) (sh, I, R) := (ev_eq f_52_11).trans rfl
theorem f_52_12 : fetch 52 12 = some (12, .invokevirtual 29, 3, [48, 1, 45], 0) := (fm_52 12).trans rfl
theorem u_52_12 {S : Scr} {d : Nat} {a0 a1 a2 : AV} {st : List AV} {sh : Shp} {I : IM} {R : RM} {x0 : Int} {k : Nat} (h : tg sh k = 5) (hr : st.length ≤ 8) : ev S d 52 12 [a0, a1, a2] (.inl x0 :: .inr (.inl k) :: st) (sh, I, R) = bnd (cl d 48 [.inr (.inl k), .inl x0] (sh, I, R)) (fun v M => ev S d 52 15 [a0, a1, a2] (psh v st) M) := (ev_eq f_52_12).trans (congrArg (fin S d 52) (if_pos ⟨h, rfl, hr⟩))
theorem f_52_15 : fetch 52 15 = some (15, .aload_n 1, 1, [1], 0) := (fm_52 15).trans rfl
theorem u_52_15 {S : Scr} {d : Nat} {a0 a2 : AV} {st : List AV} {sh : Shp} {I : IM} {R : RM} {x : Nat} : ev S d 52 15 [a0, .inr (.inl x), a2] st (sh, I, R) = ev S d 52 16 [a0, .inr (.inl x), a2] (.inr (.inl x) :: st) (sh, I, R) := (ev_eq f_52_15).trans rfl
theorem u_52_15n {S : Scr} {d : Nat} {a0 a2 : AV} {st : List AV} {sh : Shp} {I : IM} {R : RM} : ev S d 52 15 [a0, .inr (.inr 0), a2] st (sh, I, R) = ev S d 52 16 [a0, .inr (.inr 0), a2] (.inr (.inr 0) :: st) (sh, I, R) := (ev_eq f_52_15).trans rfl
theorem f_52_16 : fetch 52 16 = some (16, .iload_n 2, 1, [2], 0) := (fm_52 16).trans rfl
theorem u_52_16 {S : Scr} {d : Nat} {a0 a1 : AV} {st : List AV} {sh : Shp} {I : IM} {R : RM} {x : Int} : ev S d 52 16 [a0, a1, .inl x] st (sh, I, R) = ev S d 52 17 [a0, a1, .inl x] (.inl x :: st) (sh, I, R) := (ev_eq f_52_16).trans rfl
theorem f_52_17 : fetch 52 17 = some (17, .invokevirtual 29, 3, [48, 1, 45], 0) := (fm_52 17).trans rfl
theorem u_52_17 {S : Scr} {d : Nat} {a0 a1 a2 : AV} {st : List AV} {sh : Shp} {I : IM} {R : RM} {x0 : Int} {k : Nat} (h : tg sh k = 5) (hr : st.length ≤ 8) : ev S d 52 17 [a0, a1, a2] (.inl x0 :: .inr (.inl k) :: st) (sh, I, R) = bnd (cl d 48 [.inr (.inl k), .inl x0] (sh, I, R)) (fun v M => ev S d 52 20 [a0, a1, a2] (psh v st) M) := (ev_eq f_52_17).trans (congrArg (fin S d 52) (if_pos ⟨h, rfl, hr⟩))
theorem f_52_20 : fetch 52 20 = some (20, .if_icmp .eq 5, 3, [25], 0) := (fm_52 20).trans rfl
theorem u_52_20 {S : Scr} {d : Nat} {a0 a1 a2 : AV} {st : List AV} {sh : Shp} {I : IM} {R : RM} {x y : Int} : ev S d 52 20 [a0, a1, a2] (.inl y :: .inl x :: st) (sh, I, R) = if x = y then ev S d 52 25 [a0, a1, a2] st (sh, I, R) else ev S d 52 23 [a0, a1, a2] st (sh, I, R) := (ev_eq f_52_20).trans fin_icmp_eq
theorem f_52_23 : fetch 52 23 = some (23, .iload_n 2, 1, [2], 0) := (fm_52 23).trans rfl
theorem u_52_23 {S : Scr} {d : Nat} {a0 a1 : AV} {st : List AV} {sh : Shp} {I : IM} {R : RM} {x : Int} : ev S d 52 23 [a0, a1, .inl x] st (sh, I, R) = ev S d 52 24 [a0, a1, .inl x] (.inl x :: st) (sh, I, R) := (ev_eq f_52_23).trans rfl
theorem f_52_24 : fetch 52 24 = some (24, .ireturn, 1, [0], 0) := (fm_52 24).trans rfl
theorem u_52_24 {S : Scr} {d : Nat} {a0 a1 a2 : AV} {sh : Shp} {I : IM} {R : RM} {x : Int} : ev S d 52 24 [a0, a1, a2] [.inl x] (sh, I, R) = some (some (.inl x), (sh, I, R)) := (ev_eq f_52_24).trans fin_iret0
theorem f_52_25 : fetch 52 25 = some (25, .iinc 2 1, 3, [2], 1) := (fm_52 25).trans rfl
theorem u_52_25 {S : Scr} {d : Nat} {a0 a1 : AV} {st : List AV} {sh : Shp} {I : IM} {R : RM} {x : Int} : ev S d 52 25 [a0, a1, .inl x] st (sh, I, R) = ev S d 52 28 [a0, a1, .inl (wr (x + 1))] st (sh, I, R) := (ev_eq f_52_25).trans rfl
theorem f_52_28 : fetch 52 28 = some (28, .goto (-26), 3, [2], 0) := (fm_52 28).trans rfl
theorem u_52_28 {S : Scr} {d : Nat} {a0 a1 a2 : AV} {st : List AV} {sh : Shp} {I : IM} {R : RM} : ev S d 52 28 [a0, a1, a2] st (sh, I, R) = ev S d 52 2 [a0, a1, a2] st (sh, I, R) := (ev_eq f_52_28).trans rfl
theorem f_52_31 : fetch 52 31 = some (31, .aload_n 0, 1, [0], 0) := (fm_52 31).trans rfl
theorem u_52_31 {S : Scr} {d : Nat} {a1 a2 : AV} {st : List AV} {sh : Shp} {I : IM} {R : RM} {x : Nat} : ev S d 52 31 [.inr (.inl x), a1, a2] st (sh, I, R) = ev S d 52 32 [.inr (.inl x), a1, a2] (.inr (.inl x) :: st) (sh, I, R) := (ev_eq f_52_31).trans rfl
theorem f_52_32 : fetch 52 32 = some (32, .getfield 15, 3, [5, 1, 0, 32], 0) := (fm_52 32).trans rfl
theorem u_52_32 {S : Scr} {d : Nat} {a0 a1 a2 : AV} {st : List AV} {sh : Shp} {I : IM} {R : RM} {k : Nat} (h : tg sh k = 5) : ev S d 52 32 [a0, a1, a2] (.inr (.inl k) :: st) (sh, I, R) = ev S d 52 35 [a0, a1, a2] (.inl (I k 1) :: st) (sh, I, R) := (ev_eq f_52_32).trans (congrArg (fin S d 52) (if_pos h))
theorem f_52_35 : fetch 52 35 = some (35, .aload_n 1, 1, [1], 0) := (fm_52 35).trans rfl
theorem u_52_35 {S : Scr} {d : Nat} {a0 a2 : AV} {st : List AV} {sh : Shp} {I : IM} {R : RM} {x : Nat} : ev S d 52 35 [a0, .inr (.inl x), a2] st (sh, I, R) = ev S d 52 36 [a0, .inr (.inl x), a2] (.inr (.inl x) :: st) (sh, I, R) := (ev_eq f_52_35).trans rfl
theorem u_52_35n {S : Scr} {d : Nat} {a0 a2 : AV} {st : List AV} {sh : Shp} {I : IM} {R : RM} : ev S d 52 35 [a0, .inr (.inr 0), a2] st (sh, I, R) = ev S d 52 36 [a0, .inr (.inr 0), a2] (.inr (.inr 0) :: st) (sh, I, R) := (ev_eq f_52_35).trans rfl
theorem f_52_36 : fetch 52 36 = some (36, .getfield 15, 3, [5, 1, 0, 32], 0) := (fm_52 36).trans rfl
theorem u_52_36 {S : Scr} {d : Nat} {a0 a1 a2 : AV} {st : List AV} {sh : Shp} {I : IM} {R : RM} {k : Nat} (h : tg sh k = 5) : ev S d 52 36 [a0, a1, a2] (.inr (.inl k) :: st) (sh, I, R) = ev S d 52 39 [a0, a1, a2] (.inl (I k 1) :: st) (sh, I, R) := (ev_eq f_52_36).trans (congrArg (fin S d 52) (if_pos h))
theorem f_52_39 : fetch 52 39 = some (39, .if_icmp .ge 10, 3, [49], 0) := (fm_52 39).trans rfl
theorem u_52_39 {S : Scr} {d : Nat} {a0 a1 a2 : AV} {st : List AV} {sh : Shp} {I : IM} {R : RM} {x y : Int} : ev S d 52 39 [a0, a1, a2] (.inl y :: .inl x :: st) (sh, I, R) = if y ≤ x then ev S d 52 49 [a0, a1, a2] st (sh, I, R) else ev S d 52 42 [a0, a1, a2] st (sh, I, R) := (ev_eq f_52_39).trans fin_icmp_ge
theorem f_52_42 : fetch 52 42 = some (42, .aload_n 0, 1, [0], 0) := (fm_52 42).trans rfl
theorem u_52_42 {S : Scr} {d : Nat} {a1 a2 : AV} {st : List AV} {sh : Shp} {I : IM} {R : RM} {x : Nat} : ev S d 52 42 [.inr (.inl x), a1, a2] st (sh, I, R) = ev S d 52 43 [.inr (.inl x), a1, a2] (.inr (.inl x) :: st) (sh, I, R) := (ev_eq f_52_42).trans rfl
theorem f_52_43 : fetch 52 43 = some (43, .getfield 15, 3, [5, 1, 0, 32], 0) := (fm_52 43).trans rfl
theorem u_52_43 {S : Scr} {d : Nat} {a0 a1 a2 : AV} {st : List AV} {sh : Shp} {I : IM} {R : RM} {k : Nat} (h : tg sh k = 5) : ev S d 52 43 [a0, a1, a2] (.inr (.inl k) :: st) (sh, I, R) = ev S d 52 46 [a0, a1, a2] (.inl (I k 1) :: st) (sh, I, R) := (ev_eq f_52_43).trans (congrArg (fin S d 52) (if_pos h))
theorem f_52_46 : fetch 52 46 = some (46, .goto 5, 3, [51], 0) := (fm_52 46).trans rfl
theorem u_52_46 {S : Scr} {d : Nat} {a0 a1 a2 : AV} {st : List AV} {sh : Shp} {I : IM} {R : RM} : ev S d 52 46 [a0, a1, a2] st (sh, I, R) = ev S d 52 51 [a0, a1, a2] st (sh, I, R) := (ev_eq f_52_46).trans rfl
theorem f_52_49 : fetch 52 49 = some (49, .bipush (-2), 2, [], (-2)) := (fm_52 49).trans rfl
theorem u_52_49 {S : Scr} {d : Nat} {a0 a1 a2 : AV} {st : List AV} {sh : Shp} {I : IM} {R : RM} : ev S d 52 49 [a0, a1, a2] st (sh, I, R) = ev S d 52 51 [a0, a1, a2] (.inl (-2) :: st) (sh, I, R) := (ev_eq f_52_49).trans rfl
theorem f_52_51 : fetch 52 51 = some (51, .ireturn, 1, [0], 0) := (fm_52 51).trans rfl
theorem u_52_51 {S : Scr} {d : Nat} {a0 a1 a2 : AV} {sh : Shp} {I : IM} {R : RM} {x : Int} : ev S d 52 51 [a0, a1, a2] [.inl x] (sh, I, R) = some (some (.inl x), (sh, I, R)) := (ev_eq f_52_51).trans fin_iret0
theorem c_53 {d : Nat} {a0 a1 : AV} {M : Mem} : cl (d + 1) 53 [a0, a1] M = ev S0 d 53 0 [a0, a1] [] M := (cl_eq (as := [a0, a1]) (show 2 ≤ maxOf 53 by decide +kernel)).trans rfl
theorem mt_53 : MT[53]? = some m_53 := rfl
theorem fm_53 (pc : Nat) : fetch 53 pc = lk m_53.2.2.2.2.2 pc := by
  unfold fetch
  rw [mt_53]
theorem f_53_0 : fetch 53 0 = some (0, .aload_n 0, 1, [0], 0) := (fm_53 0).trans rfl
theorem u_53_0 {S : Scr} {d : Nat} {a1 : AV} {st : List AV} {sh : Shp} {I : IM} {R : RM} {x : Nat} : ev S d 53 0 [.inr (.inl x), a1] st (sh, I, R) = ev S d 53 1 [.inr (.inl x), a1] (.inr (.inl x) :: st) (sh, I, R) := (ev_eq f_53_0).trans rfl
theorem f_53_1 : fetch 53 1 = some (1, .invokespecial 3, 3, [6], 0) := (fm_53 1).trans rfl
theorem u_53_1 {S : Scr} {d : Nat} {a0 a1 : AV} {st : List AV} {sh : Shp} {I : IM} {R : RM} {k : Nat} (hr : st.length ≤ 8) : ev S d 53 1 [a0, a1] (.inr (.inl k) :: st) (sh, I, R) = ev S d 53 4 [a0, a1] st (sh, I, R) := (ev_eq f_53_1).trans (congrArg (fin S d 53) (if_pos hr))
theorem f_53_4 : fetch 53 4 = some (4, .aload_n 0, 1, [0], 0) := (fm_53 4).trans rfl
theorem u_53_4 {S : Scr} {d : Nat} {a1 : AV} {st : List AV} {sh : Shp} {I : IM} {R : RM} {x : Nat} : ev S d 53 4 [.inr (.inl x), a1] st (sh, I, R) = ev S d 53 5 [.inr (.inl x), a1] (.inr (.inl x) :: st) (sh, I, R) := (ev_eq f_53_4).trans rfl
theorem f_53_5 : fetch 53 5 = some (5, .new 9, 3, [5, 2, 3], 0) := (fm_53 5).trans rfl
theorem f_53_8 : fetch 53 8 = some (8, .dup, 1, [], 0) := (fm_53 8).trans rfl
theorem u_53_8 {S : Scr} {d : Nat} {a0 a1 : AV} {st : List AV} {sh : Shp} {I : IM} {R : RM} {x : AV} : ev S d 53 8 [a0, a1] (x :: st) (sh, I, R) = ev S d 53 9 [a0, a1] (x :: x :: st) (sh, I, R) := (ev_eq f_53_8).trans rfl
theorem f_53_9 : fetch 53 9 = some (9, .invokespecial 11, 3, [44, 0, 46], 0) := (fm_53 9).trans rfl
theorem u_53_9 {S : Scr} {d : Nat} {a0 a1 : AV} {st : List AV} {sh : Shp} {I : IM} {R : RM} {k : Nat} (h : tg sh k = 5) (hr : st.length ≤ 8) : ev S d 53 9 [a0, a1] (.inr (.inl k) :: st) (sh, I, R) = bnd (cl d 44 [.inr (.inl k)] (sh, I, R)) (fun v M => ev S d 53 12 [a0, a1] (psh v st) M) := (ev_eq f_53_9).trans (congrArg (fin S d 53) (if_pos ⟨h, rfl, hr⟩))
theorem f_53_12 : fetch 53 12 = some (12, .putfield 12, 3, [6, 1, 1, 33], 0) := (fm_53 12).trans rfl
theorem u_53_12 {S : Scr} {d : Nat} {a0 a1 : AV} {st : List AV} {sh : Shp} {I : IM} {R : RM} {k v : Nat} (h : tg sh k = 6) : ev S d 53 12 [a0, a1] (.inr (.inl v) :: .inr (.inl k) :: st) (sh, I, R) = ev S d 53 15 [a0, a1] st (sh, I, up R k 1 (some v)) := (ev_eq f_53_12).trans (congrArg (fin S d 53) (if_pos h))
theorem f_53_15 : fetch 53 15 = some (15, .aload_n 0, 1, [0], 0) := (fm_53 15).trans rfl
theorem u_53_15 {S : Scr} {d : Nat} {a1 : AV} {st : List AV} {sh : Shp} {I : IM} {R : RM} {x : Nat} : ev S d 53 15 [.inr (.inl x), a1] st (sh, I, R) = ev S d 53 16 [.inr (.inl x), a1] (.inr (.inl x) :: st) (sh, I, R) := (ev_eq f_53_15).trans rfl
theorem f_53_16 : fetch 53 16 = some (16, .bipush 30, 2, [], 30) := (fm_53 16).trans rfl
theorem u_53_16 {S : Scr} {d : Nat} {a0 a1 : AV} {st : List AV} {sh : Shp} {I : IM} {R : RM} : ev S d 53 16 [a0, a1] st (sh, I, R) = ev S d 53 18 [a0, a1] (.inl 30 :: st) (sh, I, R) := (ev_eq f_53_16).trans rfl
theorem f_53_18 : fetch 53 18 = some (18, .newarray .int, 2, [], 0) := (fm_53 18).trans rfl
theorem f_53_20 : fetch 53 20 = some (20, .putfield 18, 3, [6, 2, 1, 34], 0) := (fm_53 20).trans rfl
theorem u_53_20 {S : Scr} {d : Nat} {a0 a1 : AV} {st : List AV} {sh : Shp} {I : IM} {R : RM} {k v : Nat} (h : tg sh k = 6) : ev S d 53 20 [a0, a1] (.inr (.inl v) :: .inr (.inl k) :: st) (sh, I, R) = ev S d 53 23 [a0, a1] st (sh, I, up R k 2 (some v)) := (ev_eq f_53_20).trans (congrArg (fin S d 53) (if_pos h))
theorem f_53_23 : fetch 53 23 = some (23, .aload_n 0, 1, [0], 0) := (fm_53 23).trans rfl
theorem u_53_23 {S : Scr} {d : Nat} {a1 : AV} {st : List AV} {sh : Shp} {I : IM} {R : RM} {x : Nat} : ev S d 53 23 [.inr (.inl x), a1] st (sh, I, R) = ev S d 53 24 [.inr (.inl x), a1] (.inr (.inl x) :: st) (sh, I, R) := (ev_eq f_53_23).trans rfl
theorem f_53_24 : fetch 53 24 = some (24, .bipush 30, 2, [], 30) := (fm_53 24).trans rfl
theorem u_53_24 {S : Scr} {d : Nat} {a0 a1 : AV} {st : List AV} {sh : Shp} {I : IM} {R : RM} : ev S d 53 24 [a0, a1] st (sh, I, R) = ev S d 53 26 [a0, a1] (.inl 30 :: st) (sh, I, R) := (ev_eq f_53_24).trans rfl
theorem f_53_26 : fetch 53 26 = some (26, .newarray .int, 2, [], 0) := (fm_53 26).trans rfl
theorem f_53_28 : fetch 53 28 = some (28, .putfield 22, 3, [6, 3, 1, 35], 0) := (fm_53 28).trans rfl
theorem u_53_28 {S : Scr} {d : Nat} {a0 a1 : AV} {st : List AV} {sh : Shp} {I : IM} {R : RM} {k v : Nat} (h : tg sh k = 6) : ev S d 53 28 [a0, a1] (.inr (.inl v) :: .inr (.inl k) :: st) (sh, I, R) = ev S d 53 31 [a0, a1] st (sh, I, up R k 3 (some v)) := (ev_eq f_53_28).trans (congrArg (fin S d 53) (if_pos h))
theorem f_53_31 : fetch 53 31 = some (31, .aload_n 0, 1, [0], 0) := (fm_53 31).trans rfl
theorem u_53_31 {S : Scr} {d : Nat} {a1 : AV} {st : List AV} {sh : Shp} {I : IM} {R : RM} {x : Nat} : ev S d 53 31 [.inr (.inl x), a1] st (sh, I, R) = ev S d 53 32 [.inr (.inl x), a1] (.inr (.inl x) :: st) (sh, I, R) := (ev_eq f_53_31).trans rfl
theorem f_53_32 : fetch 53 32 = some (32, .bipush 30, 2, [], 30) := (fm_53 32).trans rfl
theorem u_53_32 {S : Scr} {d : Nat} {a0 a1 : AV} {st : List AV} {sh : Shp} {I : IM} {R : RM} : ev S d 53 32 [a0, a1] st (sh, I, R) = ev S d 53 34 [a0, a1] (.inl 30 :: st) (sh, I, R) := (ev_eq f_53_32).trans rfl
theorem f_53_34 : fetch 53 34 = some (34, .newarray .int, 2, [], 0) := (fm_53 34).trans rfl
theorem f_53_36 : fetch 53 36 = some (36, .putfield 25, 3, [6, 4, 1, 36], 0) := (fm_53 36).trans rfl
theorem u_53_36 {S : Scr} {d : Nat} {a0 a1 : AV} {st : List AV} {sh : Shp} {I : IM} {R : RM} {k v : Nat} (h : tg sh k = 6) : ev S d 53 36 [a0, a1] (.inr (.inl v) :: .inr (.inl k) :: st) (sh, I, R) = ev S d 53 39 [a0, a1] st (sh, I, up R k 4 (some v)) := (ev_eq f_53_36).trans (congrArg (fin S d 53) (if_pos h))
theorem f_53_39 : fetch 53 39 = some (39, .aload_n 0, 1, [0], 0) := (fm_53 39).trans rfl
theorem u_53_39 {S : Scr} {d : Nat} {a1 : AV} {st : List AV} {sh : Shp} {I : IM} {R : RM} {x : Nat} : ev S d 53 39 [.inr (.inl x), a1] st (sh, I, R) = ev S d 53 40 [.inr (.inl x), a1] (.inr (.inl x) :: st) (sh, I, R) := (ev_eq f_53_39).trans rfl
theorem f_53_40 : fetch 53 40 = some (40, .aload_n 1, 1, [1], 0) := (fm_53 40).trans rfl
theorem u_53_40 {S : Scr} {d : Nat} {a0 : AV} {st : List AV} {sh : Shp} {I : IM} {R : RM} {x : Nat} : ev S d 53 40 [a0, .inr (.inl x)] st (sh, I, R) = ev S d 53 41 [a0, .inr (.inl x)] (.inr (.inl x) :: st) (sh, I, R) := (ev_eq f_53_40).trans rfl
theorem u_53_40n {S : Scr} {d : Nat} {a0 : AV} {st : List AV} {sh : Shp} {I : IM} {R : RM} : ev S d 53 40 [a0, .inr (.inr 0)] st (sh, I, R) = ev S d 53 41 [a0, .inr (.inr 0)] (.inr (.inr 0) :: st) (sh, I, R) := (ev_eq f_53_40).trans rfl
theorem f_53_41 : fetch 53 41 = some (41, .putfield 28, 3, [6, 0, 1, 37], 0) := (fm_53 41).trans rfl
theorem u_53_41 {S : Scr} {d : Nat} {a0 a1 : AV} {st : List AV} {sh : Shp} {I : IM} {R : RM} {k v : Nat} (h : tg sh k = 6) : ev S d 53 41 [a0, a1] (.inr (.inl v) :: .inr (.inl k) :: st) (sh, I, R) = ev S d 53 44 [a0, a1] st (sh, I, up R k 0 (some v)) := (ev_eq f_53_41).trans (congrArg (fin S d 53) (if_pos h))
theorem f_53_44 : fetch 53 44 = some (44, .return_, 1, [], 0) := (fm_53 44).trans rfl
theorem u_53_44 {S : Scr} {d : Nat} {a0 a1 : AV} {sh : Shp} {I : IM} {R : RM} : ev S d 53 44 [a0, a1] [] (sh, I, R) = some (none, (sh, I, R)) := (ev_eq f_53_44).trans rfl
theorem c_54 {d : Nat} {a0 : AV} {M : Mem} : cl (d + 1) 54 [a0] M = ev S0 d 54 0 [a0, .inr (.inr 1)] [] M := (cl_eq (as := [a0]) (show 1 ≤ maxOf 54 by decide +kernel)).trans rfl
theorem mt_54 : MT[54]? = some m_54 := rfl
theorem fm_54 (pc : Nat) : fetch 54 pc = lk m_54.2.2.2.2.2 pc := by
  unfold fetch
  rw [mt_54]
theorem f_54_0 : fetch 54 0 = some (0, .aload_n 0, 1, [0], 0) := (fm_54 0).trans rfl
theorem u_54_0 {S : Scr} {d : Nat} {a1 : AV} {st : List AV} {sh : Shp} {I : IM} {R : RM} {x : Nat} : ev S d 54 0 [.inr (.inl x), a1] st (sh, I, R) = ev S d 54 1 [.inr (.inl x), a1] (.inr (.inl x) :: st) (sh, I, R) := (ev_eq f_54_0).trans rfl
theorem f_54_1 : fetch 54 1 = some (1, .iconst 0, 1, [], 0) := (fm_54 1).trans rfl
theorem u_54_1 {S : Scr} {d : Nat} {a0 a1 : AV} {st : List AV} {sh : Shp} {I : IM} {R : RM} : ev S d 54 1 [a0, a1] st (sh, I, R) = ev S d 54 2 [a0, a1] (.inl 0 :: st) (sh, I, R) := (ev_eq f_54_1).trans rfl
theorem f_54_2 : fetch 54 2 = some (2, .putfield 32, 3, [6, 5, 0, 38], 0) := (fm_54 2).trans rfl
theorem u_54_2 {S : Scr} {d : Nat} {a0 a1 : AV} {st : List AV} {sh : Shp} {I : IM} {R : RM} {k : Nat} {x : Int} (h : tg sh k = 6) : ev S d 54 2 [a0, a1] (.inl x :: .inr (.inl k) :: st) (sh, I, R) = ev S d 54 5 [a0, a1] st (sh, up I k 5 x, R) := (ev_eq f_54_2).trans (congrArg (fin S d 54) (if_pos h))
theorem f_54_5 : fetch 54 5 = some (5, .aload_n 0, 1, [0], 0) := (fm_54 5).trans rfl
theorem u_54_5 {S : Scr} {d : Nat} {a1 : AV} {st : List AV} {sh : Shp} {I : IM} {R : RM} {x : Nat} : ev S d 54 5 [.inr (.inl x), a1] st (sh, I, R) = ev S d 54 6 [.inr (.inl x), a1] (.inr (.inl x) :: st) (sh, I, R) := (ev_eq f_54_5).trans rfl
theorem f_54_6 : fetch 54 6 = some (6, .getfield 12, 3, [6, 1, 1, 33], 0) := (fm_54 6).trans rfl
theorem u_54_6 {S : Scr} {d : Nat} {a0 a1 : AV} {st : List AV} {sh : Shp} {I : IM} {R : RM} {k : Nat} (h : tg sh k = 6) : ev S d 54 6 [a0, a1] (.inr (.inl k) :: st) (sh, I, R) = ev S d 54 9 [a0, a1] (rv (R k 1) :: st) (sh, I, R) := (ev_eq f_54_6).trans (congrArg (fin S d 54) (if_pos h))
theorem f_54_9 : fetch 54 9 = some (9, .iconst 0, 1, [], 0) := (fm_54 9).trans rfl
theorem u_54_9 {S : Scr} {d : Nat} {a0 a1 : AV} {st : List AV} {sh : Shp} {I : IM} {R : RM} : ev S d 54 9 [a0, a1] st (sh, I, R) = ev S d 54 10 [a0, a1] (.inl 0 :: st) (sh, I, R) := (ev_eq f_54_9).trans rfl
theorem f_54_10 : fetch 54 10 = some (10, .putfield 36, 3, [5, 1, 0, 39], 0) := (fm_54 10).trans rfl
theorem u_54_10 {S : Scr} {d : Nat} {a0 a1 : AV} {st : List AV} {sh : Shp} {I : IM} {R : RM} {k : Nat} {x : Int} (h : tg sh k = 5) : ev S d 54 10 [a0, a1] (.inl x :: .inr (.inl k) :: st) (sh, I, R) = ev S d 54 13 [a0, a1] st (sh, up I k 1 x, R) := (ev_eq f_54_10).trans (congrArg (fin S d 54) (if_pos h))
theorem f_54_13 : fetch 54 13 = some (13, .iconst 0, 1, [], 0) := (fm_54 13).trans rfl
theorem u_54_13 {S : Scr} {d : Nat} {a0 a1 : AV} {st : List AV} {sh : Shp} {I : IM} {R : RM} : ev S d 54 13 [a0, a1] st (sh, I, R) = ev S d 54 14 [a0, a1] (.inl 0 :: st) (sh, I, R) := (ev_eq f_54_13).trans rfl
theorem f_54_14 : fetch 54 14 = some (14, .istore_n 1, 1, [1], 0) := (fm_54 14).trans rfl
theorem u_54_14 {S : Scr} {d : Nat} {a0 a1 : AV} {st : List AV} {sh : Shp} {I : IM} {R : RM} {x : Int} : ev S d 54 14 [a0, a1] (.inl x :: st) (sh, I, R) = ev S d 54 15 [a0, .inl x] st (sh, I, R) := (ev_eq f_54_14).trans rfl
theorem f_54_15 : fetch 54 15 = some (15, .iload_n 1, 1, [1], 0) := (fm_54 15).trans rfl
theorem u_54_15 {S : Scr} {d : Nat} {a0 : AV} {st : List AV} {sh : Shp} {I : IM} {R : RM} {x : Int} : ev S d 54 15 [a0, .inl x] st (sh, I, R) = ev S d 54 16 [a0, .inl x] (.inl x :: st) (sh, I, R) := (ev_eq f_54_15).trans rfl
theorem f_54_16 : fetch 54 16 = some (16, .bipush 30, 2, [], 30) := (fm_54 16).trans rfl
theorem u_54_16 {S : Scr} {d : Nat} {a0 a1 : AV} {st : List AV} {sh : Shp} {I : IM} {R : RM} : ev S d 54 16 [a0, a1] st (sh, I, R) = ev S d 54 18 [a0, a1] (.inl 30 :: st) (sh, I, R) := (ev_eq f_54_16).trans rfl
theorem f_54_18 : fetch 54 18 = some (18, .if_icmp .ge 16, 3, [34], 0) := (fm_54 18).trans rfl
theorem u_54_18 {S : Scr} {d : Nat} {a0 a1 : AV} {st : List AV} {sh : Shp} {I : IM} {R : RM} {x y : Int} : ev S d 54 18 [a0, a1] (.inl y :: .inl x :: st) (sh, I, R) = if y ≤ x then ev S d 54 34 [a0, a1] st (sh, I, R) else ev S d 54 21 [a0, a1] st (sh, I, R) := (ev_eq f_54_18).trans fin_icmp_ge
theorem f_54_21 : fetch 54 21 = some (21, .aload_n 0, 1, [0], 0) := (fm_54 21).trans rfl
theorem u_54_21 {S : Scr} {d : Nat} {a1 : AV} {st : List AV} {sh : Shp} {I : IM} {R : RM} {x : Nat} : ev S d 54 21 [.inr (.inl x), a1] st (sh, I, R) = ev S d 54 22 [.inr (.inl x), a1] (.inr (.inl x) :: st) (sh, I, R) := (ev_eq f_54_21).trans rfl
theorem f_54_22 : fetch 54 22 = some (22, .getfield 18, 3, [6, 2, 1, 34], 0) := (fm_54 22).trans rfl
theorem u_54_22 {S : Scr} {d : Nat} {a0 a1 : AV} {st : List AV} {sh : Shp} {I : IM} {R : RM} {k : Nat} (h : tg sh k = 6) : ev S d 54 22 [a0, a1] (.inr (.inl k) :: st) (sh, I, R) = ev S d 54 25 [a0, a1] (rv (R k 2) :: st) (sh, I, R) := (ev_eq f_54_22).trans (congrArg (fin S d 54) (if_pos h))
theorem f_54_25 : fetch 54 25 = some (25, .iload_n 1, 1, [1], 0) := (fm_54 25).trans rfl
theorem u_54_25 {S : Scr} {d : Nat} {a0 : AV} {st : List AV} {sh : Shp} {I : IM} {R : RM} {x : Int} : ev S d 54 25 [a0, .inl x] st (sh, I, R) = ev S d 54 26 [a0, .inl x] (.inl x :: st) (sh, I, R) := (ev_eq f_54_25).trans rfl
theorem f_54_26 : fetch 54 26 = some (26, .iconst (-1), 1, [], (-1)) := (fm_54 26).trans rfl
theorem u_54_26 {S : Scr} {d : Nat} {a0 a1 : AV} {st : List AV} {sh : Shp} {I : IM} {R : RM} : ev S d 54 26 [a0, a1] st (sh, I, R) = ev S d 54 27 [a0, a1] (.inl (-1) :: st) (sh, I, R) := (ev_eq f_54_26).trans rfl
theorem f_54_27 : fetch 54 27 = some (27, .iastore, 1, [], 0) := (fm_54 27).trans rfl
theorem u_54_27 {S : Scr} {d : Nat} {a0 a1 : AV} {st : List AV} {sh : Shp} {I : IM} {R : RM} {k : Nat} {i x : Int} (h : tg sh k = 100) (h0 : 0 ≤ i) (h1 : i < ln sh k) : ev S d 54 27 [a0, a1] (.inl x :: .inl i :: .inr (.inl k) :: st) (sh, I, R) = ev S d 54 28 [a0, a1] st (sh, up I k i x, R) := (ev_eq f_54_27).trans (congrArg (fin S d 54) (if_pos ⟨h, h0, h1⟩))
theorem f_54_28 : fetch 54 28 = some (28, .iinc 1 1, 3, [1], 1) := (fm_54 28).trans rfl
theorem u_54_28 {S : Scr} {d : Nat} {a0 : AV} {st : List AV} {sh : Shp} {I : IM} {R : RM} {x : Int} : ev S d 54 28 [a0, .inl x] st (sh, I, R) = ev S d 54 31 [a0, .inl (wr (x + 1))] st (sh, I, R) := (ev_eq f_54_28).trans rfl
theorem f_54_31 : fetch 54 31 = some (31, .goto (-16), 3, [15], 0) := (fm_54 31).trans rfl
theorem u_54_31 {S : Scr} {d : Nat} {a0 a1 : AV} {st : List AV} {sh : Shp} {I : IM} {R : RM} : ev S d 54 31 [a0, a1] st (sh, I, R) = ev S d 54 15 [a0, a1] st (sh, I, R) := (ev_eq f_54_31).trans rfl
theorem f_54_34 : fetch 54 34 = some (34, .return_, 1, [], 0) := (fm_54 34).trans rfl
theorem u_54_34 {S : Scr} {d : Nat} {a0 a1 : AV} {sh : Shp} {I : IM} {R : RM} : ev S d 54 34 [a0, a1] [] (sh, I, R) = some (none, (sh, I, R)) := (ev_eq f_54_34).trans rfl
theorem c_55 {d : Nat} {a0 a1 : AV} {M : Mem} : cl (d + 1) 55 [a0, a1] M = ev S0 d 55 0 [a0, a1] [] M := (cl_eq (as := [a0, a1]) (show 2 ≤ maxOf 55 by decide +kernel)).trans rfl
theorem mt_55 : MT[55]? = some m_55 := rfl
theorem fm_55 (pc : Nat) : fetch 55 pc = lk m_55.2.2.2.2.2 pc := by
  unfold fetch
  rw [mt_55]
theorem f_55_0 : fetch 55 0 = some (0, .aload_n 0, 1, [0], 0) := (fm_55 0).trans rfl
theorem u_55_0 {S : Scr} {d : Nat} {a1 : AV} {st : List AV} {sh : Shp} {I : IM} {R : RM} {x : Nat} : ev S d 55 0 [.inr (.inl x), a1] st (sh, I, R) = ev S d 55 1 [.inr (.inl x), a1] (.inr (.inl x) :: st) (sh, I, R) := (ev_eq f_55_0).trans rfl
theorem f_55_1 : fetch 55 1 = some (1, .iload_n 1, 1, [1], 0) := (fm_55 1).trans rfl
theorem u_55_1 {S : Scr} {d : Nat} {a0 : AV} {st : List AV} {sh : Shp} {I : IM} {R : RM} {x : Int} : ev S d 55 1 [a0, .inl x] st (sh, I, R) = ev S d 55 2 [a0, .inl x] (.inl x :: st) (sh, I, R) := (ev_eq f_55_1).trans rfl
theorem f_55_2 : fetch 55 2 = some (2, .iconst 0, 1, [], 0) := (fm_55 2).trans rfl
theorem u_55_2 {S : Scr} {d : Nat} {a0 a1 : AV} {st : List AV} {sh : Shp} {I : IM} {R : RM} : ev S d 55 2 [a0, a1] st (sh, I, R) = ev S d 55 3 [a0, a1] (.inl 0 :: st) (sh, I, R) := (ev_eq f_55_2).trans rfl
theorem f_55_3 : fetch 55 3 = some (3, .invokevirtual 39, 3, [58, 2, 47], 0) := (fm_55 3).trans rfl
theorem u_55_3 {S : Scr} {d : Nat} {a0 a1 : AV} {st : List AV} {sh : Shp} {I : IM} {R : RM} {x0 : Int} {x1 : Int} {k : Nat} (h : tg sh k = 6) (hr : st.length ≤ 8) : ev S d 55 3 [a0, a1] (.inl x1 :: .inl x0 :: .inr (.inl k) :: st) (sh, I, R) = bnd (cl d 58 [.inr (.inl k), .inl x0, .inl x1] (sh, I, R)) (fun v M => ev S d 55 6 [a0, a1] (psh v st) M) := (ev_eq f_55_3).trans (congrArg (fin S d 55) (if_pos ⟨h, rfl, hr⟩))
theorem f_55_6 : fetch 55 6 = some (6, .return_, 1, [], 0) := (fm_55 6).trans rfl
theorem u_55_6 {S : Scr} {d : Nat} {a0 a1 : AV} {sh : Shp} {I : IM} {R : RM} : ev S d 55 6 [a0, a1] [] (sh, I, R) = some (none, (sh, I, R)) := (ev_eq f_55_6).trans rfl
theorem c_56 {d : Nat} {a0 a1 : AV} {M : Mem} : cl (d + 1) 56 [a0, a1] M = ev S0 d 56 0 [a0, a1] [] M := (cl_eq (as := [a0, a1]) (show 2 ≤ maxOf 56 by decide +kernel)).trans rfl
theorem mt_56 : MT[56]? = some m_56 := rfl
theorem fm_56 (pc : Nat) : fetch 56 pc = lk m_56.2.2.2.2.2 pc := by
  unfold fetch
  rw [mt_56]
theorem f_56_0 : fetch 56 0 = some (0, .aload_n 0, 1, [0], 0) := (fm_56 0).trans rfl
theorem u_56_0 {S : Scr} {d : Nat} {a1 : AV} {st : List AV} {sh : Shp} {I : IM} {R : RM} {x : Nat} : ev S d 56 0 [.inr (.inl x), a1] st (sh, I, R) = ev S d 56 1 [.inr (.inl x), a1] (.inr (.inl x) :: st) (sh, I, R) := (ev_eq f_56_0).trans rfl
theorem f_56_1 : fetch 56 1 = some (1, .invokevirtual 43, 3, [54, 0, 48], 0) := (fm_56 1).trans rfl
theorem u_56_1 {S : Scr} {d : Nat} {a0 a1 : AV} {st : List AV} {sh : Shp} {I : IM} {R : RM} {k : Nat} (h : tg sh k = 6) (hr : st.length ≤ 8) : ev S d 56 1 [a0, a1] (.inr (.inl k) :: st) (sh, I, R) = bnd (cl d 54 [.inr (.inl k)] (sh, I, R)) (fun v M => ev S d 56 4 [a0, a1] (psh v st) M) := (ev_eq f_56_1).trans (congrArg (fin S d 56) (if_pos ⟨h, rfl, hr⟩))
theorem f_56_4 : fetch 56 4 = some (4, .aload_n 0, 1, [0], 0) := (fm_56 4).trans rfl
theorem u_56_4 {S : Scr} {d : Nat} {a1 : AV} {st : List AV} {sh : Shp} {I : IM} {R : RM} {x : Nat} : ev S d 56 4 [.inr (.inl x), a1] st (sh, I, R) = ev S d 56 5 [.inr (.inl x), a1] (.inr (.inl x) :: st) (sh, I, R) := (ev_eq f_56_4).trans rfl
theorem f_56_5 : fetch 56 5 = some (5, .iload_n 1, 1, [1], 0) := (fm_56 5).trans rfl
theorem u_56_5 {S : Scr} {d : Nat} {a0 : AV} {st : List AV} {sh : Shp} {I : IM} {R : RM} {x : Int} : ev S d 56 5 [a0, .inl x] st (sh, I, R) = ev S d 56 6 [a0, .inl x] (.inl x :: st) (sh, I, R) := (ev_eq f_56_5).trans rfl
theorem f_56_6 : fetch 56 6 = some (6, .invokevirtual 46, 3, [55, 1, 49], 0) := (fm_56 6).trans rfl
theorem u_56_6 {S : Scr} {d : Nat} {a0 a1 : AV} {st : List AV} {sh : Shp} {I : IM} {R : RM} {x0 : Int} {k : Nat} (h : tg sh k = 6) (hr : st.length ≤ 8) : ev S d 56 6 [a0, a1] (.inl x0 :: .inr (.inl k) :: st) (sh, I, R) = bnd (cl d 55 [.inr (.inl k), .inl x0] (sh, I, R)) (fun v M => ev S d 56 9 [a0, a1] (psh v st) M) := (ev_eq f_56_6).trans (congrArg (fin S d 56) (if_pos ⟨h, rfl, hr⟩))
theorem f_56_9 : fetch 56 9 = some (9, .return_, 1, [], 0) := (fm_56 9).trans rfl
theorem u_56_9 {S : Scr} {d : Nat} {a0 a1 : AV} {sh : Shp} {I : IM} {R : RM} : ev S d 56 9 [a0, a1] [] (sh, I, R) = some (none, (sh, I, R)) := (ev_eq f_56_9).trans rfl
theorem c_57 {d : Nat} {a0 a1 : AV} {M : Mem} : cl (d + 1) 57 [a0, a1] M = ev S0 d 57 0 [a0, a1] [] M := (cl_eq (as := [a0, a1]) (show 2 ≤ maxOf 57 by decide +kernel)).trans rfl
theorem mt_57 : MT[57]? = some m_57 := rfl
theorem fm_57 (pc : Nat) : fetch 57 pc = lk m_57.2.2.2.2.2 pc := by
  unfold fetch
  rw [mt_57]
theorem f_57_0 : fetch 57 0 = some (0, .iload_n 1, 1, [1], 0) := (fm_57 0).trans rfl
theorem u_57_0 {S : Scr} {d : Nat} {a0 : AV} {st : List AV} {sh : Shp} {I : IM} {R : RM} {x : Int} : ev S d 57 0 [a0, .inl x] st (sh, I, R) = ev S d 57 1 [a0, .inl x] (.inl x :: st) (sh, I, R) := (ev_eq f_57_0).trans rfl
theorem f_57_1 : fetch 57 1 = some (1, .ifCond .lt 23, 3, [24], 0) := (fm_57 1).trans rfl
theorem u_57_1 {S : Scr} {d : Nat} {a0 a1 : AV} {st : List AV} {sh : Shp} {I : IM} {R : RM} {x : Int} : ev S d 57 1 [a0, a1] (.inl x :: st) (sh, I, R) = if x < 0 then ev S d 57 24 [a0, a1] st (sh, I, R) else ev S d 57 4 [a0, a1] st (sh, I, R) := (ev_eq f_57_1).trans fin_if_lt
theorem f_57_4 : fetch 57 4 = some (4, .iload_n 1, 1, [1], 0) := (fm_57 4).trans rfl
theorem u_57_4 {S : Scr} {d : Nat} {a0 : AV} {st : List AV} {sh : Shp} {I : IM} {R : RM} {x : Int} : ev S d 57 4 [a0, .inl x] st (sh, I, R) = ev S d 57 5 [a0, .inl x] (.inl x :: st) (sh, I, R) := (ev_eq f_57_4).trans rfl
theorem f_57_5 : fetch 57 5 = some (5, .bipush 30, 2, [], 30) := (fm_57 5).trans rfl
theorem u_57_5 {S : Scr} {d : Nat} {a0 a1 : AV} {st : List AV} {sh : Shp} {I : IM} {R : RM} : ev S d 57 5 [a0, a1] st (sh, I, R) = ev S d 57 7 [a0, a1] (.inl 30 :: st) (sh, I, R) := (ev_eq f_57_5).trans rfl
theorem f_57_7 : fetch 57 7 = some (7, .if_icmp .ge 17, 3, [24], 0) := (fm_57 7).trans rfl
theorem u_57_7 {S : Scr} {d : Nat} {a0 a1 : AV} {st : List AV} {sh : Shp} {I : IM} {R : RM} {x y : Int} : ev S d 57 7 [a0, a1] (.inl y :: .inl x :: st) (sh, I, R) = if y ≤ x then ev S d 57 24 [a0, a1] st (sh, I, R) else ev S d 57 10 [a0, a1] st (sh, I, R) := (ev_eq f_57_7).trans fin_icmp_ge
theorem f_57_10 : fetch 57 10 = some (10, .aload_n 0, 1, [0], 0) := (fm_57 10).trans rfl
theorem u_57_10 {S : Scr} {d : Nat} {a1 : AV} {st : List AV} {sh : Shp} {I : IM} {R : RM} {x : Nat} : ev S d 57 10 [.inr (.inl x), a1] st (sh, I, R) = ev S d 57 11 [.inr (.inl x), a1] (.inr (.inl x) :: st) (sh, I, R) := (ev_eq f_57_10).trans rfl
theorem f_57_11 : fetch 57 11 = some (11, .getfield 18, 3, [6, 2, 1, 34], 0) := (fm_57 11).trans rfl
theorem u_57_11 {S : Scr} {d : Nat} {a0 a1 : AV} {st : List AV} {sh : Shp} {I : IM} {R : RM} {k : Nat} (h : tg sh k = 6) : ev S d 57 11 [a0, a1] (.inr (.inl k) :: st) (sh, I, R) = ev S d 57 14 [a0, a1] (rv (R k 2) :: st) (sh, I, R) := (ev_eq f_57_11).trans (congrArg (fin S d 57) (if_pos h))
theorem f_57_14 : fetch 57 14 = some (14, .iload_n 1, 1, [1], 0) := (fm_57 14).trans rfl
theorem u_57_14 {S : Scr} {d : Nat} {a0 : AV} {st : List AV} {sh : Shp} {I : IM} {R : RM} {x : Int} : ev S d 57 14 [a0, .inl x] st (sh, I, R) = ev S d 57 15 [a0, .inl x] (.inl x :: st) (sh, I, R) := (ev_eq f_57_14).trans rfl
theorem f_57_15 : fetch 57 15 = some (15, .iaload, 1, [], 0) := (fm_57 15).trans rfl
theorem u_57_15 {S : Scr} {d : Nat} {a0 a1 : AV} {st : List AV} {sh : Shp} {I : IM} {R : RM} {k : Nat} {i : Int} (h : tg sh k = 100) (h0 : 0 ≤ i) (h1 : i < ln sh k) : ev S d 57 15 [a0, a1] (.inl i :: .inr (.inl k) :: st) (sh, I, R) = ev S d 57 16 [a0, a1] (.inl (I k i) :: st) (sh, I, R) := (ev_eq f_57_15).trans (congrArg (fin S d 57) (if_pos ⟨h, h0, h1⟩))
theorem f_57_16 : fetch 57 16 = some (16, .iconst (-1), 1, [], (-1)) := (fm_57 16).trans rfl
theorem u_57_16 {S : Scr} {d : Nat} {a0 a1 : AV} {st : List AV} {sh : Shp} {I : IM} {R : RM} : ev S d 57 16 [a0, a1] st (sh, I, R) = ev S d 57 17 [a0, a1] (.inl (-1) :: st) (sh, I, R) := (ev_eq f_57_16).trans rfl
theorem f_57_17 : fetch 57 17 = some (17, .if_icmp .eq 7, 3, [24], 0) := (fm_57 17).trans rfl
theorem u_57_17 {S : Scr} {d : Nat} {a0 a1 : AV} {st : List AV} {sh : Shp} {I : IM} {R : RM} {x y : Int} : ev S d 57 17 [a0, a1] (.inl y :: .inl x :: st) (sh, I, R) = if x = y then ev S d 57 24 [a0, a1] st (sh, I, R) else ev S d 57 20 [a0, a1] st (sh, I, R) := (ev_eq f_57_17).trans fin_icmp_eq
theorem f_57_20 : fetch 57 20 = some (20, .iconst 1, 1, [], 1) := (fm_57 20).trans rfl
theorem u_57_20 {S : Scr} {d : Nat} {a0 a1 : AV} {st : List AV} {sh : Shp} {I : IM} {R : RM} : ev S d 57 20 [a0, a1] st (sh, I, R) = ev S d 57 21 [a0, a1] (.inl 1 :: st) (sh, I, R) := (ev_eq f_57_20).trans rfl
theorem f_57_21 : fetch 57 21 = some (21, .goto 4, 3, [25], 0) := (fm_57 21).trans rfl
theorem u_57_21 {S : Scr} {d : Nat} {a0 a1 : AV} {st : List AV} {sh : Shp} {I : IM} {R : RM} : ev S d 57 21 [a0, a1] st (sh, I, R) = ev S d 57 25 [a0, a1] st (sh, I, R) := (ev_eq f_57_21).trans rfl
theorem f_57_24 : fetch 57 24 = some (24, .iconst 0, 1, [], 0) := (fm_57 24).trans rfl
theorem u_57_24 {S : Scr} {d : Nat} {a0 a1 : AV} {st : List AV} {sh : Shp} {I : IM} {R : RM} : ev S d 57 24 [a0, a1] st (sh, I, R) = ev S d 57 25 [a0, a1] (.inl 0 :: st) (sh, I, R) := (ev_eq f_57_24).trans rfl
theorem f_57_25 : fetch 57 25 = some (25, .ireturn, 1, [1], 0) := (fm_57 25).trans rfl
theorem u_57_25 {S : Scr} {d : Nat} {a0 a1 : AV} {sh : Shp} {I : IM} {R : RM} {x : Int} (h : x = 0 ∨ x = 1) : ev S d 57 25 [a0, a1] [.inl x] (sh, I, R) = some (some (.inl x), (sh, I, R)) := (ev_eq f_57_25).trans (fin_iret1 h)
theorem c_58 {d : Nat} {a0 a1 a2 : AV} {M : Mem} : cl (d + 1) 58 [a0, a1, a2] M = ev S0 d 58 0 [a0, a1, a2, .inr (.inr 1), .inr (.inr 1)] [] M := (cl_eq (as := [a0, a1, a2]) (show 3 ≤ maxOf 58 by decide +kernel)).trans rfl
theorem mt_58 : MT[58]? = some m_58 := rfl
theorem fm_58 (pc : Nat) : fetch 58 pc = lk m_58.2.2.2.2.2 pc := by
  unfold fetch
  rw [mt_58]
theorem f_58_0 : fetch 58 0 = some (0, .aload_n 0, 1, [0], 0) := (fm_58 0).trans rfl
theorem u_58_0 {S : Scr} {d : Nat} {a1 a2 a3 a4 : AV} {st : List AV} {sh : Shp} {I : IM} {R : RM} {x : Nat} : ev S d 58 0 [.inr (.inl x), a1, a2, a3, a4] st (sh, I, R) = ev S d 58 1 [.inr (.inl x), a1, a2, a3, a4] (.inr (.inl x) :: st) (sh, I, R) := (ev_eq f_58_0).trans rfl
theorem f_58_1 : fetch 58 1 = some (1, .getfield 28, 3, [6, 0, 1, 37], 0) := (fm_58 1).trans rfl
theorem u_58_1 {S : Scr} {d : Nat} {a0 a1 a2 a3 a4 : AV} {st : List AV} {sh : Shp} {I : IM} {R : RM} {k : Nat} (h : tg sh k = 6) : ev S d 58 1 [a0, a1, a2, a3, a4] (.inr (.inl k) :: st) (sh, I, R) = ev S d 58 4 [a0, a1, a2, a3, a4] (rv (R k 0) :: st) (sh, I, R) := (ev_eq f_58_1).trans (congrArg (fin S d 58) (if_pos h))
theorem f_58_4 : fetch 58 4 = some (4, .iload_n 1, 1, [1], 0) := (fm_58 4).trans rfl
theorem u_58_4 {S : Scr} {d : Nat} {a0 a2 a3 a4 : AV} {st : List AV} {sh : Shp} {I : IM} {R : RM} {x : Int} : ev S d 58 4 [a0, .inl x, a2, a3, a4] st (sh, I, R) = ev S d 58 5 [a0, .inl x, a2, a3, a4] (.inl x :: st) (sh, I, R) := (ev_eq f_58_4).trans rfl
theorem f_58_5 : fetch 58 5 = some (5, .invokevirtual 50, 3, [68, 1, 50], 0) := (fm_58 5).trans rfl
theorem u_58_5 {S : Scr} {d : Nat} {a0 a1 a2 a3 a4 : AV} {st : List AV} {sh : Shp} {I : IM} {R : RM} {x0 : Int} {k : Nat} (h : tg sh k = 7) (hr : st.length ≤ 8) : ev S d 58 5 [a0, a1, a2, a3, a4] (.inl x0 :: .inr (.inl k) :: st) (sh, I, R) = bnd (cl d 68 [.inr (.inl k), .inl x0] (sh, I, R)) (fun v M => ev S d 58 8 [a0, a1, a2, a3, a4] (psh v st) M) := (ev_eq f_58_5).trans (congrArg (fin S d 58) (if_pos ⟨h, rfl, hr⟩))
theorem f_58_8 : fetch 58 8 = some (8, .astore_n 3, 1, [3], 0) := (fm_58 8).trans rfl
theorem u_58_8 {S : Scr} {d : Nat} {a0 a1 a2 a3 a4 : AV} {st : List AV} {sh : Shp} {I : IM} {R : RM} {x : Nat} : ev S d 58 8 [a0, a1, a2, a3, a4] (.inr (.inl x) :: st) (sh, I, R) = ev S d 58 9 [a0, a1, a2, .inr (.inl x), a4] st (sh, I, R) := (ev_eq f_58_8).trans rfl
theorem u_58_8n {S : Scr} {d : Nat} {a0 a1 a2 a3 a4 : AV} {st : List AV} {sh : Shp} {I : IM} {R : RM} : ev S d 58 8 [a0, a1, a2, a3, a4] (.inr (.inr 0) :: st) (sh, I, R) = ev S d 58 9 [a0, a1, a2, .inr (.inr 0), a4] st (sh, I, R) := (ev_eq f_58_8).trans rfl
theorem f_58_9 : fetch 58 9 = some (9, .aload_n 3, 1, [3], 0) := (fm_58 9).trans rfl
theorem u_58_9 {S : Scr} {d : Nat} {a0 a1 a2 a4 : AV} {st : List AV} {sh : Shp} {I : IM} {R : RM} {x : Nat} : ev S d 58 9 [a0, a1, a2, .inr (.inl x), a4] st (sh, I, R) = ev S d 58 10 [a0, a1, a2, .inr (.inl x), a4] (.inr (.inl x) :: st) (sh, I, R) := (ev_eq f_58_9).trans rfl
theorem u_58_9n {S : Scr} {d : Nat} {a0 a1 a2 a4 : AV} {st : List AV} {sh : Shp} {I : IM} {R : RM} : ev S d 58 9 [a0, a1, a2, .inr (.inr 0), a4] st (sh, I, R) = ev S d 58 10 [a0, a1, a2, .inr (.inr 0), a4] (.inr (.inr 0) :: st) (sh, I, R) := (ev_eq f_58_9).trans rfl
theorem f_58_10 : fetch 58 10 = some (10, .ifnonnull 13, 3, [23], 0) := (fm_58 10).trans rfl
theorem u_58_10 {S : Scr} {d : Nat} {a0 a1 a2 a3 a4 : AV} {st : List AV} {sh : Shp} {I : IM} {R : RM} {x : Nat} : ev S d 58 10 [a0, a1, a2, a3, a4] (.inr (.inl x) :: st) (sh, I, R) = ev S d 58 23 [a0, a1, a2, a3, a4] st (sh, I, R) := (ev_eq f_58_10).trans rfl
theorem u_58_10n {S : Scr} {d : Nat} {a0 a1 a2 a3 a4 : AV} {st : List AV} {sh : Shp} {I : IM} {R : RM} : ev S d 58 10 [a0, a1, a2, a3, a4] (.inr (.inr 0) :: st) (sh, I, R) = ev S d 58 13 [a0, a1, a2, a3, a4] st (sh, I, R) := (ev_eq f_58_10).trans rfl
theorem f_58_13 : fetch 58 13 = some (13, .aload_n 0, 1, [0], 0) := (fm_58 13).trans rfl
theorem u_58_13 {S : Scr} {d : Nat} {a1 a2 a3 a4 : AV} {st : List AV} {sh : Shp} {I : IM} {R : RM} {x : Nat} : ev S d 58 13 [.inr (.inl x), a1, a2, a3, a4] st (sh, I, R) = ev S d 58 14 [.inr (.inl x), a1, a2, a3, a4] (.inr (.inl x) :: st) (sh, I, R) := (ev_eq f_58_13).trans rfl
theorem f_58_14 : fetch 58 14 = some (14, .getfield 12, 3, [6, 1, 1, 33], 0) := (fm_58 14).trans rfl
theorem u_58_14 {S : Scr} {d : Nat} {a0 a1 a2 a3 a4 : AV} {st : List AV} {sh : Shp} {I : IM} {R : RM} {k : Nat} (h : tg sh k = 6) : ev S d 58 14 [a0, a1, a2, a3, a4] (.inr (.inl k) :: st) (sh, I, R) = ev S d 58 17 [a0, a1, a2, a3, a4] (rv (R k 1) :: st) (sh, I, R) := (ev_eq f_58_14).trans (congrArg (fin S d 58) (if_pos h))
theorem f_58_17 : fetch 58 17 = some (17, .bipush 45, 2, [], 45) := (fm_58 17).trans rfl
theorem u_58_17 {S : Scr} {d : Nat} {a0 a1 a2 a3 a4 : AV} {st : List AV} {sh : Shp} {I : IM} {R : RM} : ev S d 58 17 [a0, a1, a2, a3, a4] st (sh, I, R) = ev S d 58 19 [a0, a1, a2, a3, a4] (.inl 45 :: st) (sh, I, R) := (ev_eq f_58_17).trans rfl
theorem f_58_19 : fetch 58 19 = some (19, .invokevirtual 56, 3, [50, 1, 51], 0) := (fm_58 19).trans rfl
theorem u_58_19 {S : Scr} {d : Nat} {a0 a1 a2 a3 a4 : AV} {st : List AV} {sh : Shp} {I : IM} {R : RM} {x0 : Int} {k : Nat} (h : tg sh k = 5) (hr : st.length ≤ 8) : ev S d 58 19 [a0, a1, a2, a3, a4] (.inl x0 :: .inr (.inl k) :: st) (sh, I, R) = bnd (cl d 50 [.inr (.inl k), .inl x0] (sh, I, R)) (fun v M => ev S d 58 22 [a0, a1, a2, a3, a4] (psh v st) M) := (ev_eq f_58_19).trans (congrArg (fin S d 58) (if_pos ⟨h, rfl, hr⟩))
theorem f_58_22 : fetch 58 22 = some (22, .return_, 1, [], 0) := (fm_58 22).trans rfl
theorem u_58_22 {S : Scr} {d : Nat} {a0 a1 a2 a3 a4 : AV} {sh : Shp} {I : IM} {R : RM} : ev S d 58 22 [a0, a1, a2, a3, a4] [] (sh, I, R) = some (none, (sh, I, R)) := (ev_eq f_58_22).trans rfl
theorem f_58_23 : fetch 58 23 = some (23, .aload_n 0, 1, [0], 0) := (fm_58 23).trans rfl
theorem u_58_23 {S : Scr} {d : Nat} {a1 a2 a3 a4 : AV} {st : List AV} {sh : Shp} {I : IM} {R : RM} {x : Nat} : ev S d 58 23 [.inr (.inl x), a1, a2, a3, a4] st (sh, I, R) = ev S d 58 24 [.inr (.inl x), a1, a2, a3, a4] (.inr (.inl x) :: st) (sh, I, R) := (ev_eq f_58_23).trans rfl
theorem f_58_24 : fetch 58 24 = some (24, .iload_n 1, 1, [1], 0) := (fm_58 24).trans rfl
theorem u_58_24 {S : Scr} {d : Nat} {a0 a2 a3 a4 : AV} {st : List AV} {sh : Shp} {I : IM} {R : RM} {x : Int} : ev S d 58 24 [a0, .inl x, a2, a3, a4] st (sh, I, R) = ev S d 58 25 [a0, .inl x, a2, a3, a4] (.inl x :: st) (sh, I, R) := (ev_eq f_58_24).trans rfl
theorem f_58_25 : fetch 58 25 = some (25, .invokevirtual 59, 3, [57, 1, 52], 0) := (fm_58 25).trans rfl
theorem u_58_25 {S : Scr} {d : Nat} {a0 a1 a2 a3 a4 : AV} {st : List AV} {sh : Shp} {I : IM} {R : RM} {x0 : Int} {k : Nat} (h : tg sh k = 6) (hr : st.length ≤ 8) : ev S d 58 25 [a0, a1, a2, a3, a4] (.inl x0 :: .inr (.inl k) :: st) (sh, I, R) = bnd (cl d 57 [.inr (.inl k), .inl x0] (sh, I, R)) (fun v M => ev S d 58 28 [a0, a1, a2, a3, a4] (psh v st) M) := (ev_eq f_58_25).trans (congrArg (fin S d 58) (if_pos ⟨h, rfl, hr⟩))
theorem f_58_28 : fetch 58 28 = some (28, .ifCond .eq 29, 3, [57], 0) := (fm_58 28).trans rfl
theorem u_58_28 {S : Scr} {d : Nat} {a0 a1 a2 a3 a4 : AV} {st : List AV} {sh : Shp} {I : IM} {R : RM} {x : Int} : ev S d 58 28 [a0, a1, a2, a3, a4] (.inl x :: st) (sh, I, R) = if x = 0 then ev S d 58 57 [a0, a1, a2, a3, a4] st (sh, I, R) else ev S d 58 31 [a0, a1, a2, a3, a4] st (sh, I, R) := (ev_eq f_58_28).trans fin_if_eq
theorem f_58_31 : fetch 58 31 = some (31, .aload_n 0, 1, [0], 0) := (fm_58 31).trans rfl
theorem u_58_31 {S : Scr} {d : Nat} {a1 a2 a3 a4 : AV} {st : List AV} {sh : Shp} {I : IM} {R : RM} {x : Nat} : ev S d 58 31 [.inr (.inl x), a1, a2, a3, a4] st (sh, I, R) = ev S d 58 32 [.inr (.inl x), a1, a2, a3, a4] (.inr (.inl x) :: st) (sh, I, R) := (ev_eq f_58_31).trans rfl
theorem f_58_32 : fetch 58 32 = some (32, .getfield 12, 3, [6, 1, 1, 33], 0) := (fm_58 32).trans rfl
theorem u_58_32 {S : Scr} {d : Nat} {a0 a1 a2 a3 a4 : AV} {st : List AV} {sh : Shp} {I : IM} {R : RM} {k : Nat} (h : tg sh k = 6) : ev S d 58 32 [a0, a1, a2, a3, a4] (.inr (.inl k) :: st) (sh, I, R) = ev S d 58 35 [a0, a1, a2, a3, a4] (rv (R k 1) :: st) (sh, I, R) := (ev_eq f_58_32).trans (congrArg (fin S d 58) (if_pos h))
theorem f_58_35 : fetch 58 35 = some (35, .bipush 35, 2, [], 35) := (fm_58 35).trans rfl
theorem u_58_35 {S : Scr} {d : Nat} {a0 a1 a2 a3 a4 : AV} {st : List AV} {sh : Shp} {I : IM} {R : RM} : ev S d 58 35 [a0, a1, a2, a3, a4] st (sh, I, R) = ev S d 58 37 [a0, a1, a2, a3, a4] (.inl 35 :: st) (sh, I, R) := (ev_eq f_58_35).trans rfl
theorem f_58_37 : fetch 58 37 = some (37, .invokevirtual 56, 3, [50, 1, 51], 0) := (fm_58 37).trans rfl
theorem u_58_37 {S : Scr} {d : Nat} {a0 a1 a2 a3 a4 : AV} {st : List AV} {sh : Shp} {I : IM} {R : RM} {x0 : Int} {k : Nat} (h : tg sh k = 5) (hr : st.length ≤ 8) : ev S d 58 37 [a0, a1, a2, a3, a4] (.inl x0 :: .inr (.inl k) :: st) (sh, I, R) = bnd (cl d 50 [.inr (.inl k), .inl x0] (sh, I, R)) (fun v M => ev S d 58 40 [a0, a1, a2, a3, a4] (psh v st) M) := (ev_eq f_58_37).trans (congrArg (fin S d 58) (if_pos ⟨h, rfl, hr⟩))
theorem f_58_40 : fetch 58 40 = some (40, .aload_n 0, 1, [0], 0) := (fm_58 40).trans rfl
theorem u_58_40 {S : Scr} {d : Nat} {a1 a2 a3 a4 : AV} {st : List AV} {sh : Shp} {I : IM} {R : RM} {x : Nat} : ev S d 58 40 [.inr (.inl x), a1, a2, a3, a4] st (sh, I, R) = ev S d 58 41 [.inr (.inl x), a1, a2, a3, a4] (.inr (.inl x) :: st) (sh, I, R) := (ev_eq f_58_40).trans rfl
theorem f_58_41 : fetch 58 41 = some (41, .getfield 12, 3, [6, 1, 1, 33], 0) := (fm_58 41).trans rfl
theorem u_58_41 {S : Scr} {d : Nat} {a0 a1 a2 a3 a4 : AV} {st : List AV} {sh : Shp} {I : IM} {R : RM} {k : Nat} (h : tg sh k = 6) : ev S d 58 41 [a0, a1, a2, a3, a4] (.inr (.inl k) :: st) (sh, I, R) = ev S d 58 44 [a0, a1, a2, a3, a4] (rv (R k 1) :: st) (sh, I, R) := (ev_eq f_58_41).trans (congrArg (fin S d 58) (if_pos h))
theorem f_58_44 : fetch 58 44 = some (44, .bipush 65, 2, [], 65) := (fm_58 44).trans rfl
theorem u_58_44 {S : Scr} {d : Nat} {a0 a1 a2 a3 a4 : AV} {st : List AV} {sh : Shp} {I : IM} {R : RM} : ev S d 58 44 [a0, a1, a2, a3, a4] st (sh, I, R) = ev S d 58 46 [a0, a1, a2, a3, a4] (.inl 65 :: st) (sh, I, R) := (ev_eq f_58_44).trans rfl
theorem f_58_46 : fetch 58 46 = some (46, .aload_n 0, 1, [0], 0) := (fm_58 46).trans rfl
theorem u_58_46 {S : Scr} {d : Nat} {a1 a2 a3 a4 : AV} {st : List AV} {sh : Shp} {I : IM} {R : RM} {x : Nat} : ev S d 58 46 [.inr (.inl x), a1, a2, a3, a4] st (sh, I, R) = ev S d 58 47 [.inr (.inl x), a1, a2, a3, a4] (.inr (.inl x) :: st) (sh, I, R) := (ev_eq f_58_46).trans rfl
theorem f_58_47 : fetch 58 47 = some (47, .getfield 18, 3, [6, 2, 1, 34], 0) := (fm_58 47).trans rfl
theorem u_58_47 {S : Scr} {d : Nat} {a0 a1 a2 a3 a4 : AV} {st : List AV} {sh : Shp} {I : IM} {R : RM} {k : Nat} (h : tg sh k = 6) : ev S d 58 47 [a0, a1, a2, a3, a4] (.inr (.inl k) :: st) (sh, I, R) = ev S d 58 50 [a0, a1, a2, a3, a4] (rv (R k 2) :: st) (sh, I, R) := (ev_eq f_58_47).trans (congrArg (fin S d 58) (if_pos h))
theorem f_58_50 : fetch 58 50 = some (50, .iload_n 1, 1, [1], 0) := (fm_58 50).trans rfl
theorem u_58_50 {S : Scr} {d : Nat} {a0 a2 a3 a4 : AV} {st : List AV} {sh : Shp} {I : IM} {R : RM} {x : Int} : ev S d 58 50 [a0, .inl x, a2, a3, a4] st (sh, I, R) = ev S d 58 51 [a0, .inl x, a2, a3, a4] (.inl x :: st) (sh, I, R) := (ev_eq f_58_50).trans rfl
theorem f_58_51 : fetch 58 51 = some (51, .iaload, 1, [], 0) := (fm_58 51).trans rfl
theorem u_58_51 {S : Scr} {d : Nat} {a0 a1 a2 a3 a4 : AV} {st : List AV} {sh : Shp} {I : IM} {R : RM} {k : Nat} {i : Int} (h : tg sh k = 100) (h0 : 0 ≤ i) (h1 : i < ln sh k) : ev S d 58 51 [a0, a1, a2, a3, a4] (.inl i :: .inr (.inl k) :: st) (sh, I, R) = ev S d 58 52 [a0, a1, a2, a3, a4] (.inl (I k i) :: st) (sh, I, R) := (ev_eq f_58_51).trans (congrArg (fin S d 58) (if_pos ⟨h, h0, h1⟩))
theorem f_58_52 : fetch 58 52 = some (52, .iadd, 1, [], 0) := (fm_58 52).trans rfl
theorem u_58_52 {S : Scr} {d : Nat} {a0 a1 a2 a3 a4 : AV} {st : List AV} {sh : Shp} {I : IM} {R : RM} {x y : Int} : ev S d 58 52 [a0, a1, a2, a3, a4] (.inl y :: .inl x :: st) (sh, I, R) = ev S d 58 53 [a0, a1, a2, a3, a4] (.inl (wr (x + y)) :: st) (sh, I, R) := (ev_eq f_58_52).trans rfl
theorem f_58_53 : fetch 58 53 = some (53, .invokevirtual 56, 3, [50, 1, 51], 0) := (fm_58 53).trans rfl
theorem u_58_53 {S : Scr} {d : Nat} {a0 a1 a2 a3 a4 : AV} {st : List AV} {sh : Shp} {I : IM} {R : RM} {x0 : Int} {k : Nat} (h : tg sh k = 5) (hr : st.length ≤ 8) : ev S d 58 53 [a0, a1, a2, a3, a4] (.inl x0 :: .inr (.inl k) :: st) (sh, I, R) = bnd (cl d 50 [.inr (.inl k), .inl x0] (sh, I, R)) (fun v M => ev S d 58 56 [a0, a1, a2, a3, a4] (psh v st) M) := (ev_eq f_58_53).trans (congrArg (fin S d 58) (if_pos ⟨h, rfl, hr⟩))
theorem f_58_56 : fetch 58 56 = some (56, .return_, 1, [], 0) := (fm_58 56).trans rfl
theorem u_58_56 {S : Scr} {d : Nat} {a0 a1 a2 a3 a4 : AV} {sh : Shp} {I : IM} {R : RM} : ev S d 58 56 [a0, a1, a2, a3, a4] [] (sh, I, R) = some (none, (sh, I, R)) := (ev_eq f_58_56).trans rfl
theorem f_58_57 : fetch 58 57 = some (57, .iload_n 2, 1, [2], 0) := (fm_58 57).trans rfl
theorem u_58_57 {S : Scr} {d : Nat} {a0 a1 a3 a4 : AV} {st : List AV} {sh : Shp} {I : IM} {R : RM} {x : Int} : ev S d 58 57 [a0, a1, .inl x, a3, a4] st (sh, I, R) = ev S d 58 58 [a0, a1, .inl x, a3, a4] (.inl x :: st) (sh, I, R) := (ev_eq f_58_57).trans rfl
theorem f_58_58 : fetch 58 58 = some (58, .bipush 30, 2, [], 30) := (fm_58 58).trans rfl
theorem u_58_58 {S : Scr} {d : Nat} {a0 a1 a2 a3 a4 : AV} {st : List AV} {sh : Shp} {I : IM} {R : RM} : ev S d 58 58 [a0, a1, a2, a3, a4] st (sh, I, R) = ev S d 58 60 [a0, a1, a2, a3, a4] (.inl 30 :: st) (sh, I, R) := (ev_eq f_58_58).trans rfl
theorem f_58_60 : fetch 58 60 = some (60, .if_icmp .ge 12, 3, [72], 0) := (fm_58 60).trans rfl
theorem u_58_60 {S : Scr} {d : Nat} {a0 a1 a2 a3 a4 : AV} {st : List AV} {sh : Shp} {I : IM} {R : RM} {x y : Int} : ev S d 58 60 [a0, a1, a2, a3, a4] (.inl y :: .inl x :: st) (sh, I, R) = if y ≤ x then ev S d 58 72 [a0, a1, a2, a3, a4] st (sh, I, R) else ev S d 58 63 [a0, a1, a2, a3, a4] st (sh, I, R) := (ev_eq f_58_60).trans fin_icmp_ge
theorem f_58_63 : fetch 58 63 = some (63, .aload_n 0, 1, [0], 0) := (fm_58 63).trans rfl
theorem u_58_63 {S : Scr} {d : Nat} {a1 a2 a3 a4 : AV} {st : List AV} {sh : Shp} {I : IM} {R : RM} {x : Nat} : ev S d 58 63 [.inr (.inl x), a1, a2, a3, a4] st (sh, I, R) = ev S d 58 64 [.inr (.inl x), a1, a2, a3, a4] (.inr (.inl x) :: st) (sh, I, R) := (ev_eq f_58_63).trans rfl
theorem f_58_64 : fetch 58 64 = some (64, .getfield 32, 3, [6, 5, 0, 38], 0) := (fm_58 64).trans rfl
theorem u_58_64 {S : Scr} {d : Nat} {a0 a1 a2 a3 a4 : AV} {st : List AV} {sh : Shp} {I : IM} {R : RM} {k : Nat} (h : tg sh k = 6) : ev S d 58 64 [a0, a1, a2, a3, a4] (.inr (.inl k) :: st) (sh, I, R) = ev S d 58 67 [a0, a1, a2, a3, a4] (.inl (I k 5) :: st) (sh, I, R) := (ev_eq f_58_64).trans (congrArg (fin S d 58) (if_pos h))
theorem f_58_67 : fetch 58 67 = some (67, .bipush 30, 2, [], 30) := (fm_58 67).trans rfl
theorem u_58_67 {S : Scr} {d : Nat} {a0 a1 a2 a3 a4 : AV} {st : List AV} {sh : Shp} {I : IM} {R : RM} : ev S d 58 67 [a0, a1, a2, a3, a4] st (sh, I, R) = ev S d 58 69 [a0, a1, a2, a3, a4] (.inl 30 :: st) (sh, I, R) := (ev_eq f_58_67).trans rfl
theorem f_58_69 : fetch 58 69 = some (69, .if_icmp .lt 4, 3, [73], 0) := (fm_58 69).trans rfl
theorem u_58_69 {S : Scr} {d : Nat} {a0 a1 a2 a3 a4 : AV} {st : List AV} {sh : Shp} {I : IM} {R : RM} {x y : Int} : ev S d 58 69 [a0, a1, a2, a3, a4] (.inl y :: .inl x :: st) (sh, I, R) = if x < y then ev S d 58 73 [a0, a1, a2, a3, a4] st (sh, I, R) else ev S d 58 72 [a0, a1, a2, a3, a4] st (sh, I, R) := (ev_eq f_58_69).trans fin_icmp_lt
theorem f_58_72 : fetch 58 72 = some (72, .return_, 1, [], 0) := (fm_58 72).trans rfl
theorem u_58_72 {S : Scr} {d : Nat} {a0 a1 a2 a3 a4 : AV} {sh : Shp} {I : IM} {R : RM} : ev S d 58 72 [a0, a1, a2, a3, a4] [] (sh, I, R) = some (none, (sh, I, R)) := (ev_eq f_58_72).trans rfl
theorem f_58_73 : fetch 58 73 = some (73, .aload_n 0, 1, [0], 0) := (fm_58 73).trans rfl
theorem u_58_73 {S : Scr} {d : Nat} {a1 a2 a3 a4 : AV} {st : List AV} {sh : Shp} {I : IM} {R : RM} {x : Nat} : ev S d 58 73 [.inr (.inl x), a1, a2, a3, a4] st (sh, I, R) = ev S d 58 74 [.inr (.inl x), a1, a2, a3, a4] (.inr (.inl x) :: st) (sh, I, R) := (ev_eq f_58_73).trans rfl
theorem f_58_74 : fetch 58 74 = some (74, .getfield 18, 3, [6, 2, 1, 34], 0) := (fm_58 74).trans rfl
theorem u_58_74 {S : Scr} {d : Nat} {a0 a1 a2 a3 a4 : AV} {st : List AV} {sh : Shp} {I : IM} {R : RM} {k : Nat} (h : tg sh k = 6) : ev S d 58 74 [a0, a1, a2, a3, a4] (.inr (.inl k) :: st) (sh, I, R) = ev S d 58 77 [a0, a1, a2, a3, a4] (rv (R k 2) :: st) (sh, I, R) := (ev_eq f_58_74).trans (congrArg (fin S d 58) (if_pos h))
theorem f_58_77 : fetch 58 77 = some (77, .iload_n 1, 1, [1], 0) := (fm_58 77).trans rfl
theorem u_58_77 {S : Scr} {d : Nat} {a0 a2 a3 a4 : AV} {st : List AV} {sh : Shp} {I : IM} {R : RM} {x : Int} : ev S d 58 77 [a0, .inl x, a2, a3, a4] st (sh, I, R) = ev S d 58 78 [a0, .inl x, a2, a3, a4] (.inl x :: st) (sh, I, R) := (ev_eq f_58_77).trans rfl
theorem f_58_78 : fetch 58 78 = some (78, .aload_n 0, 1, [0], 0) := (fm_58 78).trans rfl
theorem u_58_78 {S : Scr} {d : Nat} {a1 a2 a3 a4 : AV} {st : List AV} {sh : Shp} {I : IM} {R : RM} {x : Nat} : ev S d 58 78 [.inr (.inl x), a1, a2, a3, a4] st (sh, I, R) = ev S d 58 79 [.inr (.inl x), a1, a2, a3, a4] (.inr (.inl x) :: st) (sh, I, R) := (ev_eq f_58_78).trans rfl
theorem f_58_79 : fetch 58 79 = some (79, .getfield 32, 3, [6, 5, 0, 38], 0) := (fm_58 79).trans rfl
theorem u_58_79 {S : Scr} {d : Nat} {a0 a1 a2 a3 a4 : AV} {st : List AV} {sh : Shp} {I : IM} {R : RM} {k : Nat} (h : tg sh k = 6) : ev S d 58 79 [a0, a1, a2, a3, a4] (.inr (.inl k) :: st) (sh, I, R) = ev S d 58 82 [a0, a1, a2, a3, a4] (.inl (I k 5) :: st) (sh, I, R) := (ev_eq f_58_79).trans (congrArg (fin S d 58) (if_pos h))
theorem f_58_82 : fetch 58 82 = some (82, .iastore, 1, [], 0) := (fm_58 82).trans rfl
theorem u_58_82 {S : Scr} {d : Nat} {a0 a1 a2 a3 a4 : AV} {st : List AV} {sh : Shp} {I : IM} {R : RM} {k : Nat} {i x : Int} (h : tg sh k = 100) (h0 : 0 ≤ i) (h1 : i < ln sh k) : ev S d 58 82 [a0, a1, a2, a3, a4] (.inl x :: .inl i :: .inr (.inl k) :: st) (sh, I, R) = ev S d 58 83 [a0, a1, a2, a3, a4] st (sh, up I k i x, R) := (ev_eq f_58_82).trans (congrArg (fin S d 58) (if_pos ⟨h, h0, h1⟩))
theorem f_58_83 : fetch 58 83 = some (83, .aload_n 0, 1, [0], 0) := (fm_58 83).trans rfl
theorem u_58_83 {S : Scr} {d : Nat} {a1 a2 a3 a4 : AV} {st : List AV} {sh : Shp} {I : IM} {R : RM} {x : Nat} : ev S d 58 83 [.inr (.inl x), a1, a2, a3, a4] st (sh, I, R) = ev S d 58 84 [.inr (.inl x), a1, a2, a3, a4] (.inr (.inl x) :: st) (sh, I, R) := (ev_eq f_58_83).trans rfl
theorem f_58_84 : fetch 58 84 = some (84, .getfield 22, 3, [6, 3, 1, 35], 0) := (fm_58 84).trans rfl
theorem u_58_84 {S : Scr} {d : Nat} {a0 a1 a2 a3 a4 : AV} {st : List AV} {sh : Shp} {I : IM} {R : RM} {k : Nat} (h : tg sh k = 6) : ev S d 58 84 [a0, a1, a2, a3, a4] (.inr (.inl k) :: st) (sh, I, R) = ev S d 58 87 [a0, a1, a2, a3, a4] (rv (R k 3) :: st) (sh, I, R) := (ev_eq f_58_84).trans (congrArg (fin S d 58) (if_pos h))
theorem f_58_87 : fetch 58 87 = some (87, .aload_n 0, 1, [0], 0) := (fm_58 87).trans rfl
theorem u_58_87 {S : Scr} {d : Nat} {a1 a2 a3 a4 : AV} {st : List AV} {sh : Shp} {I : IM} {R : RM} {x : Nat} : ev S d 58 87 [.inr (.inl x), a1, a2, a3, a4] st (sh, I, R) = ev S d 58 88 [.inr (.inl x), a1, a2, a3, a4] (.inr (.inl x) :: st) (sh, I, R) := (ev_eq f_58_87).trans rfl
theorem f_58_88 : fetch 58 88 = some (88, .getfield 32, 3, [6, 5, 0, 38], 0) := (fm_58 88).trans rfl
theorem u_58_88 {S : Scr} {d : Nat} {a0 a1 a2 a3 a4 : AV} {st : List AV} {sh : Shp} {I : IM} {R : RM} {k : Nat} (h : tg sh k = 6) : ev S d 58 88 [a0, a1, a2, a3, a4] (.inr (.inl k) :: st) (sh, I, R) = ev S d 58 91 [a0, a1, a2, a3, a4] (.inl (I k 5) :: st) (sh, I, R) := (ev_eq f_58_88).trans (congrArg (fin S d 58) (if_pos h))
theorem f_58_91 : fetch 58 91 = some (91, .iload_n 1, 1, [1], 0) := (fm_58 91).trans rfl
theorem u_58_91 {S : Scr} {d : Nat} {a0 a2 a3 a4 : AV} {st : List AV} {sh : Shp} {I : IM} {R : RM} {x : Int} : ev S d 58 91 [a0, .inl x, a2, a3, a4] st (sh, I, R) = ev S d 58 92 [a0, .inl x, a2, a3, a4] (.inl x :: st) (sh, I, R) := (ev_eq f_58_91).trans rfl
theorem f_58_92 : fetch 58 92 = some (92, .iastore, 1, [], 0) := (fm_58 92).trans rfl
theorem u_58_92 {S : Scr} {d : Nat} {a0 a1 a2 a3 a4 : AV} {st : List AV} {sh : Shp} {I : IM} {R : RM} {k : Nat} {i x : Int} (h : tg sh k = 100) (h0 : 0 ≤ i) (h1 : i < ln sh k) : ev S d 58 92 [a0, a1, a2, a3, a4] (.inl x :: .inl i :: .inr (.inl k) :: st) (sh, I, R) = ev S d 58 93 [a0, a1, a2, a3, a4] st (sh, up I k i x, R) := (ev_eq f_58_92).trans (congrArg (fin S d 58) (if_pos ⟨h, h0, h1⟩))
theorem f_58_93 : fetch 58 93 = some (93, .aload_n 0, 1, [0], 0) := (fm_58 93).trans rfl
theorem u_58_93 {S : Scr} {d : Nat} {a1 a2 a3 a4 : AV} {st : List AV} {sh : Shp} {I : IM} {R : RM} {x : Nat} : ev S d 58 93 [.inr (.inl x), a1, a2, a3, a4] st (sh, I, R) = ev S d 58 94 [.inr (.inl x), a1, a2, a3, a4] (.inr (.inl x) :: st) (sh, I, R) := (ev_eq f_58_93).trans rfl
theorem f_58_94 : fetch 58 94 = some (94, .dup, 1, [], 0) := (fm_58 94).trans rfl
theorem u_58_94 {S : Scr} {d : Nat} {a0 a1 a2 a3 a4 : AV} {st : List AV} {sh : Shp} {I : IM} {R : RM} {x : AV} : ev S d 58 94 [a0, a1, a2, a3, a4] (x :: st) (sh, I, R) = ev S d 58 95 [a0, a1, a2, a3, a4] (x :: x :: st) (sh, I, R) := (ev_eq f_58_94).trans rfl
theorem f_58_95 : fetch 58 95 = some (95, .getfield 32, 3, [6, 5, 0, 38], 0) := (fm_58 95).trans rfl
theorem u_58_95 {S : Scr} {d : Nat} {a0 a1 a2 a3 a4 : AV} {st : List AV} {sh : Shp} {I : IM} {R : RM} {k : Nat} (h : tg sh k = 6) : ev S d 58 95 [a0, a1, a2, a3, a4] (.inr (.inl k) :: st) (sh, I, R) = ev S d 58 98 [a0, a1, a2, a3, a4] (.inl (I k 5) :: st) (sh, I, R) := (ev_eq f_58_95).trans (congrArg (fin S d 58) (if_pos h))
theorem f_58_98 : fetch 58 98 = some (98, .iconst 1, 1, [], 1) := (fm_58 98).trans rfl
theorem u_58_98 {S : Scr} {d : Nat} {a0 a1 a2 a3 a4 : AV} {st : List AV} {sh : Shp} {I : IM} {R : RM} : ev S d 58 98 [a0, a1, a2, a3, a4] st (sh, I, R) = ev S d 58 99 [a0, a1, a2, a3, a4] (.inl 1 :: st) (sh, I, R) := (ev_eq f_58_98).trans rfl
theorem f_58_99 : fetch 58 99 = some (99, .iadd, 1, [], 0) := (fm_58 99).trans rfl
theorem u_58_99 {S : Scr} {d : Nat} {a0 a1 a2 a3 a4 : AV} {st : List AV} {sh : Shp} {I : IM} {R : RM} {x y : Int} : ev S d 58 99 [a0, a1, a2, a3, a4] (.inl y :: .inl x :: st) (sh, I, R) = ev S d 58 100 [a0, a1, a2, a3, a4] (.inl (wr (x + y)) :: st) (sh, I, R) := (ev_eq f_58_99).trans rfl
theorem f_58_100 : fetch 58 100 = some (100, .putfield 32, 3, [6, 5, 0, 38], 0) := (fm_58 100).trans rfl
theorem u_58_100 {S : Scr} {d : Nat} {a0 a1 a2 a3 a4 : AV} {st : List AV} {sh : Shp} {I : IM} {R : RM} {k : Nat} {x : Int} (h : tg sh k = 6) : ev S d 58 100 [a0, a1, a2, a3, a4] (.inl x :: .inr (.inl k) :: st) (sh, I, R) = ev S d 58 103 [a0, a1, a2, a3, a4] st (sh, up I k 5 x, R) := (ev_eq f_58_100).trans (congrArg (fin S d 58) (if_pos h))
theorem f_58_103 : fetch 58 103 = some (103, .aload_n 0, 1, [0], 0) := (fm_58 103).trans rfl
theorem u_58_103 {S : Scr} {d : Nat} {a1 a2 a3 a4 : AV} {st : List AV} {sh : Shp} {I : IM} {R : RM} {x : Nat} : ev S d 58 103 [.inr (.inl x), a1, a2, a3, a4] st (sh, I, R) = ev S d 58 104 [.inr (.inl x), a1, a2, a3, a4] (.inr (.inl x) :: st) (sh, I, R) := (ev_eq f_58_103).trans rfl
theorem f_58_104 : fetch 58 104 = some (104, .aload_n 3, 1, [3], 0) := (fm_58 104).trans rfl
theorem u_58_104 {S : Scr} {d : Nat} {a0 a1 a2 a4 : AV} {st : List AV} {sh : Shp} {I : IM} {R : RM} {x : Nat} : ev S d 58 104 [a0, a1, a2, .inr (.inl x), a4] st (sh, I, R) = ev S d 58 105 [a0, a1, a2, .inr (.inl x), a4] (.inr (.inl x) :: st) (sh, I, R) := (ev_eq f_58_104).trans rfl
theorem u_58_104n {S : Scr} {d : Nat} {a0 a1 a2 a4 : AV} {st : List AV} {sh : Shp} {I : IM} {R : RM} : ev S d 58 104 [a0, a1, a2, .inr (.inr 0), a4] st (sh, I, R) = ev S d 58 105 [a0, a1, a2, .inr (.inr 0), a4] (.inr (.inr 0) :: st) (sh, I, R) := (ev_eq f_58_104).trans rfl
theorem f_58_105 : fetch 58 105 = some (105, .invokevirtual 63, 3, [59, 1, 53], 0) := (fm_58 105).trans rfl
theorem u_58_105 {S : Scr} {d : Nat} {a0 a1 a2 a3 a4 : AV} {st : List AV} {sh : Shp} {I : IM} {R : RM} {x0 : Nat} {k : Nat} (h : tg sh k = 6) (hr : st.length ≤ 8) : ev S d 58 105 [a0, a1, a2, a3, a4] (.inr (.inl x0) :: .inr (.inl k) :: st) (sh, I, R) = bnd (cl d 59 [.inr (.inl k), .inr (.inl x0)] (sh, I, R)) (fun v M => ev S d 58 108 [a0, a1, a2, a3, a4] (psh v st) M) := (ev_eq f_58_105).trans (congrArg (fin S d 58) (if_pos ⟨h, rfl, hr⟩))
theorem u_58_105n {S : Scr} {d : Nat} {a0 a1 a2 a3 a4 : AV} {st : List AV} {sh : Shp} {I : IM} {R : RM} {k : Nat} (h : tg sh k = 6) (hr : st.length ≤ 8) : ev S d 58 105 [a0, a1, a2, a3, a4] (.inr (.inr 0) :: .inr (.inl k) :: st) (sh, I, R) = bnd (cl d 59 [.inr (.inl k), .inr (.inr 0)] (sh, I, R)) (fun v M => ev S d 58 108 [a0, a1, a2, a3, a4] (psh v st) M) := (ev_eq f_58_105).trans (congrArg (fin S d 58) (if_pos ⟨h, rfl, hr⟩))
theorem f_58_108 : fetch 58 108 = some (108, .iconst 0, 1, [], 0) := (fm_58 108).trans rfl
theorem u_58_108 {S : Scr} {d : Nat} {a0 a1 a2 a3 a4 : AV} {st : List AV} {sh : Shp} {I : IM} {R : RM} : ev S d 58 108 [a0, a1, a2, a3, a4] st (sh, I, R) = ev S d 58 109 [a0, a1, a2, a3, a4] (.inl 0 :: st) (sh, I, R) := (ev_eq f_58_108).trans rfl
theorem f_58_109 : fetch 58 109 = some (109, .istore 4, 2, [4], 0) := (fm_58 109).trans rfl
theorem u_58_109 {S : Scr} {d : Nat} {a0 a1 a2 a3 a4 : AV} {st : List AV} {sh : Shp} {I : IM} {R : RM} {x : Int} : ev S d 58 109 [a0, a1, a2, a3, a4] (.inl x :: st) (sh, I, R) = ev S d 58 111 [a0, a1, a2, a3, .inl x] st (sh, I, R) := (ev_eq f_58_109).trans rfl
theorem f_58_111 : fetch 58 111 = some (111, .iload 4, 2, [4], 0) := (fm_58 111).trans rfl
theorem u_58_111 {S : Scr} {d : Nat} {a0 a1 a2 a3 : AV} {st : List AV} {sh : Shp} {I : IM} {R : RM} {x : Int} : ev S d 58 111 [a0, a1, a2, a3, .inl x] st (sh, I, R) = ev S d 58 113 [a0, a1, a2, a3, .inl x] (.inl x :: st) (sh, I, R) := (ev_eq f_58_111).trans rfl
theorem f_58_113 : fetch 58 113 = some (113, .aload_n 3, 1, [3], 0) := (fm_58 113).trans rfl
theorem u_58_113 {S : Scr} {d : Nat} {a0 a1 a2 a4 : AV} {st : List AV} {sh : Shp} {I : IM} {R : RM} {x : Nat} : ev S d 58 113 [a0, a1, a2, .inr (.inl x), a4] st (sh, I, R) = ev S d 58 114 [a0, a1, a2, .inr (.inl x), a4] (.inr (.inl x) :: st) (sh, I, R) := (ev_eq f_58_113).trans rfl
theorem u_58_113n {S : Scr} {d : Nat} {a0 a1 a2 a4 : AV} {st : List AV} {sh : Shp} {I : IM} {R : RM} : ev S d 58 113 [a0, a1, a2, .inr (.inr 0), a4] st (sh, I, R) = ev S d 58 114 [a0, a1, a2, .inr (.inr 0), a4] (.inr (.inr 0) :: st) (sh, I, R) := (ev_eq f_58_113).trans rfl
theorem f_58_114 : fetch 58 114 = some (114, .getfield 67, 3, [3, 4, 0, 40], 0) := (fm_58 114).trans rfl
theorem u_58_114 {S : Scr} {d : Nat} {a0 a1 a2 a3 a4 : AV} {st : List AV} {sh : Shp} {I : IM} {R : RM} {k : Nat} (h : tg sh k = 3) : ev S d 58 114 [a0, a1, a2, a3, a4] (.inr (.inl k) :: st) (sh, I, R) = ev S d 58 117 [a0, a1, a2, a3, a4] (.inl (I k 4) :: st) (sh, I, R) := (ev_eq f_58_114).trans (congrArg (fin S d 58) (if_pos h))
theorem f_58_117 : fetch 58 117 = some (117, .if_icmp .ge 23, 3, [140], 0) := (fm_58 117).trans rfl
theorem u_58_117 {S : Scr} {d : Nat} {a0 a1 a2 a3 a4 : AV} {st : List AV} {sh : Shp} {I : IM} {R : RM} {x y : Int} : ev S d 58 117 [a0, a1, a2, a3, a4] (.inl y :: .inl x :: st) (sh, I, R) = if y ≤ x then ev S d 58 140 [a0, a1, a2, a3, a4] st (sh, I, R) else ev S d 58 120 [a0, a1, a2, a3, a4] st (sh, I, R) := (ev_eq f_58_117).trans fin_icmp_ge
theorem f_58_120 : fetch 58 120 = some (120, .aload_n 0, 1, [0], 0) := (fm_58 120).trans rfl
theorem u_58_120 {S : Scr} {d : Nat} {a1 a2 a3 a4 : AV} {st : List AV} {sh : Shp} {I : IM} {R : RM} {x : Nat} : ev S d 58 120 [.inr (.inl x), a1, a2, a3, a4] st (sh, I, R) = ev S d 58 121 [.inr (.inl x), a1, a2, a3, a4] (.inr (.inl x) :: st) (sh, I, R) := (ev_eq f_58_120).trans rfl
theorem f_58_121 : fetch 58 121 = some (121, .aload_n 3, 1, [3], 0) := (fm_58 121).trans rfl
theorem u_58_121 {S : Scr} {d : Nat} {a0 a1 a2 a4 : AV} {st : List AV} {sh : Shp} {I : IM} {R : RM} {x : Nat} : ev S d 58 121 [a0, a1, a2, .inr (.inl x), a4] st (sh, I, R) = ev S d 58 122 [a0, a1, a2, .inr (.inl x), a4] (.inr (.inl x) :: st) (sh, I, R) := (ev_eq f_58_121).trans rfl
theorem u_58_121n {S : Scr} {d : Nat} {a0 a1 a2 a4 : AV} {st : List AV} {sh : Shp} {I : IM} {R : RM} : ev S d 58 121 [a0, a1, a2, .inr (.inr 0), a4] st (sh, I, R) = ev S d 58 122 [a0, a1, a2, .inr (.inr 0), a4] (.inr (.inr 0) :: st) (sh, I, R) := (ev_eq f_58_121).trans rfl
theorem f_58_122 : fetch 58 122 = some (122, .getfield 72, 3, [3, 1, 1, 41], 0) := (fm_58 122).trans rfl
theorem u_58_122 {S : Scr} {d : Nat} {a0 a1 a2 a3 a4 : AV} {st : List AV} {sh : Shp} {I : IM} {R : RM} {k : Nat} (h : tg sh k = 3) : ev S d 58 122 [a0, a1, a2, a3, a4] (.inr (.inl k) :: st) (sh, I, R) = ev S d 58 125 [a0, a1, a2, a3, a4] (rv (R k 1) :: st) (sh, I, R) := (ev_eq f_58_122).trans (congrArg (fin S d 58) (if_pos h))
theorem f_58_125 : fetch 58 125 = some (125, .iload 4, 2, [4], 0) := (fm_58 125).trans rfl
theorem u_58_125 {S : Scr} {d : Nat} {a0 a1 a2 a3 : AV} {st : List AV} {sh : Shp} {I : IM} {R : RM} {x : Int} : ev S d 58 125 [a0, a1, a2, a3, .inl x] st (sh, I, R) = ev S d 58 127 [a0, a1, a2, a3, .inl x] (.inl x :: st) (sh, I, R) := (ev_eq f_58_125).trans rfl
theorem f_58_127 : fetch 58 127 = some (127, .iaload, 1, [], 0) := (fm_58 127).trans rfl
theorem u_58_127 {S : Scr} {d : Nat} {a0 a1 a2 a3 a4 : AV} {st : List AV} {sh : Shp} {I : IM} {R : RM} {k : Nat} {i : Int} (h : tg sh k = 100) (h0 : 0 ≤ i) (h1 : i < ln sh k) : ev S d 58 127 [a0, a1, a2, a3, a4] (.inl i :: .inr (.inl k) :: st) (sh, I, R) = ev S d 58 128 [a0, a1, a2, a3, a4] (.inl (I k i) :: st) (sh, I, R) := (ev_eq f_58_127).trans (congrArg (fin S d 58) (if_pos ⟨h, h0, h1⟩))
theorem f_58_128 : fetch 58 128 = some (128, .iload_n 2, 1, [2], 0) := (fm_58 128).trans rfl
theorem u_58_128 {S : Scr} {d : Nat} {a0 a1 a3 a4 : AV} {st : List AV} {sh : Shp} {I : IM} {R : RM} {x : Int} : ev S d 58 128 [a0, a1, .inl x, a3, a4] st (sh, I, R) = ev S d 58 129 [a0, a1, .inl x, a3, a4] (.inl x :: st) (sh, I, R) := (ev_eq f_58_128).trans rfl
theorem f_58_129 : fetch 58 129 = some (129, .iconst 1, 1, [], 1) := (fm_58 129).trans rfl
theorem u_58_129 {S : Scr} {d : Nat} {a0 a1 a2 a3 a4 : AV} {st : List AV} {sh : Shp} {I : IM} {R : RM} : ev S d 58 129 [a0, a1, a2, a3, a4] st (sh, I, R) = ev S d 58 130 [a0, a1, a2, a3, a4] (.inl 1 :: st) (sh, I, R) := (ev_eq f_58_129).trans rfl
theorem f_58_130 : fetch 58 130 = some (130, .iadd, 1, [], 0) := (fm_58 130).trans rfl
theorem u_58_130 {S : Scr} {d : Nat} {a0 a1 a2 a3 a4 : AV} {st : List AV} {sh : Shp} {I : IM} {R : RM} {x y : Int} : ev S d 58 130 [a0, a1, a2, a3, a4] (.inl y :: .inl x :: st) (sh, I, R) = ev S d 58 131 [a0, a1, a2, a3, a4] (.inl (wr (x + y)) :: st) (sh, I, R) := (ev_eq f_58_130).trans rfl
theorem f_58_131 : fetch 58 131 = some (131, .invokevirtual 39, 3, [58, 2, 47], 0) := (fm_58 131).trans rfl
theorem u_58_131 {S : Scr} {d : Nat} {a0 a1 a2 a3 a4 : AV} {st : List AV} {sh : Shp} {I : IM} {R : RM} {x0 : Int} {x1 : Int} {k : Nat} (h : tg sh k = 6) (hr : st.length ≤ 8) : ev S d 58 131 [a0, a1, a2, a3, a4] (.inl x1 :: .inl x0 :: .inr (.inl k) :: st) (sh, I, R) = bnd (cl d 58 [.inr (.inl k), .inl x0, .inl x1] (sh, I, R)) (fun v M => ev S d 58 134 [a0, a1, a2, a3, a4] (psh v st) M) := (ev_eq f_58_131).trans (congrArg (fin S d 58) (if_pos ⟨h, rfl, hr⟩))
theorem f_58_134 : fetch 58 134 = some (134, .iinc 4 1, 3, [4], 1) := (fm_58 134).trans rfl
theorem u_58_134 {S : Scr} {d : Nat} {a0 a1 a2 a3 : AV} {st : List AV} {sh : Shp} {I : IM} {R : RM} {x : Int} : ev S d 58 134 [a0, a1, a2, a3, .inl x] st (sh, I, R) = ev S d 58 137 [a0, a1, a2, a3, .inl (wr (x + 1))] st (sh, I, R) := (ev_eq f_58_134).trans rfl
theorem f_58_137 : fetch 58 137 = some (137, .goto (-26), 3, [111], 0) := (fm_58 137).trans rfl
theorem u_58_137 {S : Scr} {d : Nat} {a0 a1 a2 a3 a4 : AV} {st : List AV} {sh : Shp} {I : IM} {R : RM} : ev S d 58 137 [a0, a1, a2, a3, a4] st (sh, I, R) = ev S d 58 111 [a0, a1, a2, a3, a4] st (sh, I, R) := (ev_eq f_58_137).trans rfl
theorem f_58_140 : fetch 58 140 = some (140, .return_, 1, [], 0) := (fm_58 140).trans rfl
theorem u_58_140 {S : Scr} {d : Nat} {a0 a1 a2 a3 a4 : AV} {sh : Shp} {I : IM} {R : RM} : ev S d 58 140 [a0, a1, a2, a3, a4] [] (sh, I, R) = some (none, (sh, I, R)) := (ev_eq f_58_140).trans rfl
theorem c_59 {d : Nat} {a0 a1 : AV} {M : Mem} : cl (d + 1) 59 [a0, a1] M = ev S0 d 59 0 [a0, a1, .inr (.inr 1)] [] M := (cl_eq (as := [a0, a1]) (show 2 ≤ maxOf 59 by decide +kernel)).trans rfl
theorem mt_59 : MT[59]? = some m_59 := rfl
theorem fm_59 (pc : Nat) : fetch 59 pc = lk m_59.2.2.2.2.2 pc := by
  unfold fetch
  rw [mt_59]
theorem f_59_0 : fetch 59 0 = some (0, .aload_n 1, 1, [1], 0) := (fm_59 0).trans rfl
theorem u_59_0 {S : Scr} {d : Nat} {a0 a2 : AV} {st : List AV} {sh : Shp} {I : IM} {R : RM} {x : Nat} : ev S d 59 0 [a0, .inr (.inl x), a2] st (sh, I, R) = ev S d 59 1 [a0, .inr (.inl x), a2] (.inr (.inl x) :: st) (sh, I, R) := (ev_eq f_59_0).trans rfl
theorem u_59_0n {S : Scr} {d : Nat} {a0 a2 : AV} {st : List AV} {sh : Shp} {I : IM} {R : RM} : ev S d 59 0 [a0, .inr (.inr 0), a2] st (sh, I, R) = ev S d 59 1 [a0, .inr (.inr 0), a2] (.inr (.inr 0) :: st) (sh, I, R) := (ev_eq f_59_0).trans rfl
theorem f_59_1 : fetch 59 1 = some (1, .getfield 75, 3, [3, 2, 0, 42], 0) := (fm_59 1).trans rfl
theorem u_59_1 {S : Scr} {d : Nat} {a0 a1 a2 : AV} {st : List AV} {sh : Shp} {I : IM} {R : RM} {k : Nat} (h : tg sh k = 3) : ev S d 59 1 [a0, a1, a2] (.inr (.inl k) :: st) (sh, I, R) = ev S d 59 4 [a0, a1, a2] (.inl (I k 2) :: st) (sh, I, R) := (ev_eq f_59_1).trans (congrArg (fin S d 59) (if_pos h))
theorem f_59_4 : fetch 59 4 = some (4, .iconst 4, 1, [], 4) := (fm_59 4).trans rfl
theorem u_59_4 {S : Scr} {d : Nat} {a0 a1 a2 : AV} {st : List AV} {sh : Shp} {I : IM} {R : RM} : ev S d 59 4 [a0, a1, a2] st (sh, I, R) = ev S d 59 5 [a0, a1, a2] (.inl 4 :: st) (sh, I, R) := (ev_eq f_59_4).trans rfl
theorem f_59_5 : fetch 59 5 = some (5, .if_icmp .ne 41, 3, [46], 0) := (fm_59 5).trans rfl
theorem u_59_5 {S : Scr} {d : Nat} {a0 a1 a2 : AV} {st : List AV} {sh : Shp} {I : IM} {R : RM} {x y : Int} : ev S d 59 5 [a0, a1, a2] (.inl y :: .inl x :: st) (sh, I, R) = if ¬ x = y then ev S d 59 46 [a0, a1, a2] st (sh, I, R) else ev S d 59 8 [a0, a1, a2] st (sh, I, R) := (ev_eq f_59_5).trans fin_icmp_ne
theorem f_59_8 : fetch 59 8 = some (8, .aload_n 0, 1, [0], 0) := (fm_59 8).trans rfl
theorem u_59_8 {S : Scr} {d : Nat} {a1 a2 : AV} {st : List AV} {sh : Shp} {I : IM} {R : RM} {x : Nat} : ev S d 59 8 [.inr (.inl x), a1, a2] st (sh, I, R) = ev S d 59 9 [.inr (.inl x), a1, a2] (.inr (.inl x) :: st) (sh, I, R) := (ev_eq f_59_8).trans rfl
theorem f_59_9 : fetch 59 9 = some (9, .getfield 12, 3, [6, 1, 1, 33], 0) := (fm_59 9).trans rfl
theorem u_59_9 {S : Scr} {d : Nat} {a0 a1 a2 : AV} {st : List AV} {sh : Shp} {I : IM} {R : RM} {k : Nat} (h : tg sh k = 6) : ev S d 59 9 [a0, a1, a2] (.inr (.inl k) :: st) (sh, I, R) = ev S d 59 12 [a0, a1, a2] (rv (R k 1) :: st) (sh, I, R) := (ev_eq f_59_9).trans (congrArg (fin S d 59) (if_pos h))
theorem f_59_12 : fetch 59 12 = some (12, .bipush 82, 2, [], 82) := (fm_59 12).trans rfl
theorem u_59_12 {S : Scr} {d : Nat} {a0 a1 a2 : AV} {st : List AV} {sh : Shp} {I : IM} {R : RM} : ev S d 59 12 [a0, a1, a2] st (sh, I, R) = ev S d 59 14 [a0, a1, a2] (.inl 82 :: st) (sh, I, R) := (ev_eq f_59_12).trans rfl
theorem f_59_14 : fetch 59 14 = some (14, .invokevirtual 56, 3, [50, 1, 51], 0) := (fm_59 14).trans rfl
theorem u_59_14 {S : Scr} {d : Nat} {a0 a1 a2 : AV} {st : List AV} {sh : Shp} {I : IM} {R : RM} {x0 : Int} {k : Nat} (h : tg sh k = 5) (hr : st.length ≤ 8) : ev S d 59 14 [a0, a1, a2] (.inl x0 :: .inr (.inl k) :: st) (sh, I, R) = bnd (cl d 50 [.inr (.inl k), .inl x0] (sh, I, R)) (fun v M => ev S d 59 17 [a0, a1, a2] (psh v st) M) := (ev_eq f_59_14).trans (congrArg (fin S d 59) (if_pos ⟨h, rfl, hr⟩))
theorem f_59_17 : fetch 59 17 = some (17, .aload_n 0, 1, [0], 0) := (fm_59 17).trans rfl
theorem u_59_17 {S : Scr} {d : Nat} {a1 a2 : AV} {st : List AV} {sh : Shp} {I : IM} {R : RM} {x : Nat} : ev S d 59 17 [.inr (.inl x), a1, a2] st (sh, I, R) = ev S d 59 18 [.inr (.inl x), a1, a2] (.inr (.inl x) :: st) (sh, I, R) := (ev_eq f_59_17).trans rfl
theorem f_59_18 : fetch 59 18 = some (18, .getfield 12, 3, [6, 1, 1, 33], 0) := (fm_59 18).trans rfl
theorem u_59_18 {S : Scr} {d : Nat} {a0 a1 a2 : AV} {st : List AV} {sh : Shp} {I : IM} {R : RM} {k : Nat} (h : tg sh k = 6) : ev S d 59 18 [a0, a1, a2] (.inr (.inl k) :: st) (sh, I, R) = ev S d 59 21 [a0, a1, a2] (rv (R k 1) :: st) (sh, I, R) := (ev_eq f_59_18).trans (congrArg (fin S d 59) (if_pos h))
theorem f_59_21 : fetch 59 21 = some (21, .bipush 48, 2, [], 48) := (fm_59 21).trans rfl
theorem u_59_21 {S : Scr} {d : Nat} {a0 a1 a2 : AV} {st : List AV} {sh : Shp} {I : IM} {R : RM} : ev S d 59 21 [a0, a1, a2] st (sh, I, R) = ev S d 59 23 [a0, a1, a2] (.inl 48 :: st) (sh, I, R) := (ev_eq f_59_21).trans rfl
theorem f_59_23 : fetch 59 23 = some (23, .aload_n 1, 1, [1], 0) := (fm_59 23).trans rfl
theorem u_59_23 {S : Scr} {d : Nat} {a0 a2 : AV} {st : List AV} {sh : Shp} {I : IM} {R : RM} {x : Nat} : ev S d 59 23 [a0, .inr (.inl x), a2] st (sh, I, R) = ev S d 59 24 [a0, .inr (.inl x), a2] (.inr (.inl x) :: st) (sh, I, R) := (ev_eq f_59_23).trans rfl
theorem u_59_23n {S : Scr} {d : Nat} {a0 a2 : AV} {st : List AV} {sh : Shp} {I : IM} {R : RM} : ev S d 59 23 [a0, .inr (.inr 0), a2] st (sh, I, R) = ev S d 59 24 [a0, .inr (.inr 0), a2] (.inr (.inr 0) :: st) (sh, I, R) := (ev_eq f_59_23).trans rfl
theorem f_59_24 : fetch 59 24 = some (24, .getfield 78, 3, [3, 3, 0, 43], 0) := (fm_59 24).trans rfl
theorem u_59_24 {S : Scr} {d : Nat} {a0 a1 a2 : AV} {st : List AV} {sh : Shp} {I : IM} {R : RM} {k : Nat} (h : tg sh k = 3) : ev S d 59 24 [a0, a1, a2] (.inr (.inl k) :: st) (sh, I, R) = ev S d 59 27 [a0, a1, a2] (.inl (I k 3) :: st) (sh, I, R) := (ev_eq f_59_24).trans (congrArg (fin S d 59) (if_pos h))
theorem f_59_27 : fetch 59 27 = some (27, .iadd, 1, [], 0) := (fm_59 27).trans rfl
theorem u_59_27 {S : Scr} {d : Nat} {a0 a1 a2 : AV} {st : List AV} {sh : Shp} {I : IM} {R : RM} {x y : Int} : ev S d 59 27 [a0, a1, a2] (.inl y :: .inl x :: st) (sh, I, R) = ev S d 59 28 [a0, a1, a2] (.inl (wr (x + y)) :: st) (sh, I, R) := (ev_eq f_59_27).trans rfl
theorem f_59_28 : fetch 59 28 = some (28, .invokevirtual 56, 3, [50, 1, 51], 0) := (fm_59 28).trans rfl
theorem u_59_28 {S : Scr} {d : Nat} {a0 a1 a2 : AV} {st : List AV} {sh : Shp} {I : IM} {R : RM} {x0 : Int} {k : Nat} (h : tg sh k = 5) (hr : st.length ≤ 8) : ev S d 59 28 [a0, a1, a2] (.inl x0 :: .inr (.inl k) :: st) (sh, I, R) = bnd (cl d 50 [.inr (.inl k), .inl x0] (sh, I, R)) (fun v M => ev S d 59 31 [a0, a1, a2] (psh v st) M) := (ev_eq f_59_28).trans (congrArg (fin S d 59) (if_pos ⟨h, rfl, hr⟩))
theorem f_59_31 : fetch 59 31 = some (31, .aload_n 0, 1, [0], 0) := (fm_59 31).trans rfl
theorem u_59_31 {S : Scr} {d : Nat} {a1 a2 : AV} {st : List AV} {sh : Shp} {I : IM} {R : RM} {x : Nat} : ev S d 59 31 [.inr (.inl x), a1, a2] st (sh, I, R) = ev S d 59 32 [.inr (.inl x), a1, a2] (.inr (.inl x) :: st) (sh, I, R) := (ev_eq f_59_31).trans rfl
theorem f_59_32 : fetch 59 32 = some (32, .getfield 12, 3, [6, 1, 1, 33], 0) := (fm_59 32).trans rfl
theorem u_59_32 {S : Scr} {d : Nat} {a0 a1 a2 : AV} {st : List AV} {sh : Shp} {I : IM} {R : RM} {k : Nat} (h : tg sh k = 6) : ev S d 59 32 [a0, a1, a2] (.inr (.inl k) :: st) (sh, I, R) = ev S d 59 35 [a0, a1, a2] (rv (R k 1) :: st) (sh, I, R) := (ev_eq f_59_32).trans (congrArg (fin S d 59) (if_pos h))
theorem f_59_35 : fetch 59 35 = some (35, .bipush 48, 2, [], 48) := (fm_59 35).trans rfl
theorem u_59_35 {S : Scr} {d : Nat} {a0 a1 a2 : AV} {st : List AV} {sh : Shp} {I : IM} {R : RM} : ev S d 59 35 [a0, a1, a2] st (sh, I, R) = ev S d 59 37 [a0, a1, a2] (.inl 48 :: st) (sh, I, R) := (ev_eq f_59_35).trans rfl
theorem f_59_37 : fetch 59 37 = some (37, .aload_n 1, 1, [1], 0) := (fm_59 37).trans rfl
theorem u_59_37 {S : Scr} {d : Nat} {a0 a2 : AV} {st : List AV} {sh : Shp} {I : IM} {R : RM} {x : Nat} : ev S d 59 37 [a0, .inr (.inl x), a2] st (sh, I, R) = ev S d 59 38 [a0, .inr (.inl x), a2] (.inr (.inl x) :: st) (sh, I, R) := (ev_eq f_59_37).trans rfl
theorem u_59_37n {S : Scr} {d : Nat} {a0 a2 : AV} {st : List AV} {sh : Shp} {I : IM} {R : RM} : ev S d 59 37 [a0, .inr (.inr 0), a2] st (sh, I, R) = ev S d 59 38 [a0, .inr (.inr 0), a2] (.inr (.inr 0) :: st) (sh, I, R) := (ev_eq f_59_37).trans rfl
theorem f_59_38 : fetch 59 38 = some (38, .getfield 67, 3, [3, 4, 0, 40], 0) := (fm_59 38).trans rfl
theorem u_59_38 {S : Scr} {d : Nat} {a0 a1 a2 : AV} {st : List AV} {sh : Shp} {I : IM} {R : RM} {k : Nat} (h : tg sh k = 3) : ev S d 59 38 [a0, a1, a2] (.inr (.inl k) :: st) (sh, I, R) = ev S d 59 41 [a0, a1, a2] (.inl (I k 4) :: st) (sh, I, R) := (ev_eq f_59_38).trans (congrArg (fin S d 59) (if_pos h))
theorem f_59_41 : fetch 59 41 = some (41, .iadd, 1, [], 0) := (fm_59 41).trans rfl
theorem u_59_41 {S : Scr} {d : Nat} {a0 a1 a2 : AV} {st : List AV} {sh : Shp} {I : IM} {R : RM} {x y : Int} : ev S d 59 41 [a0, a1, a2] (.inl y :: .inl x :: st) (sh, I, R) = ev S d 59 42 [a0, a1, a2] (.inl (wr (x + y)) :: st) (sh, I, R) := (ev_eq f_59_41).trans rfl
theorem f_59_42 : fetch 59 42 = some (42, .invokevirtual 56, 3, [50, 1, 51], 0) := (fm_59 42).trans rfl
theorem u_59_42 {S : Scr} {d : Nat} {a0 a1 a2 : AV} {st : List AV} {sh : Shp} {I : IM} {R : RM} {x0 : Int} {k : Nat} (h : tg sh k = 5) (hr : st.length ≤ 8) : ev S d 59 42 [a0, a1, a2] (.inl x0 :: .inr (.inl k) :: st) (sh, I, R) = bnd (cl d 50 [.inr (.inl k), .inl x0] (sh, I, R)) (fun v M => ev S d 59 45 [a0, a1, a2] (psh v st) M) := (ev_eq f_59_42).trans (congrArg (fin S d 59) (if_pos ⟨h, rfl, hr⟩))
theorem f_59_45 : fetch 59 45 = some (45, .return_, 1, [], 0) := (fm_59 45).trans rfl
theorem u_59_45 {S : Scr} {d : Nat} {a0 a1 a2 : AV} {sh : Shp} {I : IM} {R : RM} : ev S d 59 45 [a0, a1, a2] [] (sh, I, R) = some (none, (sh, I, R)) := (ev_eq f_59_45).trans rfl
theorem f_59_46 : fetch 59 46 = some (46, .aload_n 0, 1, [0], 0) := (fm_59 46).trans rfl
theorem u_59_46 {S : Scr} {d : Nat} {a1 a2 : AV} {st : List AV} {sh : Shp} {I : IM} {R : RM} {x : Nat} : ev S d 59 46 [.inr (.inl x), a1, a2] st (sh, I, R) = ev S d 59 47 [.inr (.inl x), a1, a2] (.inr (.inl x) :: st) (sh, I, R) := (ev_eq f_59_46).trans rfl
theorem f_59_47 : fetch 59 47 = some (47, .getfield 12, 3, [6, 1, 1, 33], 0) := (fm_59 47).trans rfl
theorem u_59_47 {S : Scr} {d : Nat} {a0 a1 a2 : AV} {st : List AV} {sh : Shp} {I : IM} {R : RM} {k : Nat} (h : tg sh k = 6) : ev S d 59 47 [a0, a1, a2] (.inr (.inl k) :: st) (sh, I, R) = ev S d 59 50 [a0, a1, a2] (rv (R k 1) :: st) (sh, I, R) := (ev_eq f_59_47).trans (congrArg (fin S d 59) (if_pos h))
theorem f_59_50 : fetch 59 50 = some (50, .aload_n 1, 1, [1], 0) := (fm_59 50).trans rfl
theorem u_59_50 {S : Scr} {d : Nat} {a0 a2 : AV} {st : List AV} {sh : Shp} {I : IM} {R : RM} {x : Nat} : ev S d 59 50 [a0, .inr (.inl x), a2] st (sh, I, R) = ev S d 59 51 [a0, .inr (.inl x), a2] (.inr (.inl x) :: st) (sh, I, R) := (ev_eq f_59_50).trans rfl
theorem u_59_50n {S : Scr} {d : Nat} {a0 a2 : AV} {st : List AV} {sh : Shp} {I : IM} {R : RM} : ev S d 59 50 [a0, .inr (.inr 0), a2] st (sh, I, R) = ev S d 59 51 [a0, .inr (.inr 0), a2] (.inr (.inr 0) :: st) (sh, I, R) := (ev_eq f_59_50).trans rfl
theorem f_59_51 : fetch 59 51 = some (51, .getfield 75, 3, [3, 2, 0, 42], 0) := (fm_59 51).trans rfl
theorem u_59_51 {S : Scr} {d : Nat} {a0 a1 a2 : AV} {st : List AV} {sh : Shp} {I : IM} {R : RM} {k : Nat} (h : tg sh k = 3) : ev S d 59 51 [a0, a1, a2] (.inr (.inl k) :: st) (sh, I, R) = ev S d 59 54 [a0, a1, a2] (.inl (I k 2) :: st) (sh, I, R) := (ev_eq f_59_51).trans (congrArg (fin S d 59) (if_pos h))
theorem f_59_54 : fetch 59 54 = some (54, .iconst 1, 1, [], 1) := (fm_59 54).trans rfl
theorem u_59_54 {S : Scr} {d : Nat} {a0 a1 a2 : AV} {st : List AV} {sh : Shp} {I : IM} {R : RM} : ev S d 59 54 [a0, a1, a2] st (sh, I, R) = ev S d 59 55 [a0, a1, a2] (.inl 1 :: st) (sh, I, R) := (ev_eq f_59_54).trans rfl
theorem f_59_55 : fetch 59 55 = some (55, .if_icmp .ne 8, 3, [63], 0) := (fm_59 55).trans rfl
theorem u_59_55 {S : Scr} {d : Nat} {a0 a1 a2 : AV} {st : List AV} {sh : Shp} {I : IM} {R : RM} {x y : Int} : ev S d 59 55 [a0, a1, a2] (.inl y :: .inl x :: st) (sh, I, R) = if ¬ x = y then ev S d 59 63 [a0, a1, a2] st (sh, I, R) else ev S d 59 58 [a0, a1, a2] st (sh, I, R) := (ev_eq f_59_55).trans fin_icmp_ne
theorem f_59_58 : fetch 59 58 = some (58, .bipush 76, 2, [], 76) := (fm_59 58).trans rfl
theorem u_59_58 {S : Scr} {d : Nat} {a0 a1 a2 : AV} {st : List AV} {sh : Shp} {I : IM} {R : RM} : ev S d 59 58 [a0, a1, a2] st (sh, I, R) = ev S d 59 60 [a0, a1, a2] (.inl 76 :: st) (sh, I, R) := (ev_eq f_59_58).trans rfl
theorem f_59_60 : fetch 59 60 = some (60, .goto 18, 3, [78], 0) := (fm_59 60).trans rfl
theorem u_59_60 {S : Scr} {d : Nat} {a0 a1 a2 : AV} {st : List AV} {sh : Shp} {I : IM} {R : RM} : ev S d 59 60 [a0, a1, a2] st (sh, I, R) = ev S d 59 78 [a0, a1, a2] st (sh, I, R) := (ev_eq f_59_60).trans rfl
theorem f_59_63 : fetch 59 63 = some (63, .aload_n 1, 1, [1], 0) := (fm_59 63).trans rfl
theorem u_59_63 {S : Scr} {d : Nat} {a0 a2 : AV} {st : List AV} {sh : Shp} {I : IM} {R : RM} {x : Nat} : ev S d 59 63 [a0, .inr (.inl x), a2] st (sh, I, R) = ev S d 59 64 [a0, .inr (.inl x), a2] (.inr (.inl x) :: st) (sh, I, R) := (ev_eq f_59_63).trans rfl
theorem u_59_63n {S : Scr} {d : Nat} {a0 a2 : AV} {st : List AV} {sh : Shp} {I : IM} {R : RM} : ev S d 59 63 [a0, .inr (.inr 0), a2] st (sh, I, R) = ev S d 59 64 [a0, .inr (.inr 0), a2] (.inr (.inr 0) :: st) (sh, I, R) := (ev_eq f_59_63).trans rfl
theorem f_59_64 : fetch 59 64 = some (64, .getfield 75, 3, [3, 2, 0, 42], 0) := (fm_59 64).trans rfl
theorem u_59_64 {S : Scr} {d : Nat} {a0 a1 a2 : AV} {st : List AV} {sh : Shp} {I : IM} {R : RM} {k : Nat} (h : tg sh k = 3) : ev S d 59 64 [a0, a1, a2] (.inr (.inl k) :: st) (sh, I, R) = ev S d 59 67 [a0, a1, a2] (.inl (I k 2) :: st) (sh, I, R) := (ev_eq f_59_64).trans (congrArg (fin S d 59) (if_pos h))
theorem f_59_67 : fetch 59 67 = some (67, .iconst 2, 1, [], 2) := (fm_59 67).trans rfl
theorem u_59_67 {S : Scr} {d : Nat} {a0 a1 a2 : AV} {st : List AV} {sh : Shp} {I : IM} {R : RM} : ev S d 59 67 [a0, a1, a2] st (sh, I, R) = ev S d 59 68 [a0, a1, a2] (.inl 2 :: st) (sh, I, R) := (ev_eq f_59_67).trans rfl
theorem f_59_68 : fetch 59 68 = some (68, .if_icmp .ne 8, 3, [76], 0) := (fm_59 68).trans rfl
theorem u_59_68 {S : Scr} {d : Nat} {a0 a1 a2 : AV} {st : List AV} {sh : Shp} {I : IM} {R : RM} {x y : Int} : ev S d 59 68 [a0, a1, a2] (.inl y :: .inl x :: st) (sh, I, R) = if ¬ x = y then ev S d 59 76 [a0, a1, a2] st (sh, I, R) else ev S d 59 71 [a0, a1, a2] st (sh, I, R) := (ev_eq f_59_68).trans fin_icmp_ne
theorem f_59_71 : fetch 59 71 = some (71, .bipush 66, 2, [], 66) := (fm_59 71).trans rfl
theorem u_59_71 {S : Scr} {d : Nat} {a0 a1 a2 : AV} {st : List AV} {sh : Shp} {I : IM} {R : RM} : ev S d 59 71 [a0, a1, a2] st (sh, I, R) = ev S d 59 73 [a0, a1, a2] (.inl 66 :: st) (sh, I, R) := (ev_eq f_59_71).trans rfl
theorem f_59_73 : fetch 59 73 = some (73, .goto 5, 3, [78], 0) := (fm_59 73).trans rfl
theorem u_59_73 {S : Scr} {d : Nat} {a0 a1 a2 : AV} {st : List AV} {sh : Shp} {I : IM} {R : RM} : ev S d 59 73 [a0, a1, a2] st (sh, I, R) = ev S d 59 78 [a0, a1, a2] st (sh, I, R) := (ev_eq f_59_73).trans rfl
theorem f_59_76 : fetch 59 76 = some (76, .bipush 67, 2, [], 67) := (fm_59 76).trans rfl
theorem u_59_76 {S : Scr} {d : Nat} {a0 a1 a2 : AV} {st : List AV} {sh : Shp} {I : IM} {R : RM} : ev S d 59 76 [a0, a1, a2] st (sh, I, R) = ev S d 59 78 [a0, a1, a2] (.inl 67 :: st) (sh, I, R) := (ev_eq f_59_76).trans rfl
theorem f_59_78 : fetch 59 78 = some (78, .invokevirtual 56, 3, [50, 1, 51], 0) := (fm_59 78).trans rfl
theorem u_59_78 {S : Scr} {d : Nat} {a0 a1 a2 : AV} {st : List AV} {sh : Shp} {I : IM} {R : RM} {x0 : Int} {k : Nat} (h : tg sh k = 5) (hr : st.length ≤ 8) : ev S d 59 78 [a0, a1, a2] (.inl x0 :: .inr (.inl k) :: st) (sh, I, R) = bnd (cl d 50 [.inr (.inl k), .inl x0] (sh, I, R)) (fun v M => ev S d 59 81 [a0, a1, a2] (psh v st) M) := (ev_eq f_59_78).trans (congrArg (fin S d 59) (if_pos ⟨h, rfl, hr⟩))
theorem f_59_81 : fetch 59 81 = some (81, .aload_n 0, 1, [0], 0) := (fm_59 81).trans rfl
theorem u_59_81 {S : Scr} {d : Nat} {a1 a2 : AV} {st : List AV} {sh : Shp} {I : IM} {R : RM} {x : Nat} : ev S d 59 81 [.inr (.inl x), a1, a2] st (sh, I, R) = ev S d 59 82 [.inr (.inl x), a1, a2] (.inr (.inl x) :: st) (sh, I, R) := (ev_eq f_59_81).trans rfl
theorem f_59_82 : fetch 59 82 = some (82, .getfield 12, 3, [6, 1, 1, 33], 0) := (fm_59 82).trans rfl
theorem u_59_82 {S : Scr} {d : Nat} {a0 a1 a2 : AV} {st : List AV} {sh : Shp} {I : IM} {R : RM} {k : Nat} (h : tg sh k = 6) : ev S d 59 82 [a0, a1, a2] (.inr (.inl k) :: st) (sh, I, R) = ev S d 59 85 [a0, a1, a2] (rv (R k 1) :: st) (sh, I, R) := (ev_eq f_59_82).trans (congrArg (fin S d 59) (if_pos h))
theorem f_59_85 : fetch 59 85 = some (85, .bipush 48, 2, [], 48) := (fm_59 85).trans rfl
theorem u_59_85 {S : Scr} {d : Nat} {a0 a1 a2 : AV} {st : List AV} {sh : Shp} {I : IM} {R : RM} : ev S d 59 85 [a0, a1, a2] st (sh, I, R) = ev S d 59 87 [a0, a1, a2] (.inl 48 :: st) (sh, I, R) := (ev_eq f_59_85).trans rfl
theorem f_59_87 : fetch 59 87 = some (87, .aload_n 1, 1, [1], 0) := (fm_59 87).trans rfl
theorem u_59_87 {S : Scr} {d : Nat} {a0 a2 : AV} {st : List AV} {sh : Shp} {I : IM} {R : RM} {x : Nat} : ev S d 59 87 [a0, .inr (.inl x), a2] st (sh, I, R) = ev S d 59 88 [a0, .inr (.inl x), a2] (.inr (.inl x) :: st) (sh, I, R) := (ev_eq f_59_87).trans rfl
theorem u_59_87n {S : Scr} {d : Nat} {a0 a2 : AV} {st : List AV} {sh : Shp} {I : IM} {R : RM} : ev S d 59 87 [a0, .inr (.inr 0), a2] st (sh, I, R) = ev S d 59 88 [a0, .inr (.inr 0), a2] (.inr (.inr 0) :: st) (sh, I, R) := (ev_eq f_59_87).trans rfl
theorem f_59_88 : fetch 59 88 = some (88, .getfield 75, 3, [3, 2, 0, 42], 0) := (fm_59 88).trans rfl
theorem u_59_88 {S : Scr} {d : Nat} {a0 a1 a2 : AV} {st : List AV} {sh : Shp} {I : IM} {R : RM} {k : Nat} (h : tg sh k = 3) : ev S d 59 88 [a0, a1, a2] (.inr (.inl k) :: st) (sh, I, R) = ev S d 59 91 [a0, a1, a2] (.inl (I k 2) :: st) (sh, I, R) := (ev_eq f_59_88).trans (congrArg (fin S d 59) (if_pos h))
theorem f_59_91 : fetch 59 91 = some (91, .invokestatic 81, 3, [125, 1, 54], 0) := (fm_59 91).trans rfl
theorem u_59_91 {S : Scr} {d : Nat} {a0 a1 a2 : AV} {st : List AV} {sh : Shp} {I : IM} {R : RM} {x0 : Int} (hr : st.length ≤ 8) : ev S d 59 91 [a0, a1, a2] (.inl x0 :: st) (sh, I, R) = bnd (cl d 125 [.inl x0] (sh, I, R)) (fun v M => ev S d 59 94 [a0, a1, a2] (psh v st) M) := (ev_eq f_59_91).trans (congrArg (fin S d 59) (if_pos ⟨rfl, hr⟩))
theorem f_59_94 : fetch 59 94 = some (94, .ifCond .eq 18, 3, [112], 0) := (fm_59 94).trans rfl
theorem u_59_94 {S : Scr} {d : Nat} {a0 a1 a2 : AV} {st : List AV} {sh : Shp} {I : IM} {R : RM} {x : Int} : ev S d 59 94 [a0, a1, a2] (.inl x :: st) (sh, I, R) = if x = 0 then ev S d 59 112 [a0, a1, a2] st (sh, I, R) else ev S d 59 97 [a0, a1, a2] st (sh, I, R) := (ev_eq f_59_94).trans fin_if_eq
theorem f_59_97 : fetch 59 97 = some (97, .aload_n 0, 1, [0], 0) := (fm_59 97).trans rfl
theorem u_59_97 {S : Scr} {d : Nat} {a1 a2 : AV} {st : List AV} {sh : Shp} {I : IM} {R : RM} {x : Nat} : ev S d 59 97 [.inr (.inl x), a1, a2] st (sh, I, R) = ev S d 59 98 [.inr (.inl x), a1, a2] (.inr (.inl x) :: st) (sh, I, R) := (ev_eq f_59_97).trans rfl
theorem f_59_98 : fetch 59 98 = some (98, .getfield 28, 3, [6, 0, 1, 37], 0) := (fm_59 98).trans rfl
theorem u_59_98 {S : Scr} {d : Nat} {a0 a1 a2 : AV} {st : List AV} {sh : Shp} {I : IM} {R : RM} {k : Nat} (h : tg sh k = 6) : ev S d 59 98 [a0, a1, a2] (.inr (.inl k) :: st) (sh, I, R) = ev S d 59 101 [a0, a1, a2] (rv (R k 0) :: st) (sh, I, R) := (ev_eq f_59_98).trans (congrArg (fin S d 59) (if_pos h))
theorem f_59_101 : fetch 59 101 = some (101, .getfield 84, 3, [7, 2, 1, 44], 0) := (fm_59 101).trans rfl
theorem u_59_101 {S : Scr} {d : Nat} {a0 a1 a2 : AV} {st : List AV} {sh : Shp} {I : IM} {R : RM} {k : Nat} (h : tg sh k = 7) : ev S d 59 101 [a0, a1, a2] (.inr (.inl k) :: st) (sh, I, R) = ev S d 59 104 [a0, a1, a2] (rv (R k 2) :: st) (sh, I, R) := (ev_eq f_59_101).trans (congrArg (fin S d 59) (if_pos h))
theorem f_59_104 : fetch 59 104 = some (104, .aload_n 1, 1, [1], 0) := (fm_59 104).trans rfl
theorem u_59_104 {S : Scr} {d : Nat} {a0 a2 : AV} {st : List AV} {sh : Shp} {I : IM} {R : RM} {x : Nat} : ev S d 59 104 [a0, .inr (.inl x), a2] st (sh, I, R) = ev S d 59 105 [a0, .inr (.inl x), a2] (.inr (.inl x) :: st) (sh, I, R) := (ev_eq f_59_104).trans rfl
theorem u_59_104n {S : Scr} {d : Nat} {a0 a2 : AV} {st : List AV} {sh : Shp} {I : IM} {R : RM} : ev S d 59 104 [a0, .inr (.inr 0), a2] st (sh, I, R) = ev S d 59 105 [a0, .inr (.inr 0), a2] (.inr (.inr 0) :: st) (sh, I, R) := (ev_eq f_59_104).trans rfl
theorem f_59_105 : fetch 59 105 = some (105, .getfield 75, 3, [3, 2, 0, 42], 0) := (fm_59 105).trans rfl
theorem u_59_105 {S : Scr} {d : Nat} {a0 a1 a2 : AV} {st : List AV} {sh : Shp} {I : IM} {R : RM} {k : Nat} (h : tg sh k = 3) : ev S d 59 105 [a0, a1, a2] (.inr (.inl k) :: st) (sh, I, R) = ev S d 59 108 [a0, a1, a2] (.inl (I k 2) :: st) (sh, I, R) := (ev_eq f_59_105).trans (congrArg (fin S d 59) (if_pos h))
theorem f_59_108 : fetch 59 108 = some (108, .iaload, 1, [], 0) := (fm_59 108).trans rfl
theorem u_59_108 {S : Scr} {d : Nat} {a0 a1 a2 : AV} {st : List AV} {sh : Shp} {I : IM} {R : RM} {k : Nat} {i : Int} (h : tg sh k = 100) (h0 : 0 ≤ i) (h1 : i < ln sh k) : ev S d 59 108 [a0, a1, a2] (.inl i :: .inr (.inl k) :: st) (sh, I, R) = ev S d 59 109 [a0, a1, a2] (.inl (I k i) :: st) (sh, I, R) := (ev_eq f_59_108).trans (congrArg (fin S d 59) (if_pos ⟨h, h0, h1⟩))
theorem f_59_109 : fetch 59 109 = some (109, .goto 4, 3, [113], 0) := (fm_59 109).trans rfl
theorem u_59_109 {S : Scr} {d : Nat} {a0 a1 a2 : AV} {st : List AV} {sh : Shp} {I : IM} {R : RM} : ev S d 59 109 [a0, a1, a2] st (sh, I, R) = ev S d 59 113 [a0, a1, a2] st (sh, I, R) := (ev_eq f_59_109).trans rfl
theorem f_59_112 : fetch 59 112 = some (112, .iconst 0, 1, [], 0) := (fm_59 112).trans rfl
theorem u_59_112 {S : Scr} {d : Nat} {a0 a1 a2 : AV} {st : List AV} {sh : Shp} {I : IM} {R : RM} : ev S d 59 112 [a0, a1, a2] st (sh, I, R) = ev S d 59 113 [a0, a1, a2] (.inl 0 :: st) (sh, I, R) := (ev_eq f_59_112).trans rfl
theorem f_59_113 : fetch 59 113 = some (113, .iadd, 1, [], 0) := (fm_59 113).trans rfl
theorem u_59_113 {S : Scr} {d : Nat} {a0 a1 a2 : AV} {st : List AV} {sh : Shp} {I : IM} {R : RM} {x y : Int} : ev S d 59 113 [a0, a1, a2] (.inl y :: .inl x :: st) (sh, I, R) = ev S d 59 114 [a0, a1, a2] (.inl (wr (x + y)) :: st) (sh, I, R) := (ev_eq f_59_113).trans rfl
theorem f_59_114 : fetch 59 114 = some (114, .invokevirtual 56, 3, [50, 1, 51], 0) := (fm_59 114).trans rfl
theorem u_59_114 {S : Scr} {d : Nat} {a0 a1 a2 : AV} {st : List AV} {sh : Shp} {I : IM} {R : RM} {x0 : Int} {k : Nat} (h : tg sh k = 5) (hr : st.length ≤ 8) : ev S d 59 114 [a0, a1, a2] (.inl x0 :: .inr (.inl k) :: st) (sh, I, R) = bnd (cl d 50 [.inr (.inl k), .inl x0] (sh, I, R)) (fun v M => ev S d 59 117 [a0, a1, a2] (psh v st) M) := (ev_eq f_59_114).trans (congrArg (fin S d 59) (if_pos ⟨h, rfl, hr⟩))
theorem f_59_117 : fetch 59 117 = some (117, .iconst 0, 1, [], 0) := (fm_59 117).trans rfl
theorem u_59_117 {S : Scr} {d : Nat} {a0 a1 a2 : AV} {st : List AV} {sh : Shp} {I : IM} {R : RM} : ev S d 59 117 [a0, a1, a2] st (sh, I, R) = ev S d 59 118 [a0, a1, a2] (.inl 0 :: st) (sh, I, R) := (ev_eq f_59_117).trans rfl
theorem f_59_118 : fetch 59 118 = some (118, .istore_n 2, 1, [2], 0) := (fm_59 118).trans rfl
theorem u_59_118 {S : Scr} {d : Nat} {a0 a1 a2 : AV} {st : List AV} {sh : Shp} {I : IM} {R : RM} {x : Int} : ev S d 59 118 [a0, a1, a2] (.inl x :: st) (sh, I, R) = ev S d 59 119 [a0, a1, .inl x] st (sh, I, R) := (ev_eq f_59_118).trans rfl
theorem f_59_119 : fetch 59 119 = some (119, .iload_n 2, 1, [2], 0) := (fm_59 119).trans rfl
theorem u_59_119 {S : Scr} {d : Nat} {a0 a1 : AV} {st : List AV} {sh : Shp} {I : IM} {R : RM} {x : Int} : ev S d 59 119 [a0, a1, .inl x] st (sh, I, R) = ev S d 59 120 [a0, a1, .inl x] (.inl x :: st) (sh, I, R) := (ev_eq f_59_119).trans rfl
theorem f_59_120 : fetch 59 120 = some (120, .aload_n 1, 1, [1], 0) := (fm_59 120).trans rfl
theorem u_59_120 {S : Scr} {d : Nat} {a0 a2 : AV} {st : List AV} {sh : Shp} {I : IM} {R : RM} {x : Nat} : ev S d 59 120 [a0, .inr (.inl x), a2] st (sh, I, R) = ev S d 59 121 [a0, .inr (.inl x), a2] (.inr (.inl x) :: st) (sh, I, R) := (ev_eq f_59_120).trans rfl
theorem u_59_120n {S : Scr} {d : Nat} {a0 a2 : AV} {st : List AV} {sh : Shp} {I : IM} {R : RM} : ev S d 59 120 [a0, .inr (.inr 0), a2] st (sh, I, R) = ev S d 59 121 [a0, .inr (.inr 0), a2] (.inr (.inr 0) :: st) (sh, I, R) := (ev_eq f_59_120).trans rfl
theorem f_59_121 : fetch 59 121 = some (121, .getfield 87, 3, [3, 0, 1, 45], 0) := (fm_59 121).trans rfl
theorem u_59_121 {S : Scr} {d : Nat} {a0 a1 a2 : AV} {st : List AV} {sh : Shp} {I : IM} {R : RM} {k : Nat} (h : tg sh k = 3) : ev S d 59 121 [a0, a1, a2] (.inr (.inl k) :: st) (sh, I, R) = ev S d 59 124 [a0, a1, a2] (rv (R k 0) :: st) (sh, I, R) := (ev_eq f_59_121).trans (congrArg (fin S d 59) (if_pos h))
theorem f_59_124 : fetch 59 124 = some (124, .getfield 91, 3, [1, 3, 0, 46], 0) := (fm_59 124).trans rfl
theorem u_59_124 {S : Scr} {d : Nat} {a0 a1 a2 : AV} {st : List AV} {sh : Shp} {I : IM} {R : RM} {k : Nat} (h : tg sh k = 1) : ev S d 59 124 [a0, a1, a2] (.inr (.inl k) :: st) (sh, I, R) = ev S d 59 127 [a0, a1, a2] (.inl (I k 3) :: st) (sh, I, R) := (ev_eq f_59_124).trans (congrArg (fin S d 59) (if_pos h))
theorem f_59_127 : fetch 59 127 = some (127, .if_icmp .ge 38, 3, [165], 0) := (fm_59 127).trans rfl
theorem u_59_127 {S : Scr} {d : Nat} {a0 a1 a2 : AV} {st : List AV} {sh : Shp} {I : IM} {R : RM} {x y : Int} : ev S d 59 127 [a0, a1, a2] (.inl y :: .inl x :: st) (sh, I, R) = if y ≤ x then ev S d 59 165 [a0, a1, a2] st (sh, I, R) else ev S d 59 130 [a0, a1, a2] st (sh, I, R) := (ev_eq f_59_127).trans fin_icmp_ge
theorem f_59_130 : fetch 59 130 = some (130, .aload_n 0, 1, [0], 0) := (fm_59 130).trans rfl
theorem u_59_130 {S : Scr} {d : Nat} {a1 a2 : AV} {st : List AV} {sh : Shp} {I : IM} {R : RM} {x : Nat} : ev S d 59 130 [.inr (.inl x), a1, a2] st (sh, I, R) = ev S d 59 131 [.inr (.inl x), a1, a2] (.inr (.inl x) :: st) (sh, I, R) := (ev_eq f_59_130).trans rfl
theorem f_59_131 : fetch 59 131 = some (131, .getfield 12, 3, [6, 1, 1, 33], 0) := (fm_59 131).trans rfl
theorem u_59_131 {S : Scr} {d : Nat} {a0 a1 a2 : AV} {st : List AV} {sh : Shp} {I : IM} {R : RM} {k : Nat} (h : tg sh k = 6) : ev S d 59 131 [a0, a1, a2] (.inr (.inl k) :: st) (sh, I, R) = ev S d 59 134 [a0, a1, a2] (rv (R k 1) :: st) (sh, I, R) := (ev_eq f_59_131).trans (congrArg (fin S d 59) (if_pos h))
theorem f_59_134 : fetch 59 134 = some (134, .aload_n 1, 1, [1], 0) := (fm_59 134).trans rfl
theorem u_59_134 {S : Scr} {d : Nat} {a0 a2 : AV} {st : List AV} {sh : Shp} {I : IM} {R : RM} {x : Nat} : ev S d 59 134 [a0, .inr (.inl x), a2] st (sh, I, R) = ev S d 59 135 [a0, .inr (.inl x), a2] (.inr (.inl x) :: st) (sh, I, R) := (ev_eq f_59_134).trans rfl
theorem u_59_134n {S : Scr} {d : Nat} {a0 a2 : AV} {st : List AV} {sh : Shp} {I : IM} {R : RM} : ev S d 59 134 [a0, .inr (.inr 0), a2] st (sh, I, R) = ev S d 59 135 [a0, .inr (.inr 0), a2] (.inr (.inr 0) :: st) (sh, I, R) := (ev_eq f_59_134).trans rfl
theorem f_59_135 : fetch 59 135 = some (135, .getfield 87, 3, [3, 0, 1, 45], 0) := (fm_59 135).trans rfl
theorem u_59_135 {S : Scr} {d : Nat} {a0 a1 a2 : AV} {st : List AV} {sh : Shp} {I : IM} {R : RM} {k : Nat} (h : tg sh k = 3) : ev S d 59 135 [a0, a1, a2] (.inr (.inl k) :: st) (sh, I, R) = ev S d 59 138 [a0, a1, a2] (rv (R k 0) :: st) (sh, I, R) := (ev_eq f_59_135).trans (congrArg (fin S d 59) (if_pos h))
theorem f_59_138 : fetch 59 138 = some (138, .getfield 96, 3, [1, 1, 1, 47], 0) := (fm_59 138).trans rfl
theorem u_59_138 {S : Scr} {d : Nat} {a0 a1 a2 : AV} {st : List AV} {sh : Shp} {I : IM} {R : RM} {k : Nat} (h : tg sh k = 1) : ev S d 59 138 [a0, a1, a2] (.inr (.inl k) :: st) (sh, I, R) = ev S d 59 141 [a0, a1, a2] (rv (R k 1) :: st) (sh, I, R) := (ev_eq f_59_138).trans (congrArg (fin S d 59) (if_pos h))
theorem f_59_141 : fetch 59 141 = some (141, .iload_n 2, 1, [2], 0) := (fm_59 141).trans rfl
theorem u_59_141 {S : Scr} {d : Nat} {a0 a1 : AV} {st : List AV} {sh : Shp} {I : IM} {R : RM} {x : Int} : ev S d 59 141 [a0, a1, .inl x] st (sh, I, R) = ev S d 59 142 [a0, a1, .inl x] (.inl x :: st) (sh, I, R) := (ev_eq f_59_141).trans rfl
theorem f_59_142 : fetch 59 142 = some (142, .iaload, 1, [], 0) := (fm_59 142).trans rfl
theorem u_59_142 {S : Scr} {d : Nat} {a0 a1 a2 : AV} {st : List AV} {sh : Shp} {I : IM} {R : RM} {k : Nat} {i : Int} (h : tg sh k = 100) (h0 : 0 ≤ i) (h1 : i < ln sh k) : ev S d 59 142 [a0, a1, a2] (.inl i :: .inr (.inl k) :: st) (sh, I, R) = ev S d 59 143 [a0, a1, a2] (.inl (I k i) :: st) (sh, I, R) := (ev_eq f_59_142).trans (congrArg (fin S d 59) (if_pos ⟨h, h0, h1⟩))
theorem f_59_143 : fetch 59 143 = some (143, .invokevirtual 56, 3, [50, 1, 51], 0) := (fm_59 143).trans rfl
theorem u_59_143 {S : Scr} {d : Nat} {a0 a1 a2 : AV} {st : List AV} {sh : Shp} {I : IM} {R : RM} {x0 : Int} {k : Nat} (h : tg sh k = 5) (hr : st.length ≤ 8) : ev S d 59 143 [a0, a1, a2] (.inl x0 :: .inr (.inl k) :: st) (sh, I, R) = bnd (cl d 50 [.inr (.inl k), .inl x0] (sh, I, R)) (fun v M => ev S d 59 146 [a0, a1, a2] (psh v st) M) := (ev_eq f_59_143).trans (congrArg (fin S d 59) (if_pos ⟨h, rfl, hr⟩))
theorem f_59_146 : fetch 59 146 = some (146, .aload_n 0, 1, [0], 0) := (fm_59 146).trans rfl
theorem u_59_146 {S : Scr} {d : Nat} {a1 a2 : AV} {st : List AV} {sh : Shp} {I : IM} {R : RM} {x : Nat} : ev S d 59 146 [.inr (.inl x), a1, a2] st (sh, I, R) = ev S d 59 147 [.inr (.inl x), a1, a2] (.inr (.inl x) :: st) (sh, I, R) := (ev_eq f_59_146).trans rfl
theorem f_59_147 : fetch 59 147 = some (147, .aload_n 1, 1, [1], 0) := (fm_59 147).trans rfl
theorem u_59_147 {S : Scr} {d : Nat} {a0 a2 : AV} {st : List AV} {sh : Shp} {I : IM} {R : RM} {x : Nat} : ev S d 59 147 [a0, .inr (.inl x), a2] st (sh, I, R) = ev S d 59 148 [a0, .inr (.inl x), a2] (.inr (.inl x) :: st) (sh, I, R) := (ev_eq f_59_147).trans rfl
theorem u_59_147n {S : Scr} {d : Nat} {a0 a2 : AV} {st : List AV} {sh : Shp} {I : IM} {R : RM} : ev S d 59 147 [a0, .inr (.inr 0), a2] st (sh, I, R) = ev S d 59 148 [a0, .inr (.inr 0), a2] (.inr (.inr 0) :: st) (sh, I, R) := (ev_eq f_59_147).trans rfl
theorem f_59_148 : fetch 59 148 = some (148, .getfield 87, 3, [3, 0, 1, 45], 0) := (fm_59 148).trans rfl
theorem u_59_148 {S : Scr} {d : Nat} {a0 a1 a2 : AV} {st : List AV} {sh : Shp} {I : IM} {R : RM} {k : Nat} (h : tg sh k = 3) : ev S d 59 148 [a0, a1, a2] (.inr (.inl k) :: st) (sh, I, R) = ev S d 59 151 [a0, a1, a2] (rv (R k 0) :: st) (sh, I, R) := (ev_eq f_59_148).trans (congrArg (fin S d 59) (if_pos h))
theorem f_59_151 : fetch 59 151 = some (151, .getfield 99, 3, [1, 2, 1, 48], 0) := (fm_59 151).trans rfl
theorem u_59_151 {S : Scr} {d : Nat} {a0 a1 a2 : AV} {st : List AV} {sh : Shp} {I : IM} {R : RM} {k : Nat} (h : tg sh k = 1) : ev S d 59 151 [a0, a1, a2] (.inr (.inl k) :: st) (sh, I, R) = ev S d 59 154 [a0, a1, a2] (rv (R k 2) :: st) (sh, I, R) := (ev_eq f_59_151).trans (congrArg (fin S d 59) (if_pos h))
theorem f_59_154 : fetch 59 154 = some (154, .iload_n 2, 1, [2], 0) := (fm_59 154).trans rfl
theorem u_59_154 {S : Scr} {d : Nat} {a0 a1 : AV} {st : List AV} {sh : Shp} {I : IM} {R : RM} {x : Int} : ev S d 59 154 [a0, a1, .inl x] st (sh, I, R) = ev S d 59 155 [a0, a1, .inl x] (.inl x :: st) (sh, I, R) := (ev_eq f_59_154).trans rfl
theorem f_59_155 : fetch 59 155 = some (155, .iaload, 1, [], 0) := (fm_59 155).trans rfl
theorem u_59_155 {S : Scr} {d : Nat} {a0 a1 a2 : AV} {st : List AV} {sh : Shp} {I : IM} {R : RM} {k : Nat} {i : Int} (h : tg sh k = 100) (h0 : 0 ≤ i) (h1 : i < ln sh k) : ev S d 59 155 [a0, a1, a2] (.inl i :: .inr (.inl k) :: st) (sh, I, R) = ev S d 59 156 [a0, a1, a2] (.inl (I k i) :: st) (sh, I, R) := (ev_eq f_59_155).trans (congrArg (fin S d 59) (if_pos ⟨h, h0, h1⟩))
theorem f_59_156 : fetch 59 156 = some (156, .invokevirtual 100, 3, [60, 1, 55], 0) := (fm_59 156).trans rfl
theorem u_59_156 {S : Scr} {d : Nat} {a0 a1 a2 : AV} {st : List AV} {sh : Shp} {I : IM} {R : RM} {x0 : Int} {k : Nat} (h : tg sh k = 6) (hr : st.length ≤ 8) : ev S d 59 156 [a0, a1, a2] (.inl x0 :: .inr (.inl k) :: st) (sh, I, R) = bnd (cl d 60 [.inr (.inl k), .inl x0] (sh, I, R)) (fun v M => ev S d 59 159 [a0, a1, a2] (psh v st) M) := (ev_eq f_59_156).trans (congrArg (fin S d 59) (if_pos ⟨h, rfl, hr⟩))
theorem f_59_159 : fetch 59 159 = some (159, .iinc 2 1, 3, [2], 1) := (fm_59 159).trans rfl
theorem u_59_159 {S : Scr} {d : Nat} {a0 a1 : AV} {st : List AV} {sh : Shp} {I : IM} {R : RM} {x : Int} : ev S d 59 159 [a0, a1, .inl x] st (sh, I, R) = ev S d 59 162 [a0, a1, .inl (wr (x + 1))] st (sh, I, R) := (ev_eq f_59_159).trans rfl
theorem f_59_162 : fetch 59 162 = some (162, .goto (-43), 3, [119], 0) := (fm_59 162).trans rfl
theorem u_59_162 {S : Scr} {d : Nat} {a0 a1 a2 : AV} {st : List AV} {sh : Shp} {I : IM} {R : RM} : ev S d 59 162 [a0, a1, a2] st (sh, I, R) = ev S d 59 119 [a0, a1, a2] st (sh, I, R) := (ev_eq f_59_162).trans rfl
theorem f_59_165 : fetch 59 165 = some (165, .aload_n 0, 1, [0], 0) := (fm_59 165).trans rfl
theorem u_59_165 {S : Scr} {d : Nat} {a1 a2 : AV} {st : List AV} {sh : Shp} {I : IM} {R : RM} {x : Nat} : ev S d 59 165 [.inr (.inl x), a1, a2] st (sh, I, R) = ev S d 59 166 [.inr (.inl x), a1, a2] (.inr (.inl x) :: st) (sh, I, R) := (ev_eq f_59_165).trans rfl
theorem f_59_166 : fetch 59 166 = some (166, .getfield 12, 3, [6, 1, 1, 33], 0) := (fm_59 166).trans rfl
theorem u_59_166 {S : Scr} {d : Nat} {a0 a1 a2 : AV} {st : List AV} {sh : Shp} {I : IM} {R : RM} {k : Nat} (h : tg sh k = 6) : ev S d 59 166 [a0, a1, a2] (.inr (.inl k) :: st) (sh, I, R) = ev S d 59 169 [a0, a1, a2] (rv (R k 1) :: st) (sh, I, R) := (ev_eq f_59_166).trans (congrArg (fin S d 59) (if_pos h))
theorem f_59_169 : fetch 59 169 = some (169, .bipush 46, 2, [], 46) := (fm_59 169).trans rfl
theorem u_59_169 {S : Scr} {d : Nat} {a0 a1 a2 : AV} {st : List AV} {sh : Shp} {I : IM} {R : RM} : ev S d 59 169 [a0, a1, a2] st (sh, I, R) = ev S d 59 171 [a0, a1, a2] (.inl 46 :: st) (sh, I, R) := (ev_eq f_59_169).trans rfl
theorem f_59_171 : fetch 59 171 = some (171, .invokevirtual 56, 3, [50, 1, 51], 0) := (fm_59 171).trans rfl
theorem u_59_171 {S : Scr} {d : Nat} {a0 a1 a2 : AV} {st : List AV} {sh : Shp} {I : IM} {R : RM} {x0 : Int} {k : Nat} (h : tg sh k = 5) (hr : st.length ≤ 8) : ev S d 59 171 [a0, a1, a2] (.inl x0 :: .inr (.inl k) :: st) (sh, I, R) = bnd (cl d 50 [.inr (.inl k), .inl x0] (sh, I, R)) (fun v M => ev S d 59 174 [a0, a1, a2] (psh v st) M) := (ev_eq f_59_171).trans (congrArg (fin S d 59) (if_pos ⟨h, rfl, hr⟩))
theorem f_59_174 : fetch 59 174 = some (174, .return_, 1, [], 0) := (fm_59 174).trans rfl
theorem u_59_174 {S : Scr} {d : Nat} {a0 a1 a2 : AV} {sh : Shp} {I : IM} {R : RM} : ev S d 59 174 [a0, a1, a2] [] (sh, I, R) = some (none, (sh, I, R)) := (ev_eq f_59_174).trans rfl
theorem c_60 {d : Nat} {a0 a1 : AV} {M : Mem} : cl (d + 1) 60 [a0, a1] M = ev S0 d 60 0 [a0, a1, .inr (.inr 1)] [] M := (cl_eq (as := [a0, a1]) (show 2 ≤ maxOf 60 by decide +kernel)).trans rfl
theorem mt_60 : MT[60]? = some m_60 := rfl
theorem fm_60 (pc : Nat) : fetch 60 pc = lk m_60.2.2.2.2.2 pc := by
  unfold fetch
  rw [mt_60]
theorem f_60_0 : fetch 60 0 = some (0, .iload_n 1, 1, [1], 0) := (fm_60 0).trans rfl
theorem u_60_0 {S : Scr} {d : Nat} {a0 a2 : AV} {st : List AV} {sh : Shp} {I : IM} {R : RM} {x : Int} : ev S d 60 0 [a0, .inl x, a2] st (sh, I, R) = ev S d 60 1 [a0, .inl x, a2] (.inl x :: st) (sh, I, R) := (ev_eq f_60_0).trans rfl
theorem f_60_1 : fetch 60 1 = some (1, .ifCond .ge 12, 3, [13], 0) := (fm_60 1).trans rfl
theorem u_60_1 {S : Scr} {d : Nat} {a0 a1 a2 : AV} {st : List AV} {sh : Shp} {I : IM} {R : RM} {x : Int} : ev S d 60 1 [a0, a1, a2] (.inl x :: st) (sh, I, R) = if 0 ≤ x then ev S d 60 13 [a0, a1, a2] st (sh, I, R) else ev S d 60 4 [a0, a1, a2] st (sh, I, R) := (ev_eq f_60_1).trans fin_if_ge
theorem f_60_4 : fetch 60 4 = some (4, .aload_n 0, 1, [0], 0) := (fm_60 4).trans rfl
theorem u_60_4 {S : Scr} {d : Nat} {a1 a2 : AV} {st : List AV} {sh : Shp} {I : IM} {R : RM} {x : Nat} : ev S d 60 4 [.inr (.inl x), a1, a2] st (sh, I, R) = ev S d 60 5 [.inr (.inl x), a1, a2] (.inr (.inl x) :: st) (sh, I, R) := (ev_eq f_60_4).trans rfl
theorem f_60_5 : fetch 60 5 = some (5, .getfield 12, 3, [6, 1, 1, 33], 0) := (fm_60 5).trans rfl
theorem u_60_5 {S : Scr} {d : Nat} {a0 a1 a2 : AV} {st : List AV} {sh : Shp} {I : IM} {R : RM} {k : Nat} (h : tg sh k = 6) : ev S d 60 5 [a0, a1, a2] (.inr (.inl k) :: st) (sh, I, R) = ev S d 60 8 [a0, a1, a2] (rv (R k 1) :: st) (sh, I, R) := (ev_eq f_60_5).trans (congrArg (fin S d 60) (if_pos h))
theorem f_60_8 : fetch 60 8 = some (8, .bipush 45, 2, [], 45) := (fm_60 8).trans rfl
theorem u_60_8 {S : Scr} {d : Nat} {a0 a1 a2 : AV} {st : List AV} {sh : Shp} {I : IM} {R : RM} : ev S d 60 8 [a0, a1, a2] st (sh, I, R) = ev S d 60 10 [a0, a1, a2] (.inl 45 :: st) (sh, I, R) := (ev_eq f_60_8).trans rfl
theorem f_60_10 : fetch 60 10 = some (10, .invokevirtual 56, 3, [50, 1, 51], 0) := (fm_60 10).trans rfl
theorem u_60_10 {S : Scr} {d : Nat} {a0 a1 a2 : AV} {st : List AV} {sh : Shp} {I : IM} {R : RM} {x0 : Int} {k : Nat} (h : tg sh k = 5) (hr : st.length ≤ 8) : ev S d 60 10 [a0, a1, a2] (.inl x0 :: .inr (.inl k) :: st) (sh, I, R) = bnd (cl d 50 [.inr (.inl k), .inl x0] (sh, I, R)) (fun v M => ev S d 60 13 [a0, a1, a2] (psh v st) M) := (ev_eq f_60_10).trans (congrArg (fin S d 60) (if_pos ⟨h, rfl, hr⟩))
theorem f_60_13 : fetch 60 13 = some (13, .iload_n 1, 1, [1], 0) := (fm_60 13).trans rfl
theorem u_60_13 {S : Scr} {d : Nat} {a0 a2 : AV} {st : List AV} {sh : Shp} {I : IM} {R : RM} {x : Int} : ev S d 60 13 [a0, .inl x, a2] st (sh, I, R) = ev S d 60 14 [a0, .inl x, a2] (.inl x :: st) (sh, I, R) := (ev_eq f_60_13).trans rfl
theorem f_60_14 : fetch 60 14 = some (14, .invokestatic 103, 3, [2, 3], 0) := (fm_60 14).trans rfl
theorem u_60_14 {S : Scr} {d : Nat} {a0 a1 a2 : AV} {st : List AV} {sh : Shp} {I : IM} {R : RM} {x : Int} (hr : st.length ≤ 8) : ev S d 60 14 [a0, a1, a2] (.inl x :: st) (sh, I, R) = ev S d 60 17 [a0, a1, a2] (.inl (if 0 ≤ x then x else wr (0 - x)) :: st) (sh, I, R) := (ev_eq f_60_14).trans (congrArg (fin S d 60) (if_pos hr))
theorem f_60_17 : fetch 60 17 = some (17, .istore_n 2, 1, [2], 0) := (fm_60 17).trans rfl
theorem u_60_17 {S : Scr} {d : Nat} {a0 a1 a2 : AV} {st : List AV} {sh : Shp} {I : IM} {R : RM} {x : Int} : ev S d 60 17 [a0, a1, a2] (.inl x :: st) (sh, I, R) = ev S d 60 18 [a0, a1, .inl x] st (sh, I, R) := (ev_eq f_60_17).trans rfl
theorem f_60_18 : fetch 60 18 = some (18, .iload_n 2, 1, [2], 0) := (fm_60 18).trans rfl
theorem u_60_18 {S : Scr} {d : Nat} {a0 a1 : AV} {st : List AV} {sh : Shp} {I : IM} {R : RM} {x : Int} : ev S d 60 18 [a0, a1, .inl x] st (sh, I, R) = ev S d 60 19 [a0, a1, .inl x] (.inl x :: st) (sh, I, R) := (ev_eq f_60_18).trans rfl
theorem f_60_19 : fetch 60 19 = some (19, .bipush 10, 2, [], 10) := (fm_60 19).trans rfl
theorem u_60_19 {S : Scr} {d : Nat} {a0 a1 a2 : AV} {st : List AV} {sh : Shp} {I : IM} {R : RM} : ev S d 60 19 [a0, a1, a2] st (sh, I, R) = ev S d 60 21 [a0, a1, a2] (.inl 10 :: st) (sh, I, R) := (ev_eq f_60_19).trans rfl
theorem f_60_21 : fetch 60 21 = some (21, .if_icmp .lt 17, 3, [38], 0) := (fm_60 21).trans rfl
theorem u_60_21 {S : Scr} {d : Nat} {a0 a1 a2 : AV} {st : List AV} {sh : Shp} {I : IM} {R : RM} {x y : Int} : ev S d 60 21 [a0, a1, a2] (.inl y :: .inl x :: st) (sh, I, R) = if x < y then ev S d 60 38 [a0, a1, a2] st (sh, I, R) else ev S d 60 24 [a0, a1, a2] st (sh, I, R) := (ev_eq f_60_21).trans fin_icmp_lt
theorem f_60_24 : fetch 60 24 = some (24, .aload_n 0, 1, [0], 0) := (fm_60 24).trans rfl
theorem u_60_24 {S : Scr} {d : Nat} {a1 a2 : AV} {st : List AV} {sh : Shp} {I : IM} {R : RM} {x : Nat} : ev S d 60 24 [.inr (.inl x), a1, a2] st (sh, I, R) = ev S d 60 25 [.inr (.inl x), a1, a2] (.inr (.inl x) :: st) (sh, I, R) := (ev_eq f_60_24).trans rfl
theorem f_60_25 : fetch 60 25 = some (25, .getfield 12, 3, [6, 1, 1, 33], 0) := (fm_60 25).trans rfl
theorem u_60_25 {S : Scr} {d : Nat} {a0 a1 a2 : AV} {st : List AV} {sh : Shp} {I : IM} {R : RM} {k : Nat} (h : tg sh k = 6) : ev S d 60 25 [a0, a1, a2] (.inr (.inl k) :: st) (sh, I, R) = ev S d 60 28 [a0, a1, a2] (rv (R k 1) :: st) (sh, I, R) := (ev_eq f_60_25).trans (congrArg (fin S d 60) (if_pos h))
theorem f_60_28 : fetch 60 28 = some (28, .bipush 48, 2, [], 48) := (fm_60 28).trans rfl
theorem u_60_28 {S : Scr} {d : Nat} {a0 a1 a2 : AV} {st : List AV} {sh : Shp} {I : IM} {R : RM} : ev S d 60 28 [a0, a1, a2] st (sh, I, R) = ev S d 60 30 [a0, a1, a2] (.inl 48 :: st) (sh, I, R) := (ev_eq f_60_28).trans rfl
theorem f_60_30 : fetch 60 30 = some (30, .iload_n 2, 1, [2], 0) := (fm_60 30).trans rfl
theorem u_60_30 {S : Scr} {d : Nat} {a0 a1 : AV} {st : List AV} {sh : Shp} {I : IM} {R : RM} {x : Int} : ev S d 60 30 [a0, a1, .inl x] st (sh, I, R) = ev S d 60 31 [a0, a1, .inl x] (.inl x :: st) (sh, I, R) := (ev_eq f_60_30).trans rfl
theorem f_60_31 : fetch 60 31 = some (31, .bipush 10, 2, [], 10) := (fm_60 31).trans rfl
theorem u_60_31 {S : Scr} {d : Nat} {a0 a1 a2 : AV} {st : List AV} {sh : Shp} {I : IM} {R : RM} : ev S d 60 31 [a0, a1, a2] st (sh, I, R) = ev S d 60 33 [a0, a1, a2] (.inl 10 :: st) (sh, I, R) := (ev_eq f_60_31).trans rfl
theorem f_60_33 : fetch 60 33 = some (33, .idiv, 1, [], 0) := (fm_60 33).trans rfl
theorem u_60_33 {S : Scr} {d : Nat} {a0 a1 a2 : AV} {st : List AV} {sh : Shp} {I : IM} {R : RM} {x y : Int} (h : ¬ y = 0) : ev S d 60 33 [a0, a1, a2] (.inl y :: .inl x :: st) (sh, I, R) = ev S d 60 34 [a0, a1, a2] (.inl (b32 (fun x y => x / y) x y) :: st) (sh, I, R) := (ev_eq f_60_33).trans (congrArg (fin S d 60) (if_neg h))
theorem f_60_34 : fetch 60 34 = some (34, .iadd, 1, [], 0) := (fm_60 34).trans rfl
theorem u_60_34 {S : Scr} {d : Nat} {a0 a1 a2 : AV} {st : List AV} {sh : Shp} {I : IM} {R : RM} {x y : Int} : ev S d 60 34 [a0, a1, a2] (.inl y :: .inl x :: st) (sh, I, R) = ev S d 60 35 [a0, a1, a2] (.inl (wr (x + y)) :: st) (sh, I, R) := (ev_eq f_60_34).trans rfl
theorem f_60_35 : fetch 60 35 = some (35, .invokevirtual 56, 3, [50, 1, 51], 0) := (fm_60 35).trans rfl
theorem u_60_35 {S : Scr} {d : Nat} {a0 a1 a2 : AV} {st : List AV} {sh : Shp} {I : IM} {R : RM} {x0 : Int} {k : Nat} (h : tg sh k = 5) (hr : st.length ≤ 8) : ev S d 60 35 [a0, a1, a2] (.inl x0 :: .inr (.inl k) :: st) (sh, I, R) = bnd (cl d 50 [.inr (.inl k), .inl x0] (sh, I, R)) (fun v M => ev S d 60 38 [a0, a1, a2] (psh v st) M) := (ev_eq f_60_35).trans (congrArg (fin S d 60) (if_pos ⟨h, rfl, hr⟩))
theorem f_60_38 : fetch 60 38 = some (38, .aload_n 0, 1, [0], 0) := (fm_60 38).trans rfl
theorem u_60_38 {S : Scr} {d : Nat} {a1 a2 : AV} {st : List AV} {sh : Shp} {I : IM} {R : RM} {x : Nat} : ev S d 60 38 [.inr (.inl x), a1, a2] st (sh, I, R) = ev S d 60 39 [.inr (.inl x), a1, a2] (.inr (.inl x) :: st) (sh, I, R) := (ev_eq f_60_38).trans rfl
theorem f_60_39 : fetch 60 39 = some (39, .getfield 12, 3, [6, 1, 1, 33], 0) := (fm_60 39).trans rfl
theorem u_60_39 {S : Scr} {d : Nat} {a0 a1 a2 : AV} {st : List AV} {sh : Shp} {I : IM} {R : RM} {k : Nat} (h : tg sh k = 6) : ev S d 60 39 [a0, a1, a2] (.inr (.inl k) :: st) (sh, I, R) = ev S d 60 42 [a0, a1, a2] (rv (R k 1) :: st) (sh, I, R) := (ev_eq f_60_39).trans (congrArg (fin S d 60) (if_pos h))
theorem f_60_42 : fetch 60 42 = some (42, .bipush 48, 2, [], 48) := (fm_60 42).trans rfl
theorem u_60_42 {S : Scr} {d : Nat} {a0 a1 a2 : AV} {st : List AV} {sh : Shp} {I : IM} {R : RM} : ev S d 60 42 [a0, a1, a2] st (sh, I, R) = ev S d 60 44 [a0, a1, a2] (.inl 48 :: st) (sh, I, R) := (ev_eq f_60_42).trans rfl
theorem f_60_44 : fetch 60 44 = some (44, .iload_n 2, 1, [2], 0) := (fm_60 44).trans rfl
theorem u_60_44 {S : Scr} {d : Nat} {a0 a1 : AV} {st : List AV} {sh : Shp} {I : IM} {R : RM} {x : Int} : ev S d 60 44 [a0, a1, .inl x] st (sh, I, R) = ev S d 60 45 [a0, a1, .inl x] (.inl x :: st) (sh, I, R) := (ev_eq f_60_44).trans rfl
theorem f_60_45 : fetch 60 45 = some (45, .bipush 10, 2, [], 10) := (fm_60 45).trans rfl
theorem u_60_45 {S : Scr} {d : Nat} {a0 a1 a2 : AV} {st : List AV} {sh : Shp} {I : IM} {R : RM} : ev S d 60 45 [a0, a1, a2] st (sh, I, R) = ev S d 60 47 [a0, a1, a2] (.inl 10 :: st) (sh, I, R) := (ev_eq f_60_45).trans rfl
theorem f_60_47 : fetch 60 47 = some (47, .irem, 1, [], 0) := (fm_60 47).trans rfl
theorem u_60_47 {S : Scr} {d : Nat} {a0 a1 a2 : AV} {st : List AV} {sh : Shp} {I : IM} {R : RM} {x y : Int} (h : ¬ y = 0) : ev S d 60 47 [a0, a1, a2] (.inl y :: .inl x :: st) (sh, I, R) = ev S d 60 48 [a0, a1, a2] (.inl (b32 (fun x y => x - x / y * y) x y) :: st) (sh, I, R) := (ev_eq f_60_47).trans (congrArg (fin S d 60) (if_neg h))
theorem f_60_48 : fetch 60 48 = some (48, .iadd, 1, [], 0) := (fm_60 48).trans rfl
theorem u_60_48 {S : Scr} {d : Nat} {a0 a1 a2 : AV} {st : List AV} {sh : Shp} {I : IM} {R : RM} {x y : Int} : ev S d 60 48 [a0, a1, a2] (.inl y :: .inl x :: st) (sh, I, R) = ev S d 60 49 [a0, a1, a2] (.inl (wr (x + y)) :: st) (sh, I, R) := (ev_eq f_60_48).trans rfl
theorem f_60_49 : fetch 60 49 = some (49, .invokevirtual 56, 3, [50, 1, 51], 0) := (fm_60 49).trans rfl
theorem u_60_49 {S : Scr} {d : Nat} {a0 a1 a2 : AV} {st : List AV} {sh : Shp} {I : IM} {R : RM} {x0 : Int} {k : Nat} (h : tg sh k = 5) (hr : st.length ≤ 8) : ev S d 60 49 [a0, a1, a2] (.inl x0 :: .inr (.inl k) :: st) (sh, I, R) = bnd (cl d 50 [.inr (.inl k), .inl x0] (sh, I, R)) (fun v M => ev S d 60 52 [a0, a1, a2] (psh v st) M) := (ev_eq f_60_49).trans (congrArg (fin S d 60) (if_pos ⟨h, rfl, hr⟩))
theorem f_60_52 : fetch 60 52 = some (52, .return_, 1, [], 0) := (fm_60 52).trans rfl
theorem u_60_52 {S : Scr} {d : Nat} {a0 a1 a2 : AV} {sh : Shp} {I : IM} {R : RM} : ev S d 60 52 [a0, a1, a2] [] (sh, I, R) = some (none, (sh, I, R)) := (ev_eq f_60_52).trans rfl
theorem c_61 {d : Nat} {a0 : AV} {M : Mem} : cl (d + 1) 61 [a0] M = ev S0 d 61 0 [a0, .inr (.inr 1), .inr (.inr 1)] [] M := (cl_eq (as := [a0]) (show 1 ≤ maxOf 61 by decide +kernel)).trans rfl
theorem mt_61 : MT[61]? = some m_61 := rfl
theorem fm_61 (pc : Nat) : fetch 61 pc = lk m_61.2.2.2.2.2 pc := by
  unfold fetch
  rw [mt_61]
theorem f_61_0 : fetch 61 0 = some (0, .aload_n 0, 1, [0], 0) := (fm_61 0).trans rfl
theorem u_61_0 {S : Scr} {d : Nat} {a1 a2 : AV} {st : List AV} {sh : Shp} {I : IM} {R : RM} {x : Nat} : ev S d 61 0 [.inr (.inl x), a1, a2] st (sh, I, R) = ev S d 61 1 [.inr (.inl x), a1, a2] (.inr (.inl x) :: st) (sh, I, R) := (ev_eq f_61_0).trans rfl
theorem f_61_1 : fetch 61 1 = some (1, .invokevirtual 109, 3, [62, 0, 56], 0) := (fm_61 1).trans rfl
theorem u_61_1 {S : Scr} {d : Nat} {a0 a1 a2 : AV} {st : List AV} {sh : Shp} {I : IM} {R : RM} {k : Nat} (h : tg sh k = 6) (hr : st.length ≤ 8) : ev S d 61 1 [a0, a1, a2] (.inr (.inl k) :: st) (sh, I, R) = bnd (cl d 62 [.inr (.inl k)] (sh, I, R)) (fun v M => ev S d 61 4 [a0, a1, a2] (psh v st) M) := (ev_eq f_61_1).trans (congrArg (fin S d 61) (if_pos ⟨h, rfl, hr⟩))
theorem f_61_4 : fetch 61 4 = some (4, .iconst 0, 1, [], 0) := (fm_61 4).trans rfl
theorem u_61_4 {S : Scr} {d : Nat} {a0 a1 a2 : AV} {st : List AV} {sh : Shp} {I : IM} {R : RM} : ev S d 61 4 [a0, a1, a2] st (sh, I, R) = ev S d 61 5 [a0, a1, a2] (.inl 0 :: st) (sh, I, R) := (ev_eq f_61_4).trans rfl
theorem f_61_5 : fetch 61 5 = some (5, .istore_n 1, 1, [1], 0) := (fm_61 5).trans rfl
theorem u_61_5 {S : Scr} {d : Nat} {a0 a1 a2 : AV} {st : List AV} {sh : Shp} {I : IM} {R : RM} {x : Int} : ev S d 61 5 [a0, a1, a2] (.inl x :: st) (sh, I, R) = ev S d 61 6 [a0, .inl x, a2] st (sh, I, R) := (ev_eq f_61_5).trans rfl
theorem f_61_6 : fetch 61 6 = some (6, .iload_n 1, 1, [1], 0) := (fm_61 6).trans rfl
theorem u_61_6 {S : Scr} {d : Nat} {a0 a2 : AV} {st : List AV} {sh : Shp} {I : IM} {R : RM} {x : Int} : ev S d 61 6 [a0, .inl x, a2] st (sh, I, R) = ev S d 61 7 [a0, .inl x, a2] (.inl x :: st) (sh, I, R) := (ev_eq f_61_6).trans rfl
theorem f_61_7 : fetch 61 7 = some (7, .aload_n 0, 1, [0], 0) := (fm_61 7).trans rfl
theorem u_61_7 {S : Scr} {d : Nat} {a1 a2 : AV} {st : List AV} {sh : Shp} {I : IM} {R : RM} {x : Nat} : ev S d 61 7 [.inr (.inl x), a1, a2] st (sh, I, R) = ev S d 61 8 [.inr (.inl x), a1, a2] (.inr (.inl x) :: st) (sh, I, R) := (ev_eq f_61_7).trans rfl
theorem f_61_8 : fetch 61 8 = some (8, .getfield 32, 3, [6, 5, 0, 38], 0) := (fm_61 8).trans rfl
theorem u_61_8 {S : Scr} {d : Nat} {a0 a1 a2 : AV} {st : List AV} {sh : Shp} {I : IM} {R : RM} {k : Nat} (h : tg sh k = 6) : ev S d 61 8 [a0, a1, a2] (.inr (.inl k) :: st) (sh, I, R) = ev S d 61 11 [a0, a1, a2] (.inl (I k 5) :: st) (sh, I, R) := (ev_eq f_61_8).trans (congrArg (fin S d 61) (if_pos h))
theorem f_61_11 : fetch 61 11 = some (11, .if_icmp .ge 26, 3, [37], 0) := (fm_61 11).trans rfl
theorem u_61_11 {S : Scr} {d : Nat} {a0 a1 a2 : AV} {st : List AV} {sh : Shp} {I : IM} {R : RM} {x y : Int} : ev S d 61 11 [a0, a1, a2] (.inl y :: .inl x :: st) (sh, I, R) = if y ≤ x then ev S d 61 37 [a0, a1, a2] st (sh, I, R) else ev S d 61 14 [a0, a1, a2] st (sh, I, R) := (ev_eq f_61_11).trans fin_icmp_ge
theorem f_61_14 : fetch 61 14 = some (14, .aload_n 0, 1, [0], 0) := (fm_61 14).trans rfl
theorem u_61_14 {S : Scr} {d : Nat} {a1 a2 : AV} {st : List AV} {sh : Shp} {I : IM} {R : RM} {x : Nat} : ev S d 61 14 [.inr (.inl x), a1, a2] st (sh, I, R) = ev S d 61 15 [.inr (.inl x), a1, a2] (.inr (.inl x) :: st) (sh, I, R) := (ev_eq f_61_14).trans rfl
theorem f_61_15 : fetch 61 15 = some (15, .aload_n 0, 1, [0], 0) := (fm_61 15).trans rfl
theorem u_61_15 {S : Scr} {d : Nat} {a1 a2 : AV} {st : List AV} {sh : Shp} {I : IM} {R : RM} {x : Nat} : ev S d 61 15 [.inr (.inl x), a1, a2] st (sh, I, R) = ev S d 61 16 [.inr (.inl x), a1, a2] (.inr (.inl x) :: st) (sh, I, R) := (ev_eq f_61_15).trans rfl
theorem f_61_16 : fetch 61 16 = some (16, .getfield 28, 3, [6, 0, 1, 37], 0) := (fm_61 16).trans rfl
theorem u_61_16 {S : Scr} {d : Nat} {a0 a1 a2 : AV} {st : List AV} {sh : Shp} {I : IM} {R : RM} {k : Nat} (h : tg sh k = 6) : ev S d 61 16 [a0, a1, a2] (.inr (.inl k) :: st) (sh, I, R) = ev S d 61 19 [a0, a1, a2] (rv (R k 0) :: st) (sh, I, R) := (ev_eq f_61_16).trans (congrArg (fin S d 61) (if_pos h))
theorem f_61_19 : fetch 61 19 = some (19, .aload_n 0, 1, [0], 0) := (fm_61 19).trans rfl
theorem u_61_19 {S : Scr} {d : Nat} {a1 a2 : AV} {st : List AV} {sh : Shp} {I : IM} {R : RM} {x : Nat} : ev S d 61 19 [.inr (.inl x), a1, a2] st (sh, I, R) = ev S d 61 20 [.inr (.inl x), a1, a2] (.inr (.inl x) :: st) (sh, I, R) := (ev_eq f_61_19).trans rfl
theorem f_61_20 : fetch 61 20 = some (20, .getfield 22, 3, [6, 3, 1, 35], 0) := (fm_61 20).trans rfl
theorem u_61_20 {S : Scr} {d : Nat} {a0 a1 a2 : AV} {st : List AV} {sh : Shp} {I : IM} {R : RM} {k : Nat} (h : tg sh k = 6) : ev S d 61 20 [a0, a1, a2] (.inr (.inl k) :: st) (sh, I, R) = ev S d 61 23 [a0, a1, a2] (rv (R k 3) :: st) (sh, I, R) := (ev_eq f_61_20).trans (congrArg (fin S d 61) (if_pos h))
theorem f_61_23 : fetch 61 23 = some (23, .iload_n 1, 1, [1], 0) := (fm_61 23).trans rfl
theorem u_61_23 {S : Scr} {d : Nat} {a0 a2 : AV} {st : List AV} {sh : Shp} {I : IM} {R : RM} {x : Int} : ev S d 61 23 [a0, .inl x, a2] st (sh, I, R) = ev S d 61 24 [a0, .inl x, a2] (.inl x :: st) (sh, I, R) := (ev_eq f_61_23).trans rfl
theorem f_61_24 : fetch 61 24 = some (24, .iaload, 1, [], 0) := (fm_61 24).trans rfl
theorem u_61_24 {S : Scr} {d : Nat} {a0 a1 a2 : AV} {st : List AV} {sh : Shp} {I : IM} {R : RM} {k : Nat} {i : Int} (h : tg sh k = 100) (h0 : 0 ≤ i) (h1 : i < ln sh k) : ev S d 61 24 [a0, a1, a2] (.inl i :: .inr (.inl k) :: st) (sh, I, R) = ev S d 61 25 [a0, a1, a2] (.inl (I k i) :: st) (sh, I, R) := (ev_eq f_61_24).trans (congrArg (fin S d 61) (if_pos ⟨h, h0, h1⟩))
theorem f_61_25 : fetch 61 25 = some (25, .invokevirtual 50, 3, [68, 1, 50], 0) := (fm_61 25).trans rfl
theorem u_61_25 {S : Scr} {d : Nat} {a0 a1 a2 : AV} {st : List AV} {sh : Shp} {I : IM} {R : RM} {x0 : Int} {k : Nat} (h : tg sh k = 7) (hr : st.length ≤ 8) : ev S d 61 25 [a0, a1, a2] (.inl x0 :: .inr (.inl k) :: st) (sh, I, R) = bnd (cl d 68 [.inr (.inl k), .inl x0] (sh, I, R)) (fun v M => ev S d 61 28 [a0, a1, a2] (psh v st) M) := (ev_eq f_61_25).trans (congrArg (fin S d 61) (if_pos ⟨h, rfl, hr⟩))
theorem f_61_28 : fetch 61 28 = some (28, .invokevirtual 112, 3, [63, 1, 57], 0) := (fm_61 28).trans rfl
theorem u_61_28 {S : Scr} {d : Nat} {a0 a1 a2 : AV} {st : List AV} {sh : Shp} {I : IM} {R : RM} {x0 : Nat} {k : Nat} (h : tg sh k = 6) (hr : st.length ≤ 8) : ev S d 61 28 [a0, a1, a2] (.inr (.inl x0) :: .inr (.inl k) :: st) (sh, I, R) = bnd (cl d 63 [.inr (.inl k), .inr (.inl x0)] (sh, I, R)) (fun v M => ev S d 61 31 [a0, a1, a2] (psh v st) M) := (ev_eq f_61_28).trans (congrArg (fin S d 61) (if_pos ⟨h, rfl, hr⟩))
theorem u_61_28n {S : Scr} {d : Nat} {a0 a1 a2 : AV} {st : List AV} {sh : Shp} {I : IM} {R : RM} {k : Nat} (h : tg sh k = 6) (hr : st.length ≤ 8) : ev S d 61 28 [a0, a1, a2] (.inr (.inr 0) :: .inr (.inl k) :: st) (sh, I, R) = bnd (cl d 63 [.inr (.inl k), .inr (.inr 0)] (sh, I, R)) (fun v M => ev S d 61 31 [a0, a1, a2] (psh v st) M) := (ev_eq f_61_28).trans (congrArg (fin S d 61) (if_pos ⟨h, rfl, hr⟩))
theorem f_61_31 : fetch 61 31 = some (31, .iinc 1 1, 3, [1], 1) := (fm_61 31).trans rfl
theorem u_61_31 {S : Scr} {d : Nat} {a0 a2 : AV} {st : List AV} {sh : Shp} {I : IM} {R : RM} {x : Int} : ev S d 61 31 [a0, .inl x, a2] st (sh, I, R) = ev S d 61 34 [a0, .inl (wr (x + 1)), a2] st (sh, I, R) := (ev_eq f_61_31).trans rfl
theorem f_61_34 : fetch 61 34 = some (34, .goto (-28), 3, [6], 0) := (fm_61 34).trans rfl
theorem u_61_34 {S : Scr} {d : Nat} {a0 a1 a2 : AV} {st : List AV} {sh : Shp} {I : IM} {R : RM} : ev S d 61 34 [a0, a1, a2] st (sh, I, R) = ev S d 61 6 [a0, a1, a2] st (sh, I, R) := (ev_eq f_61_34).trans rfl
theorem f_61_37 : fetch 61 37 = some (37, .iconst 0, 1, [], 0) := (fm_61 37).trans rfl
theorem u_61_37 {S : Scr} {d : Nat} {a0 a1 a2 : AV} {st : List AV} {sh : Shp} {I : IM} {R : RM} : ev S d 61 37 [a0, a1, a2] st (sh, I, R) = ev S d 61 38 [a0, a1, a2] (.inl 0 :: st) (sh, I, R) := (ev_eq f_61_37).trans rfl
theorem f_61_38 : fetch 61 38 = some (38, .istore_n 1, 1, [1], 0) := (fm_61 38).trans rfl
theorem u_61_38 {S : Scr} {d : Nat} {a0 a1 a2 : AV} {st : List AV} {sh : Shp} {I : IM} {R : RM} {x : Int} : ev S d 61 38 [a0, a1, a2] (.inl x :: st) (sh, I, R) = ev S d 61 39 [a0, .inl x, a2] st (sh, I, R) := (ev_eq f_61_38).trans rfl
theorem f_61_39 : fetch 61 39 = some (39, .iconst 0, 1, [], 0) := (fm_61 39).trans rfl
theorem u_61_39 {S : Scr} {d : Nat} {a0 a1 a2 : AV} {st : List AV} {sh : Shp} {I : IM} {R : RM} : ev S d 61 39 [a0, a1, a2] st (sh, I, R) = ev S d 61 40 [a0, a1, a2] (.inl 0 :: st) (sh, I, R) := (ev_eq f_61_39).trans rfl
theorem f_61_40 : fetch 61 40 = some (40, .istore_n 2, 1, [2], 0) := (fm_61 40).trans rfl
theorem u_61_40 {S : Scr} {d : Nat} {a0 a1 a2 : AV} {st : List AV} {sh : Shp} {I : IM} {R : RM} {x : Int} : ev S d 61 40 [a0, a1, a2] (.inl x :: st) (sh, I, R) = ev S d 61 41 [a0, a1, .inl x] st (sh, I, R) := (ev_eq f_61_40).trans rfl
theorem f_61_41 : fetch 61 41 = some (41, .iload_n 2, 1, [2], 0) := (fm_61 41).trans rfl
theorem u_61_41 {S : Scr} {d : Nat} {a0 a1 : AV} {st : List AV} {sh : Shp} {I : IM} {R : RM} {x : Int} : ev S d 61 41 [a0, a1, .inl x] st (sh, I, R) = ev S d 61 42 [a0, a1, .inl x] (.inl x :: st) (sh, I, R) := (ev_eq f_61_41).trans rfl
theorem f_61_42 : fetch 61 42 = some (42, .bipush 30, 2, [], 30) := (fm_61 42).trans rfl
theorem u_61_42 {S : Scr} {d : Nat} {a0 a1 a2 : AV} {st : List AV} {sh : Shp} {I : IM} {R : RM} : ev S d 61 42 [a0, a1, a2] st (sh, I, R) = ev S d 61 44 [a0, a1, a2] (.inl 30 :: st) (sh, I, R) := (ev_eq f_61_42).trans rfl
theorem f_61_44 : fetch 61 44 = some (44, .if_icmp .ge 27, 3, [71], 0) := (fm_61 44).trans rfl
theorem u_61_44 {S : Scr} {d : Nat} {a0 a1 a2 : AV} {st : List AV} {sh : Shp} {I : IM} {R : RM} {x y : Int} : ev S d 61 44 [a0, a1, a2] (.inl y :: .inl x :: st) (sh, I, R) = if y ≤ x then ev S d 61 71 [a0, a1, a2] st (sh, I, R) else ev S d 61 47 [a0, a1, a2] st (sh, I, R) := (ev_eq f_61_44).trans fin_icmp_ge
theorem f_61_47 : fetch 61 47 = some (47, .iload_n 1, 1, [1], 0) := (fm_61 47).trans rfl
theorem u_61_47 {S : Scr} {d : Nat} {a0 a2 : AV} {st : List AV} {sh : Shp} {I : IM} {R : RM} {x : Int} : ev S d 61 47 [a0, .inl x, a2] st (sh, I, R) = ev S d 61 48 [a0, .inl x, a2] (.inl x :: st) (sh, I, R) := (ev_eq f_61_47).trans rfl
theorem f_61_48 : fetch 61 48 = some (48, .aload_n 0, 1, [0], 0) := (fm_61 48).trans rfl
theorem u_61_48 {S : Scr} {d : Nat} {a1 a2 : AV} {st : List AV} {sh : Shp} {I : IM} {R : RM} {x : Nat} : ev S d 61 48 [.inr (.inl x), a1, a2] st (sh, I, R) = ev S d 61 49 [.inr (.inl x), a1, a2] (.inr (.inl x) :: st) (sh, I, R) := (ev_eq f_61_48).trans rfl
theorem f_61_49 : fetch 61 49 = some (49, .getfield 25, 3, [6, 4, 1, 36], 0) := (fm_61 49).trans rfl
theorem u_61_49 {S : Scr} {d : Nat} {a0 a1 a2 : AV} {st : List AV} {sh : Shp} {I : IM} {R : RM} {k : Nat} (h : tg sh k = 6) : ev S d 61 49 [a0, a1, a2] (.inr (.inl k) :: st) (sh, I, R) = ev S d 61 52 [a0, a1, a2] (rv (R k 4) :: st) (sh, I, R) := (ev_eq f_61_49).trans (congrArg (fin S d 61) (if_pos h))
theorem f_61_52 : fetch 61 52 = some (52, .iload_n 2, 1, [2], 0) := (fm_61 52).trans rfl
theorem u_61_52 {S : Scr} {d : Nat} {a0 a1 : AV} {st : List AV} {sh : Shp} {I : IM} {R : RM} {x : Int} : ev S d 61 52 [a0, a1, .inl x] st (sh, I, R) = ev S d 61 53 [a0, a1, .inl x] (.inl x :: st) (sh, I, R) := (ev_eq f_61_52).trans rfl
theorem f_61_53 : fetch 61 53 = some (53, .iaload, 1, [], 0) := (fm_61 53).trans rfl
theorem u_61_53 {S : Scr} {d : Nat} {a0 a1 a2 : AV} {st : List AV} {sh : Shp} {I : IM} {R : RM} {k : Nat} {i : Int} (h : tg sh k = 100) (h0 : 0 ≤ i) (h1 : i < ln sh k) : ev S d 61 53 [a0, a1, a2] (.inl i :: .inr (.inl k) :: st) (sh, I, R) = ev S d 61 54 [a0, a1, a2] (.inl (I k i) :: st) (sh, I, R) := (ev_eq f_61_53).trans (congrArg (fin S d 61) (if_pos ⟨h, h0, h1⟩))
theorem f_61_54 : fetch 61 54 = some (54, .iconst 2, 1, [], 2) := (fm_61 54).trans rfl
theorem u_61_54 {S : Scr} {d : Nat} {a0 a1 a2 : AV} {st : List AV} {sh : Shp} {I : IM} {R : RM} : ev S d 61 54 [a0, a1, a2] st (sh, I, R) = ev S d 61 55 [a0, a1, a2] (.inl 2 :: st) (sh, I, R) := (ev_eq f_61_54).trans rfl
theorem f_61_55 : fetch 61 55 = some (55, .if_icmp .lt 7, 3, [62], 0) := (fm_61 55).trans rfl
theorem u_61_55 {S : Scr} {d : Nat} {a0 a1 a2 : AV} {st : List AV} {sh : Shp} {I : IM} {R : RM} {x y : Int} : ev S d 61 55 [a0, a1, a2] (.inl y :: .inl x :: st) (sh, I, R) = if x < y then ev S d 61 62 [a0, a1, a2] st (sh, I, R) else ev S d 61 58 [a0, a1, a2] st (sh, I, R) := (ev_eq f_61_55).trans fin_icmp_lt
theorem f_61_58 : fetch 61 58 = some (58, .iconst 1, 1, [], 1) := (fm_61 58).trans rfl
theorem u_61_58 {S : Scr} {d : Nat} {a0 a1 a2 : AV} {st : List AV} {sh : Shp} {I : IM} {R : RM} : ev S d 61 58 [a0, a1, a2] st (sh, I, R) = ev S d 61 59 [a0, a1, a2] (.inl 1 :: st) (sh, I, R) := (ev_eq f_61_58).trans rfl
theorem f_61_59 : fetch 61 59 = some (59, .goto 4, 3, [63], 0) := (fm_61 59).trans rfl
theorem u_61_59 {S : Scr} {d : Nat} {a0 a1 a2 : AV} {st : List AV} {sh : Shp} {I : IM} {R : RM} : ev S d 61 59 [a0, a1, a2] st (sh, I, R) = ev S d 61 63 [a0, a1, a2] st (sh, I, R) := (ev_eq f_61_59).trans rfl
theorem f_61_62 : fetch 61 62 = some (62, .iconst 0, 1, [], 0) := (fm_61 62).trans rfl
theorem u_61_62 {S : Scr} {d : Nat} {a0 a1 a2 : AV} {st : List AV} {sh : Shp} {I : IM} {R : RM} : ev S d 61 62 [a0, a1, a2] st (sh, I, R) = ev S d 61 63 [a0, a1, a2] (.inl 0 :: st) (sh, I, R) := (ev_eq f_61_62).trans rfl
theorem f_61_63 : fetch 61 63 = some (63, .iadd, 1, [], 0) := (fm_61 63).trans rfl
theorem u_61_63 {S : Scr} {d : Nat} {a0 a1 a2 : AV} {st : List AV} {sh : Shp} {I : IM} {R : RM} {x y : Int} : ev S d 61 63 [a0, a1, a2] (.inl y :: .inl x :: st) (sh, I, R) = ev S d 61 64 [a0, a1, a2] (.inl (wr (x + y)) :: st) (sh, I, R) := (ev_eq f_61_63).trans rfl
theorem f_61_64 : fetch 61 64 = some (64, .istore_n 1, 1, [1], 0) := (fm_61 64).trans rfl
theorem u_61_64 {S : Scr} {d : Nat} {a0 a1 a2 : AV} {st : List AV} {sh : Shp} {I : IM} {R : RM} {x : Int} : ev S d 61 64 [a0, a1, a2] (.inl x :: st) (sh, I, R) = ev S d 61 65 [a0, .inl x, a2] st (sh, I, R) := (ev_eq f_61_64).trans rfl
theorem f_61_65 : fetch 61 65 = some (65, .iinc 2 1, 3, [2], 1) := (fm_61 65).trans rfl
theorem u_61_65 {S : Scr} {d : Nat} {a0 a1 : AV} {st : List AV} {sh : Shp} {I : IM} {R : RM} {x : Int} : ev S d 61 65 [a0, a1, .inl x] st (sh, I, R) = ev S d 61 68 [a0, a1, .inl (wr (x + 1))] st (sh, I, R) := (ev_eq f_61_65).trans rfl
theorem f_61_68 : fetch 61 68 = some (68, .goto (-27), 3, [41], 0) := (fm_61 68).trans rfl
theorem u_61_68 {S : Scr} {d : Nat} {a0 a1 a2 : AV} {st : List AV} {sh : Shp} {I : IM} {R : RM} : ev S d 61 68 [a0, a1, a2] st (sh, I, R) = ev S d 61 41 [a0, a1, a2] st (sh, I, R) := (ev_eq f_61_68).trans rfl
theorem f_61_71 : fetch 61 71 = some (71, .iload_n 1, 1, [1], 0) := (fm_61 71).trans rfl
theorem u_61_71 {S : Scr} {d : Nat} {a0 a2 : AV} {st : List AV} {sh : Shp} {I : IM} {R : RM} {x : Int} : ev S d 61 71 [a0, .inl x, a2] st (sh, I, R) = ev S d 61 72 [a0, .inl x, a2] (.inl x :: st) (sh, I, R) := (ev_eq f_61_71).trans rfl
theorem f_61_72 : fetch 61 72 = some (72, .ireturn, 1, [0], 0) := (fm_61 72).trans rfl
theorem u_61_72 {S : Scr} {d : Nat} {a0 a1 a2 : AV} {sh : Shp} {I : IM} {R : RM} {x : Int} : ev S d 61 72 [a0, a1, a2] [.inl x] (sh, I, R) = some (some (.inl x), (sh, I, R)) := (ev_eq f_61_72).trans fin_iret0
theorem c_62 {d : Nat} {a0 : AV} {M : Mem} : cl (d + 1) 62 [a0] M = ev S0 d 62 0 [a0, .inr (.inr 1)] [] M := (cl_eq (as := [a0]) (show 1 ≤ maxOf 62 by decide +kernel)).trans rfl
theorem mt_62 : MT[62]? = some m_62 := rfl
theorem fm_62 (pc : Nat) : fetch 62 pc = lk m_62.2.2.2.2.2 pc := by
  unfold fetch
  rw [mt_62]
theorem f_62_0 : fetch 62 0 = some (0, .iconst 0, 1, [], 0) := (fm_62 0).trans rfl
theorem u_62_0 {S : Scr} {d : Nat} {a0 a1 : AV} {st : List AV} {sh : Shp} {I : IM} {R : RM} : ev S d 62 0 [a0, a1] st (sh, I, R) = ev S d 62 1 [a0, a1] (.inl 0 :: st) (sh, I, R) := (ev_eq f_62_0).trans rfl
theorem f_62_1 : fetch 62 1 = some (1, .istore_n 1, 1, [1], 0) := (fm_62 1).trans rfl
theorem u_62_1 {S : Scr} {d : Nat} {a0 a1 : AV} {st : List AV} {sh : Shp} {I : IM} {R : RM} {x : Int} : ev S d 62 1 [a0, a1] (.inl x :: st) (sh, I, R) = ev S d 62 2 [a0, .inl x] st (sh, I, R) := (ev_eq f_62_1).trans rfl
theorem f_62_2 : fetch 62 2 = some (2, .iload_n 1, 1, [1], 0) := (fm_62 2).trans rfl
theorem u_62_2 {S : Scr} {d : Nat} {a0 : AV} {st : List AV} {sh : Shp} {I : IM} {R : RM} {x : Int} : ev S d 62 2 [a0, .inl x] st (sh, I, R) = ev S d 62 3 [a0, .inl x] (.inl x :: st) (sh, I, R) := (ev_eq f_62_2).trans rfl
theorem f_62_3 : fetch 62 3 = some (3, .bipush 30, 2, [], 30) := (fm_62 3).trans rfl
theorem u_62_3 {S : Scr} {d : Nat} {a0 a1 : AV} {st : List AV} {sh : Shp} {I : IM} {R : RM} : ev S d 62 3 [a0, a1] st (sh, I, R) = ev S d 62 5 [a0, a1] (.inl 30 :: st) (sh, I, R) := (ev_eq f_62_3).trans rfl
theorem f_62_5 : fetch 62 5 = some (5, .if_icmp .ge 16, 3, [21], 0) := (fm_62 5).trans rfl
theorem u_62_5 {S : Scr} {d : Nat} {a0 a1 : AV} {st : List AV} {sh : Shp} {I : IM} {R : RM} {x y : Int} : ev S d 62 5 [a0, a1] (.inl y :: .inl x :: st) (sh, I, R) = if y ≤ x then ev S d 62 21 [a0, a1] st (sh, I, R) else ev S d 62 8 [a0, a1] st (sh, I, R) := (ev_eq f_62_5).trans fin_icmp_ge
theorem f_62_8 : fetch 62 8 = some (8, .aload_n 0, 1, [0], 0) := (fm_62 8).trans rfl
theorem u_62_8 {S : Scr} {d : Nat} {a1 : AV} {st : List AV} {sh : Shp} {I : IM} {R : RM} {x : Nat} : ev S d 62 8 [.inr (.inl x), a1] st (sh, I, R) = ev S d 62 9 [.inr (.inl x), a1] (.inr (.inl x) :: st) (sh, I, R) := (ev_eq f_62_8).trans rfl
theorem f_62_9 : fetch 62 9 = some (9, .getfield 25, 3, [6, 4, 1, 36], 0) := (fm_62 9).trans rfl
theorem u_62_9 {S : Scr} {d : Nat} {a0 a1 : AV} {st : List AV} {sh : Shp} {I : IM} {R : RM} {k : Nat} (h : tg sh k = 6) : ev S d 62 9 [a0, a1] (.inr (.inl k) :: st) (sh, I, R) = ev S d 62 12 [a0, a1] (rv (R k 4) :: st) (sh, I, R) := (ev_eq f_62_9).trans (congrArg (fin S d 62) (if_pos h))
theorem f_62_12 : fetch 62 12 = some (12, .iload_n 1, 1, [1], 0) := (fm_62 12).trans rfl
theorem u_62_12 {S : Scr} {d : Nat} {a0 : AV} {st : List AV} {sh : Shp} {I : IM} {R : RM} {x : Int} : ev S d 62 12 [a0, .inl x] st (sh, I, R) = ev S d 62 13 [a0, .inl x] (.inl x :: st) (sh, I, R) := (ev_eq f_62_12).trans rfl
theorem f_62_13 : fetch 62 13 = some (13, .iconst 0, 1, [], 0) := (fm_62 13).trans rfl
theorem u_62_13 {S : Scr} {d : Nat} {a0 a1 : AV} {st : List AV} {sh : Shp} {I : IM} {R : RM} : ev S d 62 13 [a0, a1] st (sh, I, R) = ev S d 62 14 [a0, a1] (.inl 0 :: st) (sh, I, R) := (ev_eq f_62_13).trans rfl
theorem f_62_14 : fetch 62 14 = some (14, .iastore, 1, [], 0) := (fm_62 14).trans rfl
theorem u_62_14 {S : Scr} {d : Nat} {a0 a1 : AV} {st : List AV} {sh : Shp} {I : IM} {R : RM} {k : Nat} {i x : Int} (h : tg sh k = 100) (h0 : 0 ≤ i) (h1 : i < ln sh k) : ev S d 62 14 [a0, a1] (.inl x :: .inl i :: .inr (.inl k) :: st) (sh, I, R) = ev S d 62 15 [a0, a1] st (sh, up I k i x, R) := (ev_eq f_62_14).trans (congrArg (fin S d 62) (if_pos ⟨h, h0, h1⟩))
theorem f_62_15 : fetch 62 15 = some (15, .iinc 1 1, 3, [1], 1) := (fm_62 15).trans rfl
theorem u_62_15 {S : Scr} {d : Nat} {a0 : AV} {st : List AV} {sh : Shp} {I : IM} {R : RM} {x : Int} : ev S d 62 15 [a0, .inl x] st (sh, I, R) = ev S d 62 18 [a0, .inl (wr (x + 1))] st (sh, I, R) := (ev_eq f_62_15).trans rfl
theorem f_62_18 : fetch 62 18 = some (18, .goto (-16), 3, [2], 0) := (fm_62 18).trans rfl
theorem u_62_18 {S : Scr} {d : Nat} {a0 a1 : AV} {st : List AV} {sh : Shp} {I : IM} {R : RM} : ev S d 62 18 [a0, a1] st (sh, I, R) = ev S d 62 2 [a0, a1] st (sh, I, R) := (ev_eq f_62_18).trans rfl
theorem f_62_21 : fetch 62 21 = some (21, .return_, 1, [], 0) := (fm_62 21).trans rfl
theorem u_62_21 {S : Scr} {d : Nat} {a0 a1 : AV} {sh : Shp} {I : IM} {R : RM} : ev S d 62 21 [a0, a1] [] (sh, I, R) = some (none, (sh, I, R)) := (ev_eq f_62_21).trans rfl
theorem c_63 {d : Nat} {a0 a1 : AV} {M : Mem} : cl (d + 1) 63 [a0, a1] M = ev S0 d 63 0 [a0, a1, .inr (.inr 1)] [] M := (cl_eq (as := [a0, a1]) (show 2 ≤ maxOf 63 by decide +kernel)).trans rfl
theorem mt_63 : MT[63]? = some m_63 := rfl
theorem fm_63 (pc : Nat) : fetch 63 pc = lk m_63.2.2.2.2.2 pc := by
  unfold fetch
  rw [mt_63]
theorem f_63_0 : fetch 63 0 = some (0, .aload_n 1, 1, [1], 0) := (fm_63 0).trans rfl
theorem u_63_0 {S : Scr} {d : Nat} {a0 a2 : AV} {st : List AV} {sh : Shp} {I : IM} {R : RM} {x : Nat} : ev S d 63 0 [a0, .inr (.inl x), a2] st (sh, I, R) = ev S d 63 1 [a0, .inr (.inl x), a2] (.inr (.inl x) :: st) (sh, I, R) := (ev_eq f_63_0).trans rfl
theorem u_63_0n {S : Scr} {d : Nat} {a0 a2 : AV} {st : List AV} {sh : Shp} {I : IM} {R : RM} : ev S d 63 0 [a0, .inr (.inr 0), a2] st (sh, I, R) = ev S d 63 1 [a0, .inr (.inr 0), a2] (.inr (.inr 0) :: st) (sh, I, R) := (ev_eq f_63_0).trans rfl
theorem f_63_1 : fetch 63 1 = some (1, .ifnonnull 4, 3, [5], 0) := (fm_63 1).trans rfl
theorem u_63_1 {S : Scr} {d : Nat} {a0 a1 a2 : AV} {st : List AV} {sh : Shp} {I : IM} {R : RM} {x : Nat} : ev S d 63 1 [a0, a1, a2] (.inr (.inl x) :: st) (sh, I, R) = ev S d 63 5 [a0, a1, a2] st (sh, I, R) := (ev_eq f_63_1).trans rfl
theorem u_63_1n {S : Scr} {d : Nat} {a0 a1 a2 : AV} {st : List AV} {sh : Shp} {I : IM} {R : RM} : ev S d 63 1 [a0, a1, a2] (.inr (.inr 0) :: st) (sh, I, R) = ev S d 63 4 [a0, a1, a2] st (sh, I, R) := (ev_eq f_63_1).trans rfl
theorem f_63_4 : fetch 63 4 = some (4, .return_, 1, [], 0) := (fm_63 4).trans rfl
theorem u_63_4 {S : Scr} {d : Nat} {a0 a1 a2 : AV} {sh : Shp} {I : IM} {R : RM} : ev S d 63 4 [a0, a1, a2] [] (sh, I, R) = some (none, (sh, I, R)) := (ev_eq f_63_4).trans rfl
theorem f_63_5 : fetch 63 5 = some (5, .iconst 0, 1, [], 0) := (fm_63 5).trans rfl
theorem u_63_5 {S : Scr} {d : Nat} {a0 a1 a2 : AV} {st : List AV} {sh : Shp} {I : IM} {R : RM} : ev S d 63 5 [a0, a1, a2] st (sh, I, R) = ev S d 63 6 [a0, a1, a2] (.inl 0 :: st) (sh, I, R) := (ev_eq f_63_5).trans rfl
theorem f_63_6 : fetch 63 6 = some (6, .istore_n 2, 1, [2], 0) := (fm_63 6).trans rfl
theorem u_63_6 {S : Scr} {d : Nat} {a0 a1 a2 : AV} {st : List AV} {sh : Shp} {I : IM} {R : RM} {x : Int} : ev S d 63 6 [a0, a1, a2] (.inl x :: st) (sh, I, R) = ev S d 63 7 [a0, a1, .inl x] st (sh, I, R) := (ev_eq f_63_6).trans rfl
theorem f_63_7 : fetch 63 7 = some (7, .iload_n 2, 1, [2], 0) := (fm_63 7).trans rfl
theorem u_63_7 {S : Scr} {d : Nat} {a0 a1 : AV} {st : List AV} {sh : Shp} {I : IM} {R : RM} {x : Int} : ev S d 63 7 [a0, a1, .inl x] st (sh, I, R) = ev S d 63 8 [a0, a1, .inl x] (.inl x :: st) (sh, I, R) := (ev_eq f_63_7).trans rfl
theorem f_63_8 : fetch 63 8 = some (8, .aload_n 1, 1, [1], 0) := (fm_63 8).trans rfl
theorem u_63_8 {S : Scr} {d : Nat} {a0 a2 : AV} {st : List AV} {sh : Shp} {I : IM} {R : RM} {x : Nat} : ev S d 63 8 [a0, .inr (.inl x), a2] st (sh, I, R) = ev S d 63 9 [a0, .inr (.inl x), a2] (.inr (.inl x) :: st) (sh, I, R) := (ev_eq f_63_8).trans rfl
theorem u_63_8n {S : Scr} {d : Nat} {a0 a2 : AV} {st : List AV} {sh : Shp} {I : IM} {R : RM} : ev S d 63 8 [a0, .inr (.inr 0), a2] st (sh, I, R) = ev S d 63 9 [a0, .inr (.inr 0), a2] (.inr (.inr 0) :: st) (sh, I, R) := (ev_eq f_63_8).trans rfl
theorem f_63_9 : fetch 63 9 = some (9, .getfield 67, 3, [3, 4, 0, 40], 0) := (fm_63 9).trans rfl
theorem u_63_9 {S : Scr} {d : Nat} {a0 a1 a2 : AV} {st : List AV} {sh : Shp} {I : IM} {R : RM} {k : Nat} (h : tg sh k = 3) : ev S d 63 9 [a0, a1, a2] (.inr (.inl k) :: st) (sh, I, R) = ev S d 63 12 [a0, a1, a2] (.inl (I k 4) :: st) (sh, I, R) := (ev_eq f_63_9).trans (congrArg (fin S d 63) (if_pos h))
theorem f_63_12 : fetch 63 12 = some (12, .if_icmp .ge 37, 3, [49], 0) := (fm_63 12).trans rfl
theorem u_63_12 {S : Scr} {d : Nat} {a0 a1 a2 : AV} {st : List AV} {sh : Shp} {I : IM} {R : RM} {x y : Int} : ev S d 63 12 [a0, a1, a2] (.inl y :: .inl x :: st) (sh, I, R) = if y ≤ x then ev S d 63 49 [a0, a1, a2] st (sh, I, R) else ev S d 63 15 [a0, a1, a2] st (sh, I, R) := (ev_eq f_63_12).trans fin_icmp_ge
theorem f_63_15 : fetch 63 15 = some (15, .aload_n 0, 1, [0], 0) := (fm_63 15).trans rfl
theorem u_63_15 {S : Scr} {d : Nat} {a1 a2 : AV} {st : List AV} {sh : Shp} {I : IM} {R : RM} {x : Nat} : ev S d 63 15 [.inr (.inl x), a1, a2] st (sh, I, R) = ev S d 63 16 [.inr (.inl x), a1, a2] (.inr (.inl x) :: st) (sh, I, R) := (ev_eq f_63_15).trans rfl
theorem f_63_16 : fetch 63 16 = some (16, .aload_n 1, 1, [1], 0) := (fm_63 16).trans rfl
theorem u_63_16 {S : Scr} {d : Nat} {a0 a2 : AV} {st : List AV} {sh : Shp} {I : IM} {R : RM} {x : Nat} : ev S d 63 16 [a0, .inr (.inl x), a2] st (sh, I, R) = ev S d 63 17 [a0, .inr (.inl x), a2] (.inr (.inl x) :: st) (sh, I, R) := (ev_eq f_63_16).trans rfl
theorem u_63_16n {S : Scr} {d : Nat} {a0 a2 : AV} {st : List AV} {sh : Shp} {I : IM} {R : RM} : ev S d 63 16 [a0, .inr (.inr 0), a2] st (sh, I, R) = ev S d 63 17 [a0, .inr (.inr 0), a2] (.inr (.inr 0) :: st) (sh, I, R) := (ev_eq f_63_16).trans rfl
theorem f_63_17 : fetch 63 17 = some (17, .getfield 72, 3, [3, 1, 1, 41], 0) := (fm_63 17).trans rfl
theorem u_63_17 {S : Scr} {d : Nat} {a0 a1 a2 : AV} {st : List AV} {sh : Shp} {I : IM} {R : RM} {k : Nat} (h : tg sh k = 3) : ev S d 63 17 [a0, a1, a2] (.inr (.inl k) :: st) (sh, I, R) = ev S d 63 20 [a0, a1, a2] (rv (R k 1) :: st) (sh, I, R) := (ev_eq f_63_17).trans (congrArg (fin S d 63) (if_pos h))
theorem f_63_20 : fetch 63 20 = some (20, .iload_n 2, 1, [2], 0) := (fm_63 20).trans rfl
theorem u_63_20 {S : Scr} {d : Nat} {a0 a1 : AV} {st : List AV} {sh : Shp} {I : IM} {R : RM} {x : Int} : ev S d 63 20 [a0, a1, .inl x] st (sh, I, R) = ev S d 63 21 [a0, a1, .inl x] (.inl x :: st) (sh, I, R) := (ev_eq f_63_20).trans rfl
theorem f_63_21 : fetch 63 21 = some (21, .iaload, 1, [], 0) := (fm_63 21).trans rfl
theorem u_63_21 {S : Scr} {d : Nat} {a0 a1 a2 : AV} {st : List AV} {sh : Shp} {I : IM} {R : RM} {k : Nat} {i : Int} (h : tg sh k = 100) (h0 : 0 ≤ i) (h1 : i < ln sh k) : ev S d 63 21 [a0, a1, a2] (.inl i :: .inr (.inl k) :: st) (sh, I, R) = ev S d 63 22 [a0, a1, a2] (.inl (I k i) :: st) (sh, I, R) := (ev_eq f_63_21).trans (congrArg (fin S d 63) (if_pos ⟨h, h0, h1⟩))
theorem f_63_22 : fetch 63 22 = some (22, .invokevirtual 59, 3, [57, 1, 52], 0) := (fm_63 22).trans rfl
theorem u_63_22 {S : Scr} {d : Nat} {a0 a1 a2 : AV} {st : List AV} {sh : Shp} {I : IM} {R : RM} {x0 : Int} {k : Nat} (h : tg sh k = 6) (hr : st.length ≤ 8) : ev S d 63 22 [a0, a1, a2] (.inl x0 :: .inr (.inl k) :: st) (sh, I, R) = bnd (cl d 57 [.inr (.inl k), .inl x0] (sh, I, R)) (fun v M => ev S d 63 25 [a0, a1, a2] (psh v st) M) := (ev_eq f_63_22).trans (congrArg (fin S d 63) (if_pos ⟨h, rfl, hr⟩))
theorem f_63_25 : fetch 63 25 = some (25, .ifCond .eq 18, 3, [43], 0) := (fm_63 25).trans rfl
theorem u_63_25 {S : Scr} {d : Nat} {a0 a1 a2 : AV} {st : List AV} {sh : Shp} {I : IM} {R : RM} {x : Int} : ev S d 63 25 [a0, a1, a2] (.inl x :: st) (sh, I, R) = if x = 0 then ev S d 63 43 [a0, a1, a2] st (sh, I, R) else ev S d 63 28 [a0, a1, a2] st (sh, I, R) := (ev_eq f_63_25).trans fin_if_eq
theorem f_63_28 : fetch 63 28 = some (28, .aload_n 0, 1, [0], 0) := (fm_63 28).trans rfl
theorem u_63_28 {S : Scr} {d : Nat} {a1 a2 : AV} {st : List AV} {sh : Shp} {I : IM} {R : RM} {x : Nat} : ev S d 63 28 [.inr (.inl x), a1, a2] st (sh, I, R) = ev S d 63 29 [.inr (.inl x), a1, a2] (.inr (.inl x) :: st) (sh, I, R) := (ev_eq f_63_28).trans rfl
theorem f_63_29 : fetch 63 29 = some (29, .getfield 25, 3, [6, 4, 1, 36], 0) := (fm_63 29).trans rfl
theorem u_63_29 {S : Scr} {d : Nat} {a0 a1 a2 : AV} {st : List AV} {sh : Shp} {I : IM} {R : RM} {k : Nat} (h : tg sh k = 6) : ev S d 63 29 [a0, a1, a2] (.inr (.inl k) :: st) (sh, I, R) = ev S d 63 32 [a0, a1, a2] (rv (R k 4) :: st) (sh, I, R) := (ev_eq f_63_29).trans (congrArg (fin S d 63) (if_pos h))
theorem f_63_32 : fetch 63 32 = some (32, .aload_n 1, 1, [1], 0) := (fm_63 32).trans rfl
theorem u_63_32 {S : Scr} {d : Nat} {a0 a2 : AV} {st : List AV} {sh : Shp} {I : IM} {R : RM} {x : Nat} : ev S d 63 32 [a0, .inr (.inl x), a2] st (sh, I, R) = ev S d 63 33 [a0, .inr (.inl x), a2] (.inr (.inl x) :: st) (sh, I, R) := (ev_eq f_63_32).trans rfl
theorem u_63_32n {S : Scr} {d : Nat} {a0 a2 : AV} {st : List AV} {sh : Shp} {I : IM} {R : RM} : ev S d 63 32 [a0, .inr (.inr 0), a2] st (sh, I, R) = ev S d 63 33 [a0, .inr (.inr 0), a2] (.inr (.inr 0) :: st) (sh, I, R) := (ev_eq f_63_32).trans rfl
theorem f_63_33 : fetch 63 33 = some (33, .getfield 72, 3, [3, 1, 1, 41], 0) := (fm_63 33).trans rfl
theorem u_63_33 {S : Scr} {d : Nat} {a0 a1 a2 : AV} {st : List AV} {sh : Shp} {I : IM} {R : RM} {k : Nat} (h : tg sh k = 3) : ev S d 63 33 [a0, a1, a2] (.inr (.inl k) :: st) (sh, I, R) = ev S d 63 36 [a0, a1, a2] (rv (R k 1) :: st) (sh, I, R) := (ev_eq f_63_33).trans (congrArg (fin S d 63) (if_pos h))
theorem f_63_36 : fetch 63 36 = some (36, .iload_n 2, 1, [2], 0) := (fm_63 36).trans rfl
theorem u_63_36 {S : Scr} {d : Nat} {a0 a1 : AV} {st : List AV} {sh : Shp} {I : IM} {R : RM} {x : Int} : ev S d 63 36 [a0, a1, .inl x] st (sh, I, R) = ev S d 63 37 [a0, a1, .inl x] (.inl x :: st) (sh, I, R) := (ev_eq f_63_36).trans rfl
theorem f_63_37 : fetch 63 37 = some (37, .iaload, 1, [], 0) := (fm_63 37).trans rfl
theorem u_63_37 {S : Scr} {d : Nat} {a0 a1 a2 : AV} {st : List AV} {sh : Shp} {I : IM} {R : RM} {k : Nat} {i : Int} (h : tg sh k = 100) (h0 : 0 ≤ i) (h1 : i < ln sh k) : ev S d 63 37 [a0, a1, a2] (.inl i :: .inr (.inl k) :: st) (sh, I, R) = ev S d 63 38 [a0, a1, a2] (.inl (I k i) :: st) (sh, I, R) := (ev_eq f_63_37).trans (congrArg (fin S d 63) (if_pos ⟨h, h0, h1⟩))
theorem f_63_38 : fetch 63 38 = some (38, .dup2, 1, [], 0) := (fm_63 38).trans rfl
theorem u_63_38 {S : Scr} {d : Nat} {a0 a1 a2 : AV} {st : List AV} {sh : Shp} {I : IM} {R : RM} {x y : AV} : ev S d 63 38 [a0, a1, a2] (y :: x :: st) (sh, I, R) = ev S d 63 39 [a0, a1, a2] (y :: x :: y :: x :: st) (sh, I, R) := (ev_eq f_63_38).trans rfl
theorem f_63_39 : fetch 63 39 = some (39, .iaload, 1, [], 0) := (fm_63 39).trans rfl
theorem u_63_39 {S : Scr} {d : Nat} {a0 a1 a2 : AV} {st : List AV} {sh : Shp} {I : IM} {R : RM} {k : Nat} {i : Int} (h : tg sh k = 100) (h0 : 0 ≤ i) (h1 : i < ln sh k) : ev S d 63 39 [a0, a1, a2] (.inl i :: .inr (.inl k) :: st) (sh, I, R) = ev S d 63 40 [a0, a1, a2] (.inl (I k i) :: st) (sh, I, R) := (ev_eq f_63_39).trans (congrArg (fin S d 63) (if_pos ⟨h, h0, h1⟩))
theorem f_63_40 : fetch 63 40 = some (40, .iconst 1, 1, [], 1) := (fm_63 40).trans rfl
theorem u_63_40 {S : Scr} {d : Nat} {a0 a1 a2 : AV} {st : List AV} {sh : Shp} {I : IM} {R : RM} : ev S d 63 40 [a0, a1, a2] st (sh, I, R) = ev S d 63 41 [a0, a1, a2] (.inl 1 :: st) (sh, I, R) := (ev_eq f_63_40).trans rfl
theorem f_63_41 : fetch 63 41 = some (41, .iadd, 1, [], 0) := (fm_63 41).trans rfl
theorem u_63_41 {S : Scr} {d : Nat} {a0 a1 a2 : AV} {st : List AV} {sh : Shp} {I : IM} {R : RM} {x y : Int} : ev S d 63 41 [a0, a1, a2] (.inl y :: .inl x :: st) (sh, I, R) = ev S d 63 42 [a0, a1, a2] (.inl (wr (x + y)) :: st) (sh, I, R) := (ev_eq f_63_41).trans rfl
theorem f_63_42 : fetch 63 42 = some (42, .iastore, 1, [], 0) := (fm_63 42).trans rfl
theorem u_63_42 {S : Scr} {d : Nat} {a0 a1 a2 : AV} {st : List AV} {sh : Shp} {I : IM} {R : RM} {k : Nat} {i x : Int} (h : tg sh k = 100) (h0 : 0 ≤ i) (h1 : i < ln sh k) : ev S d 63 42 [a0, a1, a2] (.inl x :: .inl i :: .inr (.inl k) :: st) (sh, I, R) = ev S d 63 43 [a0, a1, a2] st (sh, up I k i x, R) := (ev_eq f_63_42).trans (congrArg (fin S d 63) (if_pos ⟨h, h0, h1⟩))
theorem f_63_43 : fetch 63 43 = some (43, .iinc 2 1, 3, [2], 1) := (fm_63 43).trans rfl
theorem u_63_43 {S : Scr} {d : Nat} {a0 a1 : AV} {st : List AV} {sh : Shp} {I : IM} {R : RM} {x : Int} : ev S d 63 43 [a0, a1, .inl x] st (sh, I, R) = ev S d 63 46 [a0, a1, .inl (wr (x + 1))] st (sh, I, R) := (ev_eq f_63_43).trans rfl
theorem f_63_46 : fetch 63 46 = some (46, .goto (-39), 3, [7], 0) := (fm_63 46).trans rfl
theorem u_63_46 {S : Scr} {d : Nat} {a0 a1 a2 : AV} {st : List AV} {sh : Shp} {I : IM} {R : RM} : ev S d 63 46 [a0, a1, a2] st (sh, I, R) = ev S d 63 7 [a0, a1, a2] st (sh, I, R) := (ev_eq f_63_46).trans rfl
theorem f_63_49 : fetch 63 49 = some (49, .return_, 1, [], 0) := (fm_63 49).trans rfl
theorem u_63_49 {S : Scr} {d : Nat} {a0 a1 a2 : AV} {sh : Shp} {I : IM} {R : RM} : ev S d 63 49 [a0, a1, a2] [] (sh, I, R) = some (none, (sh, I, R)) := (ev_eq f_63_49).trans rfl
theorem c_64 {d : Nat} {a0 : AV} {M : Mem} : cl (d + 1) 64 [a0] M = ev S0 d 64 0 [a0, .inr (.inr 1)] [] M := (cl_eq (as := [a0]) (show 1 ≤ maxOf 64 by decide +kernel)).trans rfl
theorem mt_64 : MT[64]? = some m_64 := rfl
theorem fm_64 (pc : Nat) : fetch 64 pc = lk m_64.2.2.2.2.2 pc := by
  unfold fetch
  rw [mt_64]
theorem f_64_0 : fetch 64 0 = some (0, .aload_n 0, 1, [0], 0) := (fm_64 0).trans rfl
theorem u_64_0 {S : Scr} {d : Nat} {a1 : AV} {st : List AV} {sh : Shp} {I : IM} {R : RM} {x : Nat} : ev S d 64 0 [.inr (.inl x), a1] st (sh, I, R) = ev S d 64 1 [.inr (.inl x), a1] (.inr (.inl x) :: st) (sh, I, R) := (ev_eq f_64_0).trans rfl
theorem f_64_1 : fetch 64 1 = some (1, .invokevirtual 109, 3, [62, 0, 56], 0) := (fm_64 1).trans rfl
theorem u_64_1 {S : Scr} {d : Nat} {a0 a1 : AV} {st : List AV} {sh : Shp} {I : IM} {R : RM} {k : Nat} (h : tg sh k = 6) (hr : st.length ≤ 8) : ev S d 64 1 [a0, a1] (.inr (.inl k) :: st) (sh, I, R) = bnd (cl d 62 [.inr (.inl k)] (sh, I, R)) (fun v M => ev S d 64 4 [a0, a1] (psh v st) M) := (ev_eq f_64_1).trans (congrArg (fin S d 64) (if_pos ⟨h, rfl, hr⟩))
theorem f_64_4 : fetch 64 4 = some (4, .iconst 0, 1, [], 0) := (fm_64 4).trans rfl
theorem u_64_4 {S : Scr} {d : Nat} {a0 a1 : AV} {st : List AV} {sh : Shp} {I : IM} {R : RM} : ev S d 64 4 [a0, a1] st (sh, I, R) = ev S d 64 5 [a0, a1] (.inl 0 :: st) (sh, I, R) := (ev_eq f_64_4).trans rfl
theorem f_64_5 : fetch 64 5 = some (5, .istore_n 1, 1, [1], 0) := (fm_64 5).trans rfl
theorem u_64_5 {S : Scr} {d : Nat} {a0 a1 : AV} {st : List AV} {sh : Shp} {I : IM} {R : RM} {x : Int} : ev S d 64 5 [a0, a1] (.inl x :: st) (sh, I, R) = ev S d 64 6 [a0, .inl x] st (sh, I, R) := (ev_eq f_64_5).trans rfl
theorem f_64_6 : fetch 64 6 = some (6, .iload_n 1, 1, [1], 0) := (fm_64 6).trans rfl
theorem u_64_6 {S : Scr} {d : Nat} {a0 : AV} {st : List AV} {sh : Shp} {I : IM} {R : RM} {x : Int} : ev S d 64 6 [a0, .inl x] st (sh, I, R) = ev S d 64 7 [a0, .inl x] (.inl x :: st) (sh, I, R) := (ev_eq f_64_6).trans rfl
theorem f_64_7 : fetch 64 7 = some (7, .bipush 30, 2, [], 30) := (fm_64 7).trans rfl
theorem u_64_7 {S : Scr} {d : Nat} {a0 a1 : AV} {st : List AV} {sh : Shp} {I : IM} {R : RM} : ev S d 64 7 [a0, a1] st (sh, I, R) = ev S d 64 9 [a0, a1] (.inl 30 :: st) (sh, I, R) := (ev_eq f_64_7).trans rfl
theorem f_64_9 : fetch 64 9 = some (9, .if_icmp .gt 39, 3, [48], 0) := (fm_64 9).trans rfl
theorem u_64_9 {S : Scr} {d : Nat} {a0 a1 : AV} {st : List AV} {sh : Shp} {I : IM} {R : RM} {x y : Int} : ev S d 64 9 [a0, a1] (.inl y :: .inl x :: st) (sh, I, R) = if y < x then ev S d 64 48 [a0, a1] st (sh, I, R) else ev S d 64 12 [a0, a1] st (sh, I, R) := (ev_eq f_64_9).trans fin_icmp_gt
theorem f_64_12 : fetch 64 12 = some (12, .aload_n 0, 1, [0], 0) := (fm_64 12).trans rfl
theorem u_64_12 {S : Scr} {d : Nat} {a1 : AV} {st : List AV} {sh : Shp} {I : IM} {R : RM} {x : Nat} : ev S d 64 12 [.inr (.inl x), a1] st (sh, I, R) = ev S d 64 13 [.inr (.inl x), a1] (.inr (.inl x) :: st) (sh, I, R) := (ev_eq f_64_12).trans rfl
theorem f_64_13 : fetch 64 13 = some (13, .invokevirtual 115, 3, [65, 0, 58], 0) := (fm_64 13).trans rfl
theorem u_64_13 {S : Scr} {d : Nat} {a0 a1 : AV} {st : List AV} {sh : Shp} {I : IM} {R : RM} {k : Nat} (h : tg sh k = 6) (hr : st.length ≤ 8) : ev S d 64 13 [a0, a1] (.inr (.inl k) :: st) (sh, I, R) = bnd (cl d 65 [.inr (.inl k)] (sh, I, R)) (fun v M => ev S d 64 16 [a0, a1] (psh v st) M) := (ev_eq f_64_13).trans (congrArg (fin S d 64) (if_pos ⟨h, rfl, hr⟩))
theorem f_64_16 : fetch 64 16 = some (16, .ifCond .ne 26, 3, [42], 0) := (fm_64 16).trans rfl
theorem u_64_16 {S : Scr} {d : Nat} {a0 a1 : AV} {st : List AV} {sh : Shp} {I : IM} {R : RM} {x : Int} : ev S d 64 16 [a0, a1] (.inl x :: st) (sh, I, R) = if ¬ x = 0 then ev S d 64 42 [a0, a1] st (sh, I, R) else ev S d 64 19 [a0, a1] st (sh, I, R) := (ev_eq f_64_16).trans fin_if_ne
theorem f_64_19 : fetch 64 19 = some (19, .aload_n 0, 1, [0], 0) := (fm_64 19).trans rfl
theorem u_64_19 {S : Scr} {d : Nat} {a1 : AV} {st : List AV} {sh : Shp} {I : IM} {R : RM} {x : Nat} : ev S d 64 19 [.inr (.inl x), a1] st (sh, I, R) = ev S d 64 20 [.inr (.inl x), a1] (.inr (.inl x) :: st) (sh, I, R) := (ev_eq f_64_19).trans rfl
theorem f_64_20 : fetch 64 20 = some (20, .getfield 32, 3, [6, 5, 0, 38], 0) := (fm_64 20).trans rfl
theorem u_64_20 {S : Scr} {d : Nat} {a0 a1 : AV} {st : List AV} {sh : Shp} {I : IM} {R : RM} {k : Nat} (h : tg sh k = 6) : ev S d 64 20 [a0, a1] (.inr (.inl k) :: st) (sh, I, R) = ev S d 64 23 [a0, a1] (.inl (I k 5) :: st) (sh, I, R) := (ev_eq f_64_20).trans (congrArg (fin S d 64) (if_pos h))
theorem f_64_23 : fetch 64 23 = some (23, .ifCond .le 17, 3, [40], 0) := (fm_64 23).trans rfl
theorem u_64_23 {S : Scr} {d : Nat} {a0 a1 : AV} {st : List AV} {sh : Shp} {I : IM} {R : RM} {x : Int} : ev S d 64 23 [a0, a1] (.inl x :: st) (sh, I, R) = if x ≤ 0 then ev S d 64 40 [a0, a1] st (sh, I, R) else ev S d 64 26 [a0, a1] st (sh, I, R) := (ev_eq f_64_23).trans fin_if_le
theorem f_64_26 : fetch 64 26 = some (26, .aload_n 0, 1, [0], 0) := (fm_64 26).trans rfl
theorem u_64_26 {S : Scr} {d : Nat} {a1 : AV} {st : List AV} {sh : Shp} {I : IM} {R : RM} {x : Nat} : ev S d 64 26 [.inr (.inl x), a1] st (sh, I, R) = ev S d 64 27 [.inr (.inl x), a1] (.inr (.inl x) :: st) (sh, I, R) := (ev_eq f_64_26).trans rfl
theorem f_64_27 : fetch 64 27 = some (27, .getfield 25, 3, [6, 4, 1, 36], 0) := (fm_64 27).trans rfl
theorem u_64_27 {S : Scr} {d : Nat} {a0 a1 : AV} {st : List AV} {sh : Shp} {I : IM} {R : RM} {k : Nat} (h : tg sh k = 6) : ev S d 64 27 [a0, a1] (.inr (.inl k) :: st) (sh, I, R) = ev S d 64 30 [a0, a1] (rv (R k 4) :: st) (sh, I, R) := (ev_eq f_64_27).trans (congrArg (fin S d 64) (if_pos h))
theorem f_64_30 : fetch 64 30 = some (30, .aload_n 0, 1, [0], 0) := (fm_64 30).trans rfl
theorem u_64_30 {S : Scr} {d : Nat} {a1 : AV} {st : List AV} {sh : Shp} {I : IM} {R : RM} {x : Nat} : ev S d 64 30 [.inr (.inl x), a1] st (sh, I, R) = ev S d 64 31 [.inr (.inl x), a1] (.inr (.inl x) :: st) (sh, I, R) := (ev_eq f_64_30).trans rfl
theorem f_64_31 : fetch 64 31 = some (31, .getfield 22, 3, [6, 3, 1, 35], 0) := (fm_64 31).trans rfl
theorem u_64_31 {S : Scr} {d : Nat} {a0 a1 : AV} {st : List AV} {sh : Shp} {I : IM} {R : RM} {k : Nat} (h : tg sh k = 6) : ev S d 64 31 [a0, a1] (.inr (.inl k) :: st) (sh, I, R) = ev S d 64 34 [a0, a1] (rv (R k 3) :: st) (sh, I, R) := (ev_eq f_64_31).trans (congrArg (fin S d 64) (if_pos h))
theorem f_64_34 : fetch 64 34 = some (34, .iconst 0, 1, [], 0) := (fm_64 34).trans rfl
theorem u_64_34 {S : Scr} {d : Nat} {a0 a1 : AV} {st : List AV} {sh : Shp} {I : IM} {R : RM} : ev S d 64 34 [a0, a1] st (sh, I, R) = ev S d 64 35 [a0, a1] (.inl 0 :: st) (sh, I, R) := (ev_eq f_64_34).trans rfl
theorem f_64_35 : fetch 64 35 = some (35, .iaload, 1, [], 0) := (fm_64 35).trans rfl
theorem u_64_35 {S : Scr} {d : Nat} {a0 a1 : AV} {st : List AV} {sh : Shp} {I : IM} {R : RM} {k : Nat} {i : Int} (h : tg sh k = 100) (h0 : 0 ≤ i) (h1 : i < ln sh k) : ev S d 64 35 [a0, a1] (.inl i :: .inr (.inl k) :: st) (sh, I, R) = ev S d 64 36 [a0, a1] (.inl (I k i) :: st) (sh, I, R) := (ev_eq f_64_35).trans (congrArg (fin S d 64) (if_pos ⟨h, h0, h1⟩))
theorem f_64_36 : fetch 64 36 = some (36, .iaload, 1, [], 0) := (fm_64 36).trans rfl
theorem u_64_36 {S : Scr} {d : Nat} {a0 a1 : AV} {st : List AV} {sh : Shp} {I : IM} {R : RM} {k : Nat} {i : Int} (h : tg sh k = 100) (h0 : 0 ≤ i) (h1 : i < ln sh k) : ev S d 64 36 [a0, a1] (.inl i :: .inr (.inl k) :: st) (sh, I, R) = ev S d 64 37 [a0, a1] (.inl (I k i) :: st) (sh, I, R) := (ev_eq f_64_36).trans (congrArg (fin S d 64) (if_pos ⟨h, h0, h1⟩))
theorem f_64_37 : fetch 64 37 = some (37, .goto 4, 3, [41], 0) := (fm_64 37).trans rfl
theorem u_64_37 {S : Scr} {d : Nat} {a0 a1 : AV} {st : List AV} {sh : Shp} {I : IM} {R : RM} : ev S d 64 37 [a0, a1] st (sh, I, R) = ev S d 64 41 [a0, a1] st (sh, I, R) := (ev_eq f_64_37).trans rfl
theorem f_64_40 : fetch 64 40 = some (40, .iconst 0, 1, [], 0) := (fm_64 40).trans rfl
theorem u_64_40 {S : Scr} {d : Nat} {a0 a1 : AV} {st : List AV} {sh : Shp} {I : IM} {R : RM} : ev S d 64 40 [a0, a1] st (sh, I, R) = ev S d 64 41 [a0, a1] (.inl 0 :: st) (sh, I, R) := (ev_eq f_64_40).trans rfl
theorem f_64_41 : fetch 64 41 = some (41, .ireturn, 1, [0], 0) := (fm_64 41).trans rfl
theorem u_64_41 {S : Scr} {d : Nat} {a0 a1 : AV} {sh : Shp} {I : IM} {R : RM} {x : Int} : ev S d 64 41 [a0, a1] [.inl x] (sh, I, R) = some (some (.inl x), (sh, I, R)) := (ev_eq f_64_41).trans fin_iret0
theorem f_64_42 : fetch 64 42 = some (42, .iinc 1 1, 3, [1], 1) := (fm_64 42).trans rfl
theorem u_64_42 {S : Scr} {d : Nat} {a0 : AV} {st : List AV} {sh : Shp} {I : IM} {R : RM} {x : Int} : ev S d 64 42 [a0, .inl x] st (sh, I, R) = ev S d 64 45 [a0, .inl (wr (x + 1))] st (sh, I, R) := (ev_eq f_64_42).trans rfl
theorem f_64_45 : fetch 64 45 = some (45, .goto (-39), 3, [6], 0) := (fm_64 45).trans rfl
theorem u_64_45 {S : Scr} {d : Nat} {a0 a1 : AV} {st : List AV} {sh : Shp} {I : IM} {R : RM} : ev S d 64 45 [a0, a1] st (sh, I, R) = ev S d 64 6 [a0, a1] st (sh, I, R) := (ev_eq f_64_45).trans rfl
theorem f_64_48 : fetch 64 48 = some (48, .bipush (-2), 2, [], (-2)) := (fm_64 48).trans rfl
theorem u_64_48 {S : Scr} {d : Nat} {a0 a1 : AV} {st : List AV} {sh : Shp} {I : IM} {R : RM} : ev S d 64 48 [a0, a1] st (sh, I, R) = ev S d 64 50 [a0, a1] (.inl (-2) :: st) (sh, I, R) := (ev_eq f_64_48).trans rfl
theorem f_64_50 : fetch 64 50 = some (50, .ireturn, 1, [0], 0) := (fm_64 50).trans rfl
theorem u_64_50 {S : Scr} {d : Nat} {a0 a1 : AV} {sh : Shp} {I : IM} {R : RM} {x : Int} : ev S d 64 50 [a0, a1] [.inl x] (sh, I, R) = some (some (.inl x), (sh, I, R)) := (ev_eq f_64_50).trans fin_iret0
theorem c_65 {d : Nat} {a0 : AV} {M : Mem} : cl (d + 1) 65 [a0] M = ev S0 d 65 0 [a0, .inr (.inr 1), .inr (.inr 1), .inr (.inr 1)] [] M := (cl_eq (as := [a0]) (show 1 ≤ maxOf 65 by decide +kernel)).trans rfl
theorem mt_65 : MT[65]? = some m_65 := rfl
theorem fm_65 (pc : Nat) : fetch 65 pc = lk m_65.2.2.2.2.2 pc := by
  unfold fetch
  rw [mt_65]
theorem f_65_0 : fetch 65 0 = some (0, .iconst 0, 1, [], 0) := (fm_65 0).trans rfl
theorem u_65_0 {S : Scr} {d : Nat} {a0 a1 a2 a3 : AV} {st : List AV} {sh : Shp} {I : IM} {R : RM} : ev S d 65 0 [a0, a1, a2, a3] st (sh, I, R) = ev S d 65 1 [a0, a1, a2, a3] (.inl 0 :: st) (sh, I, R) := (ev_eq f_65_0).trans rfl
theorem f_65_1 : fetch 65 1 = some (1, .istore_n 1, 1, [1], 0) := (fm_65 1).trans rfl
theorem u_65_1 {S : Scr} {d : Nat} {a0 a1 a2 a3 : AV} {st : List AV} {sh : Shp} {I : IM} {R : RM} {x : Int} : ev S d 65 1 [a0, a1, a2, a3] (.inl x :: st) (sh, I, R) = ev S d 65 2 [a0, .inl x, a2, a3] st (sh, I, R) := (ev_eq f_65_1).trans rfl
theorem f_65_2 : fetch 65 2 = some (2, .aload_n 0, 1, [0], 0) := (fm_65 2).trans rfl
theorem u_65_2 {S : Scr} {d : Nat} {a1 a2 a3 : AV} {st : List AV} {sh : Shp} {I : IM} {R : RM} {x : Nat} : ev S d 65 2 [.inr (.inl x), a1, a2, a3] st (sh, I, R) = ev S d 65 3 [.inr (.inl x), a1, a2, a3] (.inr (.inl x) :: st) (sh, I, R) := (ev_eq f_65_2).trans rfl
theorem f_65_3 : fetch 65 3 = some (3, .getfield 32, 3, [6, 5, 0, 38], 0) := (fm_65 3).trans rfl
theorem u_65_3 {S : Scr} {d : Nat} {a0 a1 a2 a3 : AV} {st : List AV} {sh : Shp} {I : IM} {R : RM} {k : Nat} (h : tg sh k = 6) : ev S d 65 3 [a0, a1, a2, a3] (.inr (.inl k) :: st) (sh, I, R) = ev S d 65 6 [a0, a1, a2, a3] (.inl (I k 5) :: st) (sh, I, R) := (ev_eq f_65_3).trans (congrArg (fin S d 65) (if_pos h))
theorem f_65_6 : fetch 65 6 = some (6, .iconst 1, 1, [], 1) := (fm_65 6).trans rfl
theorem u_65_6 {S : Scr} {d : Nat} {a0 a1 a2 a3 : AV} {st : List AV} {sh : Shp} {I : IM} {R : RM} : ev S d 65 6 [a0, a1, a2, a3] st (sh, I, R) = ev S d 65 7 [a0, a1, a2, a3] (.inl 1 :: st) (sh, I, R) := (ev_eq f_65_6).trans rfl
theorem f_65_7 : fetch 65 7 = some (7, .isub, 1, [], 0) := (fm_65 7).trans rfl
theorem u_65_7 {S : Scr} {d : Nat} {a0 a1 a2 a3 : AV} {st : List AV} {sh : Shp} {I : IM} {R : RM} {x y : Int} : ev S d 65 7 [a0, a1, a2, a3] (.inl y :: .inl x :: st) (sh, I, R) = ev S d 65 8 [a0, a1, a2, a3] (.inl (wr (x - y)) :: st) (sh, I, R) := (ev_eq f_65_7).trans rfl
theorem f_65_8 : fetch 65 8 = some (8, .istore_n 2, 1, [2], 0) := (fm_65 8).trans rfl
theorem u_65_8 {S : Scr} {d : Nat} {a0 a1 a2 a3 : AV} {st : List AV} {sh : Shp} {I : IM} {R : RM} {x : Int} : ev S d 65 8 [a0, a1, a2, a3] (.inl x :: st) (sh, I, R) = ev S d 65 9 [a0, a1, .inl x, a3] st (sh, I, R) := (ev_eq f_65_8).trans rfl
theorem f_65_9 : fetch 65 9 = some (9, .iload_n 2, 1, [2], 0) := (fm_65 9).trans rfl
theorem u_65_9 {S : Scr} {d : Nat} {a0 a1 a3 : AV} {st : List AV} {sh : Shp} {I : IM} {R : RM} {x : Int} : ev S d 65 9 [a0, a1, .inl x, a3] st (sh, I, R) = ev S d 65 10 [a0, a1, .inl x, a3] (.inl x :: st) (sh, I, R) := (ev_eq f_65_9).trans rfl
theorem f_65_10 : fetch 65 10 = some (10, .ifCond .lt 58, 3, [68], 0) := (fm_65 10).trans rfl
theorem u_65_10 {S : Scr} {d : Nat} {a0 a1 a2 a3 : AV} {st : List AV} {sh : Shp} {I : IM} {R : RM} {x : Int} : ev S d 65 10 [a0, a1, a2, a3] (.inl x :: st) (sh, I, R) = if x < 0 then ev S d 65 68 [a0, a1, a2, a3] st (sh, I, R) else ev S d 65 13 [a0, a1, a2, a3] st (sh, I, R) := (ev_eq f_65_10).trans fin_if_lt
theorem f_65_13 : fetch 65 13 = some (13, .iconst 1, 1, [], 1) := (fm_65 13).trans rfl
theorem u_65_13 {S : Scr} {d : Nat} {a0 a1 a2 a3 : AV} {st : List AV} {sh : Shp} {I : IM} {R : RM} : ev S d 65 13 [a0, a1, a2, a3] st (sh, I, R) = ev S d 65 14 [a0, a1, a2, a3] (.inl 1 :: st) (sh, I, R) := (ev_eq f_65_13).trans rfl
theorem f_65_14 : fetch 65 14 = some (14, .aload_n 0, 1, [0], 0) := (fm_65 14).trans rfl
theorem u_65_14 {S : Scr} {d : Nat} {a1 a2 a3 : AV} {st : List AV} {sh : Shp} {I : IM} {R : RM} {x : Nat} : ev S d 65 14 [.inr (.inl x), a1, a2, a3] st (sh, I, R) = ev S d 65 15 [.inr (.inl x), a1, a2, a3] (.inr (.inl x) :: st) (sh, I, R) := (ev_eq f_65_14).trans rfl
theorem f_65_15 : fetch 65 15 = some (15, .aload_n 0, 1, [0], 0) := (fm_65 15).trans rfl
theorem u_65_15 {S : Scr} {d : Nat} {a1 a2 a3 : AV} {st : List AV} {sh : Shp} {I : IM} {R : RM} {x : Nat} : ev S d 65 15 [.inr (.inl x), a1, a2, a3] st (sh, I, R) = ev S d 65 16 [.inr (.inl x), a1, a2, a3] (.inr (.inl x) :: st) (sh, I, R) := (ev_eq f_65_15).trans rfl
theorem f_65_16 : fetch 65 16 = some (16, .getfield 28, 3, [6, 0, 1, 37], 0) := (fm_65 16).trans rfl
theorem u_65_16 {S : Scr} {d : Nat} {a0 a1 a2 a3 : AV} {st : List AV} {sh : Shp} {I : IM} {R : RM} {k : Nat} (h : tg sh k = 6) : ev S d 65 16 [a0, a1, a2, a3] (.inr (.inl k) :: st) (sh, I, R) = ev S d 65 19 [a0, a1, a2, a3] (rv (R k 0) :: st) (sh, I, R) := (ev_eq f_65_16).trans (congrArg (fin S d 65) (if_pos h))
theorem f_65_19 : fetch 65 19 = some (19, .aload_n 0, 1, [0], 0) := (fm_65 19).trans rfl
theorem u_65_19 {S : Scr} {d : Nat} {a1 a2 a3 : AV} {st : List AV} {sh : Shp} {I : IM} {R : RM} {x : Nat} : ev S d 65 19 [.inr (.inl x), a1, a2, a3] st (sh, I, R) = ev S d 65 20 [.inr (.inl x), a1, a2, a3] (.inr (.inl x) :: st) (sh, I, R) := (ev_eq f_65_19).trans rfl
theorem f_65_20 : fetch 65 20 = some (20, .getfield 22, 3, [6, 3, 1, 35], 0) := (fm_65 20).trans rfl
theorem u_65_20 {S : Scr} {d : Nat} {a0 a1 a2 a3 : AV} {st : List AV} {sh : Shp} {I : IM} {R : RM} {k : Nat} (h : tg sh k = 6) : ev S d 65 20 [a0, a1, a2, a3] (.inr (.inl k) :: st) (sh, I, R) = ev S d 65 23 [a0, a1, a2, a3] (rv (R k 3) :: st) (sh, I, R) := (ev_eq f_65_20).trans (congrArg (fin S d 65) (if_pos h))
theorem f_65_23 : fetch 65 23 = some (23, .iload_n 2, 1, [2], 0) := (fm_65 23).trans rfl
theorem u_65_23 {S : Scr} {d : Nat} {a0 a1 a3 : AV} {st : List AV} {sh : Shp} {I : IM} {R : RM} {x : Int} : ev S d 65 23 [a0, a1, .inl x, a3] st (sh, I, R) = ev S d 65 24 [a0, a1, .inl x, a3] (.inl x :: st) (sh, I, R) := (ev_eq f_65_23).trans rfl
theorem f_65_24 : fetch 65 24 = some (24, .iaload, 1, [], 0) := (fm_65 24).trans rfl
theorem u_65_24 {S : Scr} {d : Nat} {a0 a1 a2 a3 : AV} {st : List AV} {sh : Shp} {I : IM} {R : RM} {k : Nat} {i : Int} (h : tg sh k = 100) (h0 : 0 ≤ i) (h1 : i < ln sh k) : ev S d 65 24 [a0, a1, a2, a3] (.inl i :: .inr (.inl k) :: st) (sh, I, R) = ev S d 65 25 [a0, a1, a2, a3] (.inl (I k i) :: st) (sh, I, R) := (ev_eq f_65_24).trans (congrArg (fin S d 65) (if_pos ⟨h, h0, h1⟩))
theorem f_65_25 : fetch 65 25 = some (25, .invokevirtual 50, 3, [68, 1, 50], 0) := (fm_65 25).trans rfl
theorem u_65_25 {S : Scr} {d : Nat} {a0 a1 a2 a3 : AV} {st : List AV} {sh : Shp} {I : IM} {R : RM} {x0 : Int} {k : Nat} (h : tg sh k = 7) (hr : st.length ≤ 8) : ev S d 65 25 [a0, a1, a2, a3] (.inl x0 :: .inr (.inl k) :: st) (sh, I, R) = bnd (cl d 68 [.inr (.inl k), .inl x0] (sh, I, R)) (fun v M => ev S d 65 28 [a0, a1, a2, a3] (psh v st) M) := (ev_eq f_65_25).trans (congrArg (fin S d 65) (if_pos ⟨h, rfl, hr⟩))
theorem f_65_28 : fetch 65 28 = some (28, .invokevirtual 119, 3, [66, 1, 59], 0) := (fm_65 28).trans rfl
theorem u_65_28 {S : Scr} {d : Nat} {a0 a1 a2 a3 : AV} {st : List AV} {sh : Shp} {I : IM} {R : RM} {x0 : Nat} {k : Nat} (h : tg sh k = 6) (hr : st.length ≤ 8) : ev S d 65 28 [a0, a1, a2, a3] (.inr (.inl x0) :: .inr (.inl k) :: st) (sh, I, R) = bnd (cl d 66 [.inr (.inl k), .inr (.inl x0)] (sh, I, R)) (fun v M => ev S d 65 31 [a0, a1, a2, a3] (psh v st) M) := (ev_eq f_65_28).trans (congrArg (fin S d 65) (if_pos ⟨h, rfl, hr⟩))
theorem u_65_28n {S : Scr} {d : Nat} {a0 a1 a2 a3 : AV} {st : List AV} {sh : Shp} {I : IM} {R : RM} {k : Nat} (h : tg sh k = 6) (hr : st.length ≤ 8) : ev S d 65 28 [a0, a1, a2, a3] (.inr (.inr 0) :: .inr (.inl k) :: st) (sh, I, R) = bnd (cl d 66 [.inr (.inl k), .inr (.inr 0)] (sh, I, R)) (fun v M => ev S d 65 31 [a0, a1, a2, a3] (psh v st) M) := (ev_eq f_65_28).trans (congrArg (fin S d 65) (if_pos ⟨h, rfl, hr⟩))
theorem f_65_31 : fetch 65 31 = some (31, .iadd, 1, [], 0) := (fm_65 31).trans rfl
theorem u_65_31 {S : Scr} {d : Nat} {a0 a1 a2 a3 : AV} {st : List AV} {sh : Shp} {I : IM} {R : RM} {x y : Int} : ev S d 65 31 [a0, a1, a2, a3] (.inl y :: .inl x :: st) (sh, I, R) = ev S d 65 32 [a0, a1, a2, a3] (.inl (wr (x + y)) :: st) (sh, I, R) := (ev_eq f_65_31).trans rfl
theorem f_65_32 : fetch 65 32 = some (32, .istore_n 3, 1, [3], 0) := (fm_65 32).trans rfl
theorem u_65_32 {S : Scr} {d : Nat} {a0 a1 a2 a3 : AV} {st : List AV} {sh : Shp} {I : IM} {R : RM} {x : Int} : ev S d 65 32 [a0, a1, a2, a3] (.inl x :: st) (sh, I, R) = ev S d 65 33 [a0, a1, a2, .inl x] st (sh, I, R) := (ev_eq f_65_32).trans rfl
theorem f_65_33 : fetch 65 33 = some (33, .iload_n 3, 1, [3], 0) := (fm_65 33).trans rfl
theorem u_65_33 {S : Scr} {d : Nat} {a0 a1 a2 : AV} {st : List AV} {sh : Shp} {I : IM} {R : RM} {x : Int} : ev S d 65 33 [a0, a1, a2, .inl x] st (sh, I, R) = ev S d 65 34 [a0, a1, a2, .inl x] (.inl x :: st) (sh, I, R) := (ev_eq f_65_33).trans rfl
theorem f_65_34 : fetch 65 34 = some (34, .aload_n 0, 1, [0], 0) := (fm_65 34).trans rfl
theorem u_65_34 {S : Scr} {d : Nat} {a1 a2 a3 : AV} {st : List AV} {sh : Shp} {I : IM} {R : RM} {x : Nat} : ev S d 65 34 [.inr (.inl x), a1, a2, a3] st (sh, I, R) = ev S d 65 35 [.inr (.inl x), a1, a2, a3] (.inr (.inl x) :: st) (sh, I, R) := (ev_eq f_65_34).trans rfl
theorem f_65_35 : fetch 65 35 = some (35, .getfield 25, 3, [6, 4, 1, 36], 0) := (fm_65 35).trans rfl
theorem u_65_35 {S : Scr} {d : Nat} {a0 a1 a2 a3 : AV} {st : List AV} {sh : Shp} {I : IM} {R : RM} {k : Nat} (h : tg sh k = 6) : ev S d 65 35 [a0, a1, a2, a3] (.inr (.inl k) :: st) (sh, I, R) = ev S d 65 38 [a0, a1, a2, a3] (rv (R k 4) :: st) (sh, I, R) := (ev_eq f_65_35).trans (congrArg (fin S d 65) (if_pos h))
theorem f_65_38 : fetch 65 38 = some (38, .aload_n 0, 1, [0], 0) := (fm_65 38).trans rfl
theorem u_65_38 {S : Scr} {d : Nat} {a1 a2 a3 : AV} {st : List AV} {sh : Shp} {I : IM} {R : RM} {x : Nat} : ev S d 65 38 [.inr (.inl x), a1, a2, a3] st (sh, I, R) = ev S d 65 39 [.inr (.inl x), a1, a2, a3] (.inr (.inl x) :: st) (sh, I, R) := (ev_eq f_65_38).trans rfl
theorem f_65_39 : fetch 65 39 = some (39, .getfield 22, 3, [6, 3, 1, 35], 0) := (fm_65 39).trans rfl
theorem u_65_39 {S : Scr} {d : Nat} {a0 a1 a2 a3 : AV} {st : List AV} {sh : Shp} {I : IM} {R : RM} {k : Nat} (h : tg sh k = 6) : ev S d 65 39 [a0, a1, a2, a3] (.inr (.inl k) :: st) (sh, I, R) = ev S d 65 42 [a0, a1, a2, a3] (rv (R k 3) :: st) (sh, I, R) := (ev_eq f_65_39).trans (congrArg (fin S d 65) (if_pos h))
theorem f_65_42 : fetch 65 42 = some (42, .iload_n 2, 1, [2], 0) := (fm_65 42).trans rfl
theorem u_65_42 {S : Scr} {d : Nat} {a0 a1 a3 : AV} {st : List AV} {sh : Shp} {I : IM} {R : RM} {x : Int} : ev S d 65 42 [a0, a1, .inl x, a3] st (sh, I, R) = ev S d 65 43 [a0, a1, .inl x, a3] (.inl x :: st) (sh, I, R) := (ev_eq f_65_42).trans rfl
theorem f_65_43 : fetch 65 43 = some (43, .iaload, 1, [], 0) := (fm_65 43).trans rfl
theorem u_65_43 {S : Scr} {d : Nat} {a0 a1 a2 a3 : AV} {st : List AV} {sh : Shp} {I : IM} {R : RM} {k : Nat} {i : Int} (h : tg sh k = 100) (h0 : 0 ≤ i) (h1 : i < ln sh k) : ev S d 65 43 [a0, a1, a2, a3] (.inl i :: .inr (.inl k) :: st) (sh, I, R) = ev S d 65 44 [a0, a1, a2, a3] (.inl (I k i) :: st) (sh, I, R) := (ev_eq f_65_43).trans (congrArg (fin S d 65) (if_pos ⟨h, h0, h1⟩))
theorem f_65_44 : fetch 65 44 = some (44, .iaload, 1, [], 0) := (fm_65 44).trans rfl
theorem u_65_44 {S : Scr} {d : Nat} {a0 a1 a2 a3 : AV} {st : List AV} {sh : Shp} {I : IM} {R : RM} {k : Nat} {i : Int} (h : tg sh k = 100) (h0 : 0 ≤ i) (h1 : i < ln sh k) : ev S d 65 44 [a0, a1, a2, a3] (.inl i :: .inr (.inl k) :: st) (sh, I, R) = ev S d 65 45 [a0, a1, a2, a3] (.inl (I k i) :: st) (sh, I, R) := (ev_eq f_65_44).trans (congrArg (fin S d 65) (if_pos ⟨h, h0, h1⟩))
theorem f_65_45 : fetch 65 45 = some (45, .if_icmp .le 17, 3, [62], 0) := (fm_65 45).trans rfl
theorem u_65_45 {S : Scr} {d : Nat} {a0 a1 a2 a3 : AV} {st : List AV} {sh : Shp} {I : IM} {R : RM} {x y : Int} : ev S d 65 45 [a0, a1, a2, a3] (.inl y :: .inl x :: st) (sh, I, R) = if x ≤ y then ev S d 65 62 [a0, a1, a2, a3] st (sh, I, R) else ev S d 65 48 [a0, a1, a2, a3] st (sh, I, R) := (ev_eq f_65_45).trans fin_icmp_le
theorem f_65_48 : fetch 65 48 = some (48, .aload_n 0, 1, [0], 0) := (fm_65 48).trans rfl
theorem u_65_48 {S : Scr} {d : Nat} {a1 a2 a3 : AV} {st : List AV} {sh : Shp} {I : IM} {R : RM} {x : Nat} : ev S d 65 48 [.inr (.inl x), a1, a2, a3] st (sh, I, R) = ev S d 65 49 [.inr (.inl x), a1, a2, a3] (.inr (.inl x) :: st) (sh, I, R) := (ev_eq f_65_48).trans rfl
theorem f_65_49 : fetch 65 49 = some (49, .getfield 25, 3, [6, 4, 1, 36], 0) := (fm_65 49).trans rfl
theorem u_65_49 {S : Scr} {d : Nat} {a0 a1 a2 a3 : AV} {st : List AV} {sh : Shp} {I : IM} {R : RM} {k : Nat} (h : tg sh k = 6) : ev S d 65 49 [a0, a1, a2, a3] (.inr (.inl k) :: st) (sh, I, R) = ev S d 65 52 [a0, a1, a2, a3] (rv (R k 4) :: st) (sh, I, R) := (ev_eq f_65_49).trans (congrArg (fin S d 65) (if_pos h))
theorem f_65_52 : fetch 65 52 = some (52, .aload_n 0, 1, [0], 0) := (fm_65 52).trans rfl
theorem u_65_52 {S : Scr} {d : Nat} {a1 a2 a3 : AV} {st : List AV} {sh : Shp} {I : IM} {R : RM} {x : Nat} : ev S d 65 52 [.inr (.inl x), a1, a2, a3] st (sh, I, R) = ev S d 65 53 [.inr (.inl x), a1, a2, a3] (.inr (.inl x) :: st) (sh, I, R) := (ev_eq f_65_52).trans rfl
theorem f_65_53 : fetch 65 53 = some (53, .getfield 22, 3, [6, 3, 1, 35], 0) := (fm_65 53).trans rfl
theorem u_65_53 {S : Scr} {d : Nat} {a0 a1 a2 a3 : AV} {st : List AV} {sh : Shp} {I : IM} {R : RM} {k : Nat} (h : tg sh k = 6) : ev S d 65 53 [a0, a1, a2, a3] (.inr (.inl k) :: st) (sh, I, R) = ev S d 65 56 [a0, a1, a2, a3] (rv (R k 3) :: st) (sh, I, R) := (ev_eq f_65_53).trans (congrArg (fin S d 65) (if_pos h))
theorem f_65_56 : fetch 65 56 = some (56, .iload_n 2, 1, [2], 0) := (fm_65 56).trans rfl
theorem u_65_56 {S : Scr} {d : Nat} {a0 a1 a3 : AV} {st : List AV} {sh : Shp} {I : IM} {R : RM} {x : Int} : ev S d 65 56 [a0, a1, .inl x, a3] st (sh, I, R) = ev S d 65 57 [a0, a1, .inl x, a3] (.inl x :: st) (sh, I, R) := (ev_eq f_65_56).trans rfl
theorem f_65_57 : fetch 65 57 = some (57, .iaload, 1, [], 0) := (fm_65 57).trans rfl
theorem u_65_57 {S : Scr} {d : Nat} {a0 a1 a2 a3 : AV} {st : List AV} {sh : Shp} {I : IM} {R : RM} {k : Nat} {i : Int} (h : tg sh k = 100) (h0 : 0 ≤ i) (h1 : i < ln sh k) : ev S d 65 57 [a0, a1, a2, a3] (.inl i :: .inr (.inl k) :: st) (sh, I, R) = ev S d 65 58 [a0, a1, a2, a3] (.inl (I k i) :: st) (sh, I, R) := (ev_eq f_65_57).trans (congrArg (fin S d 65) (if_pos ⟨h, h0, h1⟩))
theorem f_65_58 : fetch 65 58 = some (58, .iload_n 3, 1, [3], 0) := (fm_65 58).trans rfl
theorem u_65_58 {S : Scr} {d : Nat} {a0 a1 a2 : AV} {st : List AV} {sh : Shp} {I : IM} {R : RM} {x : Int} : ev S d 65 58 [a0, a1, a2, .inl x] st (sh, I, R) = ev S d 65 59 [a0, a1, a2, .inl x] (.inl x :: st) (sh, I, R) := (ev_eq f_65_58).trans rfl
theorem f_65_59 : fetch 65 59 = some (59, .iastore, 1, [], 0) := (fm_65 59).trans rfl
theorem u_65_59 {S : Scr} {d : Nat} {a0 a1 a2 a3 : AV} {st : List AV} {sh : Shp} {I : IM} {R : RM} {k : Nat} {i x : Int} (h : tg sh k = 100) (h0 : 0 ≤ i) (h1 : i < ln sh k) : ev S d 65 59 [a0, a1, a2, a3] (.inl x :: .inl i :: .inr (.inl k) :: st) (sh, I, R) = ev S d 65 60 [a0, a1, a2, a3] st (sh, up I k i x, R) := (ev_eq f_65_59).trans (congrArg (fin S d 65) (if_pos ⟨h, h0, h1⟩))
theorem f_65_60 : fetch 65 60 = some (60, .iconst 1, 1, [], 1) := (fm_65 60).trans rfl
theorem u_65_60 {S : Scr} {d : Nat} {a0 a1 a2 a3 : AV} {st : List AV} {sh : Shp} {I : IM} {R : RM} : ev S d 65 60 [a0, a1, a2, a3] st (sh, I, R) = ev S d 65 61 [a0, a1, a2, a3] (.inl 1 :: st) (sh, I, R) := (ev_eq f_65_60).trans rfl
theorem f_65_61 : fetch 65 61 = some (61, .istore_n 1, 1, [1], 0) := (fm_65 61).trans rfl
theorem u_65_61 {S : Scr} {d : Nat} {a0 a1 a2 a3 : AV} {st : List AV} {sh : Shp} {I : IM} {R : RM} {x : Int} : ev S d 65 61 [a0, a1, a2, a3] (.inl x :: st) (sh, I, R) = ev S d 65 62 [a0, .inl x, a2, a3] st (sh, I, R) := (ev_eq f_65_61).trans rfl
theorem f_65_62 : fetch 65 62 = some (62, .iinc 2 (-1), 3, [2], (-1)) := (fm_65 62).trans rfl
theorem u_65_62 {S : Scr} {d : Nat} {a0 a1 a3 : AV} {st : List AV} {sh : Shp} {I : IM} {R : RM} {x : Int} : ev S d 65 62 [a0, a1, .inl x, a3] st (sh, I, R) = ev S d 65 65 [a0, a1, .inl (wr (x + (-1))), a3] st (sh, I, R) := (ev_eq f_65_62).trans rfl
theorem f_65_65 : fetch 65 65 = some (65, .goto (-56), 3, [9], 0) := (fm_65 65).trans rfl
theorem u_65_65 {S : Scr} {d : Nat} {a0 a1 a2 a3 : AV} {st : List AV} {sh : Shp} {I : IM} {R : RM} : ev S d 65 65 [a0, a1, a2, a3] st (sh, I, R) = ev S d 65 9 [a0, a1, a2, a3] st (sh, I, R) := (ev_eq f_65_65).trans rfl
theorem f_65_68 : fetch 65 68 = some (68, .iload_n 1, 1, [1], 0) := (fm_65 68).trans rfl
theorem u_65_68 {S : Scr} {d : Nat} {a0 a2 a3 : AV} {st : List AV} {sh : Shp} {I : IM} {R : RM} {x : Int} : ev S d 65 68 [a0, .inl x, a2, a3] st (sh, I, R) = ev S d 65 69 [a0, .inl x, a2, a3] (.inl x :: st) (sh, I, R) := (ev_eq f_65_68).trans rfl
theorem f_65_69 : fetch 65 69 = some (69, .ireturn, 1, [1], 0) := (fm_65 69).trans rfl
theorem u_65_69 {S : Scr} {d : Nat} {a0 a1 a2 a3 : AV} {sh : Shp} {I : IM} {R : RM} {x : Int} (h : x = 0 ∨ x = 1) : ev S d 65 69 [a0, a1, a2, a3] [.inl x] (sh, I, R) = some (some (.inl x), (sh, I, R)) := (ev_eq f_65_69).trans (fin_iret1 h)
theorem c_66 {d : Nat} {a0 a1 : AV} {M : Mem} : cl (d + 1) 66 [a0, a1] M = ev S0 d 66 0 [a0, a1, .inr (.inr 1), .inr (.inr 1)] [] M := (cl_eq (as := [a0, a1]) (show 2 ≤ maxOf 66 by decide +kernel)).trans rfl
theorem mt_66 : MT[66]? = some m_66 := rfl
theorem fm_66 (pc : Nat) : fetch 66 pc = lk m_66.2.2.2.2.2 pc := by
  unfold fetch
  rw [mt_66]
theorem f_66_0 : fetch 66 0 = some (0, .iconst 0, 1, [], 0) := (fm_66 0).trans rfl
theorem u_66_0 {S : Scr} {d : Nat} {a0 a1 a2 a3 : AV} {st : List AV} {sh : Shp} {I : IM} {R : RM} : ev S d 66 0 [a0, a1, a2, a3] st (sh, I, R) = ev S d 66 1 [a0, a1, a2, a3] (.inl 0 :: st) (sh, I, R) := (ev_eq f_66_0).trans rfl
theorem f_66_1 : fetch 66 1 = some (1, .istore_n 2, 1, [2], 0) := (fm_66 1).trans rfl
theorem u_66_1 {S : Scr} {d : Nat} {a0 a1 a2 a3 : AV} {st : List AV} {sh : Shp} {I : IM} {R : RM} {x : Int} : ev S d 66 1 [a0, a1, a2, a3] (.inl x :: st) (sh, I, R) = ev S d 66 2 [a0, a1, .inl x, a3] st (sh, I, R) := (ev_eq f_66_1).trans rfl
theorem f_66_2 : fetch 66 2 = some (2, .iconst 0, 1, [], 0) := (fm_66 2).trans rfl
theorem u_66_2 {S : Scr} {d : Nat} {a0 a1 a2 a3 : AV} {st : List AV} {sh : Shp} {I : IM} {R : RM} : ev S d 66 2 [a0, a1, a2, a3] st (sh, I, R) = ev S d 66 3 [a0, a1, a2, a3] (.inl 0 :: st) (sh, I, R) := (ev_eq f_66_2).trans rfl
theorem f_66_3 : fetch 66 3 = some (3, .istore_n 3, 1, [3], 0) := (fm_66 3).trans rfl
theorem u_66_3 {S : Scr} {d : Nat} {a0 a1 a2 a3 : AV} {st : List AV} {sh : Shp} {I : IM} {R : RM} {x : Int} : ev S d 66 3 [a0, a1, a2, a3] (.inl x :: st) (sh, I, R) = ev S d 66 4 [a0, a1, a2, .inl x] st (sh, I, R) := (ev_eq f_66_3).trans rfl
theorem f_66_4 : fetch 66 4 = some (4, .aload_n 1, 1, [1], 0) := (fm_66 4).trans rfl
theorem u_66_4 {S : Scr} {d : Nat} {a0 a2 a3 : AV} {st : List AV} {sh : Shp} {I : IM} {R : RM} {x : Nat} : ev S d 66 4 [a0, .inr (.inl x), a2, a3] st (sh, I, R) = ev S d 66 5 [a0, .inr (.inl x), a2, a3] (.inr (.inl x) :: st) (sh, I, R) := (ev_eq f_66_4).trans rfl
theorem u_66_4n {S : Scr} {d : Nat} {a0 a2 a3 : AV} {st : List AV} {sh : Shp} {I : IM} {R : RM} : ev S d 66 4 [a0, .inr (.inr 0), a2, a3] st (sh, I, R) = ev S d 66 5 [a0, .inr (.inr 0), a2, a3] (.inr (.inr 0) :: st) (sh, I, R) := (ev_eq f_66_4).trans rfl
theorem f_66_5 : fetch 66 5 = some (5, .ifnull 46, 3, [51], 0) := (fm_66 5).trans rfl
theorem u_66_5 {S : Scr} {d : Nat} {a0 a1 a2 a3 : AV} {st : List AV} {sh : Shp} {I : IM} {R : RM} {x : Nat} : ev S d 66 5 [a0, a1, a2, a3] (.inr (.inl x) :: st) (sh, I, R) = ev S d 66 8 [a0, a1, a2, a3] st (sh, I, R) := (ev_eq f_66_5).trans rfl
theorem u_66_5n {S : Scr} {d : Nat} {a0 a1 a2 a3 : AV} {st : List AV} {sh : Shp} {I : IM} {R : RM} : ev S d 66 5 [a0, a1, a2, a3] (.inr (.inr 0) :: st) (sh, I, R) = ev S d 66 51 [a0, a1, a2, a3] st (sh, I, R) := (ev_eq f_66_5).trans rfl
theorem f_66_8 : fetch 66 8 = some (8, .iload_n 3, 1, [3], 0) := (fm_66 8).trans rfl
theorem u_66_8 {S : Scr} {d : Nat} {a0 a1 a2 : AV} {st : List AV} {sh : Shp} {I : IM} {R : RM} {x : Int} : ev S d 66 8 [a0, a1, a2, .inl x] st (sh, I, R) = ev S d 66 9 [a0, a1, a2, .inl x] (.inl x :: st) (sh, I, R) := (ev_eq f_66_8).trans rfl
theorem f_66_9 : fetch 66 9 = some (9, .aload_n 1, 1, [1], 0) := (fm_66 9).trans rfl
theorem u_66_9 {S : Scr} {d : Nat} {a0 a2 a3 : AV} {st : List AV} {sh : Shp} {I : IM} {R : RM} {x : Nat} : ev S d 66 9 [a0, .inr (.inl x), a2, a3] st (sh, I, R) = ev S d 66 10 [a0, .inr (.inl x), a2, a3] (.inr (.inl x) :: st) (sh, I, R) := (ev_eq f_66_9).trans rfl
theorem u_66_9n {S : Scr} {d : Nat} {a0 a2 a3 : AV} {st : List AV} {sh : Shp} {I : IM} {R : RM} : ev S d 66 9 [a0, .inr (.inr 0), a2, a3] st (sh, I, R) = ev S d 66 10 [a0, .inr (.inr 0), a2, a3] (.inr (.inr 0) :: st) (sh, I, R) := (ev_eq f_66_9).trans rfl
theorem f_66_10 : fetch 66 10 = some (10, .getfield 67, 3, [3, 4, 0, 40], 0) := (fm_66 10).trans rfl
theorem u_66_10 {S : Scr} {d : Nat} {a0 a1 a2 a3 : AV} {st : List AV} {sh : Shp} {I : IM} {R : RM} {k : Nat} (h : tg sh k = 3) : ev S d 66 10 [a0, a1, a2, a3] (.inr (.inl k) :: st) (sh, I, R) = ev S d 66 13 [a0, a1, a2, a3] (.inl (I k 4) :: st) (sh, I, R) := (ev_eq f_66_10).trans (congrArg (fin S d 66) (if_pos h))
theorem f_66_13 : fetch 66 13 = some (13, .if_icmp .ge 38, 3, [51], 0) := (fm_66 13).trans rfl
theorem u_66_13 {S : Scr} {d : Nat} {a0 a1 a2 a3 : AV} {st : List AV} {sh : Shp} {I : IM} {R : RM} {x y : Int} : ev S d 66 13 [a0, a1, a2, a3] (.inl y :: .inl x :: st) (sh, I, R) = if y ≤ x then ev S d 66 51 [a0, a1, a2, a3] st (sh, I, R) else ev S d 66 16 [a0, a1, a2, a3] st (sh, I, R) := (ev_eq f_66_13).trans fin_icmp_ge
theorem f_66_16 : fetch 66 16 = some (16, .aload_n 0, 1, [0], 0) := (fm_66 16).trans rfl
theorem u_66_16 {S : Scr} {d : Nat} {a1 a2 a3 : AV} {st : List AV} {sh : Shp} {I : IM} {R : RM} {x : Nat} : ev S d 66 16 [.inr (.inl x), a1, a2, a3] st (sh, I, R) = ev S d 66 17 [.inr (.inl x), a1, a2, a3] (.inr (.inl x) :: st) (sh, I, R) := (ev_eq f_66_16).trans rfl
theorem f_66_17 : fetch 66 17 = some (17, .aload_n 1, 1, [1], 0) := (fm_66 17).trans rfl
theorem u_66_17 {S : Scr} {d : Nat} {a0 a2 a3 : AV} {st : List AV} {sh : Shp} {I : IM} {R : RM} {x : Nat} : ev S d 66 17 [a0, .inr (.inl x), a2, a3] st (sh, I, R) = ev S d 66 18 [a0, .inr (.inl x), a2, a3] (.inr (.inl x) :: st) (sh, I, R) := (ev_eq f_66_17).trans rfl
theorem u_66_17n {S : Scr} {d : Nat} {a0 a2 a3 : AV} {st : List AV} {sh : Shp} {I : IM} {R : RM} : ev S d 66 17 [a0, .inr (.inr 0), a2, a3] st (sh, I, R) = ev S d 66 18 [a0, .inr (.inr 0), a2, a3] (.inr (.inr 0) :: st) (sh, I, R) := (ev_eq f_66_17).trans rfl
theorem f_66_18 : fetch 66 18 = some (18, .getfield 72, 3, [3, 1, 1, 41], 0) := (fm_66 18).trans rfl
theorem u_66_18 {S : Scr} {d : Nat} {a0 a1 a2 a3 : AV} {st : List AV} {sh : Shp} {I : IM} {R : RM} {k : Nat} (h : tg sh k = 3) : ev S d 66 18 [a0, a1, a2, a3] (.inr (.inl k) :: st) (sh, I, R) = ev S d 66 21 [a0, a1, a2, a3] (rv (R k 1) :: st) (sh, I, R) := (ev_eq f_66_18).trans (congrArg (fin S d 66) (if_pos h))
theorem f_66_21 : fetch 66 21 = some (21, .iload_n 3, 1, [3], 0) := (fm_66 21).trans rfl
theorem u_66_21 {S : Scr} {d : Nat} {a0 a1 a2 : AV} {st : List AV} {sh : Shp} {I : IM} {R : RM} {x : Int} : ev S d 66 21 [a0, a1, a2, .inl x] st (sh, I, R) = ev S d 66 22 [a0, a1, a2, .inl x] (.inl x :: st) (sh, I, R) := (ev_eq f_66_21).trans rfl
theorem f_66_22 : fetch 66 22 = some (22, .iaload, 1, [], 0) := (fm_66 22).trans rfl
theorem u_66_22 {S : Scr} {d : Nat} {a0 a1 a2 a3 : AV} {st : List AV} {sh : Shp} {I : IM} {R : RM} {k : Nat} {i : Int} (h : tg sh k = 100) (h0 : 0 ≤ i) (h1 : i < ln sh k) : ev S d 66 22 [a0, a1, a2, a3] (.inl i :: .inr (.inl k) :: st) (sh, I, R) = ev S d 66 23 [a0, a1, a2, a3] (.inl (I k i) :: st) (sh, I, R) := (ev_eq f_66_22).trans (congrArg (fin S d 66) (if_pos ⟨h, h0, h1⟩))
theorem f_66_23 : fetch 66 23 = some (23, .invokevirtual 59, 3, [57, 1, 52], 0) := (fm_66 23).trans rfl
theorem u_66_23 {S : Scr} {d : Nat} {a0 a1 a2 a3 : AV} {st : List AV} {sh : Shp} {I : IM} {R : RM} {x0 : Int} {k : Nat} (h : tg sh k = 6) (hr : st.length ≤ 8) : ev S d 66 23 [a0, a1, a2, a3] (.inl x0 :: .inr (.inl k) :: st) (sh, I, R) = bnd (cl d 57 [.inr (.inl k), .inl x0] (sh, I, R)) (fun v M => ev S d 66 26 [a0, a1, a2, a3] (psh v st) M) := (ev_eq f_66_23).trans (congrArg (fin S d 66) (if_pos ⟨h, rfl, hr⟩))
theorem f_66_26 : fetch 66 26 = some (26, .ifCond .eq 19, 3, [45], 0) := (fm_66 26).trans rfl
theorem u_66_26 {S : Scr} {d : Nat} {a0 a1 a2 a3 : AV} {st : List AV} {sh : Shp} {I : IM} {R : RM} {x : Int} : ev S d 66 26 [a0, a1, a2, a3] (.inl x :: st) (sh, I, R) = if x = 0 then ev S d 66 45 [a0, a1, a2, a3] st (sh, I, R) else ev S d 66 29 [a0, a1, a2, a3] st (sh, I, R) := (ev_eq f_66_26).trans fin_if_eq
theorem f_66_29 : fetch 66 29 = some (29, .iload_n 2, 1, [2], 0) := (fm_66 29).trans rfl
theorem u_66_29 {S : Scr} {d : Nat} {a0 a1 a3 : AV} {st : List AV} {sh : Shp} {I : IM} {R : RM} {x : Int} : ev S d 66 29 [a0, a1, .inl x, a3] st (sh, I, R) = ev S d 66 30 [a0, a1, .inl x, a3] (.inl x :: st) (sh, I, R) := (ev_eq f_66_29).trans rfl
theorem f_66_30 : fetch 66 30 = some (30, .aload_n 0, 1, [0], 0) := (fm_66 30).trans rfl
theorem u_66_30 {S : Scr} {d : Nat} {a1 a2 a3 : AV} {st : List AV} {sh : Shp} {I : IM} {R : RM} {x : Nat} : ev S d 66 30 [.inr (.inl x), a1, a2, a3] st (sh, I, R) = ev S d 66 31 [.inr (.inl x), a1, a2, a3] (.inr (.inl x) :: st) (sh, I, R) := (ev_eq f_66_30).trans rfl
theorem f_66_31 : fetch 66 31 = some (31, .getfield 25, 3, [6, 4, 1, 36], 0) := (fm_66 31).trans rfl
theorem u_66_31 {S : Scr} {d : Nat} {a0 a1 a2 a3 : AV} {st : List AV} {sh : Shp} {I : IM} {R : RM} {k : Nat} (h : tg sh k = 6) : ev S d 66 31 [a0, a1, a2, a3] (.inr (.inl k) :: st) (sh, I, R) = ev S d 66 34 [a0, a1, a2, a3] (rv (R k 4) :: st) (sh, I, R) := (ev_eq f_66_31).trans (congrArg (fin S d 66) (if_pos h))
theorem f_66_34 : fetch 66 34 = some (34, .aload_n 1, 1, [1], 0) := (fm_66 34).trans rfl
theorem u_66_34 {S : Scr} {d : Nat} {a0 a2 a3 : AV} {st : List AV} {sh : Shp} {I : IM} {R : RM} {x : Nat} : ev S d 66 34 [a0, .inr (.inl x), a2, a3] st (sh, I, R) = ev S d 66 35 [a0, .inr (.inl x), a2, a3] (.inr (.inl x) :: st) (sh, I, R) := (ev_eq f_66_34).trans rfl
theorem u_66_34n {S : Scr} {d : Nat} {a0 a2 a3 : AV} {st : List AV} {sh : Shp} {I : IM} {R : RM} : ev S d 66 34 [a0, .inr (.inr 0), a2, a3] st (sh, I, R) = ev S d 66 35 [a0, .inr (.inr 0), a2, a3] (.inr (.inr 0) :: st) (sh, I, R) := (ev_eq f_66_34).trans rfl
theorem f_66_35 : fetch 66 35 = some (35, .getfield 72, 3, [3, 1, 1, 41], 0) := (fm_66 35).trans rfl
theorem u_66_35 {S : Scr} {d : Nat} {a0 a1 a2 a3 : AV} {st : List AV} {sh : Shp} {I : IM} {R : RM} {k : Nat} (h : tg sh k = 3) : ev S d 66 35 [a0, a1, a2, a3] (.inr (.inl k) :: st) (sh, I, R) = ev S d 66 38 [a0, a1, a2, a3] (rv (R k 1) :: st) (sh, I, R) := (ev_eq f_66_35).trans (congrArg (fin S d 66) (if_pos h))
theorem f_66_38 : fetch 66 38 = some (38, .iload_n 3, 1, [3], 0) := (fm_66 38).trans rfl
theorem u_66_38 {S : Scr} {d : Nat} {a0 a1 a2 : AV} {st : List AV} {sh : Shp} {I : IM} {R : RM} {x : Int} : ev S d 66 38 [a0, a1, a2, .inl x] st (sh, I, R) = ev S d 66 39 [a0, a1, a2, .inl x] (.inl x :: st) (sh, I, R) := (ev_eq f_66_38).trans rfl
theorem f_66_39 : fetch 66 39 = some (39, .iaload, 1, [], 0) := (fm_66 39).trans rfl
theorem u_66_39 {S : Scr} {d : Nat} {a0 a1 a2 a3 : AV} {st : List AV} {sh : Shp} {I : IM} {R : RM} {k : Nat} {i : Int} (h : tg sh k = 100) (h0 : 0 ≤ i) (h1 : i < ln sh k) : ev S d 66 39 [a0, a1, a2, a3] (.inl i :: .inr (.inl k) :: st) (sh, I, R) = ev S d 66 40 [a0, a1, a2, a3] (.inl (I k i) :: st) (sh, I, R) := (ev_eq f_66_39).trans (congrArg (fin S d 66) (if_pos ⟨h, h0, h1⟩))
theorem f_66_40 : fetch 66 40 = some (40, .iaload, 1, [], 0) := (fm_66 40).trans rfl
theorem u_66_40 {S : Scr} {d : Nat} {a0 a1 a2 a3 : AV} {st : List AV} {sh : Shp} {I : IM} {R : RM} {k : Nat} {i : Int} (h : tg sh k = 100) (h0 : 0 ≤ i) (h1 : i < ln sh k) : ev S d 66 40 [a0, a1, a2, a3] (.inl i :: .inr (.inl k) :: st) (sh, I, R) = ev S d 66 41 [a0, a1, a2, a3] (.inl (I k i) :: st) (sh, I, R) := (ev_eq f_66_40).trans (congrArg (fin S d 66) (if_pos ⟨h, h0, h1⟩))
theorem f_66_41 : fetch 66 41 = some (41, .invokestatic 123, 3, [0, 4], 0) := (fm_66 41).trans rfl
theorem u_66_41 {S : Scr} {d : Nat} {a0 a1 a2 a3 : AV} {st : List AV} {sh : Shp} {I : IM} {R : RM} {x y : Int} (hr : st.length ≤ 8) : ev S d 66 41 [a0, a1, a2, a3] (.inl y :: .inl x :: st) (sh, I, R) = ev S d 66 44 [a0, a1, a2, a3] (.inl (if x < y then y else x) :: st) (sh, I, R) := (ev_eq f_66_41).trans (congrArg (fin S d 66) (if_pos hr))
theorem f_66_44 : fetch 66 44 = some (44, .istore_n 2, 1, [2], 0) := (fm_66 44).trans rfl
theorem u_66_44 {S : Scr} {d : Nat} {a0 a1 a2 a3 : AV} {st : List AV} {sh : Shp} {I : IM} {R : RM} {x : Int} : ev S d 66 44 [a0, a1, a2, a3] (.inl x :: st) (sh, I, R) = ev S d 66 45 [a0, a1, .inl x, a3] st (sh, I, R) := (ev_eq f_66_44).trans rfl
theorem f_66_45 : fetch 66 45 = some (45, .iinc 3 1, 3, [3], 1) := (fm_66 45).trans rfl
theorem u_66_45 {S : Scr} {d : Nat} {a0 a1 a2 : AV} {st : List AV} {sh : Shp} {I : IM} {R : RM} {x : Int} : ev S d 66 45 [a0, a1, a2, .inl x] st (sh, I, R) = ev S d 66 48 [a0, a1, a2, .inl (wr (x + 1))] st (sh, I, R) := (ev_eq f_66_45).trans rfl
theorem f_66_48 : fetch 66 48 = some (48, .goto (-44), 3, [4], 0) := (fm_66 48).trans rfl
theorem u_66_48 {S : Scr} {d : Nat} {a0 a1 a2 a3 : AV} {st : List AV} {sh : Shp} {I : IM} {R : RM} : ev S d 66 48 [a0, a1, a2, a3] st (sh, I, R) = ev S d 66 4 [a0, a1, a2, a3] st (sh, I, R) := (ev_eq f_66_48).trans rfl
theorem f_66_51 : fetch 66 51 = some (51, .iload_n 2, 1, [2], 0) := (fm_66 51).trans rfl
theorem u_66_51 {S : Scr} {d : Nat} {a0 a1 a3 : AV} {st : List AV} {sh : Shp} {I : IM} {R : RM} {x : Int} : ev S d 66 51 [a0, a1, .inl x, a3] st (sh, I, R) = ev S d 66 52 [a0, a1, .inl x, a3] (.inl x :: st) (sh, I, R) := (ev_eq f_66_51).trans rfl
theorem f_66_52 : fetch 66 52 = some (52, .ireturn, 1, [0], 0) := (fm_66 52).trans rfl
theorem u_66_52 {S : Scr} {d : Nat} {a0 a1 a2 a3 : AV} {sh : Shp} {I : IM} {R : RM} {x : Int} : ev S d 66 52 [a0, a1, a2, a3] [.inl x] (sh, I, R) = some (some (.inl x), (sh, I, R)) := (ev_eq f_66_52).trans fin_iret0
theorem c_67 {d : Nat} {a0 : AV} {M : Mem} : cl (d + 1) 67 [a0] M = ev S0 d 67 0 [a0, .inr (.inr 1)] [] M := (cl_eq (as := [a0]) (show 1 ≤ maxOf 67 by decide +kernel)).trans rfl
theorem mt_67 : MT[67]? = some m_67 := rfl
theorem fm_67 (pc : Nat) : fetch 67 pc = lk m_67.2.2.2.2.2 pc := by
  unfold fetch
  rw [mt_67]
theorem f_67_0 : fetch 67 0 = some (0, .aload_n 0, 1, [0], 0) := (fm_67 0).trans rfl
theorem u_67_0 {S : Scr} {d : Nat} {a1 : AV} {st : List AV} {sh : Shp} {I : IM} {R : RM} {x : Nat} : ev S d 67 0 [.inr (.inl x), a1] st (sh, I, R) = ev S d 67 1 [.inr (.inl x), a1] (.inr (.inl x) :: st) (sh, I, R) := (ev_eq f_67_0).trans rfl
theorem f_67_1 : fetch 67 1 = some (1, .invokespecial 3, 3, [7], 0) := (fm_67 1).trans rfl
theorem u_67_1 {S : Scr} {d : Nat} {a0 a1 : AV} {st : List AV} {sh : Shp} {I : IM} {R : RM} {k : Nat} (hr : st.length ≤ 8) : ev S d 67 1 [a0, a1] (.inr (.inl k) :: st) (sh, I, R) = ev S d 67 4 [a0, a1] st (sh, I, R) := (ev_eq f_67_1).trans (congrArg (fin S d 67) (if_pos hr))
theorem f_67_4 : fetch 67 4 = some (4, .aload_n 0, 1, [0], 0) := (fm_67 4).trans rfl
theorem u_67_4 {S : Scr} {d : Nat} {a1 : AV} {st : List AV} {sh : Shp} {I : IM} {R : RM} {x : Nat} : ev S d 67 4 [.inr (.inl x), a1] st (sh, I, R) = ev S d 67 5 [.inr (.inl x), a1] (.inr (.inl x) :: st) (sh, I, R) := (ev_eq f_67_4).trans rfl
theorem f_67_5 : fetch 67 5 = some (5, .bipush 30, 2, [], 30) := (fm_67 5).trans rfl
theorem u_67_5 {S : Scr} {d : Nat} {a0 a1 : AV} {st : List AV} {sh : Shp} {I : IM} {R : RM} : ev S d 67 5 [a0, a1] st (sh, I, R) = ev S d 67 7 [a0, a1] (.inl 30 :: st) (sh, I, R) := (ev_eq f_67_5).trans rfl
theorem f_67_7 : fetch 67 7 = some (7, .anewarray 9, 3, [3, 4, 0], 0) := (fm_67 7).trans rfl
theorem f_67_10 : fetch 67 10 = some (10, .putfield 11, 3, [7, 0, 1, 49], 0) := (fm_67 10).trans rfl
theorem u_67_10 {S : Scr} {d : Nat} {a0 a1 : AV} {st : List AV} {sh : Shp} {I : IM} {R : RM} {k v : Nat} (h : tg sh k = 7) : ev S d 67 10 [a0, a1] (.inr (.inl v) :: .inr (.inl k) :: st) (sh, I, R) = ev S d 67 13 [a0, a1] st (sh, I, up R k 0 (some v)) := (ev_eq f_67_10).trans (congrArg (fin S d 67) (if_pos h))
theorem f_67_13 : fetch 67 13 = some (13, .aload_n 0, 1, [0], 0) := (fm_67 13).trans rfl
theorem u_67_13 {S : Scr} {d : Nat} {a1 : AV} {st : List AV} {sh : Shp} {I : IM} {R : RM} {x : Nat} : ev S d 67 13 [.inr (.inl x), a1] st (sh, I, R) = ev S d 67 14 [.inr (.inl x), a1] (.inr (.inl x) :: st) (sh, I, R) := (ev_eq f_67_13).trans rfl
theorem f_67_14 : fetch 67 14 = some (14, .bipush 9, 2, [], 9) := (fm_67 14).trans rfl
theorem u_67_14 {S : Scr} {d : Nat} {a0 a1 : AV} {st : List AV} {sh : Shp} {I : IM} {R : RM} : ev S d 67 14 [a0, a1] st (sh, I, R) = ev S d 67 16 [a0, a1] (.inl 9 :: st) (sh, I, R) := (ev_eq f_67_14).trans rfl
theorem f_67_16 : fetch 67 16 = some (16, .anewarray 17, 3, [1, 5, 1], 0) := (fm_67 16).trans rfl
theorem f_67_19 : fetch 67 19 = some (19, .putfield 19, 3, [7, 1, 1, 50], 0) := (fm_67 19).trans rfl
theorem u_67_19 {S : Scr} {d : Nat} {a0 a1 : AV} {st : List AV} {sh : Shp} {I : IM} {R : RM} {k v : Nat} (h : tg sh k = 7) : ev S d 67 19 [a0, a1] (.inr (.inl v) :: .inr (.inl k) :: st) (sh, I, R) = ev S d 67 22 [a0, a1] st (sh, I, up R k 1 (some v)) := (ev_eq f_67_19).trans (congrArg (fin S d 67) (if_pos h))
theorem f_67_22 : fetch 67 22 = some (22, .aload_n 0, 1, [0], 0) := (fm_67 22).trans rfl
theorem u_67_22 {S : Scr} {d : Nat} {a1 : AV} {st : List AV} {sh : Shp} {I : IM} {R : RM} {x : Nat} : ev S d 67 22 [.inr (.inl x), a1] st (sh, I, R) = ev S d 67 23 [.inr (.inl x), a1] (.inr (.inl x) :: st) (sh, I, R) := (ev_eq f_67_22).trans rfl
theorem f_67_23 : fetch 67 23 = some (23, .iconst 4, 1, [], 4) := (fm_67 23).trans rfl
theorem u_67_23 {S : Scr} {d : Nat} {a0 a1 : AV} {st : List AV} {sh : Shp} {I : IM} {R : RM} : ev S d 67 23 [a0, a1] st (sh, I, R) = ev S d 67 24 [a0, a1] (.inl 4 :: st) (sh, I, R) := (ev_eq f_67_23).trans rfl
theorem f_67_24 : fetch 67 24 = some (24, .newarray .int, 2, [], 0) := (fm_67 24).trans rfl
theorem f_67_26 : fetch 67 26 = some (26, .putfield 23, 3, [7, 2, 1, 51], 0) := (fm_67 26).trans rfl
theorem u_67_26 {S : Scr} {d : Nat} {a0 a1 : AV} {st : List AV} {sh : Shp} {I : IM} {R : RM} {k v : Nat} (h : tg sh k = 7) : ev S d 67 26 [a0, a1] (.inr (.inl v) :: .inr (.inl k) :: st) (sh, I, R) = ev S d 67 29 [a0, a1] st (sh, I, up R k 2 (some v)) := (ev_eq f_67_26).trans (congrArg (fin S d 67) (if_pos h))
theorem f_67_29 : fetch 67 29 = some (29, .iconst 0, 1, [], 0) := (fm_67 29).trans rfl
theorem u_67_29 {S : Scr} {d : Nat} {a0 a1 : AV} {st : List AV} {sh : Shp} {I : IM} {R : RM} : ev S d 67 29 [a0, a1] st (sh, I, R) = ev S d 67 30 [a0, a1] (.inl 0 :: st) (sh, I, R) := (ev_eq f_67_29).trans rfl
theorem f_67_30 : fetch 67 30 = some (30, .istore_n 1, 1, [1], 0) := (fm_67 30).trans rfl
theorem u_67_30 {S : Scr} {d : Nat} {a0 a1 : AV} {st : List AV} {sh : Shp} {I : IM} {R : RM} {x : Int} : ev S d 67 30 [a0, a1] (.inl x :: st) (sh, I, R) = ev S d 67 31 [a0, .inl x] st (sh, I, R) := (ev_eq f_67_30).trans rfl
theorem f_67_31 : fetch 67 31 = some (31, .iload_n 1, 1, [1], 0) := (fm_67 31).trans rfl
theorem u_67_31 {S : Scr} {d : Nat} {a0 : AV} {st : List AV} {sh : Shp} {I : IM} {R : RM} {x : Int} : ev S d 67 31 [a0, .inl x] st (sh, I, R) = ev S d 67 32 [a0, .inl x] (.inl x :: st) (sh, I, R) := (ev_eq f_67_31).trans rfl
theorem f_67_32 : fetch 67 32 = some (32, .bipush 30, 2, [], 30) := (fm_67 32).trans rfl
theorem u_67_32 {S : Scr} {d : Nat} {a0 a1 : AV} {st : List AV} {sh : Shp} {I : IM} {R : RM} : ev S d 67 32 [a0, a1] st (sh, I, R) = ev S d 67 34 [a0, a1] (.inl 30 :: st) (sh, I, R) := (ev_eq f_67_32).trans rfl
theorem f_67_34 : fetch 67 34 = some (34, .if_icmp .ge 22, 3, [56], 0) := (fm_67 34).trans rfl
theorem u_67_34 {S : Scr} {d : Nat} {a0 a1 : AV} {st : List AV} {sh : Shp} {I : IM} {R : RM} {x y : Int} : ev S d 67 34 [a0, a1] (.inl y :: .inl x :: st) (sh, I, R) = if y ≤ x then ev S d 67 56 [a0, a1] st (sh, I, R) else ev S d 67 37 [a0, a1] st (sh, I, R) := (ev_eq f_67_34).trans fin_icmp_ge
theorem f_67_37 : fetch 67 37 = some (37, .aload_n 0, 1, [0], 0) := (fm_67 37).trans rfl
theorem u_67_37 {S : Scr} {d : Nat} {a1 : AV} {st : List AV} {sh : Shp} {I : IM} {R : RM} {x : Nat} : ev S d 67 37 [.inr (.inl x), a1] st (sh, I, R) = ev S d 67 38 [.inr (.inl x), a1] (.inr (.inl x) :: st) (sh, I, R) := (ev_eq f_67_37).trans rfl
theorem f_67_38 : fetch 67 38 = some (38, .getfield 11, 3, [7, 0, 1, 49], 0) := (fm_67 38).trans rfl
theorem u_67_38 {S : Scr} {d : Nat} {a0 a1 : AV} {st : List AV} {sh : Shp} {I : IM} {R : RM} {k : Nat} (h : tg sh k = 7) : ev S d 67 38 [a0, a1] (.inr (.inl k) :: st) (sh, I, R) = ev S d 67 41 [a0, a1] (rv (R k 0) :: st) (sh, I, R) := (ev_eq f_67_38).trans (congrArg (fin S d 67) (if_pos h))
theorem f_67_41 : fetch 67 41 = some (41, .iload_n 1, 1, [1], 0) := (fm_67 41).trans rfl
theorem u_67_41 {S : Scr} {d : Nat} {a0 : AV} {st : List AV} {sh : Shp} {I : IM} {R : RM} {x : Int} : ev S d 67 41 [a0, .inl x] st (sh, I, R) = ev S d 67 42 [a0, .inl x] (.inl x :: st) (sh, I, R) := (ev_eq f_67_41).trans rfl
theorem f_67_42 : fetch 67 42 = some (42, .new 9, 3, [3, 5, 4], 0) := (fm_67 42).trans rfl
theorem f_67_45 : fetch 67 45 = some (45, .dup, 1, [], 0) := (fm_67 45).trans rfl
theorem u_67_45 {S : Scr} {d : Nat} {a0 a1 : AV} {st : List AV} {sh : Shp} {I : IM} {R : RM} {x : AV} : ev S d 67 45 [a0, a1] (x :: st) (sh, I, R) = ev S d 67 46 [a0, a1] (x :: x :: st) (sh, I, R) := (ev_eq f_67_45).trans rfl
theorem f_67_46 : fetch 67 46 = some (46, .invokespecial 27, 3, [33, 0, 60], 0) := (fm_67 46).trans rfl
theorem u_67_46 {S : Scr} {d : Nat} {a0 a1 : AV} {st : List AV} {sh : Shp} {I : IM} {R : RM} {k : Nat} (h : tg sh k = 3) (hr : st.length ≤ 8) : ev S d 67 46 [a0, a1] (.inr (.inl k) :: st) (sh, I, R) = bnd (cl d 33 [.inr (.inl k)] (sh, I, R)) (fun v M => ev S d 67 49 [a0, a1] (psh v st) M) := (ev_eq f_67_46).trans (congrArg (fin S d 67) (if_pos ⟨h, rfl, hr⟩))
theorem f_67_49 : fetch 67 49 = some (49, .aastore, 1, [], 0) := (fm_67 49).trans rfl
theorem f_67_50 : fetch 67 50 = some (50, .iinc 1 1, 3, [1], 1) := (fm_67 50).trans rfl
theorem u_67_50 {S : Scr} {d : Nat} {a0 : AV} {st : List AV} {sh : Shp} {I : IM} {R : RM} {x : Int} : ev S d 67 50 [a0, .inl x] st (sh, I, R) = ev S d 67 53 [a0, .inl (wr (x + 1))] st (sh, I, R) := (ev_eq f_67_50).trans rfl
theorem f_67_53 : fetch 67 53 = some (53, .goto (-22), 3, [31], 0) := (fm_67 53).trans rfl
theorem u_67_53 {S : Scr} {d : Nat} {a0 a1 : AV} {st : List AV} {sh : Shp} {I : IM} {R : RM} : ev S d 67 53 [a0, a1] st (sh, I, R) = ev S d 67 31 [a0, a1] st (sh, I, R) := (ev_eq f_67_53).trans rfl
theorem f_67_56 : fetch 67 56 = some (56, .iconst 0, 1, [], 0) := (fm_67 56).trans rfl
theorem u_67_56 {S : Scr} {d : Nat} {a0 a1 : AV} {st : List AV} {sh : Shp} {I : IM} {R : RM} : ev S d 67 56 [a0, a1] st (sh, I, R) = ev S d 67 57 [a0, a1] (.inl 0 :: st) (sh, I, R) := (ev_eq f_67_56).trans rfl
theorem f_67_57 : fetch 67 57 = some (57, .istore_n 1, 1, [1], 0) := (fm_67 57).trans rfl
theorem u_67_57 {S : Scr} {d : Nat} {a0 a1 : AV} {st : List AV} {sh : Shp} {I : IM} {R : RM} {x : Int} : ev S d 67 57 [a0, a1] (.inl x :: st) (sh, I, R) = ev S d 67 58 [a0, .inl x] st (sh, I, R) := (ev_eq f_67_57).trans rfl
theorem f_67_58 : fetch 67 58 = some (58, .iload_n 1, 1, [1], 0) := (fm_67 58).trans rfl
theorem u_67_58 {S : Scr} {d : Nat} {a0 : AV} {st : List AV} {sh : Shp} {I : IM} {R : RM} {x : Int} : ev S d 67 58 [a0, .inl x] st (sh, I, R) = ev S d 67 59 [a0, .inl x] (.inl x :: st) (sh, I, R) := (ev_eq f_67_58).trans rfl
theorem f_67_59 : fetch 67 59 = some (59, .bipush 9, 2, [], 9) := (fm_67 59).trans rfl
theorem u_67_59 {S : Scr} {d : Nat} {a0 a1 : AV} {st : List AV} {sh : Shp} {I : IM} {R : RM} : ev S d 67 59 [a0, a1] st (sh, I, R) = ev S d 67 61 [a0, a1] (.inl 9 :: st) (sh, I, R) := (ev_eq f_67_59).trans rfl
theorem f_67_61 : fetch 67 61 = some (61, .if_icmp .ge 23, 3, [84], 0) := (fm_67 61).trans rfl
theorem u_67_61 {S : Scr} {d : Nat} {a0 a1 : AV} {st : List AV} {sh : Shp} {I : IM} {R : RM} {x y : Int} : ev S d 67 61 [a0, a1] (.inl y :: .inl x :: st) (sh, I, R) = if y ≤ x then ev S d 67 84 [a0, a1] st (sh, I, R) else ev S d 67 64 [a0, a1] st (sh, I, R) := (ev_eq f_67_61).trans fin_icmp_ge
theorem f_67_64 : fetch 67 64 = some (64, .aload_n 0, 1, [0], 0) := (fm_67 64).trans rfl
theorem u_67_64 {S : Scr} {d : Nat} {a1 : AV} {st : List AV} {sh : Shp} {I : IM} {R : RM} {x : Nat} : ev S d 67 64 [.inr (.inl x), a1] st (sh, I, R) = ev S d 67 65 [.inr (.inl x), a1] (.inr (.inl x) :: st) (sh, I, R) := (ev_eq f_67_64).trans rfl
theorem f_67_65 : fetch 67 65 = some (65, .getfield 19, 3, [7, 1, 1, 50], 0) := (fm_67 65).trans rfl
theorem u_67_65 {S : Scr} {d : Nat} {a0 a1 : AV} {st : List AV} {sh : Shp} {I : IM} {R : RM} {k : Nat} (h : tg sh k = 7) : ev S d 67 65 [a0, a1] (.inr (.inl k) :: st) (sh, I, R) = ev S d 67 68 [a0, a1] (rv (R k 1) :: st) (sh, I, R) := (ev_eq f_67_65).trans (congrArg (fin S d 67) (if_pos h))
theorem f_67_68 : fetch 67 68 = some (68, .iload_n 1, 1, [1], 0) := (fm_67 68).trans rfl
theorem u_67_68 {S : Scr} {d : Nat} {a0 : AV} {st : List AV} {sh : Shp} {I : IM} {R : RM} {x : Int} : ev S d 67 68 [a0, .inl x] st (sh, I, R) = ev S d 67 69 [a0, .inl x] (.inl x :: st) (sh, I, R) := (ev_eq f_67_68).trans rfl
theorem f_67_69 : fetch 67 69 = some (69, .new 17, 3, [1, 4, 5], 0) := (fm_67 69).trans rfl
theorem f_67_72 : fetch 67 72 = some (72, .dup, 1, [], 0) := (fm_67 72).trans rfl
theorem u_67_72 {S : Scr} {d : Nat} {a0 a1 : AV} {st : List AV} {sh : Shp} {I : IM} {R : RM} {x : AV} : ev S d 67 72 [a0, a1] (x :: st) (sh, I, R) = ev S d 67 73 [a0, a1] (x :: x :: st) (sh, I, R) := (ev_eq f_67_72).trans rfl
theorem f_67_73 : fetch 67 73 = some (73, .iconst 4, 1, [], 4) := (fm_67 73).trans rfl
theorem u_67_73 {S : Scr} {d : Nat} {a0 a1 : AV} {st : List AV} {sh : Shp} {I : IM} {R : RM} : ev S d 67 73 [a0, a1] st (sh, I, R) = ev S d 67 74 [a0, a1] (.inl 4 :: st) (sh, I, R) := (ev_eq f_67_73).trans rfl
theorem f_67_74 : fetch 67 74 = some (74, .invokespecial 28, 3, [4, 1, 61], 0) := (fm_67 74).trans rfl
theorem u_67_74 {S : Scr} {d : Nat} {a0 a1 : AV} {st : List AV} {sh : Shp} {I : IM} {R : RM} {x0 : Int} {k : Nat} (h : tg sh k = 1) (hr : st.length ≤ 8) : ev S d 67 74 [a0, a1] (.inl x0 :: .inr (.inl k) :: st) (sh, I, R) = bnd (cl d 4 [.inr (.inl k), .inl x0] (sh, I, R)) (fun v M => ev S d 67 77 [a0, a1] (psh v st) M) := (ev_eq f_67_74).trans (congrArg (fin S d 67) (if_pos ⟨h, rfl, hr⟩))
theorem f_67_77 : fetch 67 77 = some (77, .aastore, 1, [], 0) := (fm_67 77).trans rfl
theorem f_67_78 : fetch 67 78 = some (78, .iinc 1 1, 3, [1], 1) := (fm_67 78).trans rfl
theorem u_67_78 {S : Scr} {d : Nat} {a0 : AV} {st : List AV} {sh : Shp} {I : IM} {R : RM} {x : Int} : ev S d 67 78 [a0, .inl x] st (sh, I, R) = ev S d 67 81 [a0, .inl (wr (x + 1))] st (sh, I, R) := (ev_eq f_67_78).trans rfl
theorem f_67_81 : fetch 67 81 = some (81, .goto (-23), 3, [58], 0) := (fm_67 81).trans rfl
theorem u_67_81 {S : Scr} {d : Nat} {a0 a1 : AV} {st : List AV} {sh : Shp} {I : IM} {R : RM} : ev S d 67 81 [a0, a1] st (sh, I, R) = ev S d 67 58 [a0, a1] st (sh, I, R) := (ev_eq f_67_81).trans rfl
theorem f_67_84 : fetch 67 84 = some (84, .iconst 0, 1, [], 0) := (fm_67 84).trans rfl
theorem u_67_84 {S : Scr} {d : Nat} {a0 a1 : AV} {st : List AV} {sh : Shp} {I : IM} {R : RM} : ev S d 67 84 [a0, a1] st (sh, I, R) = ev S d 67 85 [a0, a1] (.inl 0 :: st) (sh, I, R) := (ev_eq f_67_84).trans rfl
theorem f_67_85 : fetch 67 85 = some (85, .istore_n 1, 1, [1], 0) := (fm_67 85).trans rfl
theorem u_67_85 {S : Scr} {d : Nat} {a0 a1 : AV} {st : List AV} {sh : Shp} {I : IM} {R : RM} {x : Int} : ev S d 67 85 [a0, a1] (.inl x :: st) (sh, I, R) = ev S d 67 86 [a0, .inl x] st (sh, I, R) := (ev_eq f_67_85).trans rfl
theorem f_67_86 : fetch 67 86 = some (86, .iload_n 1, 1, [1], 0) := (fm_67 86).trans rfl
theorem u_67_86 {S : Scr} {d : Nat} {a0 : AV} {st : List AV} {sh : Shp} {I : IM} {R : RM} {x : Int} : ev S d 67 86 [a0, .inl x] st (sh, I, R) = ev S d 67 87 [a0, .inl x] (.inl x :: st) (sh, I, R) := (ev_eq f_67_86).trans rfl
theorem f_67_87 : fetch 67 87 = some (87, .iconst 3, 1, [], 3) := (fm_67 87).trans rfl
theorem u_67_87 {S : Scr} {d : Nat} {a0 a1 : AV} {st : List AV} {sh : Shp} {I : IM} {R : RM} : ev S d 67 87 [a0, a1] st (sh, I, R) = ev S d 67 88 [a0, a1] (.inl 3 :: st) (sh, I, R) := (ev_eq f_67_87).trans rfl
theorem f_67_88 : fetch 67 88 = some (88, .if_icmp .gt 16, 3, [104], 0) := (fm_67 88).trans rfl
theorem u_67_88 {S : Scr} {d : Nat} {a0 a1 : AV} {st : List AV} {sh : Shp} {I : IM} {R : RM} {x y : Int} : ev S d 67 88 [a0, a1] (.inl y :: .inl x :: st) (sh, I, R) = if y < x then ev S d 67 104 [a0, a1] st (sh, I, R) else ev S d 67 91 [a0, a1] st (sh, I, R) := (ev_eq f_67_88).trans fin_icmp_gt
theorem f_67_91 : fetch 67 91 = some (91, .aload_n 0, 1, [0], 0) := (fm_67 91).trans rfl
theorem u_67_91 {S : Scr} {d : Nat} {a1 : AV} {st : List AV} {sh : Shp} {I : IM} {R : RM} {x : Nat} : ev S d 67 91 [.inr (.inl x), a1] st (sh, I, R) = ev S d 67 92 [.inr (.inl x), a1] (.inr (.inl x) :: st) (sh, I, R) := (ev_eq f_67_91).trans rfl
theorem f_67_92 : fetch 67 92 = some (92, .getfield 23, 3, [7, 2, 1, 51], 0) := (fm_67 92).trans rfl
theorem u_67_92 {S : Scr} {d : Nat} {a0 a1 : AV} {st : List AV} {sh : Shp} {I : IM} {R : RM} {k : Nat} (h : tg sh k = 7) : ev S d 67 92 [a0, a1] (.inr (.inl k) :: st) (sh, I, R) = ev S d 67 95 [a0, a1] (rv (R k 2) :: st) (sh, I, R) := (ev_eq f_67_92).trans (congrArg (fin S d 67) (if_pos h))
theorem f_67_95 : fetch 67 95 = some (95, .iload_n 1, 1, [1], 0) := (fm_67 95).trans rfl
theorem u_67_95 {S : Scr} {d : Nat} {a0 : AV} {st : List AV} {sh : Shp} {I : IM} {R : RM} {x : Int} : ev S d 67 95 [a0, .inl x] st (sh, I, R) = ev S d 67 96 [a0, .inl x] (.inl x :: st) (sh, I, R) := (ev_eq f_67_95).trans rfl
theorem f_67_96 : fetch 67 96 = some (96, .iconst 1, 1, [], 1) := (fm_67 96).trans rfl
theorem u_67_96 {S : Scr} {d : Nat} {a0 a1 : AV} {st : List AV} {sh : Shp} {I : IM} {R : RM} : ev S d 67 96 [a0, a1] st (sh, I, R) = ev S d 67 97 [a0, a1] (.inl 1 :: st) (sh, I, R) := (ev_eq f_67_96).trans rfl
theorem f_67_97 : fetch 67 97 = some (97, .iastore, 1, [], 0) := (fm_67 97).trans rfl
theorem u_67_97 {S : Scr} {d : Nat} {a0 a1 : AV} {st : List AV} {sh : Shp} {I : IM} {R : RM} {k : Nat} {i x : Int} (h : tg sh k = 100) (h0 : 0 ≤ i) (h1 : i < ln sh k) : ev S d 67 97 [a0, a1] (.inl x :: .inl i :: .inr (.inl k) :: st) (sh, I, R) = ev S d 67 98 [a0, a1] st (sh, up I k i x, R) := (ev_eq f_67_97).trans (congrArg (fin S d 67) (if_pos ⟨h, h0, h1⟩))
theorem f_67_98 : fetch 67 98 = some (98, .iinc 1 1, 3, [1], 1) := (fm_67 98).trans rfl
theorem u_67_98 {S : Scr} {d : Nat} {a0 : AV} {st : List AV} {sh : Shp} {I : IM} {R : RM} {x : Int} : ev S d 67 98 [a0, .inl x] st (sh, I, R) = ev S d 67 101 [a0, .inl (wr (x + 1))] st (sh, I, R) := (ev_eq f_67_98).trans rfl
theorem f_67_101 : fetch 67 101 = some (101, .goto (-15), 3, [86], 0) := (fm_67 101).trans rfl
theorem u_67_101 {S : Scr} {d : Nat} {a0 a1 : AV} {st : List AV} {sh : Shp} {I : IM} {R : RM} : ev S d 67 101 [a0, a1] st (sh, I, R) = ev S d 67 86 [a0, a1] st (sh, I, R) := (ev_eq f_67_101).trans rfl
theorem f_67_104 : fetch 67 104 = some (104, .return_, 1, [], 0) := (fm_67 104).trans rfl
theorem u_67_104 {S : Scr} {d : Nat} {a0 a1 : AV} {sh : Shp} {I : IM} {R : RM} : ev S d 67 104 [a0, a1] [] (sh, I, R) = some (none, (sh, I, R)) := (ev_eq f_67_104).trans rfl
theorem c_68 {d : Nat} {a0 a1 : AV} {M : Mem} : cl (d + 1) 68 [a0, a1] M = ev S0 d 68 0 [a0, a1] [] M := (cl_eq (as := [a0, a1]) (show 2 ≤ maxOf 68 by decide +kernel)).trans rfl
theorem mt_68 : MT[68]? = some m_68 := rfl
theorem fm_68 (pc : Nat) : fetch 68 pc = lk m_68.2.2.2.2.2 pc := by
  unfold fetch
  rw [mt_68]
theorem f_68_0 : fetch 68 0 = some (0, .iload_n 1, 1, [1], 0) := (fm_68 0).trans rfl
theorem u_68_0 {S : Scr} {d : Nat} {a0 : AV} {st : List AV} {sh : Shp} {I : IM} {R : RM} {x : Int} : ev S d 68 0 [a0, .inl x] st (sh, I, R) = ev S d 68 1 [a0, .inl x] (.inl x :: st) (sh, I, R) := (ev_eq f_68_0).trans rfl
theorem f_68_1 : fetch 68 1 = some (1, .ifCond .lt 21, 3, [22], 0) := (fm_68 1).trans rfl
theorem u_68_1 {S : Scr} {d : Nat} {a0 a1 : AV} {st : List AV} {sh : Shp} {I : IM} {R : RM} {x : Int} : ev S d 68 1 [a0, a1] (.inl x :: st) (sh, I, R) = if x < 0 then ev S d 68 22 [a0, a1] st (sh, I, R) else ev S d 68 4 [a0, a1] st (sh, I, R) := (ev_eq f_68_1).trans fin_if_lt
theorem f_68_4 : fetch 68 4 = some (4, .iload_n 1, 1, [1], 0) := (fm_68 4).trans rfl
theorem u_68_4 {S : Scr} {d : Nat} {a0 : AV} {st : List AV} {sh : Shp} {I : IM} {R : RM} {x : Int} : ev S d 68 4 [a0, .inl x] st (sh, I, R) = ev S d 68 5 [a0, .inl x] (.inl x :: st) (sh, I, R) := (ev_eq f_68_4).trans rfl
theorem f_68_5 : fetch 68 5 = some (5, .bipush 30, 2, [], 30) := (fm_68 5).trans rfl
theorem u_68_5 {S : Scr} {d : Nat} {a0 a1 : AV} {st : List AV} {sh : Shp} {I : IM} {R : RM} : ev S d 68 5 [a0, a1] st (sh, I, R) = ev S d 68 7 [a0, a1] (.inl 30 :: st) (sh, I, R) := (ev_eq f_68_5).trans rfl
theorem f_68_7 : fetch 68 7 = some (7, .if_icmp .ge 15, 3, [22], 0) := (fm_68 7).trans rfl
theorem u_68_7 {S : Scr} {d : Nat} {a0 a1 : AV} {st : List AV} {sh : Shp} {I : IM} {R : RM} {x y : Int} : ev S d 68 7 [a0, a1] (.inl y :: .inl x :: st) (sh, I, R) = if y ≤ x then ev S d 68 22 [a0, a1] st (sh, I, R) else ev S d 68 10 [a0, a1] st (sh, I, R) := (ev_eq f_68_7).trans fin_icmp_ge
theorem f_68_10 : fetch 68 10 = some (10, .aload_n 0, 1, [0], 0) := (fm_68 10).trans rfl
theorem u_68_10 {S : Scr} {d : Nat} {a1 : AV} {st : List AV} {sh : Shp} {I : IM} {R : RM} {x : Nat} : ev S d 68 10 [.inr (.inl x), a1] st (sh, I, R) = ev S d 68 11 [.inr (.inl x), a1] (.inr (.inl x) :: st) (sh, I, R) := (ev_eq f_68_10).trans rfl
theorem f_68_11 : fetch 68 11 = some (11, .getfield 11, 3, [7, 0, 1, 49], 0) := (fm_68 11).trans rfl
theorem u_68_11 {S : Scr} {d : Nat} {a0 a1 : AV} {st : List AV} {sh : Shp} {I : IM} {R : RM} {k : Nat} (h : tg sh k = 7) : ev S d 68 11 [a0, a1] (.inr (.inl k) :: st) (sh, I, R) = ev S d 68 14 [a0, a1] (rv (R k 0) :: st) (sh, I, R) := (ev_eq f_68_11).trans (congrArg (fin S d 68) (if_pos h))
theorem f_68_14 : fetch 68 14 = some (14, .iload_n 1, 1, [1], 0) := (fm_68 14).trans rfl
theorem u_68_14 {S : Scr} {d : Nat} {a0 : AV} {st : List AV} {sh : Shp} {I : IM} {R : RM} {x : Int} : ev S d 68 14 [a0, .inl x] st (sh, I, R) = ev S d 68 15 [a0, .inl x] (.inl x :: st) (sh, I, R) := (ev_eq f_68_14).trans rfl
theorem f_68_15 : fetch 68 15 = some (15, .aaload, 1, [], 0) := (fm_68 15).trans rfl
theorem u_68_15 {S : Scr} {d : Nat} {a0 a1 : AV} {st : List AV} {sh : Shp} {I : IM} {R : RM} {k : Nat} {i : Int} (h : 200 ≤ tg sh k ∧ tg sh k < 210) (h0 : 0 ≤ i) (h1 : i < ln sh k) : ev S d 68 15 [a0, a1] (.inl i :: .inr (.inl k) :: st) (sh, I, R) = ev S d 68 16 [a0, a1] (rv (R k i) :: st) (sh, I, R) := (ev_eq f_68_15).trans (congrArg (fin S d 68) (if_pos ⟨h.1, h.2, h0, h1⟩))
theorem f_68_16 : fetch 68 16 = some (16, .getfield 31, 3, [3, 2, 0, 52], 0) := (fm_68 16).trans rfl
theorem u_68_16 {S : Scr} {d : Nat} {a0 a1 : AV} {st : List AV} {sh : Shp} {I : IM} {R : RM} {k : Nat} (h : tg sh k = 3) : ev S d 68 16 [a0, a1] (.inr (.inl k) :: st) (sh, I, R) = ev S d 68 19 [a0, a1] (.inl (I k 2) :: st) (sh, I, R) := (ev_eq f_68_16).trans (congrArg (fin S d 68) (if_pos h))
theorem f_68_19 : fetch 68 19 = some (19, .ifCond .ne 5, 3, [24], 0) := (fm_68 19).trans rfl
theorem u_68_19 {S : Scr} {d : Nat} {a0 a1 : AV} {st : List AV} {sh : Shp} {I : IM} {R : RM} {x : Int} : ev S d 68 19 [a0, a1] (.inl x :: st) (sh, I, R) = if ¬ x = 0 then ev S d 68 24 [a0, a1] st (sh, I, R) else ev S d 68 22 [a0, a1] st (sh, I, R) := (ev_eq f_68_19).trans fin_if_ne
theorem f_68_22 : fetch 68 22 = some (22, .aconst_null, 1, [], 0) := (fm_68 22).trans rfl
theorem u_68_22 {S : Scr} {d : Nat} {a0 a1 : AV} {st : List AV} {sh : Shp} {I : IM} {R : RM} : ev S d 68 22 [a0, a1] st (sh, I, R) = ev S d 68 23 [a0, a1] (.inr (.inr 0) :: st) (sh, I, R) := (ev_eq f_68_22).trans rfl
theorem f_68_23 : fetch 68 23 = some (23, .areturn, 1, [], 0) := (fm_68 23).trans rfl
theorem u_68_23 {S : Scr} {d : Nat} {a0 a1 : AV} {sh : Shp} {I : IM} {R : RM} {x : Nat} : ev S d 68 23 [a0, a1] [.inr (.inl x)] (sh, I, R) = some (some (.inr (.inl x)), (sh, I, R)) := (ev_eq f_68_23).trans rfl
theorem u_68_23n {S : Scr} {d : Nat} {a0 a1 : AV} {sh : Shp} {I : IM} {R : RM} : ev S d 68 23 [a0, a1] [.inr (.inr 0)] (sh, I, R) = some (some (.inr (.inr 0)), (sh, I, R)) := (ev_eq f_68_23).trans rfl
theorem f_68_24 : fetch 68 24 = some (24, .aload_n 0, 1, [0], 0) := (fm_68 24).trans rfl
theorem u_68_24 {S : Scr} {d : Nat} {a1 : AV} {st : List AV} {sh : Shp} {I : IM} {R : RM} {x : Nat} : ev S d 68 24 [.inr (.inl x), a1] st (sh, I, R) = ev S d 68 25 [.inr (.inl x), a1] (.inr (.inl x) :: st) (sh, I, R) := (ev_eq f_68_24).trans rfl
theorem f_68_25 : fetch 68 25 = some (25, .getfield 11, 3, [7, 0, 1, 49], 0) := (fm_68 25).trans rfl
theorem u_68_25 {S : Scr} {d : Nat} {a0 a1 : AV} {st : List AV} {sh : Shp} {I : IM} {R : RM} {k : Nat} (h : tg sh k = 7) : ev S d 68 25 [a0, a1] (.inr (.inl k) :: st) (sh, I, R) = ev S d 68 28 [a0, a1] (rv (R k 0) :: st) (sh, I, R) := (ev_eq f_68_25).trans (congrArg (fin S d 68) (if_pos h))
theorem f_68_28 : fetch 68 28 = some (28, .iload_n 1, 1, [1], 0) := (fm_68 28).trans rfl
theorem u_68_28 {S : Scr} {d : Nat} {a0 : AV} {st : List AV} {sh : Shp} {I : IM} {R : RM} {x : Int} : ev S d 68 28 [a0, .inl x] st (sh, I, R) = ev S d 68 29 [a0, .inl x] (.inl x :: st) (sh, I, R) := (ev_eq f_68_28).trans rfl
theorem f_68_29 : fetch 68 29 = some (29, .aaload, 1, [], 0) := (fm_68 29).trans rfl
theorem u_68_29 {S : Scr} {d : Nat} {a0 a1 : AV} {st : List AV} {sh : Shp} {I : IM} {R : RM} {k : Nat} {i : Int} (h : 200 ≤ tg sh k ∧ tg sh k < 210) (h0 : 0 ≤ i) (h1 : i < ln sh k) : ev S d 68 29 [a0, a1] (.inl i :: .inr (.inl k) :: st) (sh, I, R) = ev S d 68 30 [a0, a1] (rv (R k i) :: st) (sh, I, R) := (ev_eq f_68_29).trans (congrArg (fin S d 68) (if_pos ⟨h.1, h.2, h0, h1⟩))
theorem f_68_30 : fetch 68 30 = some (30, .areturn, 1, [], 0) := (fm_68 30).trans rfl
theorem u_68_30 {S : Scr} {d : Nat} {a0 a1 : AV} {sh : Shp} {I : IM} {R : RM} {x : Nat} : ev S d 68 30 [a0, a1] [.inr (.inl x)] (sh, I, R) = some (some (.inr (.inl x)), (sh, I, R)) := (ev_eq f_68_30).trans rfl
theorem u_68_30n {S : Scr} {d : Nat} {a0 a1 : AV} {sh : Shp} {I : IM} {R : RM} : ev S d 68 30 [a0, a1] [.inr (.inr 0)] (sh, I, R) = some (some (.inr (.inr 0)), (sh, I, R)) := (ev_eq f_68_30).trans rfl
theorem c_69 {d : Nat} {a0 a1 a2 : AV} {M : Mem} : cl (d + 1) 69 [a0, a1, a2] M = ev S0 d 69 0 [a0, a1, a2] [] M := (cl_eq (as := [a0, a1, a2]) (show 3 ≤ maxOf 69 by decide +kernel)).trans rfl
theorem mt_69 : MT[69]? = some m_69 := rfl
theorem fm_69 (pc : Nat) : fetch 69 pc = lk m_69.2.2.2.2.2 pc := by
  unfold fetch
  rw [mt_69]
theorem f_69_0 : fetch 69 0 = some (0, .iload_n 1, 1, [1], 0) := (fm_69 0).trans rfl
theorem u_69_0 {S : Scr} {d : Nat} {a0 a2 : AV} {st : List AV} {sh : Shp} {I : IM} {R : RM} {x : Int} : ev S d 69 0 [a0, .inl x, a2] st (sh, I, R) = ev S d 69 1 [a0, .inl x, a2] (.inl x :: st) (sh, I, R) := (ev_eq f_69_0).trans rfl
theorem f_69_1 : fetch 69 1 = some (1, .invokestatic 35, 3, [125, 1, 62], 0) := (fm_69 1).trans rfl
theorem u_69_1 {S : Scr} {d : Nat} {a0 a1 a2 : AV} {st : List AV} {sh : Shp} {I : IM} {R : RM} {x0 : Int} (hr : st.length ≤ 8) : ev S d 69 1 [a0, a1, a2] (.inl x0 :: st) (sh, I, R) = bnd (cl d 125 [.inl x0] (sh, I, R)) (fun v M => ev S d 69 4 [a0, a1, a2] (psh v st) M) := (ev_eq f_69_1).trans (congrArg (fin S d 69) (if_pos ⟨rfl, hr⟩))
theorem f_69_4 : fetch 69 4 = some (4, .ifCond .eq 13, 3, [17], 0) := (fm_69 4).trans rfl
theorem u_69_4 {S : Scr} {d : Nat} {a0 a1 a2 : AV} {st : List AV} {sh : Shp} {I : IM} {R : RM} {x : Int} : ev S d 69 4 [a0, a1, a2] (.inl x :: st) (sh, I, R) = if x = 0 then ev S d 69 17 [a0, a1, a2] st (sh, I, R) else ev S d 69 7 [a0, a1, a2] st (sh, I, R) := (ev_eq f_69_4).trans fin_if_eq
theorem f_69_7 : fetch 69 7 = some (7, .iload_n 2, 1, [2], 0) := (fm_69 7).trans rfl
theorem u_69_7 {S : Scr} {d : Nat} {a0 a1 : AV} {st : List AV} {sh : Shp} {I : IM} {R : RM} {x : Int} : ev S d 69 7 [a0, a1, .inl x] st (sh, I, R) = ev S d 69 8 [a0, a1, .inl x] (.inl x :: st) (sh, I, R) := (ev_eq f_69_7).trans rfl
theorem f_69_8 : fetch 69 8 = some (8, .iconst 1, 1, [], 1) := (fm_69 8).trans rfl
theorem u_69_8 {S : Scr} {d : Nat} {a0 a1 a2 : AV} {st : List AV} {sh : Shp} {I : IM} {R : RM} : ev S d 69 8 [a0, a1, a2] st (sh, I, R) = ev S d 69 9 [a0, a1, a2] (.inl 1 :: st) (sh, I, R) := (ev_eq f_69_8).trans rfl
theorem f_69_9 : fetch 69 9 = some (9, .if_icmp .lt 8, 3, [17], 0) := (fm_69 9).trans rfl
theorem u_69_9 {S : Scr} {d : Nat} {a0 a1 a2 : AV} {st : List AV} {sh : Shp} {I : IM} {R : RM} {x y : Int} : ev S d 69 9 [a0, a1, a2] (.inl y :: .inl x :: st) (sh, I, R) = if x < y then ev S d 69 17 [a0, a1, a2] st (sh, I, R) else ev S d 69 12 [a0, a1, a2] st (sh, I, R) := (ev_eq f_69_9).trans fin_icmp_lt
theorem f_69_12 : fetch 69 12 = some (12, .iload_n 2, 1, [2], 0) := (fm_69 12).trans rfl
theorem u_69_12 {S : Scr} {d : Nat} {a0 a1 : AV} {st : List AV} {sh : Shp} {I : IM} {R : RM} {x : Int} : ev S d 69 12 [a0, a1, .inl x] st (sh, I, R) = ev S d 69 13 [a0, a1, .inl x] (.inl x :: st) (sh, I, R) := (ev_eq f_69_12).trans rfl
theorem f_69_13 : fetch 69 13 = some (13, .iconst 3, 1, [], 3) := (fm_69 13).trans rfl
theorem u_69_13 {S : Scr} {d : Nat} {a0 a1 a2 : AV} {st : List AV} {sh : Shp} {I : IM} {R : RM} : ev S d 69 13 [a0, a1, a2] st (sh, I, R) = ev S d 69 14 [a0, a1, a2] (.inl 3 :: st) (sh, I, R) := (ev_eq f_69_13).trans rfl
theorem f_69_14 : fetch 69 14 = some (14, .if_icmp .le 5, 3, [19], 0) := (fm_69 14).trans rfl
theorem u_69_14 {S : Scr} {d : Nat} {a0 a1 a2 : AV} {st : List AV} {sh : Shp} {I : IM} {R : RM} {x y : Int} : ev S d 69 14 [a0, a1, a2] (.inl y :: .inl x :: st) (sh, I, R) = if x ≤ y then ev S d 69 19 [a0, a1, a2] st (sh, I, R) else ev S d 69 17 [a0, a1, a2] st (sh, I, R) := (ev_eq f_69_14).trans fin_icmp_le
theorem f_69_17 : fetch 69 17 = some (17, .aconst_null, 1, [], 0) := (fm_69 17).trans rfl
theorem u_69_17 {S : Scr} {d : Nat} {a0 a1 a2 : AV} {st : List AV} {sh : Shp} {I : IM} {R : RM} : ev S d 69 17 [a0, a1, a2] st (sh, I, R) = ev S d 69 18 [a0, a1, a2] (.inr (.inr 0) :: st) (sh, I, R) := (ev_eq f_69_17).trans rfl
theorem f_69_18 : fetch 69 18 = some (18, .areturn, 1, [], 0) := (fm_69 18).trans rfl
theorem u_69_18 {S : Scr} {d : Nat} {a0 a1 a2 : AV} {sh : Shp} {I : IM} {R : RM} {x : Nat} : ev S d 69 18 [a0, a1, a2] [.inr (.inl x)] (sh, I, R) = some (some (.inr (.inl x)), (sh, I, R)) := (ev_eq f_69_18).trans rfl
theorem u_69_18n {S : Scr} {d : Nat} {a0 a1 a2 : AV} {sh : Shp} {I : IM} {R : RM} : ev S d 69 18 [a0, a1, a2] [.inr (.inr 0)] (sh, I, R) = some (some (.inr (.inr 0)), (sh, I, R)) := (ev_eq f_69_18).trans rfl
theorem f_69_19 : fetch 69 19 = some (19, .aload_n 0, 1, [0], 0) := (fm_69 19).trans rfl
theorem u_69_19 {S : Scr} {d : Nat} {a1 a2 : AV} {st : List AV} {sh : Shp} {I : IM} {R : RM} {x : Nat} : ev S d 69 19 [.inr (.inl x), a1, a2] st (sh, I, R) = ev S d 69 20 [.inr (.inl x), a1, a2] (.inr (.inl x) :: st) (sh, I, R) := (ev_eq f_69_19).trans rfl
theorem f_69_20 : fetch 69 20 = some (20, .getfield 19, 3, [7, 1, 1, 50], 0) := (fm_69 20).trans rfl
theorem u_69_20 {S : Scr} {d : Nat} {a0 a1 a2 : AV} {st : List AV} {sh : Shp} {I : IM} {R : RM} {k : Nat} (h : tg sh k = 7) : ev S d 69 20 [a0, a1, a2] (.inr (.inl k) :: st) (sh, I, R) = ev S d 69 23 [a0, a1, a2] (rv (R k 1) :: st) (sh, I, R) := (ev_eq f_69_20).trans (congrArg (fin S d 69) (if_pos h))
theorem f_69_23 : fetch 69 23 = some (23, .iload_n 1, 1, [1], 0) := (fm_69 23).trans rfl
theorem u_69_23 {S : Scr} {d : Nat} {a0 a2 : AV} {st : List AV} {sh : Shp} {I : IM} {R : RM} {x : Int} : ev S d 69 23 [a0, .inl x, a2] st (sh, I, R) = ev S d 69 24 [a0, .inl x, a2] (.inl x :: st) (sh, I, R) := (ev_eq f_69_23).trans rfl
theorem f_69_24 : fetch 69 24 = some (24, .iconst 1, 1, [], 1) := (fm_69 24).trans rfl
theorem u_69_24 {S : Scr} {d : Nat} {a0 a1 a2 : AV} {st : List AV} {sh : Shp} {I : IM} {R : RM} : ev S d 69 24 [a0, a1, a2] st (sh, I, R) = ev S d 69 25 [a0, a1, a2] (.inl 1 :: st) (sh, I, R) := (ev_eq f_69_24).trans rfl
theorem f_69_25 : fetch 69 25 = some (25, .isub, 1, [], 0) := (fm_69 25).trans rfl
theorem u_69_25 {S : Scr} {d : Nat} {a0 a1 a2 : AV} {st : List AV} {sh : Shp} {I : IM} {R : RM} {x y : Int} : ev S d 69 25 [a0, a1, a2] (.inl y :: .inl x :: st) (sh, I, R) = ev S d 69 26 [a0, a1, a2] (.inl (wr (x - y)) :: st) (sh, I, R) := (ev_eq f_69_25).trans rfl
theorem f_69_26 : fetch 69 26 = some (26, .iconst 3, 1, [], 3) := (fm_69 26).trans rfl
theorem u_69_26 {S : Scr} {d : Nat} {a0 a1 a2 : AV} {st : List AV} {sh : Shp} {I : IM} {R : RM} : ev S d 69 26 [a0, a1, a2] st (sh, I, R) = ev S d 69 27 [a0, a1, a2] (.inl 3 :: st) (sh, I, R) := (ev_eq f_69_26).trans rfl
theorem f_69_27 : fetch 69 27 = some (27, .imul, 1, [], 0) := (fm_69 27).trans rfl
theorem u_69_27 {S : Scr} {d : Nat} {a0 a1 a2 : AV} {st : List AV} {sh : Shp} {I : IM} {R : RM} {x y : Int} : ev S d 69 27 [a0, a1, a2] (.inl y :: .inl x :: st) (sh, I, R) = ev S d 69 28 [a0, a1, a2] (.inl (wr (x * y)) :: st) (sh, I, R) := (ev_eq f_69_27).trans rfl
theorem f_69_28 : fetch 69 28 = some (28, .iload_n 2, 1, [2], 0) := (fm_69 28).trans rfl
theorem u_69_28 {S : Scr} {d : Nat} {a0 a1 : AV} {st : List AV} {sh : Shp} {I : IM} {R : RM} {x : Int} : ev S d 69 28 [a0, a1, .inl x] st (sh, I, R) = ev S d 69 29 [a0, a1, .inl x] (.inl x :: st) (sh, I, R) := (ev_eq f_69_28).trans rfl
theorem f_69_29 : fetch 69 29 = some (29, .iadd, 1, [], 0) := (fm_69 29).trans rfl
theorem u_69_29 {S : Scr} {d : Nat} {a0 a1 a2 : AV} {st : List AV} {sh : Shp} {I : IM} {R : RM} {x y : Int} : ev S d 69 29 [a0, a1, a2] (.inl y :: .inl x :: st) (sh, I, R) = ev S d 69 30 [a0, a1, a2] (.inl (wr (x + y)) :: st) (sh, I, R) := (ev_eq f_69_29).trans rfl
theorem f_69_30 : fetch 69 30 = some (30, .iconst 1, 1, [], 1) := (fm_69 30).trans rfl
theorem u_69_30 {S : Scr} {d : Nat} {a0 a1 a2 : AV} {st : List AV} {sh : Shp} {I : IM} {R : RM} : ev S d 69 30 [a0, a1, a2] st (sh, I, R) = ev S d 69 31 [a0, a1, a2] (.inl 1 :: st) (sh, I, R) := (ev_eq f_69_30).trans rfl
theorem f_69_31 : fetch 69 31 = some (31, .isub, 1, [], 0) := (fm_69 31).trans rfl
theorem u_69_31 {S : Scr} {d : Nat} {a0 a1 a2 : AV} {st : List AV} {sh : Shp} {I : IM} {R : RM} {x y : Int} : ev S d 69 31 [a0, a1, a2] (.inl y :: .inl x :: st) (sh, I, R) = ev S d 69 32 [a0, a1, a2] (.inl (wr (x - y)) :: st) (sh, I, R) := (ev_eq f_69_31).trans rfl
theorem f_69_32 : fetch 69 32 = some (32, .aaload, 1, [], 0) := (fm_69 32).trans rfl
theorem u_69_32 {S : Scr} {d : Nat} {a0 a1 a2 : AV} {st : List AV} {sh : Shp} {I : IM} {R : RM} {k : Nat} {i : Int} (h : 200 ≤ tg sh k ∧ tg sh k < 210) (h0 : 0 ≤ i) (h1 : i < ln sh k) : ev S d 69 32 [a0, a1, a2] (.inl i :: .inr (.inl k) :: st) (sh, I, R) = ev S d 69 33 [a0, a1, a2] (rv (R k i) :: st) (sh, I, R) := (ev_eq f_69_32).trans (congrArg (fin S d 69) (if_pos ⟨h.1, h.2, h0, h1⟩))
theorem f_69_33 : fetch 69 33 = some (33, .areturn, 1, [], 0) := (fm_69 33).trans rfl
theorem u_69_33 {S : Scr} {d : Nat} {a0 a1 a2 : AV} {sh : Shp} {I : IM} {R : RM} {x : Nat} : ev S d 69 33 [a0, a1, a2] [.inr (.inl x)] (sh, I, R) = some (some (.inr (.inl x)), (sh, I, R)) := (ev_eq f_69_33).trans rfl
theorem u_69_33n {S : Scr} {d : Nat} {a0 a1 a2 : AV} {sh : Shp} {I : IM} {R : RM} : ev S d 69 33 [a0, a1, a2] [.inr (.inr 0)] (sh, I, R) = some (some (.inr (.inr 0)), (sh, I, R)) := (ev_eq f_69_33).trans rfl
theorem c_70 {d : Nat} {a0 a1 : AV} {M : Mem} : cl (d + 1) 70 [a0, a1] M = ev S0 d 70 0 [a0, a1] [] M := (cl_eq (as := [a0, a1]) (show 2 ≤ maxOf 70 by decide +kernel)).trans rfl
theorem mt_70 : MT[70]? = some m_70 := rfl
theorem fm_70 (pc : Nat) : fetch 70 pc = lk m_70.2.2.2.2.2 pc := by
  unfold fetch
  rw [mt_70]
theorem f_70_0 : fetch 70 0 = some (0, .iload_n 1, 1, [1], 0) := (fm_70 0).trans rfl
theorem u_70_0 {S : Scr} {d : Nat} {a0 : AV} {st : List AV} {sh : Shp} {I : IM} {R : RM} {x : Int} : ev S d 70 0 [a0, .inl x] st (sh, I, R) = ev S d 70 1 [a0, .inl x] (.inl x :: st) (sh, I, R) := (ev_eq f_70_0).trans rfl
theorem f_70_1 : fetch 70 1 = some (1, .invokestatic 35, 3, [125, 1, 62], 0) := (fm_70 1).trans rfl
theorem u_70_1 {S : Scr} {d : Nat} {a0 a1 : AV} {st : List AV} {sh : Shp} {I : IM} {R : RM} {x0 : Int} (hr : st.length ≤ 8) : ev S d 70 1 [a0, a1] (.inl x0 :: st) (sh, I, R) = bnd (cl d 125 [.inl x0] (sh, I, R)) (fun v M => ev S d 70 4 [a0, a1] (psh v st) M) := (ev_eq f_70_1).trans (congrArg (fin S d 70) (if_pos ⟨rfl, hr⟩))
theorem f_70_4 : fetch 70 4 = some (4, .ifCond .eq 17, 3, [21], 0) := (fm_70 4).trans rfl
theorem u_70_4 {S : Scr} {d : Nat} {a0 a1 : AV} {st : List AV} {sh : Shp} {I : IM} {R : RM} {x : Int} : ev S d 70 4 [a0, a1] (.inl x :: st) (sh, I, R) = if x = 0 then ev S d 70 21 [a0, a1] st (sh, I, R) else ev S d 70 7 [a0, a1] st (sh, I, R) := (ev_eq f_70_4).trans fin_if_eq
theorem f_70_7 : fetch 70 7 = some (7, .aload_n 0, 1, [0], 0) := (fm_70 7).trans rfl
theorem u_70_7 {S : Scr} {d : Nat} {a1 : AV} {st : List AV} {sh : Shp} {I : IM} {R : RM} {x : Nat} : ev S d 70 7 [.inr (.inl x), a1] st (sh, I, R) = ev S d 70 8 [.inr (.inl x), a1] (.inr (.inl x) :: st) (sh, I, R) := (ev_eq f_70_7).trans rfl
theorem f_70_8 : fetch 70 8 = some (8, .iload_n 1, 1, [1], 0) := (fm_70 8).trans rfl
theorem u_70_8 {S : Scr} {d : Nat} {a0 : AV} {st : List AV} {sh : Shp} {I : IM} {R : RM} {x : Int} : ev S d 70 8 [a0, .inl x] st (sh, I, R) = ev S d 70 9 [a0, .inl x] (.inl x :: st) (sh, I, R) := (ev_eq f_70_8).trans rfl
theorem f_70_9 : fetch 70 9 = some (9, .aload_n 0, 1, [0], 0) := (fm_70 9).trans rfl
theorem u_70_9 {S : Scr} {d : Nat} {a1 : AV} {st : List AV} {sh : Shp} {I : IM} {R : RM} {x : Nat} : ev S d 70 9 [.inr (.inl x), a1] st (sh, I, R) = ev S d 70 10 [.inr (.inl x), a1] (.inr (.inl x) :: st) (sh, I, R) := (ev_eq f_70_9).trans rfl
theorem f_70_10 : fetch 70 10 = some (10, .getfield 23, 3, [7, 2, 1, 51], 0) := (fm_70 10).trans rfl
theorem u_70_10 {S : Scr} {d : Nat} {a0 a1 : AV} {st : List AV} {sh : Shp} {I : IM} {R : RM} {k : Nat} (h : tg sh k = 7) : ev S d 70 10 [a0, a1] (.inr (.inl k) :: st) (sh, I, R) = ev S d 70 13 [a0, a1] (rv (R k 2) :: st) (sh, I, R) := (ev_eq f_70_10).trans (congrArg (fin S d 70) (if_pos h))
theorem f_70_13 : fetch 70 13 = some (13, .iload_n 1, 1, [1], 0) := (fm_70 13).trans rfl
theorem u_70_13 {S : Scr} {d : Nat} {a0 : AV} {st : List AV} {sh : Shp} {I : IM} {R : RM} {x : Int} : ev S d 70 13 [a0, .inl x] st (sh, I, R) = ev S d 70 14 [a0, .inl x] (.inl x :: st) (sh, I, R) := (ev_eq f_70_13).trans rfl
theorem f_70_14 : fetch 70 14 = some (14, .iaload, 1, [], 0) := (fm_70 14).trans rfl
theorem u_70_14 {S : Scr} {d : Nat} {a0 a1 : AV} {st : List AV} {sh : Shp} {I : IM} {R : RM} {k : Nat} {i : Int} (h : tg sh k = 100) (h0 : 0 ≤ i) (h1 : i < ln sh k) : ev S d 70 14 [a0, a1] (.inl i :: .inr (.inl k) :: st) (sh, I, R) = ev S d 70 15 [a0, a1] (.inl (I k i) :: st) (sh, I, R) := (ev_eq f_70_14).trans (congrArg (fin S d 70) (if_pos ⟨h, h0, h1⟩))
theorem f_70_15 : fetch 70 15 = some (15, .invokevirtual 39, 3, [69, 2, 63], 0) := (fm_70 15).trans rfl
theorem u_70_15 {S : Scr} {d : Nat} {a0 a1 : AV} {st : List AV} {sh : Shp} {I : IM} {R : RM} {x0 : Int} {x1 : Int} {k : Nat} (h : tg sh k = 7) (hr : st.length ≤ 8) : ev S d 70 15 [a0, a1] (.inl x1 :: .inl x0 :: .inr (.inl k) :: st) (sh, I, R) = bnd (cl d 69 [.inr (.inl k), .inl x0, .inl x1] (sh, I, R)) (fun v M => ev S d 70 18 [a0, a1] (psh v st) M) := (ev_eq f_70_15).trans (congrArg (fin S d 70) (if_pos ⟨h, rfl, hr⟩))
theorem f_70_18 : fetch 70 18 = some (18, .goto 4, 3, [22], 0) := (fm_70 18).trans rfl
theorem u_70_18 {S : Scr} {d : Nat} {a0 a1 : AV} {st : List AV} {sh : Shp} {I : IM} {R : RM} : ev S d 70 18 [a0, a1] st (sh, I, R) = ev S d 70 22 [a0, a1] st (sh, I, R) := (ev_eq f_70_18).trans rfl
theorem f_70_21 : fetch 70 21 = some (21, .aconst_null, 1, [], 0) := (fm_70 21).trans rfl
theorem u_70_21 {S : Scr} {d : Nat} {a0 a1 : AV} {st : List AV} {sh : Shp} {I : IM} {R : RM} : ev S d 70 21 [a0, a1] st (sh, I, R) = ev S d 70 22 [a0, a1] (.inr (.inr 0) :: st) (sh, I, R) := (ev_eq f_70_21).trans rfl
theorem f_70_22 : fetch 70 22 = some (22, .areturn, 1, [], 0) := (fm_70 22).trans rfl
theorem u_70_22 {S : Scr} {d : Nat} {a0 a1 : AV} {sh : Shp} {I : IM} {R : RM} {x : Nat} : ev S d 70 22 [a0, a1] [.inr (.inl x)] (sh, I, R) = some (some (.inr (.inl x)), (sh, I, R)) := (ev_eq f_70_22).trans rfl
theorem u_70_22n {S : Scr} {d : Nat} {a0 a1 : AV} {sh : Shp} {I : IM} {R : RM} : ev S d 70 22 [a0, a1] [.inr (.inr 0)] (sh, I, R) = some (some (.inr (.inr 0)), (sh, I, R)) := (ev_eq f_70_22).trans rfl
theorem c_71 {d : Nat} {a0 : AV} {M : Mem} : cl (d + 1) 71 [a0] M = ev S0 d 71 0 [a0, .inr (.inr 1)] [] M := (cl_eq (as := [a0]) (show 1 ≤ maxOf 71 by decide +kernel)).trans rfl
theorem mt_71 : MT[71]? = some m_71 := rfl
theorem fm_71 (pc : Nat) : fetch 71 pc = lk m_71.2.2.2.2.2 pc := by
  unfold fetch
  rw [mt_71]
theorem f_71_0 : fetch 71 0 = some (0, .iconst 0, 1, [], 0) := (fm_71 0).trans rfl
theorem u_71_0 {S : Scr} {d : Nat} {a0 a1 : AV} {st : List AV} {sh : Shp} {I : IM} {R : RM} : ev S d 71 0 [a0, a1] st (sh, I, R) = ev S d 71 1 [a0, a1] (.inl 0 :: st) (sh, I, R) := (ev_eq f_71_0).trans rfl
theorem f_71_1 : fetch 71 1 = some (1, .istore_n 1, 1, [1], 0) := (fm_71 1).trans rfl
theorem u_71_1 {S : Scr} {d : Nat} {a0 a1 : AV} {st : List AV} {sh : Shp} {I : IM} {R : RM} {x : Int} : ev S d 71 1 [a0, a1] (.inl x :: st) (sh, I, R) = ev S d 71 2 [a0, .inl x] st (sh, I, R) := (ev_eq f_71_1).trans rfl
theorem f_71_2 : fetch 71 2 = some (2, .iload_n 1, 1, [1], 0) := (fm_71 2).trans rfl
theorem u_71_2 {S : Scr} {d : Nat} {a0 : AV} {st : List AV} {sh : Shp} {I : IM} {R : RM} {x : Int} : ev S d 71 2 [a0, .inl x] st (sh, I, R) = ev S d 71 3 [a0, .inl x] (.inl x :: st) (sh, I, R) := (ev_eq f_71_2).trans rfl
theorem f_71_3 : fetch 71 3 = some (3, .bipush 30, 2, [], 30) := (fm_71 3).trans rfl
theorem u_71_3 {S : Scr} {d : Nat} {a0 a1 : AV} {st : List AV} {sh : Shp} {I : IM} {R : RM} : ev S d 71 3 [a0, a1] st (sh, I, R) = ev S d 71 5 [a0, a1] (.inl 30 :: st) (sh, I, R) := (ev_eq f_71_3).trans rfl
theorem f_71_5 : fetch 71 5 = some (5, .if_icmp .ge 23, 3, [28], 0) := (fm_71 5).trans rfl
theorem u_71_5 {S : Scr} {d : Nat} {a0 a1 : AV} {st : List AV} {sh : Shp} {I : IM} {R : RM} {x y : Int} : ev S d 71 5 [a0, a1] (.inl y :: .inl x :: st) (sh, I, R) = if y ≤ x then ev S d 71 28 [a0, a1] st (sh, I, R) else ev S d 71 8 [a0, a1] st (sh, I, R) := (ev_eq f_71_5).trans fin_icmp_ge
theorem f_71_8 : fetch 71 8 = some (8, .aload_n 0, 1, [0], 0) := (fm_71 8).trans rfl
theorem u_71_8 {S : Scr} {d : Nat} {a1 : AV} {st : List AV} {sh : Shp} {I : IM} {R : RM} {x : Nat} : ev S d 71 8 [.inr (.inl x), a1] st (sh, I, R) = ev S d 71 9 [.inr (.inl x), a1] (.inr (.inl x) :: st) (sh, I, R) := (ev_eq f_71_8).trans rfl
theorem f_71_9 : fetch 71 9 = some (9, .getfield 11, 3, [7, 0, 1, 49], 0) := (fm_71 9).trans rfl
theorem u_71_9 {S : Scr} {d : Nat} {a0 a1 : AV} {st : List AV} {sh : Shp} {I : IM} {R : RM} {k : Nat} (h : tg sh k = 7) : ev S d 71 9 [a0, a1] (.inr (.inl k) :: st) (sh, I, R) = ev S d 71 12 [a0, a1] (rv (R k 0) :: st) (sh, I, R) := (ev_eq f_71_9).trans (congrArg (fin S d 71) (if_pos h))
theorem f_71_12 : fetch 71 12 = some (12, .iload_n 1, 1, [1], 0) := (fm_71 12).trans rfl
theorem u_71_12 {S : Scr} {d : Nat} {a0 : AV} {st : List AV} {sh : Shp} {I : IM} {R : RM} {x : Int} : ev S d 71 12 [a0, .inl x] st (sh, I, R) = ev S d 71 13 [a0, .inl x] (.inl x :: st) (sh, I, R) := (ev_eq f_71_12).trans rfl
theorem f_71_13 : fetch 71 13 = some (13, .aaload, 1, [], 0) := (fm_71 13).trans rfl
theorem u_71_13 {S : Scr} {d : Nat} {a0 a1 : AV} {st : List AV} {sh : Shp} {I : IM} {R : RM} {k : Nat} {i : Int} (h : 200 ≤ tg sh k ∧ tg sh k < 210) (h0 : 0 ≤ i) (h1 : i < ln sh k) : ev S d 71 13 [a0, a1] (.inl i :: .inr (.inl k) :: st) (sh, I, R) = ev S d 71 14 [a0, a1] (rv (R k i) :: st) (sh, I, R) := (ev_eq f_71_13).trans (congrArg (fin S d 71) (if_pos ⟨h.1, h.2, h0, h1⟩))
theorem f_71_14 : fetch 71 14 = some (14, .getfield 31, 3, [3, 2, 0, 52], 0) := (fm_71 14).trans rfl
theorem u_71_14 {S : Scr} {d : Nat} {a0 a1 : AV} {st : List AV} {sh : Shp} {I : IM} {R : RM} {k : Nat} (h : tg sh k = 3) : ev S d 71 14 [a0, a1] (.inr (.inl k) :: st) (sh, I, R) = ev S d 71 17 [a0, a1] (.inl (I k 2) :: st) (sh, I, R) := (ev_eq f_71_14).trans (congrArg (fin S d 71) (if_pos h))
theorem f_71_17 : fetch 71 17 = some (17, .ifCond .ne 5, 3, [22], 0) := (fm_71 17).trans rfl
theorem u_71_17 {S : Scr} {d : Nat} {a0 a1 : AV} {st : List AV} {sh : Shp} {I : IM} {R : RM} {x : Int} : ev S d 71 17 [a0, a1] (.inl x :: st) (sh, I, R) = if ¬ x = 0 then ev S d 71 22 [a0, a1] st (sh, I, R) else ev S d 71 20 [a0, a1] st (sh, I, R) := (ev_eq f_71_17).trans fin_if_ne
theorem f_71_20 : fetch 71 20 = some (20, .iload_n 1, 1, [1], 0) := (fm_71 20).trans rfl
theorem u_71_20 {S : Scr} {d : Nat} {a0 : AV} {st : List AV} {sh : Shp} {I : IM} {R : RM} {x : Int} : ev S d 71 20 [a0, .inl x] st (sh, I, R) = ev S d 71 21 [a0, .inl x] (.inl x :: st) (sh, I, R) := (ev_eq f_71_20).trans rfl
theorem f_71_21 : fetch 71 21 = some (21, .ireturn, 1, [0], 0) := (fm_71 21).trans rfl
theorem u_71_21 {S : Scr} {d : Nat} {a0 a1 : AV} {sh : Shp} {I : IM} {R : RM} {x : Int} : ev S d 71 21 [a0, a1] [.inl x] (sh, I, R) = some (some (.inl x), (sh, I, R)) := (ev_eq f_71_21).trans fin_iret0
theorem f_71_22 : fetch 71 22 = some (22, .iinc 1 1, 3, [1], 1) := (fm_71 22).trans rfl
theorem u_71_22 {S : Scr} {d : Nat} {a0 : AV} {st : List AV} {sh : Shp} {I : IM} {R : RM} {x : Int} : ev S d 71 22 [a0, .inl x] st (sh, I, R) = ev S d 71 25 [a0, .inl (wr (x + 1))] st (sh, I, R) := (ev_eq f_71_22).trans rfl
theorem f_71_25 : fetch 71 25 = some (25, .goto (-23), 3, [2], 0) := (fm_71 25).trans rfl
theorem u_71_25 {S : Scr} {d : Nat} {a0 a1 : AV} {st : List AV} {sh : Shp} {I : IM} {R : RM} : ev S d 71 25 [a0, a1] st (sh, I, R) = ev S d 71 2 [a0, a1] st (sh, I, R) := (ev_eq f_71_25).trans rfl
theorem f_71_28 : fetch 71 28 = some (28, .iconst (-1), 1, [], (-1)) := (fm_71 28).trans rfl
theorem u_71_28 {S : Scr} {d : Nat} {a0 a1 : AV} {st : List AV} {sh : Shp} {I : IM} {R : RM} : ev S d 71 28 [a0, a1] st (sh, I, R) = ev S d 71 29 [a0, a1] (.inl (-1) :: st) (sh, I, R) := (ev_eq f_71_28).trans rfl
theorem f_71_29 : fetch 71 29 = some (29, .ireturn, 1, [0], 0) := (fm_71 29).trans rfl
theorem u_71_29 {S : Scr} {d : Nat} {a0 a1 : AV} {sh : Shp} {I : IM} {R : RM} {x : Int} : ev S d 71 29 [a0, a1] [.inl x] (sh, I, R) = some (some (.inl x), (sh, I, R)) := (ev_eq f_71_29).trans fin_iret0
theorem c_72 {d : Nat} {a0 : AV} {M : Mem} : cl (d + 1) 72 [a0] M = ev S0 d 72 0 [a0] [] M := (cl_eq (as := [a0]) (show 1 ≤ maxOf 72 by decide +kernel)).trans rfl
theorem mt_72 : MT[72]? = some m_72 := rfl
theorem fm_72 (pc : Nat) : fetch 72 pc = lk m_72.2.2.2.2.2 pc := by
  unfold fetch
  rw [mt_72]
theorem f_72_0 : fetch 72 0 = some (0, .aload_n 0, 1, [0], 0) := (fm_72 0).trans rfl
theorem u_72_0 {S : Scr} {d : Nat} {st : List AV} {sh : Shp} {I : IM} {R : RM} {x : Nat} : ev S d 72 0 [.inr (.inl x)] st (sh, I, R) = ev S d 72 1 [.inr (.inl x)] (.inr (.inl x) :: st) (sh, I, R) := (ev_eq f_72_0).trans rfl
theorem f_72_1 : fetch 72 1 = some (1, .invokevirtual 43, 3, [71, 0, 64], 0) := (fm_72 1).trans rfl
theorem u_72_1 {S : Scr} {d : Nat} {a0 : AV} {st : List AV} {sh : Shp} {I : IM} {R : RM} {k : Nat} (h : tg sh k = 7) (hr : st.length ≤ 8) : ev S d 72 1 [a0] (.inr (.inl k) :: st) (sh, I, R) = bnd (cl d 71 [.inr (.inl k)] (sh, I, R)) (fun v M => ev S d 72 4 [a0] (psh v st) M) := (ev_eq f_72_1).trans (congrArg (fin S d 72) (if_pos ⟨h, rfl, hr⟩))
theorem f_72_4 : fetch 72 4 = some (4, .iconst (-1), 1, [], (-1)) := (fm_72 4).trans rfl
theorem u_72_4 {S : Scr} {d : Nat} {a0 : AV} {st : List AV} {sh : Shp} {I : IM} {R : RM} : ev S d 72 4 [a0] st (sh, I, R) = ev S d 72 5 [a0] (.inl (-1) :: st) (sh, I, R) := (ev_eq f_72_4).trans rfl
theorem f_72_5 : fetch 72 5 = some (5, .if_icmp .ne 7, 3, [12], 0) := (fm_72 5).trans rfl
theorem u_72_5 {S : Scr} {d : Nat} {a0 : AV} {st : List AV} {sh : Shp} {I : IM} {R : RM} {x y : Int} : ev S d 72 5 [a0] (.inl y :: .inl x :: st) (sh, I, R) = if ¬ x = y then ev S d 72 12 [a0] st (sh, I, R) else ev S d 72 8 [a0] st (sh, I, R) := (ev_eq f_72_5).trans fin_icmp_ne
theorem f_72_8 : fetch 72 8 = some (8, .iconst 1, 1, [], 1) := (fm_72 8).trans rfl
theorem u_72_8 {S : Scr} {d : Nat} {a0 : AV} {st : List AV} {sh : Shp} {I : IM} {R : RM} : ev S d 72 8 [a0] st (sh, I, R) = ev S d 72 9 [a0] (.inl 1 :: st) (sh, I, R) := (ev_eq f_72_8).trans rfl
theorem f_72_9 : fetch 72 9 = some (9, .goto 4, 3, [13], 0) := (fm_72 9).trans rfl
theorem u_72_9 {S : Scr} {d : Nat} {a0 : AV} {st : List AV} {sh : Shp} {I : IM} {R : RM} : ev S d 72 9 [a0] st (sh, I, R) = ev S d 72 13 [a0] st (sh, I, R) := (ev_eq f_72_9).trans rfl
theorem f_72_12 : fetch 72 12 = some (12, .iconst 0, 1, [], 0) := (fm_72 12).trans rfl
theorem u_72_12 {S : Scr} {d : Nat} {a0 : AV} {st : List AV} {sh : Shp} {I : IM} {R : RM} : ev S d 72 12 [a0] st (sh, I, R) = ev S d 72 13 [a0] (.inl 0 :: st) (sh, I, R) := (ev_eq f_72_12).trans rfl
theorem f_72_13 : fetch 72 13 = some (13, .ireturn, 1, [1], 0) := (fm_72 13).trans rfl
theorem u_72_13 {S : Scr} {d : Nat} {a0 : AV} {sh : Shp} {I : IM} {R : RM} {x : Int} (h : x = 0 ∨ x = 1) : ev S d 72 13 [a0] [.inl x] (sh, I, R) = some (some (.inl x), (sh, I, R)) := (ev_eq f_72_13).trans (fin_iret1 h)
theorem c_73 {d : Nat} {a0 a1 a2 a3 : AV} {M : Mem} : cl (d + 1) 73 [a0, a1, a2, a3] M = ev S0 d 73 0 [a0, a1, a2, a3, .inr (.inr 1)] [] M := (cl_eq (as := [a0, a1, a2, a3]) (show 4 ≤ maxOf 73 by decide +kernel)).trans rfl
theorem mt_73 : MT[73]? = some m_73 := rfl
theorem fm_73 (pc : Nat) : fetch 73 pc = lk m_73.2.2.2.2.2 pc := by
  unfold fetch
  rw [mt_73]
theorem f_73_0 : fetch 73 0 = some (0, .aload_n 0, 1, [0], 0) := (fm_73 0).trans rfl
theorem u_73_0 {S : Scr} {d : Nat} {a1 a2 a3 a4 : AV} {st : List AV} {sh : Shp} {I : IM} {R : RM} {x : Nat} : ev S d 73 0 [.inr (.inl x), a1, a2, a3, a4] st (sh, I, R) = ev S d 73 1 [.inr (.inl x), a1, a2, a3, a4] (.inr (.inl x) :: st) (sh, I, R) := (ev_eq f_73_0).trans rfl
theorem f_73_1 : fetch 73 1 = some (1, .invokevirtual 43, 3, [71, 0, 64], 0) := (fm_73 1).trans rfl
theorem u_73_1 {S : Scr} {d : Nat} {a0 a1 a2 a3 a4 : AV} {st : List AV} {sh : Shp} {I : IM} {R : RM} {k : Nat} (h : tg sh k = 7) (hr : st.length ≤ 8) : ev S d 73 1 [a0, a1, a2, a3, a4] (.inr (.inl k) :: st) (sh, I, R) = bnd (cl d 71 [.inr (.inl k)] (sh, I, R)) (fun v M => ev S d 73 4 [a0, a1, a2, a3, a4] (psh v st) M) := (ev_eq f_73_1).trans (congrArg (fin S d 73) (if_pos ⟨h, rfl, hr⟩))
theorem f_73_4 : fetch 73 4 = some (4, .istore 4, 2, [4], 0) := (fm_73 4).trans rfl
theorem u_73_4 {S : Scr} {d : Nat} {a0 a1 a2 a3 a4 : AV} {st : List AV} {sh : Shp} {I : IM} {R : RM} {x : Int} : ev S d 73 4 [a0, a1, a2, a3, a4] (.inl x :: st) (sh, I, R) = ev S d 73 6 [a0, a1, a2, a3, .inl x] st (sh, I, R) := (ev_eq f_73_4).trans rfl
theorem f_73_6 : fetch 73 6 = some (6, .iload 4, 2, [4], 0) := (fm_73 6).trans rfl
theorem u_73_6 {S : Scr} {d : Nat} {a0 a1 a2 a3 : AV} {st : List AV} {sh : Shp} {I : IM} {R : RM} {x : Int} : ev S d 73 6 [a0, a1, a2, a3, .inl x] st (sh, I, R) = ev S d 73 8 [a0, a1, a2, a3, .inl x] (.inl x :: st) (sh, I, R) := (ev_eq f_73_6).trans rfl
theorem f_73_8 : fetch 73 8 = some (8, .iconst (-1), 1, [], (-1)) := (fm_73 8).trans rfl
theorem u_73_8 {S : Scr} {d : Nat} {a0 a1 a2 a3 a4 : AV} {st : List AV} {sh : Shp} {I : IM} {R : RM} : ev S d 73 8 [a0, a1, a2, a3, a4] st (sh, I, R) = ev S d 73 9 [a0, a1, a2, a3, a4] (.inl (-1) :: st) (sh, I, R) := (ev_eq f_73_8).trans rfl
theorem f_73_9 : fetch 73 9 = some (9, .if_icmp .eq 16, 3, [25], 0) := (fm_73 9).trans rfl
theorem u_73_9 {S : Scr} {d : Nat} {a0 a1 a2 a3 a4 : AV} {st : List AV} {sh : Shp} {I : IM} {R : RM} {x y : Int} : ev S d 73 9 [a0, a1, a2, a3, a4] (.inl y :: .inl x :: st) (sh, I, R) = if x = y then ev S d 73 25 [a0, a1, a2, a3, a4] st (sh, I, R) else ev S d 73 12 [a0, a1, a2, a3, a4] st (sh, I, R) := (ev_eq f_73_9).trans fin_icmp_eq
theorem f_73_12 : fetch 73 12 = some (12, .aload_n 0, 1, [0], 0) := (fm_73 12).trans rfl
theorem u_73_12 {S : Scr} {d : Nat} {a1 a2 a3 a4 : AV} {st : List AV} {sh : Shp} {I : IM} {R : RM} {x : Nat} : ev S d 73 12 [.inr (.inl x), a1, a2, a3, a4] st (sh, I, R) = ev S d 73 13 [.inr (.inl x), a1, a2, a3, a4] (.inr (.inl x) :: st) (sh, I, R) := (ev_eq f_73_12).trans rfl
theorem f_73_13 : fetch 73 13 = some (13, .getfield 11, 3, [7, 0, 1, 49], 0) := (fm_73 13).trans rfl
theorem u_73_13 {S : Scr} {d : Nat} {a0 a1 a2 a3 a4 : AV} {st : List AV} {sh : Shp} {I : IM} {R : RM} {k : Nat} (h : tg sh k = 7) : ev S d 73 13 [a0, a1, a2, a3, a4] (.inr (.inl k) :: st) (sh, I, R) = ev S d 73 16 [a0, a1, a2, a3, a4] (rv (R k 0) :: st) (sh, I, R) := (ev_eq f_73_13).trans (congrArg (fin S d 73) (if_pos h))
theorem f_73_16 : fetch 73 16 = some (16, .iload 4, 2, [4], 0) := (fm_73 16).trans rfl
theorem u_73_16 {S : Scr} {d : Nat} {a0 a1 a2 a3 : AV} {st : List AV} {sh : Shp} {I : IM} {R : RM} {x : Int} : ev S d 73 16 [a0, a1, a2, a3, .inl x] st (sh, I, R) = ev S d 73 18 [a0, a1, a2, a3, .inl x] (.inl x :: st) (sh, I, R) := (ev_eq f_73_16).trans rfl
theorem f_73_18 : fetch 73 18 = some (18, .aaload, 1, [], 0) := (fm_73 18).trans rfl
theorem u_73_18 {S : Scr} {d : Nat} {a0 a1 a2 a3 a4 : AV} {st : List AV} {sh : Shp} {I : IM} {R : RM} {k : Nat} {i : Int} (h : 200 ≤ tg sh k ∧ tg sh k < 210) (h0 : 0 ≤ i) (h1 : i < ln sh k) : ev S d 73 18 [a0, a1, a2, a3, a4] (.inl i :: .inr (.inl k) :: st) (sh, I, R) = ev S d 73 19 [a0, a1, a2, a3, a4] (rv (R k i) :: st) (sh, I, R) := (ev_eq f_73_18).trans (congrArg (fin S d 73) (if_pos ⟨h.1, h.2, h0, h1⟩))
theorem f_73_19 : fetch 73 19 = some (19, .iload_n 1, 1, [1], 0) := (fm_73 19).trans rfl
theorem u_73_19 {S : Scr} {d : Nat} {a0 a2 a3 a4 : AV} {st : List AV} {sh : Shp} {I : IM} {R : RM} {x : Int} : ev S d 73 19 [a0, .inl x, a2, a3, a4] st (sh, I, R) = ev S d 73 20 [a0, .inl x, a2, a3, a4] (.inl x :: st) (sh, I, R) := (ev_eq f_73_19).trans rfl
theorem f_73_20 : fetch 73 20 = some (20, .iload_n 2, 1, [2], 0) := (fm_73 20).trans rfl
theorem u_73_20 {S : Scr} {d : Nat} {a0 a1 a3 a4 : AV} {st : List AV} {sh : Shp} {I : IM} {R : RM} {x : Int} : ev S d 73 20 [a0, a1, .inl x, a3, a4] st (sh, I, R) = ev S d 73 21 [a0, a1, .inl x, a3, a4] (.inl x :: st) (sh, I, R) := (ev_eq f_73_20).trans rfl
theorem f_73_21 : fetch 73 21 = some (21, .iload_n 3, 1, [3], 0) := (fm_73 21).trans rfl
theorem u_73_21 {S : Scr} {d : Nat} {a0 a1 a2 a4 : AV} {st : List AV} {sh : Shp} {I : IM} {R : RM} {x : Int} : ev S d 73 21 [a0, a1, a2, .inl x, a4] st (sh, I, R) = ev S d 73 22 [a0, a1, a2, .inl x, a4] (.inl x :: st) (sh, I, R) := (ev_eq f_73_21).trans rfl
theorem f_73_22 : fetch 73 22 = some (22, .invokevirtual 47, 3, [34, 3, 65], 0) := (fm_73 22).trans rfl
theorem u_73_22 {S : Scr} {d : Nat} {a0 a1 a2 a3 a4 : AV} {st : List AV} {sh : Shp} {I : IM} {R : RM} {x0 : Int} {x1 : Int} {x2 : Int} {k : Nat} (h : tg sh k = 3) (hr : st.length ≤ 8) : ev S d 73 22 [a0, a1, a2, a3, a4] (.inl x2 :: .inl x1 :: .inl x0 :: .inr (.inl k) :: st) (sh, I, R) = bnd (cl d 34 [.inr (.inl k), .inl x0, .inl x1, .inl x2] (sh, I, R)) (fun v M => ev S d 73 25 [a0, a1, a2, a3, a4] (psh v st) M) := (ev_eq f_73_22).trans (congrArg (fin S d 73) (if_pos ⟨h, rfl, hr⟩))
theorem f_73_25 : fetch 73 25 = some (25, .iload 4, 2, [4], 0) := (fm_73 25).trans rfl
theorem u_73_25 {S : Scr} {d : Nat} {a0 a1 a2 a3 : AV} {st : List AV} {sh : Shp} {I : IM} {R : RM} {x : Int} : ev S d 73 25 [a0, a1, a2, a3, .inl x] st (sh, I, R) = ev S d 73 27 [a0, a1, a2, a3, .inl x] (.inl x :: st) (sh, I, R) := (ev_eq f_73_25).trans rfl
theorem f_73_27 : fetch 73 27 = some (27, .ireturn, 1, [0], 0) := (fm_73 27).trans rfl
theorem u_73_27 {S : Scr} {d : Nat} {a0 a1 a2 a3 a4 : AV} {sh : Shp} {I : IM} {R : RM} {x : Int} : ev S d 73 27 [a0, a1, a2, a3, a4] [.inl x] (sh, I, R) = some (some (.inl x), (sh, I, R)) := (ev_eq f_73_27).trans fin_iret0
theorem c_74 {d : Nat} {a0 a1 : AV} {M : Mem} : cl (d + 1) 74 [a0, a1] M = ev S0 d 74 0 [a0, a1, .inr (.inr 1)] [] M := (cl_eq (as := [a0, a1]) (show 2 ≤ maxOf 74 by decide +kernel)).trans rfl
theorem mt_74 : MT[74]? = some m_74 := rfl
theorem fm_74 (pc : Nat) : fetch 74 pc = lk m_74.2.2.2.2.2 pc := by
  unfold fetch
  rw [mt_74]
theorem f_74_0 : fetch 74 0 = some (0, .aload_n 0, 1, [0], 0) := (fm_74 0).trans rfl
theorem u_74_0 {S : Scr} {d : Nat} {a1 a2 : AV} {st : List AV} {sh : Shp} {I : IM} {R : RM} {x : Nat} : ev S d 74 0 [.inr (.inl x), a1, a2] st (sh, I, R) = ev S d 74 1 [.inr (.inl x), a1, a2] (.inr (.inl x) :: st) (sh, I, R) := (ev_eq f_74_0).trans rfl
theorem f_74_1 : fetch 74 1 = some (1, .invokevirtual 43, 3, [71, 0, 64], 0) := (fm_74 1).trans rfl
theorem u_74_1 {S : Scr} {d : Nat} {a0 a1 a2 : AV} {st : List AV} {sh : Shp} {I : IM} {R : RM} {k : Nat} (h : tg sh k = 7) (hr : st.length ≤ 8) : ev S d 74 1 [a0, a1, a2] (.inr (.inl k) :: st) (sh, I, R) = bnd (cl d 71 [.inr (.inl k)] (sh, I, R)) (fun v M => ev S d 74 4 [a0, a1, a2] (psh v st) M) := (ev_eq f_74_1).trans (congrArg (fin S d 74) (if_pos ⟨h, rfl, hr⟩))
theorem f_74_4 : fetch 74 4 = some (4, .istore_n 2, 1, [2], 0) := (fm_74 4).trans rfl
theorem u_74_4 {S : Scr} {d : Nat} {a0 a1 a2 : AV} {st : List AV} {sh : Shp} {I : IM} {R : RM} {x : Int} : ev S d 74 4 [a0, a1, a2] (.inl x :: st) (sh, I, R) = ev S d 74 5 [a0, a1, .inl x] st (sh, I, R) := (ev_eq f_74_4).trans rfl
theorem f_74_5 : fetch 74 5 = some (5, .iload_n 2, 1, [2], 0) := (fm_74 5).trans rfl
theorem u_74_5 {S : Scr} {d : Nat} {a0 a1 : AV} {st : List AV} {sh : Shp} {I : IM} {R : RM} {x : Int} : ev S d 74 5 [a0, a1, .inl x] st (sh, I, R) = ev S d 74 6 [a0, a1, .inl x] (.inl x :: st) (sh, I, R) := (ev_eq f_74_5).trans rfl
theorem f_74_6 : fetch 74 6 = some (6, .iconst (-1), 1, [], (-1)) := (fm_74 6).trans rfl
theorem u_74_6 {S : Scr} {d : Nat} {a0 a1 a2 : AV} {st : List AV} {sh : Shp} {I : IM} {R : RM} : ev S d 74 6 [a0, a1, a2] st (sh, I, R) = ev S d 74 7 [a0, a1, a2] (.inl (-1) :: st) (sh, I, R) := (ev_eq f_74_6).trans rfl
theorem f_74_7 : fetch 74 7 = some (7, .if_icmp .eq 17, 3, [24], 0) := (fm_74 7).trans rfl
theorem u_74_7 {S : Scr} {d : Nat} {a0 a1 a2 : AV} {st : List AV} {sh : Shp} {I : IM} {R : RM} {x y : Int} : ev S d 74 7 [a0, a1, a2] (.inl y :: .inl x :: st) (sh, I, R) = if x = y then ev S d 74 24 [a0, a1, a2] st (sh, I, R) else ev S d 74 10 [a0, a1, a2] st (sh, I, R) := (ev_eq f_74_7).trans fin_icmp_eq
theorem f_74_10 : fetch 74 10 = some (10, .aload_n 1, 1, [1], 0) := (fm_74 10).trans rfl
theorem u_74_10 {S : Scr} {d : Nat} {a0 a2 : AV} {st : List AV} {sh : Shp} {I : IM} {R : RM} {x : Nat} : ev S d 74 10 [a0, .inr (.inl x), a2] st (sh, I, R) = ev S d 74 11 [a0, .inr (.inl x), a2] (.inr (.inl x) :: st) (sh, I, R) := (ev_eq f_74_10).trans rfl
theorem u_74_10n {S : Scr} {d : Nat} {a0 a2 : AV} {st : List AV} {sh : Shp} {I : IM} {R : RM} : ev S d 74 10 [a0, .inr (.inr 0), a2] st (sh, I, R) = ev S d 74 11 [a0, .inr (.inr 0), a2] (.inr (.inr 0) :: st) (sh, I, R) := (ev_eq f_74_10).trans rfl
theorem f_74_11 : fetch 74 11 = some (11, .ifnull 13, 3, [24], 0) := (fm_74 11).trans rfl
theorem u_74_11 {S : Scr} {d : Nat} {a0 a1 a2 : AV} {st : List AV} {sh : Shp} {I : IM} {R : RM} {x : Nat} : ev S d 74 11 [a0, a1, a2] (.inr (.inl x) :: st) (sh, I, R) = ev S d 74 14 [a0, a1, a2] st (sh, I, R) := (ev_eq f_74_11).trans rfl
theorem u_74_11n {S : Scr} {d : Nat} {a0 a1 a2 : AV} {st : List AV} {sh : Shp} {I : IM} {R : RM} : ev S d 74 11 [a0, a1, a2] (.inr (.inr 0) :: st) (sh, I, R) = ev S d 74 24 [a0, a1, a2] st (sh, I, R) := (ev_eq f_74_11).trans rfl
theorem f_74_14 : fetch 74 14 = some (14, .aload_n 0, 1, [0], 0) := (fm_74 14).trans rfl
theorem u_74_14 {S : Scr} {d : Nat} {a1 a2 : AV} {st : List AV} {sh : Shp} {I : IM} {R : RM} {x : Nat} : ev S d 74 14 [.inr (.inl x), a1, a2] st (sh, I, R) = ev S d 74 15 [.inr (.inl x), a1, a2] (.inr (.inl x) :: st) (sh, I, R) := (ev_eq f_74_14).trans rfl
theorem f_74_15 : fetch 74 15 = some (15, .getfield 11, 3, [7, 0, 1, 49], 0) := (fm_74 15).trans rfl
theorem u_74_15 {S : Scr} {d : Nat} {a0 a1 a2 : AV} {st : List AV} {sh : Shp} {I : IM} {R : RM} {k : Nat} (h : tg sh k = 7) : ev S d 74 15 [a0, a1, a2] (.inr (.inl k) :: st) (sh, I, R) = ev S d 74 18 [a0, a1, a2] (rv (R k 0) :: st) (sh, I, R) := (ev_eq f_74_15).trans (congrArg (fin S d 74) (if_pos h))
theorem f_74_18 : fetch 74 18 = some (18, .iload_n 2, 1, [2], 0) := (fm_74 18).trans rfl
theorem u_74_18 {S : Scr} {d : Nat} {a0 a1 : AV} {st : List AV} {sh : Shp} {I : IM} {R : RM} {x : Int} : ev S d 74 18 [a0, a1, .inl x] st (sh, I, R) = ev S d 74 19 [a0, a1, .inl x] (.inl x :: st) (sh, I, R) := (ev_eq f_74_18).trans rfl
theorem f_74_19 : fetch 74 19 = some (19, .aaload, 1, [], 0) := (fm_74 19).trans rfl
theorem u_74_19 {S : Scr} {d : Nat} {a0 a1 a2 : AV} {st : List AV} {sh : Shp} {I : IM} {R : RM} {k : Nat} {i : Int} (h : 200 ≤ tg sh k ∧ tg sh k < 210) (h0 : 0 ≤ i) (h1 : i < ln sh k) : ev S d 74 19 [a0, a1, a2] (.inl i :: .inr (.inl k) :: st) (sh, I, R) = ev S d 74 20 [a0, a1, a2] (rv (R k i) :: st) (sh, I, R) := (ev_eq f_74_19).trans (congrArg (fin S d 74) (if_pos ⟨h.1, h.2, h0, h1⟩))
theorem f_74_20 : fetch 74 20 = some (20, .aload_n 1, 1, [1], 0) := (fm_74 20).trans rfl
theorem u_74_20 {S : Scr} {d : Nat} {a0 a2 : AV} {st : List AV} {sh : Shp} {I : IM} {R : RM} {x : Nat} : ev S d 74 20 [a0, .inr (.inl x), a2] st (sh, I, R) = ev S d 74 21 [a0, .inr (.inl x), a2] (.inr (.inl x) :: st) (sh, I, R) := (ev_eq f_74_20).trans rfl
theorem u_74_20n {S : Scr} {d : Nat} {a0 a2 : AV} {st : List AV} {sh : Shp} {I : IM} {R : RM} : ev S d 74 20 [a0, .inr (.inr 0), a2] st (sh, I, R) = ev S d 74 21 [a0, .inr (.inr 0), a2] (.inr (.inr 0) :: st) (sh, I, R) := (ev_eq f_74_20).trans rfl
theorem f_74_21 : fetch 74 21 = some (21, .invokevirtual 51, 3, [35, 1, 66], 0) := (fm_74 21).trans rfl
theorem u_74_21 {S : Scr} {d : Nat} {a0 a1 a2 : AV} {st : List AV} {sh : Shp} {I : IM} {R : RM} {x0 : Nat} {k : Nat} (h : tg sh k = 3) (hr : st.length ≤ 8) : ev S d 74 21 [a0, a1, a2] (.inr (.inl x0) :: .inr (.inl k) :: st) (sh, I, R) = bnd (cl d 35 [.inr (.inl k), .inr (.inl x0)] (sh, I, R)) (fun v M => ev S d 74 24 [a0, a1, a2] (psh v st) M) := (ev_eq f_74_21).trans (congrArg (fin S d 74) (if_pos ⟨h, rfl, hr⟩))
theorem u_74_21n {S : Scr} {d : Nat} {a0 a1 a2 : AV} {st : List AV} {sh : Shp} {I : IM} {R : RM} {k : Nat} (h : tg sh k = 3) (hr : st.length ≤ 8) : ev S d 74 21 [a0, a1, a2] (.inr (.inr 0) :: .inr (.inl k) :: st) (sh, I, R) = bnd (cl d 35 [.inr (.inl k), .inr (.inr 0)] (sh, I, R)) (fun v M => ev S d 74 24 [a0, a1, a2] (psh v st) M) := (ev_eq f_74_21).trans (congrArg (fin S d 74) (if_pos ⟨h, rfl, hr⟩))
theorem f_74_24 : fetch 74 24 = some (24, .iload_n 2, 1, [2], 0) := (fm_74 24).trans rfl
theorem u_74_24 {S : Scr} {d : Nat} {a0 a1 : AV} {st : List AV} {sh : Shp} {I : IM} {R : RM} {x : Int} : ev S d 74 24 [a0, a1, .inl x] st (sh, I, R) = ev S d 74 25 [a0, a1, .inl x] (.inl x :: st) (sh, I, R) := (ev_eq f_74_24).trans rfl
theorem f_74_25 : fetch 74 25 = some (25, .ireturn, 1, [0], 0) := (fm_74 25).trans rfl
theorem u_74_25 {S : Scr} {d : Nat} {a0 a1 a2 : AV} {sh : Shp} {I : IM} {R : RM} {x : Int} : ev S d 74 25 [a0, a1, a2] [.inl x] (sh, I, R) = some (some (.inl x), (sh, I, R)) := (ev_eq f_74_25).trans fin_iret0
theorem c_75 {d : Nat} {a0 a1 : AV} {M : Mem} : cl (d + 1) 75 [a0, a1] M = ev S0 d 75 0 [a0, a1] [] M := (cl_eq (as := [a0, a1]) (show 2 ≤ maxOf 75 by decide +kernel)).trans rfl
theorem mt_75 : MT[75]? = some m_75 := rfl
theorem fm_75 (pc : Nat) : fetch 75 pc = lk m_75.2.2.2.2.2 pc := by
  unfold fetch
  rw [mt_75]
theorem f_75_0 : fetch 75 0 = some (0, .iload_n 1, 1, [1], 0) := (fm_75 0).trans rfl
theorem u_75_0 {S : Scr} {d : Nat} {a0 : AV} {st : List AV} {sh : Shp} {I : IM} {R : RM} {x : Int} : ev S d 75 0 [a0, .inl x] st (sh, I, R) = ev S d 75 1 [a0, .inl x] (.inl x :: st) (sh, I, R) := (ev_eq f_75_0).trans rfl
theorem f_75_1 : fetch 75 1 = some (1, .ifCond .lt 21, 3, [22], 0) := (fm_75 1).trans rfl
theorem u_75_1 {S : Scr} {d : Nat} {a0 a1 : AV} {st : List AV} {sh : Shp} {I : IM} {R : RM} {x : Int} : ev S d 75 1 [a0, a1] (.inl x :: st) (sh, I, R) = if x < 0 then ev S d 75 22 [a0, a1] st (sh, I, R) else ev S d 75 4 [a0, a1] st (sh, I, R) := (ev_eq f_75_1).trans fin_if_lt
theorem f_75_4 : fetch 75 4 = some (4, .iload_n 1, 1, [1], 0) := (fm_75 4).trans rfl
theorem u_75_4 {S : Scr} {d : Nat} {a0 : AV} {st : List AV} {sh : Shp} {I : IM} {R : RM} {x : Int} : ev S d 75 4 [a0, .inl x] st (sh, I, R) = ev S d 75 5 [a0, .inl x] (.inl x :: st) (sh, I, R) := (ev_eq f_75_4).trans rfl
theorem f_75_5 : fetch 75 5 = some (5, .bipush 30, 2, [], 30) := (fm_75 5).trans rfl
theorem u_75_5 {S : Scr} {d : Nat} {a0 a1 : AV} {st : List AV} {sh : Shp} {I : IM} {R : RM} : ev S d 75 5 [a0, a1] st (sh, I, R) = ev S d 75 7 [a0, a1] (.inl 30 :: st) (sh, I, R) := (ev_eq f_75_5).trans rfl
theorem f_75_7 : fetch 75 7 = some (7, .if_icmp .ge 15, 3, [22], 0) := (fm_75 7).trans rfl
theorem u_75_7 {S : Scr} {d : Nat} {a0 a1 : AV} {st : List AV} {sh : Shp} {I : IM} {R : RM} {x y : Int} : ev S d 75 7 [a0, a1] (.inl y :: .inl x :: st) (sh, I, R) = if y ≤ x then ev S d 75 22 [a0, a1] st (sh, I, R) else ev S d 75 10 [a0, a1] st (sh, I, R) := (ev_eq f_75_7).trans fin_icmp_ge
theorem f_75_10 : fetch 75 10 = some (10, .aload_n 0, 1, [0], 0) := (fm_75 10).trans rfl
theorem u_75_10 {S : Scr} {d : Nat} {a1 : AV} {st : List AV} {sh : Shp} {I : IM} {R : RM} {x : Nat} : ev S d 75 10 [.inr (.inl x), a1] st (sh, I, R) = ev S d 75 11 [.inr (.inl x), a1] (.inr (.inl x) :: st) (sh, I, R) := (ev_eq f_75_10).trans rfl
theorem f_75_11 : fetch 75 11 = some (11, .getfield 11, 3, [7, 0, 1, 49], 0) := (fm_75 11).trans rfl
theorem u_75_11 {S : Scr} {d : Nat} {a0 a1 : AV} {st : List AV} {sh : Shp} {I : IM} {R : RM} {k : Nat} (h : tg sh k = 7) : ev S d 75 11 [a0, a1] (.inr (.inl k) :: st) (sh, I, R) = ev S d 75 14 [a0, a1] (rv (R k 0) :: st) (sh, I, R) := (ev_eq f_75_11).trans (congrArg (fin S d 75) (if_pos h))
theorem f_75_14 : fetch 75 14 = some (14, .iload_n 1, 1, [1], 0) := (fm_75 14).trans rfl
theorem u_75_14 {S : Scr} {d : Nat} {a0 : AV} {st : List AV} {sh : Shp} {I : IM} {R : RM} {x : Int} : ev S d 75 14 [a0, .inl x] st (sh, I, R) = ev S d 75 15 [a0, .inl x] (.inl x :: st) (sh, I, R) := (ev_eq f_75_14).trans rfl
theorem f_75_15 : fetch 75 15 = some (15, .aaload, 1, [], 0) := (fm_75 15).trans rfl
theorem u_75_15 {S : Scr} {d : Nat} {a0 a1 : AV} {st : List AV} {sh : Shp} {I : IM} {R : RM} {k : Nat} {i : Int} (h : 200 ≤ tg sh k ∧ tg sh k < 210) (h0 : 0 ≤ i) (h1 : i < ln sh k) : ev S d 75 15 [a0, a1] (.inl i :: .inr (.inl k) :: st) (sh, I, R) = ev S d 75 16 [a0, a1] (rv (R k i) :: st) (sh, I, R) := (ev_eq f_75_15).trans (congrArg (fin S d 75) (if_pos ⟨h.1, h.2, h0, h1⟩))
theorem f_75_16 : fetch 75 16 = some (16, .iconst 0, 1, [], 0) := (fm_75 16).trans rfl
theorem u_75_16 {S : Scr} {d : Nat} {a0 a1 : AV} {st : List AV} {sh : Shp} {I : IM} {R : RM} : ev S d 75 16 [a0, a1] st (sh, I, R) = ev S d 75 17 [a0, a1] (.inl 0 :: st) (sh, I, R) := (ev_eq f_75_16).trans rfl
theorem f_75_17 : fetch 75 17 = some (17, .iconst 0, 1, [], 0) := (fm_75 17).trans rfl
theorem u_75_17 {S : Scr} {d : Nat} {a0 a1 : AV} {st : List AV} {sh : Shp} {I : IM} {R : RM} : ev S d 75 17 [a0, a1] st (sh, I, R) = ev S d 75 18 [a0, a1] (.inl 0 :: st) (sh, I, R) := (ev_eq f_75_17).trans rfl
theorem f_75_18 : fetch 75 18 = some (18, .iconst 0, 1, [], 0) := (fm_75 18).trans rfl
theorem u_75_18 {S : Scr} {d : Nat} {a0 a1 : AV} {st : List AV} {sh : Shp} {I : IM} {R : RM} : ev S d 75 18 [a0, a1] st (sh, I, R) = ev S d 75 19 [a0, a1] (.inl 0 :: st) (sh, I, R) := (ev_eq f_75_18).trans rfl
theorem f_75_19 : fetch 75 19 = some (19, .invokevirtual 47, 3, [34, 3, 65], 0) := (fm_75 19).trans rfl
theorem u_75_19 {S : Scr} {d : Nat} {a0 a1 : AV} {st : List AV} {sh : Shp} {I : IM} {R : RM} {x0 : Int} {x1 : Int} {x2 : Int} {k : Nat} (h : tg sh k = 3) (hr : st.length ≤ 8) : ev S d 75 19 [a0, a1] (.inl x2 :: .inl x1 :: .inl x0 :: .inr (.inl k) :: st) (sh, I, R) = bnd (cl d 34 [.inr (.inl k), .inl x0, .inl x1, .inl x2] (sh, I, R)) (fun v M => ev S d 75 22 [a0, a1] (psh v st) M) := (ev_eq f_75_19).trans (congrArg (fin S d 75) (if_pos ⟨h, rfl, hr⟩))
theorem f_75_22 : fetch 75 22 = some (22, .return_, 1, [], 0) := (fm_75 22).trans rfl
theorem u_75_22 {S : Scr} {d : Nat} {a0 a1 : AV} {sh : Shp} {I : IM} {R : RM} : ev S d 75 22 [a0, a1] [] (sh, I, R) = some (none, (sh, I, R)) := (ev_eq f_75_22).trans rfl
theorem c_76 {d : Nat} {a0 a1 : AV} {M : Mem} : cl (d + 1) 76 [a0, a1] M = ev S0 d 76 0 [a0, a1, .inr (.inr 1)] [] M := (cl_eq (as := [a0, a1]) (show 2 ≤ maxOf 76 by decide +kernel)).trans rfl
theorem mt_76 : MT[76]? = some m_76 := rfl
theorem fm_76 (pc : Nat) : fetch 76 pc = lk m_76.2.2.2.2.2 pc := by
  unfold fetch
  rw [mt_76]
theorem f_76_0 : fetch 76 0 = some (0, .aload_n 0, 1, [0], 0) := (fm_76 0).trans rfl
theorem u_76_0 {S : Scr} {d : Nat} {a1 a2 : AV} {st : List AV} {sh : Shp} {I : IM} {R : RM} {x : Nat} : ev S d 76 0 [.inr (.inl x), a1, a2] st (sh, I, R) = ev S d 76 1 [.inr (.inl x), a1, a2] (.inr (.inl x) :: st) (sh, I, R) := (ev_eq f_76_0).trans rfl
theorem f_76_1 : fetch 76 1 = some (1, .aload_n 1, 1, [1], 0) := (fm_76 1).trans rfl
theorem u_76_1 {S : Scr} {d : Nat} {a0 a2 : AV} {st : List AV} {sh : Shp} {I : IM} {R : RM} {x : Nat} : ev S d 76 1 [a0, .inr (.inl x), a2] st (sh, I, R) = ev S d 76 2 [a0, .inr (.inl x), a2] (.inr (.inl x) :: st) (sh, I, R) := (ev_eq f_76_1).trans rfl
theorem u_76_1n {S : Scr} {d : Nat} {a0 a2 : AV} {st : List AV} {sh : Shp} {I : IM} {R : RM} : ev S d 76 1 [a0, .inr (.inr 0), a2] st (sh, I, R) = ev S d 76 2 [a0, .inr (.inr 0), a2] (.inr (.inr 0) :: st) (sh, I, R) := (ev_eq f_76_1).trans rfl
theorem f_76_2 : fetch 76 2 = some (2, .getfield 31, 3, [3, 2, 0, 52], 0) := (fm_76 2).trans rfl
theorem u_76_2 {S : Scr} {d : Nat} {a0 a1 a2 : AV} {st : List AV} {sh : Shp} {I : IM} {R : RM} {k : Nat} (h : tg sh k = 3) : ev S d 76 2 [a0, a1, a2] (.inr (.inl k) :: st) (sh, I, R) = ev S d 76 5 [a0, a1, a2] (.inl (I k 2) :: st) (sh, I, R) := (ev_eq f_76_2).trans (congrArg (fin S d 76) (if_pos h))
theorem f_76_5 : fetch 76 5 = some (5, .invokevirtual 55, 3, [70, 1, 67], 0) := (fm_76 5).trans rfl
theorem u_76_5 {S : Scr} {d : Nat} {a0 a1 a2 : AV} {st : List AV} {sh : Shp} {I : IM} {R : RM} {x0 : Int} {k : Nat} (h : tg sh k = 7) (hr : st.length ≤ 8) : ev S d 76 5 [a0, a1, a2] (.inl x0 :: .inr (.inl k) :: st) (sh, I, R) = bnd (cl d 70 [.inr (.inl k), .inl x0] (sh, I, R)) (fun v M => ev S d 76 8 [a0, a1, a2] (psh v st) M) := (ev_eq f_76_5).trans (congrArg (fin S d 76) (if_pos ⟨h, rfl, hr⟩))
theorem f_76_8 : fetch 76 8 = some (8, .astore_n 2, 1, [2], 0) := (fm_76 8).trans rfl
theorem u_76_8 {S : Scr} {d : Nat} {a0 a1 a2 : AV} {st : List AV} {sh : Shp} {I : IM} {R : RM} {x : Nat} : ev S d 76 8 [a0, a1, a2] (.inr (.inl x) :: st) (sh, I, R) = ev S d 76 9 [a0, a1, .inr (.inl x)] st (sh, I, R) := (ev_eq f_76_8).trans rfl
theorem u_76_8n {S : Scr} {d : Nat} {a0 a1 a2 : AV} {st : List AV} {sh : Shp} {I : IM} {R : RM} : ev S d 76 8 [a0, a1, a2] (.inr (.inr 0) :: st) (sh, I, R) = ev S d 76 9 [a0, a1, .inr (.inr 0)] st (sh, I, R) := (ev_eq f_76_8).trans rfl
theorem f_76_9 : fetch 76 9 = some (9, .aload_n 2, 1, [2], 0) := (fm_76 9).trans rfl
theorem u_76_9 {S : Scr} {d : Nat} {a0 a1 : AV} {st : List AV} {sh : Shp} {I : IM} {R : RM} {x : Nat} : ev S d 76 9 [a0, a1, .inr (.inl x)] st (sh, I, R) = ev S d 76 10 [a0, a1, .inr (.inl x)] (.inr (.inl x) :: st) (sh, I, R) := (ev_eq f_76_9).trans rfl
theorem u_76_9n {S : Scr} {d : Nat} {a0 a1 : AV} {st : List AV} {sh : Shp} {I : IM} {R : RM} : ev S d 76 9 [a0, a1, .inr (.inr 0)] st (sh, I, R) = ev S d 76 10 [a0, a1, .inr (.inr 0)] (.inr (.inr 0) :: st) (sh, I, R) := (ev_eq f_76_9).trans rfl
theorem f_76_10 : fetch 76 10 = some (10, .ifnull 11, 3, [21], 0) := (fm_76 10).trans rfl
theorem u_76_10 {S : Scr} {d : Nat} {a0 a1 a2 : AV} {st : List AV} {sh : Shp} {I : IM} {R : RM} {x : Nat} : ev S d 76 10 [a0, a1, a2] (.inr (.inl x) :: st) (sh, I, R) = ev S d 76 13 [a0, a1, a2] st (sh, I, R) := (ev_eq f_76_10).trans rfl
theorem u_76_10n {S : Scr} {d : Nat} {a0 a1 a2 : AV} {st : List AV} {sh : Shp} {I : IM} {R : RM} : ev S d 76 10 [a0, a1, a2] (.inr (.inr 0) :: st) (sh, I, R) = ev S d 76 21 [a0, a1, a2] st (sh, I, R) := (ev_eq f_76_10).trans rfl
theorem f_76_13 : fetch 76 13 = some (13, .aload_n 1, 1, [1], 0) := (fm_76 13).trans rfl
theorem u_76_13 {S : Scr} {d : Nat} {a0 a2 : AV} {st : List AV} {sh : Shp} {I : IM} {R : RM} {x : Nat} : ev S d 76 13 [a0, .inr (.inl x), a2] st (sh, I, R) = ev S d 76 14 [a0, .inr (.inl x), a2] (.inr (.inl x) :: st) (sh, I, R) := (ev_eq f_76_13).trans rfl
theorem u_76_13n {S : Scr} {d : Nat} {a0 a2 : AV} {st : List AV} {sh : Shp} {I : IM} {R : RM} : ev S d 76 13 [a0, .inr (.inr 0), a2] st (sh, I, R) = ev S d 76 14 [a0, .inr (.inr 0), a2] (.inr (.inr 0) :: st) (sh, I, R) := (ev_eq f_76_13).trans rfl
theorem f_76_14 : fetch 76 14 = some (14, .getfield 59, 3, [3, 0, 1, 53], 0) := (fm_76 14).trans rfl
theorem u_76_14 {S : Scr} {d : Nat} {a0 a1 a2 : AV} {st : List AV} {sh : Shp} {I : IM} {R : RM} {k : Nat} (h : tg sh k = 3) : ev S d 76 14 [a0, a1, a2] (.inr (.inl k) :: st) (sh, I, R) = ev S d 76 17 [a0, a1, a2] (rv (R k 0) :: st) (sh, I, R) := (ev_eq f_76_14).trans (congrArg (fin S d 76) (if_pos h))
theorem f_76_17 : fetch 76 17 = some (17, .aload_n 2, 1, [2], 0) := (fm_76 17).trans rfl
theorem u_76_17 {S : Scr} {d : Nat} {a0 a1 : AV} {st : List AV} {sh : Shp} {I : IM} {R : RM} {x : Nat} : ev S d 76 17 [a0, a1, .inr (.inl x)] st (sh, I, R) = ev S d 76 18 [a0, a1, .inr (.inl x)] (.inr (.inl x) :: st) (sh, I, R) := (ev_eq f_76_17).trans rfl
theorem u_76_17n {S : Scr} {d : Nat} {a0 a1 : AV} {st : List AV} {sh : Shp} {I : IM} {R : RM} : ev S d 76 17 [a0, a1, .inr (.inr 0)] st (sh, I, R) = ev S d 76 18 [a0, a1, .inr (.inr 0)] (.inr (.inr 0) :: st) (sh, I, R) := (ev_eq f_76_17).trans rfl
theorem f_76_18 : fetch 76 18 = some (18, .invokevirtual 63, 3, [14, 1, 68], 0) := (fm_76 18).trans rfl
theorem u_76_18 {S : Scr} {d : Nat} {a0 a1 a2 : AV} {st : List AV} {sh : Shp} {I : IM} {R : RM} {x0 : Nat} {k : Nat} (h : tg sh k = 1) (hr : st.length ≤ 8) : ev S d 76 18 [a0, a1, a2] (.inr (.inl x0) :: .inr (.inl k) :: st) (sh, I, R) = bnd (cl d 14 [.inr (.inl k), .inr (.inl x0)] (sh, I, R)) (fun v M => ev S d 76 21 [a0, a1, a2] (psh v st) M) := (ev_eq f_76_18).trans (congrArg (fin S d 76) (if_pos ⟨h, rfl, hr⟩))
theorem u_76_18n {S : Scr} {d : Nat} {a0 a1 a2 : AV} {st : List AV} {sh : Shp} {I : IM} {R : RM} {k : Nat} (h : tg sh k = 1) (hr : st.length ≤ 8) : ev S d 76 18 [a0, a1, a2] (.inr (.inr 0) :: .inr (.inl k) :: st) (sh, I, R) = bnd (cl d 14 [.inr (.inl k), .inr (.inr 0)] (sh, I, R)) (fun v M => ev S d 76 21 [a0, a1, a2] (psh v st) M) := (ev_eq f_76_18).trans (congrArg (fin S d 76) (if_pos ⟨h, rfl, hr⟩))
theorem f_76_21 : fetch 76 21 = some (21, .return_, 1, [], 0) := (fm_76 21).trans rfl
theorem u_76_21 {S : Scr} {d : Nat} {a0 a1 a2 : AV} {sh : Shp} {I : IM} {R : RM} : ev S d 76 21 [a0, a1, a2] [] (sh, I, R) = some (none, (sh, I, R)) := (ev_eq f_76_21).trans rfl
theorem c_77 {d : Nat} {a0 a1 : AV} {M : Mem} : cl (d + 1) 77 [a0, a1] M = ev S0 d 77 0 [a0, a1, .inr (.inr 1)] [] M := (cl_eq (as := [a0, a1]) (show 2 ≤ maxOf 77 by decide +kernel)).trans rfl
theorem mt_77 : MT[77]? = some m_77 := rfl
theorem fm_77 (pc : Nat) : fetch 77 pc = lk m_77.2.2.2.2.2 pc := by
  unfold fetch
  rw [mt_77]
theorem f_77_0 : fetch 77 0 = some (0, .aload_n 0, 1, [0], 0) := (fm_77 0).trans rfl
theorem u_77_0 {S : Scr} {d : Nat} {a1 a2 : AV} {st : List AV} {sh : Shp} {I : IM} {R : RM} {x : Nat} : ev S d 77 0 [.inr (.inl x), a1, a2] st (sh, I, R) = ev S d 77 1 [.inr (.inl x), a1, a2] (.inr (.inl x) :: st) (sh, I, R) := (ev_eq f_77_0).trans rfl
theorem f_77_1 : fetch 77 1 = some (1, .aload_n 1, 1, [1], 0) := (fm_77 1).trans rfl
theorem u_77_1 {S : Scr} {d : Nat} {a0 a2 : AV} {st : List AV} {sh : Shp} {I : IM} {R : RM} {x : Nat} : ev S d 77 1 [a0, .inr (.inl x), a2] st (sh, I, R) = ev S d 77 2 [a0, .inr (.inl x), a2] (.inr (.inl x) :: st) (sh, I, R) := (ev_eq f_77_1).trans rfl
theorem u_77_1n {S : Scr} {d : Nat} {a0 a2 : AV} {st : List AV} {sh : Shp} {I : IM} {R : RM} : ev S d 77 1 [a0, .inr (.inr 0), a2] st (sh, I, R) = ev S d 77 2 [a0, .inr (.inr 0), a2] (.inr (.inr 0) :: st) (sh, I, R) := (ev_eq f_77_1).trans rfl
theorem f_77_2 : fetch 77 2 = some (2, .getfield 31, 3, [3, 2, 0, 52], 0) := (fm_77 2).trans rfl
theorem u_77_2 {S : Scr} {d : Nat} {a0 a1 a2 : AV} {st : List AV} {sh : Shp} {I : IM} {R : RM} {k : Nat} (h : tg sh k = 3) : ev S d 77 2 [a0, a1, a2] (.inr (.inl k) :: st) (sh, I, R) = ev S d 77 5 [a0, a1, a2] (.inl (I k 2) :: st) (sh, I, R) := (ev_eq f_77_2).trans (congrArg (fin S d 77) (if_pos h))
theorem f_77_5 : fetch 77 5 = some (5, .invokevirtual 55, 3, [70, 1, 67], 0) := (fm_77 5).trans rfl
theorem u_77_5 {S : Scr} {d : Nat} {a0 a1 a2 : AV} {st : List AV} {sh : Shp} {I : IM} {R : RM} {x0 : Int} {k : Nat} (h : tg sh k = 7) (hr : st.length ≤ 8) : ev S d 77 5 [a0, a1, a2] (.inl x0 :: .inr (.inl k) :: st) (sh, I, R) = bnd (cl d 70 [.inr (.inl k), .inl x0] (sh, I, R)) (fun v M => ev S d 77 8 [a0, a1, a2] (psh v st) M) := (ev_eq f_77_5).trans (congrArg (fin S d 77) (if_pos ⟨h, rfl, hr⟩))
theorem f_77_8 : fetch 77 8 = some (8, .astore_n 2, 1, [2], 0) := (fm_77 8).trans rfl
theorem u_77_8 {S : Scr} {d : Nat} {a0 a1 a2 : AV} {st : List AV} {sh : Shp} {I : IM} {R : RM} {x : Nat} : ev S d 77 8 [a0, a1, a2] (.inr (.inl x) :: st) (sh, I, R) = ev S d 77 9 [a0, a1, .inr (.inl x)] st (sh, I, R) := (ev_eq f_77_8).trans rfl
theorem u_77_8n {S : Scr} {d : Nat} {a0 a1 a2 : AV} {st : List AV} {sh : Shp} {I : IM} {R : RM} : ev S d 77 8 [a0, a1, a2] (.inr (.inr 0) :: st) (sh, I, R) = ev S d 77 9 [a0, a1, .inr (.inr 0)] st (sh, I, R) := (ev_eq f_77_8).trans rfl
theorem f_77_9 : fetch 77 9 = some (9, .aload_n 2, 1, [2], 0) := (fm_77 9).trans rfl
theorem u_77_9 {S : Scr} {d : Nat} {a0 a1 : AV} {st : List AV} {sh : Shp} {I : IM} {R : RM} {x : Nat} : ev S d 77 9 [a0, a1, .inr (.inl x)] st (sh, I, R) = ev S d 77 10 [a0, a1, .inr (.inl x)] (.inr (.inl x) :: st) (sh, I, R) := (ev_eq f_77_9).trans rfl
theorem u_77_9n {S : Scr} {d : Nat} {a0 a1 : AV} {st : List AV} {sh : Shp} {I : IM} {R : RM} : ev S d 77 9 [a0, a1, .inr (.inr 0)] st (sh, I, R) = ev S d 77 10 [a0, a1, .inr (.inr 0)] (.inr (.inr 0) :: st) (sh, I, R) := (ev_eq f_77_9).trans rfl
theorem f_77_10 : fetch 77 10 = some (10, .ifnonnull 7, 3, [17], 0) := (fm_77 10).trans rfl
theorem u_77_10 {S : Scr} {d : Nat} {a0 a1 a2 : AV} {st : List AV} {sh : Shp} {I : IM} {R : RM} {x : Nat} : ev S d 77 10 [a0, a1, a2] (.inr (.inl x) :: st) (sh, I, R) = ev S d 77 17 [a0, a1, a2] st (sh, I, R) := (ev_eq f_77_10).trans rfl
theorem u_77_10n {S : Scr} {d : Nat} {a0 a1 a2 : AV} {st : List AV} {sh : Shp} {I : IM} {R : RM} : ev S d 77 10 [a0, a1, a2] (.inr (.inr 0) :: st) (sh, I, R) = ev S d 77 13 [a0, a1, a2] st (sh, I, R) := (ev_eq f_77_10).trans rfl
theorem f_77_13 : fetch 77 13 = some (13, .iconst 0, 1, [], 0) := (fm_77 13).trans rfl
theorem u_77_13 {S : Scr} {d : Nat} {a0 a1 a2 : AV} {st : List AV} {sh : Shp} {I : IM} {R : RM} : ev S d 77 13 [a0, a1, a2] st (sh, I, R) = ev S d 77 14 [a0, a1, a2] (.inl 0 :: st) (sh, I, R) := (ev_eq f_77_13).trans rfl
theorem f_77_14 : fetch 77 14 = some (14, .goto 11, 3, [25], 0) := (fm_77 14).trans rfl
theorem u_77_14 {S : Scr} {d : Nat} {a0 a1 a2 : AV} {st : List AV} {sh : Shp} {I : IM} {R : RM} : ev S d 77 14 [a0, a1, a2] st (sh, I, R) = ev S d 77 25 [a0, a1, a2] st (sh, I, R) := (ev_eq f_77_14).trans rfl
theorem f_77_17 : fetch 77 17 = some (17, .aload_n 1, 1, [1], 0) := (fm_77 17).trans rfl
theorem u_77_17 {S : Scr} {d : Nat} {a0 a2 : AV} {st : List AV} {sh : Shp} {I : IM} {R : RM} {x : Nat} : ev S d 77 17 [a0, .inr (.inl x), a2] st (sh, I, R) = ev S d 77 18 [a0, .inr (.inl x), a2] (.inr (.inl x) :: st) (sh, I, R) := (ev_eq f_77_17).trans rfl
theorem u_77_17n {S : Scr} {d : Nat} {a0 a2 : AV} {st : List AV} {sh : Shp} {I : IM} {R : RM} : ev S d 77 17 [a0, .inr (.inr 0), a2] st (sh, I, R) = ev S d 77 18 [a0, .inr (.inr 0), a2] (.inr (.inr 0) :: st) (sh, I, R) := (ev_eq f_77_17).trans rfl
theorem f_77_18 : fetch 77 18 = some (18, .getfield 59, 3, [3, 0, 1, 53], 0) := (fm_77 18).trans rfl
theorem u_77_18 {S : Scr} {d : Nat} {a0 a1 a2 : AV} {st : List AV} {sh : Shp} {I : IM} {R : RM} {k : Nat} (h : tg sh k = 3) : ev S d 77 18 [a0, a1, a2] (.inr (.inl k) :: st) (sh, I, R) = ev S d 77 21 [a0, a1, a2] (rv (R k 0) :: st) (sh, I, R) := (ev_eq f_77_18).trans (congrArg (fin S d 77) (if_pos h))
theorem f_77_21 : fetch 77 21 = some (21, .aload_n 2, 1, [2], 0) := (fm_77 21).trans rfl
theorem u_77_21 {S : Scr} {d : Nat} {a0 a1 : AV} {st : List AV} {sh : Shp} {I : IM} {R : RM} {x : Nat} : ev S d 77 21 [a0, a1, .inr (.inl x)] st (sh, I, R) = ev S d 77 22 [a0, a1, .inr (.inl x)] (.inr (.inl x) :: st) (sh, I, R) := (ev_eq f_77_21).trans rfl
theorem u_77_21n {S : Scr} {d : Nat} {a0 a1 : AV} {st : List AV} {sh : Shp} {I : IM} {R : RM} : ev S d 77 21 [a0, a1, .inr (.inr 0)] st (sh, I, R) = ev S d 77 22 [a0, a1, .inr (.inr 0)] (.inr (.inr 0) :: st) (sh, I, R) := (ev_eq f_77_21).trans rfl
theorem f_77_22 : fetch 77 22 = some (22, .invokevirtual 67, 3, [15, 1, 69], 0) := (fm_77 22).trans rfl
theorem u_77_22 {S : Scr} {d : Nat} {a0 a1 a2 : AV} {st : List AV} {sh : Shp} {I : IM} {R : RM} {x0 : Nat} {k : Nat} (h : tg sh k = 1) (hr : st.length ≤ 8) : ev S d 77 22 [a0, a1, a2] (.inr (.inl x0) :: .inr (.inl k) :: st) (sh, I, R) = bnd (cl d 15 [.inr (.inl k), .inr (.inl x0)] (sh, I, R)) (fun v M => ev S d 77 25 [a0, a1, a2] (psh v st) M) := (ev_eq f_77_22).trans (congrArg (fin S d 77) (if_pos ⟨h, rfl, hr⟩))
theorem u_77_22n {S : Scr} {d : Nat} {a0 a1 a2 : AV} {st : List AV} {sh : Shp} {I : IM} {R : RM} {k : Nat} (h : tg sh k = 1) (hr : st.length ≤ 8) : ev S d 77 22 [a0, a1, a2] (.inr (.inr 0) :: .inr (.inl k) :: st) (sh, I, R) = bnd (cl d 15 [.inr (.inl k), .inr (.inr 0)] (sh, I, R)) (fun v M => ev S d 77 25 [a0, a1, a2] (psh v st) M) := (ev_eq f_77_22).trans (congrArg (fin S d 77) (if_pos ⟨h, rfl, hr⟩))
theorem f_77_25 : fetch 77 25 = some (25, .ireturn, 1, [0], 0) := (fm_77 25).trans rfl
theorem u_77_25 {S : Scr} {d : Nat} {a0 a1 a2 : AV} {sh : Shp} {I : IM} {R : RM} {x : Int} : ev S d 77 25 [a0, a1, a2] [.inl x] (sh, I, R) = some (some (.inl x), (sh, I, R)) := (ev_eq f_77_25).trans fin_iret0
theorem c_78 {d : Nat} {a0 a1 : AV} {M : Mem} : cl (d + 1) 78 [a0, a1] M = ev S0 d 78 0 [a0, a1, .inr (.inr 1), .inr (.inr 1)] [] M := (cl_eq (as := [a0, a1]) (show 2 ≤ maxOf 78 by decide +kernel)).trans rfl
theorem mt_78 : MT[78]? = some m_78 := rfl
theorem fm_78 (pc : Nat) : fetch 78 pc = lk m_78.2.2.2.2.2 pc := by
  unfold fetch
  rw [mt_78]
theorem f_78_0 : fetch 78 0 = some (0, .iconst 0, 1, [], 0) := (fm_78 0).trans rfl
theorem u_78_0 {S : Scr} {d : Nat} {a0 a1 a2 a3 : AV} {st : List AV} {sh : Shp} {I : IM} {R : RM} : ev S d 78 0 [a0, a1, a2, a3] st (sh, I, R) = ev S d 78 1 [a0, a1, a2, a3] (.inl 0 :: st) (sh, I, R) := (ev_eq f_78_0).trans rfl
theorem f_78_1 : fetch 78 1 = some (1, .istore_n 2, 1, [2], 0) := (fm_78 1).trans rfl
theorem u_78_1 {S : Scr} {d : Nat} {a0 a1 a2 a3 : AV} {st : List AV} {sh : Shp} {I : IM} {R : RM} {x : Int} : ev S d 78 1 [a0, a1, a2, a3] (.inl x :: st) (sh, I, R) = ev S d 78 2 [a0, a1, .inl x, a3] st (sh, I, R) := (ev_eq f_78_1).trans rfl
theorem f_78_2 : fetch 78 2 = some (2, .iconst 0, 1, [], 0) := (fm_78 2).trans rfl
theorem u_78_2 {S : Scr} {d : Nat} {a0 a1 a2 a3 : AV} {st : List AV} {sh : Shp} {I : IM} {R : RM} : ev S d 78 2 [a0, a1, a2, a3] st (sh, I, R) = ev S d 78 3 [a0, a1, a2, a3] (.inl 0 :: st) (sh, I, R) := (ev_eq f_78_2).trans rfl
theorem f_78_3 : fetch 78 3 = some (3, .istore_n 3, 1, [3], 0) := (fm_78 3).trans rfl
theorem u_78_3 {S : Scr} {d : Nat} {a0 a1 a2 a3 : AV} {st : List AV} {sh : Shp} {I : IM} {R : RM} {x : Int} : ev S d 78 3 [a0, a1, a2, a3] (.inl x :: st) (sh, I, R) = ev S d 78 4 [a0, a1, a2, .inl x] st (sh, I, R) := (ev_eq f_78_3).trans rfl
theorem f_78_4 : fetch 78 4 = some (4, .iload_n 3, 1, [3], 0) := (fm_78 4).trans rfl
theorem u_78_4 {S : Scr} {d : Nat} {a0 a1 a2 : AV} {st : List AV} {sh : Shp} {I : IM} {R : RM} {x : Int} : ev S d 78 4 [a0, a1, a2, .inl x] st (sh, I, R) = ev S d 78 5 [a0, a1, a2, .inl x] (.inl x :: st) (sh, I, R) := (ev_eq f_78_4).trans rfl
theorem f_78_5 : fetch 78 5 = some (5, .bipush 30, 2, [], 30) := (fm_78 5).trans rfl
theorem u_78_5 {S : Scr} {d : Nat} {a0 a1 a2 a3 : AV} {st : List AV} {sh : Shp} {I : IM} {R : RM} : ev S d 78 5 [a0, a1, a2, a3] st (sh, I, R) = ev S d 78 7 [a0, a1, a2, a3] (.inl 30 :: st) (sh, I, R) := (ev_eq f_78_5).trans rfl
theorem f_78_7 : fetch 78 7 = some (7, .if_icmp .ge 30, 3, [37], 0) := (fm_78 7).trans rfl
theorem u_78_7 {S : Scr} {d : Nat} {a0 a1 a2 a3 : AV} {st : List AV} {sh : Shp} {I : IM} {R : RM} {x y : Int} : ev S d 78 7 [a0, a1, a2, a3] (.inl y :: .inl x :: st) (sh, I, R) = if y ≤ x then ev S d 78 37 [a0, a1, a2, a3] st (sh, I, R) else ev S d 78 10 [a0, a1, a2, a3] st (sh, I, R) := (ev_eq f_78_7).trans fin_icmp_ge
theorem f_78_10 : fetch 78 10 = some (10, .iload_n 2, 1, [2], 0) := (fm_78 10).trans rfl
theorem u_78_10 {S : Scr} {d : Nat} {a0 a1 a3 : AV} {st : List AV} {sh : Shp} {I : IM} {R : RM} {x : Int} : ev S d 78 10 [a0, a1, .inl x, a3] st (sh, I, R) = ev S d 78 11 [a0, a1, .inl x, a3] (.inl x :: st) (sh, I, R) := (ev_eq f_78_10).trans rfl
theorem f_78_11 : fetch 78 11 = some (11, .aload_n 0, 1, [0], 0) := (fm_78 11).trans rfl
theorem u_78_11 {S : Scr} {d : Nat} {a1 a2 a3 : AV} {st : List AV} {sh : Shp} {I : IM} {R : RM} {x : Nat} : ev S d 78 11 [.inr (.inl x), a1, a2, a3] st (sh, I, R) = ev S d 78 12 [.inr (.inl x), a1, a2, a3] (.inr (.inl x) :: st) (sh, I, R) := (ev_eq f_78_11).trans rfl
theorem f_78_12 : fetch 78 12 = some (12, .getfield 11, 3, [7, 0, 1, 49], 0) := (fm_78 12).trans rfl
theorem u_78_12 {S : Scr} {d : Nat} {a0 a1 a2 a3 : AV} {st : List AV} {sh : Shp} {I : IM} {R : RM} {k : Nat} (h : tg sh k = 7) : ev S d 78 12 [a0, a1, a2, a3] (.inr (.inl k) :: st) (sh, I, R) = ev S d 78 15 [a0, a1, a2, a3] (rv (R k 0) :: st) (sh, I, R) := (ev_eq f_78_12).trans (congrArg (fin S d 78) (if_pos h))
theorem f_78_15 : fetch 78 15 = some (15, .iload_n 3, 1, [3], 0) := (fm_78 15).trans rfl
theorem u_78_15 {S : Scr} {d : Nat} {a0 a1 a2 : AV} {st : List AV} {sh : Shp} {I : IM} {R : RM} {x : Int} : ev S d 78 15 [a0, a1, a2, .inl x] st (sh, I, R) = ev S d 78 16 [a0, a1, a2, .inl x] (.inl x :: st) (sh, I, R) := (ev_eq f_78_15).trans rfl
theorem f_78_16 : fetch 78 16 = some (16, .aaload, 1, [], 0) := (fm_78 16).trans rfl
theorem u_78_16 {S : Scr} {d : Nat} {a0 a1 a2 a3 : AV} {st : List AV} {sh : Shp} {I : IM} {R : RM} {k : Nat} {i : Int} (h : 200 ≤ tg sh k ∧ tg sh k < 210) (h0 : 0 ≤ i) (h1 : i < ln sh k) : ev S d 78 16 [a0, a1, a2, a3] (.inl i :: .inr (.inl k) :: st) (sh, I, R) = ev S d 78 17 [a0, a1, a2, a3] (rv (R k i) :: st) (sh, I, R) := (ev_eq f_78_16).trans (congrArg (fin S d 78) (if_pos ⟨h.1, h.2, h0, h1⟩))
theorem f_78_17 : fetch 78 17 = some (17, .getfield 31, 3, [3, 2, 0, 52], 0) := (fm_78 17).trans rfl
theorem u_78_17 {S : Scr} {d : Nat} {a0 a1 a2 a3 : AV} {st : List AV} {sh : Shp} {I : IM} {R : RM} {k : Nat} (h : tg sh k = 3) : ev S d 78 17 [a0, a1, a2, a3] (.inr (.inl k) :: st) (sh, I, R) = ev S d 78 20 [a0, a1, a2, a3] (.inl (I k 2) :: st) (sh, I, R) := (ev_eq f_78_17).trans (congrArg (fin S d 78) (if_pos h))
theorem f_78_20 : fetch 78 20 = some (20, .iload_n 1, 1, [1], 0) := (fm_78 20).trans rfl
theorem u_78_20 {S : Scr} {d : Nat} {a0 a2 a3 : AV} {st : List AV} {sh : Shp} {I : IM} {R : RM} {x : Int} : ev S d 78 20 [a0, .inl x, a2, a3] st (sh, I, R) = ev S d 78 21 [a0, .inl x, a2, a3] (.inl x :: st) (sh, I, R) := (ev_eq f_78_20).trans rfl
theorem f_78_21 : fetch 78 21 = some (21, .if_icmp .ne 7, 3, [28], 0) := (fm_78 21).trans rfl
theorem u_78_21 {S : Scr} {d : Nat} {a0 a1 a2 a3 : AV} {st : List AV} {sh : Shp} {I : IM} {R : RM} {x y : Int} : ev S d 78 21 [a0, a1, a2, a3] (.inl y :: .inl x :: st) (sh, I, R) = if ¬ x = y then ev S d 78 28 [a0, a1, a2, a3] st (sh, I, R) else ev S d 78 24 [a0, a1, a2, a3] st (sh, I, R) := (ev_eq f_78_21).trans fin_icmp_ne
theorem f_78_24 : fetch 78 24 = some (24, .iconst 1, 1, [], 1) := (fm_78 24).trans rfl
theorem u_78_24 {S : Scr} {d : Nat} {a0 a1 a2 a3 : AV} {st : List AV} {sh : Shp} {I : IM} {R : RM} : ev S d 78 24 [a0, a1, a2, a3] st (sh, I, R) = ev S d 78 25 [a0, a1, a2, a3] (.inl 1 :: st) (sh, I, R) := (ev_eq f_78_24).trans rfl
theorem f_78_25 : fetch 78 25 = some (25, .goto 4, 3, [29], 0) := (fm_78 25).trans rfl
theorem u_78_25 {S : Scr} {d : Nat} {a0 a1 a2 a3 : AV} {st : List AV} {sh : Shp} {I : IM} {R : RM} : ev S d 78 25 [a0, a1, a2, a3] st (sh, I, R) = ev S d 78 29 [a0, a1, a2, a3] st (sh, I, R) := (ev_eq f_78_25).trans rfl
theorem f_78_28 : fetch 78 28 = some (28, .iconst 0, 1, [], 0) := (fm_78 28).trans rfl
theorem u_78_28 {S : Scr} {d : Nat} {a0 a1 a2 a3 : AV} {st : List AV} {sh : Shp} {I : IM} {R : RM} : ev S d 78 28 [a0, a1, a2, a3] st (sh, I, R) = ev S d 78 29 [a0, a1, a2, a3] (.inl 0 :: st) (sh, I, R) := (ev_eq f_78_28).trans rfl
theorem f_78_29 : fetch 78 29 = some (29, .iadd, 1, [], 0) := (fm_78 29).trans rfl
theorem u_78_29 {S : Scr} {d : Nat} {a0 a1 a2 a3 : AV} {st : List AV} {sh : Shp} {I : IM} {R : RM} {x y : Int} : ev S d 78 29 [a0, a1, a2, a3] (.inl y :: .inl x :: st) (sh, I, R) = ev S d 78 30 [a0, a1, a2, a3] (.inl (wr (x + y)) :: st) (sh, I, R) := (ev_eq f_78_29).trans rfl
theorem f_78_30 : fetch 78 30 = some (30, .istore_n 2, 1, [2], 0) := (fm_78 30).trans rfl
theorem u_78_30 {S : Scr} {d : Nat} {a0 a1 a2 a3 : AV} {st : List AV} {sh : Shp} {I : IM} {R : RM} {x : Int} : ev S d 78 30 [a0, a1, a2, a3] (.inl x :: st) (sh, I, R) = ev S d 78 31 [a0, a1, .inl x, a3] st (sh, I, R) := (ev_eq f_78_30).trans rfl
theorem f_78_31 : fetch 78 31 = some (31, .iinc 3 1, 3, [3], 1) := (fm_78 31).trans rfl
theorem u_78_31 {S : Scr} {d : Nat} {a0 a1 a2 : AV} {st : List AV} {sh : Shp} {I : IM} {R : RM} {x : Int} : ev S d 78 31 [a0, a1, a2, .inl x] st (sh, I, R) = ev S d 78 34 [a0, a1, a2, .inl (wr (x + 1))] st (sh, I, R) := (ev_eq f_78_31).trans rfl
theorem f_78_34 : fetch 78 34 = some (34, .goto (-30), 3, [4], 0) := (fm_78 34).trans rfl
theorem u_78_34 {S : Scr} {d : Nat} {a0 a1 a2 a3 : AV} {st : List AV} {sh : Shp} {I : IM} {R : RM} : ev S d 78 34 [a0, a1, a2, a3] st (sh, I, R) = ev S d 78 4 [a0, a1, a2, a3] st (sh, I, R) := (ev_eq f_78_34).trans rfl
theorem f_78_37 : fetch 78 37 = some (37, .iload_n 2, 1, [2], 0) := (fm_78 37).trans rfl
theorem u_78_37 {S : Scr} {d : Nat} {a0 a1 a3 : AV} {st : List AV} {sh : Shp} {I : IM} {R : RM} {x : Int} : ev S d 78 37 [a0, a1, .inl x, a3] st (sh, I, R) = ev S d 78 38 [a0, a1, .inl x, a3] (.inl x :: st) (sh, I, R) := (ev_eq f_78_37).trans rfl
theorem f_78_38 : fetch 78 38 = some (38, .ireturn, 1, [0], 0) := (fm_78 38).trans rfl
theorem u_78_38 {S : Scr} {d : Nat} {a0 a1 a2 a3 : AV} {sh : Shp} {I : IM} {R : RM} {x : Int} : ev S d 78 38 [a0, a1, a2, a3] [.inl x] (sh, I, R) = some (some (.inl x), (sh, I, R)) := (ev_eq f_78_38).trans fin_iret0
theorem c_79 {d : Nat} {a0 : AV} {M : Mem} : cl (d + 1) 79 [a0] M = ev S0 d 79 0 [a0] [] M := (cl_eq (as := [a0]) (show 1 ≤ maxOf 79 by decide +kernel)).trans rfl
theorem mt_79 : MT[79]? = some m_79 := rfl
theorem fm_79 (pc : Nat) : fetch 79 pc = lk m_79.2.2.2.2.2 pc := by
  unfold fetch
  rw [mt_79]
theorem f_79_0 : fetch 79 0 = some (0, .bipush 30, 2, [], 30) := (fm_79 0).trans rfl
theorem u_79_0 {S : Scr} {d : Nat} {a0 : AV} {st : List AV} {sh : Shp} {I : IM} {R : RM} : ev S d 79 0 [a0] st (sh, I, R) = ev S d 79 2 [a0] (.inl 30 :: st) (sh, I, R) := (ev_eq f_79_0).trans rfl
theorem f_79_2 : fetch 79 2 = some (2, .aload_n 0, 1, [0], 0) := (fm_79 2).trans rfl
theorem u_79_2 {S : Scr} {d : Nat} {st : List AV} {sh : Shp} {I : IM} {R : RM} {x : Nat} : ev S d 79 2 [.inr (.inl x)] st (sh, I, R) = ev S d 79 3 [.inr (.inl x)] (.inr (.inl x) :: st) (sh, I, R) := (ev_eq f_79_2).trans rfl
theorem f_79_3 : fetch 79 3 = some (3, .iconst 0, 1, [], 0) := (fm_79 3).trans rfl
theorem u_79_3 {S : Scr} {d : Nat} {a0 : AV} {st : List AV} {sh : Shp} {I : IM} {R : RM} : ev S d 79 3 [a0] st (sh, I, R) = ev S d 79 4 [a0] (.inl 0 :: st) (sh, I, R) := (ev_eq f_79_3).trans rfl
theorem f_79_4 : fetch 79 4 = some (4, .invokevirtual 71, 3, [78, 1, 70], 0) := (fm_79 4).trans rfl
theorem u_79_4 {S : Scr} {d : Nat} {a0 : AV} {st : List AV} {sh : Shp} {I : IM} {R : RM} {x0 : Int} {k : Nat} (h : tg sh k = 7) (hr : st.length ≤ 8) : ev S d 79 4 [a0] (.inl x0 :: .inr (.inl k) :: st) (sh, I, R) = bnd (cl d 78 [.inr (.inl k), .inl x0] (sh, I, R)) (fun v M => ev S d 79 7 [a0] (psh v st) M) := (ev_eq f_79_4).trans (congrArg (fin S d 79) (if_pos ⟨h, rfl, hr⟩))
theorem f_79_7 : fetch 79 7 = some (7, .isub, 1, [], 0) := (fm_79 7).trans rfl
theorem u_79_7 {S : Scr} {d : Nat} {a0 : AV} {st : List AV} {sh : Shp} {I : IM} {R : RM} {x y : Int} : ev S d 79 7 [a0] (.inl y :: .inl x :: st) (sh, I, R) = ev S d 79 8 [a0] (.inl (wr (x - y)) :: st) (sh, I, R) := (ev_eq f_79_7).trans rfl
theorem f_79_8 : fetch 79 8 = some (8, .ireturn, 1, [0], 0) := (fm_79 8).trans rfl
theorem u_79_8 {S : Scr} {d : Nat} {a0 : AV} {sh : Shp} {I : IM} {R : RM} {x : Int} : ev S d 79 8 [a0] [.inl x] (sh, I, R) = some (some (.inl x), (sh, I, R)) := (ev_eq f_79_8).trans fin_iret0
theorem c_80 {d : Nat} {a0 : AV} {M : Mem} : cl (d + 1) 80 [a0] M = ev S0 d 80 0 [a0, .inr (.inr 1), .inr (.inr 1)] [] M := (cl_eq (as := [a0]) (show 1 ≤ maxOf 80 by decide +kernel)).trans rfl
theorem mt_80 : MT[80]? = some m_80 := rfl
theorem fm_80 (pc : Nat) : fetch 80 pc = lk m_80.2.2.2.2.2 pc := by
  unfold fetch
  rw [mt_80]
theorem f_80_0 : fetch 80 0 = some (0, .iconst 0, 1, [], 0) := (fm_80 0).trans rfl
theorem u_80_0 {S : Scr} {d : Nat} {a0 a1 a2 : AV} {st : List AV} {sh : Shp} {I : IM} {R : RM} : ev S d 80 0 [a0, a1, a2] st (sh, I, R) = ev S d 80 1 [a0, a1, a2] (.inl 0 :: st) (sh, I, R) := (ev_eq f_80_0).trans rfl
theorem f_80_1 : fetch 80 1 = some (1, .istore_n 1, 1, [1], 0) := (fm_80 1).trans rfl
theorem u_80_1 {S : Scr} {d : Nat} {a0 a1 a2 : AV} {st : List AV} {sh : Shp} {I : IM} {R : RM} {x : Int} : ev S d 80 1 [a0, a1, a2] (.inl x :: st) (sh, I, R) = ev S d 80 2 [a0, .inl x, a2] st (sh, I, R) := (ev_eq f_80_1).trans rfl
theorem f_80_2 : fetch 80 2 = some (2, .iconst 0, 1, [], 0) := (fm_80 2).trans rfl
theorem u_80_2 {S : Scr} {d : Nat} {a0 a1 a2 : AV} {st : List AV} {sh : Shp} {I : IM} {R : RM} : ev S d 80 2 [a0, a1, a2] st (sh, I, R) = ev S d 80 3 [a0, a1, a2] (.inl 0 :: st) (sh, I, R) := (ev_eq f_80_2).trans rfl
theorem f_80_3 : fetch 80 3 = some (3, .istore_n 2, 1, [2], 0) := (fm_80 3).trans rfl
theorem u_80_3 {S : Scr} {d : Nat} {a0 a1 a2 : AV} {st : List AV} {sh : Shp} {I : IM} {R : RM} {x : Int} : ev S d 80 3 [a0, a1, a2] (.inl x :: st) (sh, I, R) = ev S d 80 4 [a0, a1, .inl x] st (sh, I, R) := (ev_eq f_80_3).trans rfl
theorem f_80_4 : fetch 80 4 = some (4, .iload_n 2, 1, [2], 0) := (fm_80 4).trans rfl
theorem u_80_4 {S : Scr} {d : Nat} {a0 a1 : AV} {st : List AV} {sh : Shp} {I : IM} {R : RM} {x : Int} : ev S d 80 4 [a0, a1, .inl x] st (sh, I, R) = ev S d 80 5 [a0, a1, .inl x] (.inl x :: st) (sh, I, R) := (ev_eq f_80_4).trans rfl
theorem f_80_5 : fetch 80 5 = some (5, .bipush 30, 2, [], 30) := (fm_80 5).trans rfl
theorem u_80_5 {S : Scr} {d : Nat} {a0 a1 a2 : AV} {st : List AV} {sh : Shp} {I : IM} {R : RM} : ev S d 80 5 [a0, a1, a2] st (sh, I, R) = ev S d 80 7 [a0, a1, a2] (.inl 30 :: st) (sh, I, R) := (ev_eq f_80_5).trans rfl
theorem f_80_7 : fetch 80 7 = some (7, .if_icmp .ge 24, 3, [31], 0) := (fm_80 7).trans rfl
theorem u_80_7 {S : Scr} {d : Nat} {a0 a1 a2 : AV} {st : List AV} {sh : Shp} {I : IM} {R : RM} {x y : Int} : ev S d 80 7 [a0, a1, a2] (.inl y :: .inl x :: st) (sh, I, R) = if y ≤ x then ev S d 80 31 [a0, a1, a2] st (sh, I, R) else ev S d 80 10 [a0, a1, a2] st (sh, I, R) := (ev_eq f_80_7).trans fin_icmp_ge
theorem f_80_10 : fetch 80 10 = some (10, .iload_n 1, 1, [1], 0) := (fm_80 10).trans rfl
theorem u_80_10 {S : Scr} {d : Nat} {a0 a2 : AV} {st : List AV} {sh : Shp} {I : IM} {R : RM} {x : Int} : ev S d 80 10 [a0, .inl x, a2] st (sh, I, R) = ev S d 80 11 [a0, .inl x, a2] (.inl x :: st) (sh, I, R) := (ev_eq f_80_10).trans rfl
theorem f_80_11 : fetch 80 11 = some (11, .aload_n 0, 1, [0], 0) := (fm_80 11).trans rfl
theorem u_80_11 {S : Scr} {d : Nat} {a1 a2 : AV} {st : List AV} {sh : Shp} {I : IM} {R : RM} {x : Nat} : ev S d 80 11 [.inr (.inl x), a1, a2] st (sh, I, R) = ev S d 80 12 [.inr (.inl x), a1, a2] (.inr (.inl x) :: st) (sh, I, R) := (ev_eq f_80_11).trans rfl
theorem f_80_12 : fetch 80 12 = some (12, .getfield 11, 3, [7, 0, 1, 49], 0) := (fm_80 12).trans rfl
theorem u_80_12 {S : Scr} {d : Nat} {a0 a1 a2 : AV} {st : List AV} {sh : Shp} {I : IM} {R : RM} {k : Nat} (h : tg sh k = 7) : ev S d 80 12 [a0, a1, a2] (.inr (.inl k) :: st) (sh, I, R) = ev S d 80 15 [a0, a1, a2] (rv (R k 0) :: st) (sh, I, R) := (ev_eq f_80_12).trans (congrArg (fin S d 80) (if_pos h))
theorem f_80_15 : fetch 80 15 = some (15, .iload_n 2, 1, [2], 0) := (fm_80 15).trans rfl
theorem u_80_15 {S : Scr} {d : Nat} {a0 a1 : AV} {st : List AV} {sh : Shp} {I : IM} {R : RM} {x : Int} : ev S d 80 15 [a0, a1, .inl x] st (sh, I, R) = ev S d 80 16 [a0, a1, .inl x] (.inl x :: st) (sh, I, R) := (ev_eq f_80_15).trans rfl
theorem f_80_16 : fetch 80 16 = some (16, .aaload, 1, [], 0) := (fm_80 16).trans rfl
theorem u_80_16 {S : Scr} {d : Nat} {a0 a1 a2 : AV} {st : List AV} {sh : Shp} {I : IM} {R : RM} {k : Nat} {i : Int} (h : 200 ≤ tg sh k ∧ tg sh k < 210) (h0 : 0 ≤ i) (h1 : i < ln sh k) : ev S d 80 16 [a0, a1, a2] (.inl i :: .inr (.inl k) :: st) (sh, I, R) = ev S d 80 17 [a0, a1, a2] (rv (R k i) :: st) (sh, I, R) := (ev_eq f_80_16).trans (congrArg (fin S d 80) (if_pos ⟨h.1, h.2, h0, h1⟩))
theorem f_80_17 : fetch 80 17 = some (17, .getfield 59, 3, [3, 0, 1, 53], 0) := (fm_80 17).trans rfl
theorem u_80_17 {S : Scr} {d : Nat} {a0 a1 a2 : AV} {st : List AV} {sh : Shp} {I : IM} {R : RM} {k : Nat} (h : tg sh k = 3) : ev S d 80 17 [a0, a1, a2] (.inr (.inl k) :: st) (sh, I, R) = ev S d 80 20 [a0, a1, a2] (rv (R k 0) :: st) (sh, I, R) := (ev_eq f_80_17).trans (congrArg (fin S d 80) (if_pos h))
theorem f_80_20 : fetch 80 20 = some (20, .getfield 75, 3, [1, 3, 0, 54], 0) := (fm_80 20).trans rfl
theorem u_80_20 {S : Scr} {d : Nat} {a0 a1 a2 : AV} {st : List AV} {sh : Shp} {I : IM} {R : RM} {k : Nat} (h : tg sh k = 1) : ev S d 80 20 [a0, a1, a2] (.inr (.inl k) :: st) (sh, I, R) = ev S d 80 23 [a0, a1, a2] (.inl (I k 3) :: st) (sh, I, R) := (ev_eq f_80_20).trans (congrArg (fin S d 80) (if_pos h))
theorem f_80_23 : fetch 80 23 = some (23, .iadd, 1, [], 0) := (fm_80 23).trans rfl
theorem u_80_23 {S : Scr} {d : Nat} {a0 a1 a2 : AV} {st : List AV} {sh : Shp} {I : IM} {R : RM} {x y : Int} : ev S d 80 23 [a0, a1, a2] (.inl y :: .inl x :: st) (sh, I, R) = ev S d 80 24 [a0, a1, a2] (.inl (wr (x + y)) :: st) (sh, I, R) := (ev_eq f_80_23).trans rfl
theorem f_80_24 : fetch 80 24 = some (24, .istore_n 1, 1, [1], 0) := (fm_80 24).trans rfl
theorem u_80_24 {S : Scr} {d : Nat} {a0 a1 a2 : AV} {st : List AV} {sh : Shp} {I : IM} {R : RM} {x : Int} : ev S d 80 24 [a0, a1, a2] (.inl x :: st) (sh, I, R) = ev S d 80 25 [a0, .inl x, a2] st (sh, I, R) := (ev_eq f_80_24).trans rfl
theorem f_80_25 : fetch 80 25 = some (25, .iinc 2 1, 3, [2], 1) := (fm_80 25).trans rfl
theorem u_80_25 {S : Scr} {d : Nat} {a0 a1 : AV} {st : List AV} {sh : Shp} {I : IM} {R : RM} {x : Int} : ev S d 80 25 [a0, a1, .inl x] st (sh, I, R) = ev S d 80 28 [a0, a1, .inl (wr (x + 1))] st (sh, I, R) := (ev_eq f_80_25).trans rfl
theorem f_80_28 : fetch 80 28 = some (28, .goto (-24), 3, [4], 0) := (fm_80 28).trans rfl
theorem u_80_28 {S : Scr} {d : Nat} {a0 a1 a2 : AV} {st : List AV} {sh : Shp} {I : IM} {R : RM} : ev S d 80 28 [a0, a1, a2] st (sh, I, R) = ev S d 80 4 [a0, a1, a2] st (sh, I, R) := (ev_eq f_80_28).trans rfl
theorem f_80_31 : fetch 80 31 = some (31, .iload_n 1, 1, [1], 0) := (fm_80 31).trans rfl
theorem u_80_31 {S : Scr} {d : Nat} {a0 a2 : AV} {st : List AV} {sh : Shp} {I : IM} {R : RM} {x : Int} : ev S d 80 31 [a0, .inl x, a2] st (sh, I, R) = ev S d 80 32 [a0, .inl x, a2] (.inl x :: st) (sh, I, R) := (ev_eq f_80_31).trans rfl
theorem f_80_32 : fetch 80 32 = some (32, .ireturn, 1, [0], 0) := (fm_80 32).trans rfl
theorem u_80_32 {S : Scr} {d : Nat} {a0 a1 a2 : AV} {sh : Shp} {I : IM} {R : RM} {x : Int} : ev S d 80 32 [a0, a1, a2] [.inl x] (sh, I, R) = some (some (.inl x), (sh, I, R)) := (ev_eq f_80_32).trans fin_iret0
theorem c_81 {d : Nat} {a0 : AV} {M : Mem} : cl (d + 1) 81 [a0] M = ev S0 d 81 0 [a0, .inr (.inr 1), .inr (.inr 1)] [] M := (cl_eq (as := [a0]) (show 1 ≤ maxOf 81 by decide +kernel)).trans rfl
theorem mt_81 : MT[81]? = some m_81 := rfl
theorem fm_81 (pc : Nat) : fetch 81 pc = lk m_81.2.2.2.2.2 pc := by
  unfold fetch
  rw [mt_81]
theorem f_81_0 : fetch 81 0 = some (0, .iconst 0, 1, [], 0) := (fm_81 0).trans rfl
theorem u_81_0 {S : Scr} {d : Nat} {a0 a1 a2 : AV} {st : List AV} {sh : Shp} {I : IM} {R : RM} : ev S d 81 0 [a0, a1, a2] st (sh, I, R) = ev S d 81 1 [a0, a1, a2] (.inl 0 :: st) (sh, I, R) := (ev_eq f_81_0).trans rfl
theorem f_81_1 : fetch 81 1 = some (1, .istore_n 1, 1, [1], 0) := (fm_81 1).trans rfl
theorem u_81_1 {S : Scr} {d : Nat} {a0 a1 a2 : AV} {st : List AV} {sh : Shp} {I : IM} {R : RM} {x : Int} : ev S d 81 1 [a0, a1, a2] (.inl x :: st) (sh, I, R) = ev S d 81 2 [a0, .inl x, a2] st (sh, I, R) := (ev_eq f_81_1).trans rfl
theorem f_81_2 : fetch 81 2 = some (2, .iconst 0, 1, [], 0) := (fm_81 2).trans rfl
theorem u_81_2 {S : Scr} {d : Nat} {a0 a1 a2 : AV} {st : List AV} {sh : Shp} {I : IM} {R : RM} : ev S d 81 2 [a0, a1, a2] st (sh, I, R) = ev S d 81 3 [a0, a1, a2] (.inl 0 :: st) (sh, I, R) := (ev_eq f_81_2).trans rfl
theorem f_81_3 : fetch 81 3 = some (3, .istore_n 2, 1, [2], 0) := (fm_81 3).trans rfl
theorem u_81_3 {S : Scr} {d : Nat} {a0 a1 a2 : AV} {st : List AV} {sh : Shp} {I : IM} {R : RM} {x : Int} : ev S d 81 3 [a0, a1, a2] (.inl x :: st) (sh, I, R) = ev S d 81 4 [a0, a1, .inl x] st (sh, I, R) := (ev_eq f_81_3).trans rfl
theorem f_81_4 : fetch 81 4 = some (4, .iload_n 2, 1, [2], 0) := (fm_81 4).trans rfl
theorem u_81_4 {S : Scr} {d : Nat} {a0 a1 : AV} {st : List AV} {sh : Shp} {I : IM} {R : RM} {x : Int} : ev S d 81 4 [a0, a1, .inl x] st (sh, I, R) = ev S d 81 5 [a0, a1, .inl x] (.inl x :: st) (sh, I, R) := (ev_eq f_81_4).trans rfl
theorem f_81_5 : fetch 81 5 = some (5, .bipush 30, 2, [], 30) := (fm_81 5).trans rfl
theorem u_81_5 {S : Scr} {d : Nat} {a0 a1 a2 : AV} {st : List AV} {sh : Shp} {I : IM} {R : RM} : ev S d 81 5 [a0, a1, a2] st (sh, I, R) = ev S d 81 7 [a0, a1, a2] (.inl 30 :: st) (sh, I, R) := (ev_eq f_81_5).trans rfl
theorem f_81_7 : fetch 81 7 = some (7, .if_icmp .ge 21, 3, [28], 0) := (fm_81 7).trans rfl
theorem u_81_7 {S : Scr} {d : Nat} {a0 a1 a2 : AV} {st : List AV} {sh : Shp} {I : IM} {R : RM} {x y : Int} : ev S d 81 7 [a0, a1, a2] (.inl y :: .inl x :: st) (sh, I, R) = if y ≤ x then ev S d 81 28 [a0, a1, a2] st (sh, I, R) else ev S d 81 10 [a0, a1, a2] st (sh, I, R) := (ev_eq f_81_7).trans fin_icmp_ge
theorem f_81_10 : fetch 81 10 = some (10, .iload_n 1, 1, [1], 0) := (fm_81 10).trans rfl
theorem u_81_10 {S : Scr} {d : Nat} {a0 a2 : AV} {st : List AV} {sh : Shp} {I : IM} {R : RM} {x : Int} : ev S d 81 10 [a0, .inl x, a2] st (sh, I, R) = ev S d 81 11 [a0, .inl x, a2] (.inl x :: st) (sh, I, R) := (ev_eq f_81_10).trans rfl
theorem f_81_11 : fetch 81 11 = some (11, .aload_n 0, 1, [0], 0) := (fm_81 11).trans rfl
theorem u_81_11 {S : Scr} {d : Nat} {a1 a2 : AV} {st : List AV} {sh : Shp} {I : IM} {R : RM} {x : Nat} : ev S d 81 11 [.inr (.inl x), a1, a2] st (sh, I, R) = ev S d 81 12 [.inr (.inl x), a1, a2] (.inr (.inl x) :: st) (sh, I, R) := (ev_eq f_81_11).trans rfl
theorem f_81_12 : fetch 81 12 = some (12, .getfield 11, 3, [7, 0, 1, 49], 0) := (fm_81 12).trans rfl
theorem u_81_12 {S : Scr} {d : Nat} {a0 a1 a2 : AV} {st : List AV} {sh : Shp} {I : IM} {R : RM} {k : Nat} (h : tg sh k = 7) : ev S d 81 12 [a0, a1, a2] (.inr (.inl k) :: st) (sh, I, R) = ev S d 81 15 [a0, a1, a2] (rv (R k 0) :: st) (sh, I, R) := (ev_eq f_81_12).trans (congrArg (fin S d 81) (if_pos h))
theorem f_81_15 : fetch 81 15 = some (15, .iload_n 2, 1, [2], 0) := (fm_81 15).trans rfl
theorem u_81_15 {S : Scr} {d : Nat} {a0 a1 : AV} {st : List AV} {sh : Shp} {I : IM} {R : RM} {x : Int} : ev S d 81 15 [a0, a1, .inl x] st (sh, I, R) = ev S d 81 16 [a0, a1, .inl x] (.inl x :: st) (sh, I, R) := (ev_eq f_81_15).trans rfl
theorem f_81_16 : fetch 81 16 = some (16, .aaload, 1, [], 0) := (fm_81 16).trans rfl
theorem u_81_16 {S : Scr} {d : Nat} {a0 a1 a2 : AV} {st : List AV} {sh : Shp} {I : IM} {R : RM} {k : Nat} {i : Int} (h : 200 ≤ tg sh k ∧ tg sh k < 210) (h0 : 0 ≤ i) (h1 : i < ln sh k) : ev S d 81 16 [a0, a1, a2] (.inl i :: .inr (.inl k) :: st) (sh, I, R) = ev S d 81 17 [a0, a1, a2] (rv (R k i) :: st) (sh, I, R) := (ev_eq f_81_16).trans (congrArg (fin S d 81) (if_pos ⟨h.1, h.2, h0, h1⟩))
theorem f_81_17 : fetch 81 17 = some (17, .invokevirtual 78, 3, [39, 0, 71], 0) := (fm_81 17).trans rfl
theorem u_81_17 {S : Scr} {d : Nat} {a0 a1 a2 : AV} {st : List AV} {sh : Shp} {I : IM} {R : RM} {k : Nat} (h : tg sh k = 3) (hr : st.length ≤ 8) : ev S d 81 17 [a0, a1, a2] (.inr (.inl k) :: st) (sh, I, R) = bnd (cl d 39 [.inr (.inl k)] (sh, I, R)) (fun v M => ev S d 81 20 [a0, a1, a2] (psh v st) M) := (ev_eq f_81_17).trans (congrArg (fin S d 81) (if_pos ⟨h, rfl, hr⟩))
theorem f_81_20 : fetch 81 20 = some (20, .iadd, 1, [], 0) := (fm_81 20).trans rfl
theorem u_81_20 {S : Scr} {d : Nat} {a0 a1 a2 : AV} {st : List AV} {sh : Shp} {I : IM} {R : RM} {x y : Int} : ev S d 81 20 [a0, a1, a2] (.inl y :: .inl x :: st) (sh, I, R) = ev S d 81 21 [a0, a1, a2] (.inl (wr (x + y)) :: st) (sh, I, R) := (ev_eq f_81_20).trans rfl
theorem f_81_21 : fetch 81 21 = some (21, .istore_n 1, 1, [1], 0) := (fm_81 21).trans rfl
theorem u_81_21 {S : Scr} {d : Nat} {a0 a1 a2 : AV} {st : List AV} {sh : Shp} {I : IM} {R : RM} {x : Int} : ev S d 81 21 [a0, a1, a2] (.inl x :: st) (sh, I, R) = ev S d 81 22 [a0, .inl x, a2] st (sh, I, R) := (ev_eq f_81_21).trans rfl
theorem f_81_22 : fetch 81 22 = some (22, .iinc 2 1, 3, [2], 1) := (fm_81 22).trans rfl
theorem u_81_22 {S : Scr} {d : Nat} {a0 a1 : AV} {st : List AV} {sh : Shp} {I : IM} {R : RM} {x : Int} : ev S d 81 22 [a0, a1, .inl x] st (sh, I, R) = ev S d 81 25 [a0, a1, .inl (wr (x + 1))] st (sh, I, R) := (ev_eq f_81_22).trans rfl
theorem f_81_25 : fetch 81 25 = some (25, .goto (-21), 3, [4], 0) := (fm_81 25).trans rfl
theorem u_81_25 {S : Scr} {d : Nat} {a0 a1 a2 : AV} {st : List AV} {sh : Shp} {I : IM} {R : RM} : ev S d 81 25 [a0, a1, a2] st (sh, I, R) = ev S d 81 4 [a0, a1, a2] st (sh, I, R) := (ev_eq f_81_25).trans rfl
theorem f_81_28 : fetch 81 28 = some (28, .iload_n 1, 1, [1], 0) := (fm_81 28).trans rfl
theorem u_81_28 {S : Scr} {d : Nat} {a0 a2 : AV} {st : List AV} {sh : Shp} {I : IM} {R : RM} {x : Int} : ev S d 81 28 [a0, .inl x, a2] st (sh, I, R) = ev S d 81 29 [a0, .inl x, a2] (.inl x :: st) (sh, I, R) := (ev_eq f_81_28).trans rfl
theorem f_81_29 : fetch 81 29 = some (29, .ireturn, 1, [0], 0) := (fm_81 29).trans rfl
theorem u_81_29 {S : Scr} {d : Nat} {a0 a1 a2 : AV} {sh : Shp} {I : IM} {R : RM} {x : Int} : ev S d 81 29 [a0, a1, a2] [.inl x] (sh, I, R) = some (some (.inl x), (sh, I, R)) := (ev_eq f_81_29).trans fin_iret0
theorem c_82 {d : Nat} {a0 : AV} {M : Mem} : cl (d + 1) 82 [a0] M = ev S0 d 82 0 [a0, .inr (.inr 1), .inr (.inr 1)] [] M := (cl_eq (as := [a0]) (show 1 ≤ maxOf 82 by decide +kernel)).trans rfl
theorem mt_82 : MT[82]? = some m_82 := rfl
theorem fm_82 (pc : Nat) : fetch 82 pc = lk m_82.2.2.2.2.2 pc := by
  unfold fetch
  rw [mt_82]
theorem f_82_0 : fetch 82 0 = some (0, .iconst 0, 1, [], 0) := (fm_82 0).trans rfl
theorem u_82_0 {S : Scr} {d : Nat} {a0 a1 a2 : AV} {st : List AV} {sh : Shp} {I : IM} {R : RM} : ev S d 82 0 [a0, a1, a2] st (sh, I, R) = ev S d 82 1 [a0, a1, a2] (.inl 0 :: st) (sh, I, R) := (ev_eq f_82_0).trans rfl
theorem f_82_1 : fetch 82 1 = some (1, .istore_n 1, 1, [1], 0) := (fm_82 1).trans rfl
theorem u_82_1 {S : Scr} {d : Nat} {a0 a1 a2 : AV} {st : List AV} {sh : Shp} {I : IM} {R : RM} {x : Int} : ev S d 82 1 [a0, a1, a2] (.inl x :: st) (sh, I, R) = ev S d 82 2 [a0, .inl x, a2] st (sh, I, R) := (ev_eq f_82_1).trans rfl
theorem f_82_2 : fetch 82 2 = some (2, .iconst 0, 1, [], 0) := (fm_82 2).trans rfl
theorem u_82_2 {S : Scr} {d : Nat} {a0 a1 a2 : AV} {st : List AV} {sh : Shp} {I : IM} {R : RM} : ev S d 82 2 [a0, a1, a2] st (sh, I, R) = ev S d 82 3 [a0, a1, a2] (.inl 0 :: st) (sh, I, R) := (ev_eq f_82_2).trans rfl
theorem f_82_3 : fetch 82 3 = some (3, .istore_n 2, 1, [2], 0) := (fm_82 3).trans rfl
theorem u_82_3 {S : Scr} {d : Nat} {a0 a1 a2 : AV} {st : List AV} {sh : Shp} {I : IM} {R : RM} {x : Int} : ev S d 82 3 [a0, a1, a2] (.inl x :: st) (sh, I, R) = ev S d 82 4 [a0, a1, .inl x] st (sh, I, R) := (ev_eq f_82_3).trans rfl
theorem f_82_4 : fetch 82 4 = some (4, .iload_n 2, 1, [2], 0) := (fm_82 4).trans rfl
theorem u_82_4 {S : Scr} {d : Nat} {a0 a1 : AV} {st : List AV} {sh : Shp} {I : IM} {R : RM} {x : Int} : ev S d 82 4 [a0, a1, .inl x] st (sh, I, R) = ev S d 82 5 [a0, a1, .inl x] (.inl x :: st) (sh, I, R) := (ev_eq f_82_4).trans rfl
theorem f_82_5 : fetch 82 5 = some (5, .bipush 9, 2, [], 9) := (fm_82 5).trans rfl
theorem u_82_5 {S : Scr} {d : Nat} {a0 a1 a2 : AV} {st : List AV} {sh : Shp} {I : IM} {R : RM} : ev S d 82 5 [a0, a1, a2] st (sh, I, R) = ev S d 82 7 [a0, a1, a2] (.inl 9 :: st) (sh, I, R) := (ev_eq f_82_5).trans rfl
theorem f_82_7 : fetch 82 7 = some (7, .if_icmp .ge 21, 3, [28], 0) := (fm_82 7).trans rfl
theorem u_82_7 {S : Scr} {d : Nat} {a0 a1 a2 : AV} {st : List AV} {sh : Shp} {I : IM} {R : RM} {x y : Int} : ev S d 82 7 [a0, a1, a2] (.inl y :: .inl x :: st) (sh, I, R) = if y ≤ x then ev S d 82 28 [a0, a1, a2] st (sh, I, R) else ev S d 82 10 [a0, a1, a2] st (sh, I, R) := (ev_eq f_82_7).trans fin_icmp_ge
theorem f_82_10 : fetch 82 10 = some (10, .iload_n 1, 1, [1], 0) := (fm_82 10).trans rfl
theorem u_82_10 {S : Scr} {d : Nat} {a0 a2 : AV} {st : List AV} {sh : Shp} {I : IM} {R : RM} {x : Int} : ev S d 82 10 [a0, .inl x, a2] st (sh, I, R) = ev S d 82 11 [a0, .inl x, a2] (.inl x :: st) (sh, I, R) := (ev_eq f_82_10).trans rfl
theorem f_82_11 : fetch 82 11 = some (11, .aload_n 0, 1, [0], 0) := (fm_82 11).trans rfl
theorem u_82_11 {S : Scr} {d : Nat} {a1 a2 : AV} {st : List AV} {sh : Shp} {I : IM} {R : RM} {x : Nat} : ev S d 82 11 [.inr (.inl x), a1, a2] st (sh, I, R) = ev S d 82 12 [.inr (.inl x), a1, a2] (.inr (.inl x) :: st) (sh, I, R) := (ev_eq f_82_11).trans rfl
theorem f_82_12 : fetch 82 12 = some (12, .getfield 19, 3, [7, 1, 1, 50], 0) := (fm_82 12).trans rfl
theorem u_82_12 {S : Scr} {d : Nat} {a0 a1 a2 : AV} {st : List AV} {sh : Shp} {I : IM} {R : RM} {k : Nat} (h : tg sh k = 7) : ev S d 82 12 [a0, a1, a2] (.inr (.inl k) :: st) (sh, I, R) = ev S d 82 15 [a0, a1, a2] (rv (R k 1) :: st) (sh, I, R) := (ev_eq f_82_12).trans (congrArg (fin S d 82) (if_pos h))
theorem f_82_15 : fetch 82 15 = some (15, .iload_n 2, 1, [2], 0) := (fm_82 15).trans rfl
theorem u_82_15 {S : Scr} {d : Nat} {a0 a1 : AV} {st : List AV} {sh : Shp} {I : IM} {R : RM} {x : Int} : ev S d 82 15 [a0, a1, .inl x] st (sh, I, R) = ev S d 82 16 [a0, a1, .inl x] (.inl x :: st) (sh, I, R) := (ev_eq f_82_15).trans rfl
theorem f_82_16 : fetch 82 16 = some (16, .aaload, 1, [], 0) := (fm_82 16).trans rfl
theorem u_82_16 {S : Scr} {d : Nat} {a0 a1 a2 : AV} {st : List AV} {sh : Shp} {I : IM} {R : RM} {k : Nat} {i : Int} (h : 200 ≤ tg sh k ∧ tg sh k < 210) (h0 : 0 ≤ i) (h1 : i < ln sh k) : ev S d 82 16 [a0, a1, a2] (.inl i :: .inr (.inl k) :: st) (sh, I, R) = ev S d 82 17 [a0, a1, a2] (rv (R k i) :: st) (sh, I, R) := (ev_eq f_82_16).trans (congrArg (fin S d 82) (if_pos ⟨h.1, h.2, h0, h1⟩))
theorem f_82_17 : fetch 82 17 = some (17, .getfield 75, 3, [1, 3, 0, 54], 0) := (fm_82 17).trans rfl
theorem u_82_17 {S : Scr} {d : Nat} {a0 a1 a2 : AV} {st : List AV} {sh : Shp} {I : IM} {R : RM} {k : Nat} (h : tg sh k = 1) : ev S d 82 17 [a0, a1, a2] (.inr (.inl k) :: st) (sh, I, R) = ev S d 82 20 [a0, a1, a2] (.inl (I k 3) :: st) (sh, I, R) := (ev_eq f_82_17).trans (congrArg (fin S d 82) (if_pos h))
theorem f_82_20 : fetch 82 20 = some (20, .iadd, 1, [], 0) := (fm_82 20).trans rfl
theorem u_82_20 {S : Scr} {d : Nat} {a0 a1 a2 : AV} {st : List AV} {sh : Shp} {I : IM} {R : RM} {x y : Int} : ev S d 82 20 [a0, a1, a2] (.inl y :: .inl x :: st) (sh, I, R) = ev S d 82 21 [a0, a1, a2] (.inl (wr (x + y)) :: st) (sh, I, R) := (ev_eq f_82_20).trans rfl
theorem f_82_21 : fetch 82 21 = some (21, .istore_n 1, 1, [1], 0) := (fm_82 21).trans rfl
theorem u_82_21 {S : Scr} {d : Nat} {a0 a1 a2 : AV} {st : List AV} {sh : Shp} {I : IM} {R : RM} {x : Int} : ev S d 82 21 [a0, a1, a2] (.inl x :: st) (sh, I, R) = ev S d 82 22 [a0, .inl x, a2] st (sh, I, R) := (ev_eq f_82_21).trans rfl
theorem f_82_22 : fetch 82 22 = some (22, .iinc 2 1, 3, [2], 1) := (fm_82 22).trans rfl
theorem u_82_22 {S : Scr} {d : Nat} {a0 a1 : AV} {st : List AV} {sh : Shp} {I : IM} {R : RM} {x : Int} : ev S d 82 22 [a0, a1, .inl x] st (sh, I, R) = ev S d 82 25 [a0, a1, .inl (wr (x + 1))] st (sh, I, R) := (ev_eq f_82_22).trans rfl
theorem f_82_25 : fetch 82 25 = some (25, .goto (-21), 3, [4], 0) := (fm_82 25).trans rfl
theorem u_82_25 {S : Scr} {d : Nat} {a0 a1 a2 : AV} {st : List AV} {sh : Shp} {I : IM} {R : RM} : ev S d 82 25 [a0, a1, a2] st (sh, I, R) = ev S d 82 4 [a0, a1, a2] st (sh, I, R) := (ev_eq f_82_25).trans rfl
theorem f_82_28 : fetch 82 28 = some (28, .iload_n 1, 1, [1], 0) := (fm_82 28).trans rfl
theorem u_82_28 {S : Scr} {d : Nat} {a0 a2 : AV} {st : List AV} {sh : Shp} {I : IM} {R : RM} {x : Int} : ev S d 82 28 [a0, .inl x, a2] st (sh, I, R) = ev S d 82 29 [a0, .inl x, a2] (.inl x :: st) (sh, I, R) := (ev_eq f_82_28).trans rfl
theorem f_82_29 : fetch 82 29 = some (29, .ireturn, 1, [0], 0) := (fm_82 29).trans rfl
theorem u_82_29 {S : Scr} {d : Nat} {a0 a1 a2 : AV} {sh : Shp} {I : IM} {R : RM} {x : Int} : ev S d 82 29 [a0, a1, a2] [.inl x] (sh, I, R) = some (some (.inl x), (sh, I, R)) := (ev_eq f_82_29).trans fin_iret0
theorem c_83 {d : Nat} {a0 a1 : AV} {M : Mem} : cl (d + 1) 83 [a0, a1] M = ev S0 d 83 0 [a0, a1, .inr (.inr 1)] [] M := (cl_eq (as := [a0, a1]) (show 2 ≤ maxOf 83 by decide +kernel)).trans rfl
theorem mt_83 : MT[83]? = some m_83 := rfl
theorem fm_83 (pc : Nat) : fetch 83 pc = lk m_83.2.2.2.2.2 pc := by
  unfold fetch
  rw [mt_83]
theorem f_83_0 : fetch 83 0 = some (0, .iconst 0, 1, [], 0) := (fm_83 0).trans rfl
theorem u_83_0 {S : Scr} {d : Nat} {a0 a1 a2 : AV} {st : List AV} {sh : Shp} {I : IM} {R : RM} : ev S d 83 0 [a0, a1, a2] st (sh, I, R) = ev S d 83 1 [a0, a1, a2] (.inl 0 :: st) (sh, I, R) := (ev_eq f_83_0).trans rfl
theorem f_83_1 : fetch 83 1 = some (1, .istore_n 2, 1, [2], 0) := (fm_83 1).trans rfl
theorem u_83_1 {S : Scr} {d : Nat} {a0 a1 a2 : AV} {st : List AV} {sh : Shp} {I : IM} {R : RM} {x : Int} : ev S d 83 1 [a0, a1, a2] (.inl x :: st) (sh, I, R) = ev S d 83 2 [a0, a1, .inl x] st (sh, I, R) := (ev_eq f_83_1).trans rfl
theorem f_83_2 : fetch 83 2 = some (2, .iload_n 2, 1, [2], 0) := (fm_83 2).trans rfl
theorem u_83_2 {S : Scr} {d : Nat} {a0 a1 : AV} {st : List AV} {sh : Shp} {I : IM} {R : RM} {x : Int} : ev S d 83 2 [a0, a1, .inl x] st (sh, I, R) = ev S d 83 3 [a0, a1, .inl x] (.inl x :: st) (sh, I, R) := (ev_eq f_83_2).trans rfl
theorem f_83_3 : fetch 83 3 = some (3, .bipush 30, 2, [], 30) := (fm_83 3).trans rfl
theorem u_83_3 {S : Scr} {d : Nat} {a0 a1 a2 : AV} {st : List AV} {sh : Shp} {I : IM} {R : RM} : ev S d 83 3 [a0, a1, a2] st (sh, I, R) = ev S d 83 5 [a0, a1, a2] (.inl 30 :: st) (sh, I, R) := (ev_eq f_83_3).trans rfl
theorem f_83_5 : fetch 83 5 = some (5, .if_icmp .ge 24, 3, [29], 0) := (fm_83 5).trans rfl
theorem u_83_5 {S : Scr} {d : Nat} {a0 a1 a2 : AV} {st : List AV} {sh : Shp} {I : IM} {R : RM} {x y : Int} : ev S d 83 5 [a0, a1, a2] (.inl y :: .inl x :: st) (sh, I, R) = if y ≤ x then ev S d 83 29 [a0, a1, a2] st (sh, I, R) else ev S d 83 8 [a0, a1, a2] st (sh, I, R) := (ev_eq f_83_5).trans fin_icmp_ge
theorem f_83_8 : fetch 83 8 = some (8, .aload_n 0, 1, [0], 0) := (fm_83 8).trans rfl
theorem u_83_8 {S : Scr} {d : Nat} {a1 a2 : AV} {st : List AV} {sh : Shp} {I : IM} {R : RM} {x : Nat} : ev S d 83 8 [.inr (.inl x), a1, a2] st (sh, I, R) = ev S d 83 9 [.inr (.inl x), a1, a2] (.inr (.inl x) :: st) (sh, I, R) := (ev_eq f_83_8).trans rfl
theorem f_83_9 : fetch 83 9 = some (9, .getfield 11, 3, [7, 0, 1, 49], 0) := (fm_83 9).trans rfl
theorem u_83_9 {S : Scr} {d : Nat} {a0 a1 a2 : AV} {st : List AV} {sh : Shp} {I : IM} {R : RM} {k : Nat} (h : tg sh k = 7) : ev S d 83 9 [a0, a1, a2] (.inr (.inl k) :: st) (sh, I, R) = ev S d 83 12 [a0, a1, a2] (rv (R k 0) :: st) (sh, I, R) := (ev_eq f_83_9).trans (congrArg (fin S d 83) (if_pos h))
theorem f_83_12 : fetch 83 12 = some (12, .iload_n 2, 1, [2], 0) := (fm_83 12).trans rfl
theorem u_83_12 {S : Scr} {d : Nat} {a0 a1 : AV} {st : List AV} {sh : Shp} {I : IM} {R : RM} {x : Int} : ev S d 83 12 [a0, a1, .inl x] st (sh, I, R) = ev S d 83 13 [a0, a1, .inl x] (.inl x :: st) (sh, I, R) := (ev_eq f_83_12).trans rfl
theorem f_83_13 : fetch 83 13 = some (13, .aaload, 1, [], 0) := (fm_83 13).trans rfl
theorem u_83_13 {S : Scr} {d : Nat} {a0 a1 a2 : AV} {st : List AV} {sh : Shp} {I : IM} {R : RM} {k : Nat} {i : Int} (h : 200 ≤ tg sh k ∧ tg sh k < 210) (h0 : 0 ≤ i) (h1 : i < ln sh k) : ev S d 83 13 [a0, a1, a2] (.inl i :: .inr (.inl k) :: st) (sh, I, R) = ev S d 83 14 [a0, a1, a2] (rv (R k i) :: st) (sh, I, R) := (ev_eq f_83_13).trans (congrArg (fin S d 83) (if_pos ⟨h.1, h.2, h0, h1⟩))
theorem f_83_14 : fetch 83 14 = some (14, .aload_n 1, 1, [1], 0) := (fm_83 14).trans rfl
theorem u_83_14 {S : Scr} {d : Nat} {a0 a2 : AV} {st : List AV} {sh : Shp} {I : IM} {R : RM} {x : Nat} : ev S d 83 14 [a0, .inr (.inl x), a2] st (sh, I, R) = ev S d 83 15 [a0, .inr (.inl x), a2] (.inr (.inl x) :: st) (sh, I, R) := (ev_eq f_83_14).trans rfl
theorem u_83_14n {S : Scr} {d : Nat} {a0 a2 : AV} {st : List AV} {sh : Shp} {I : IM} {R : RM} : ev S d 83 14 [a0, .inr (.inr 0), a2] st (sh, I, R) = ev S d 83 15 [a0, .inr (.inr 0), a2] (.inr (.inr 0) :: st) (sh, I, R) := (ev_eq f_83_14).trans rfl
theorem f_83_15 : fetch 83 15 = some (15, .getfield 11, 3, [7, 0, 1, 49], 0) := (fm_83 15).trans rfl
theorem u_83_15 {S : Scr} {d : Nat} {a0 a1 a2 : AV} {st : List AV} {sh : Shp} {I : IM} {R : RM} {k : Nat} (h : tg sh k = 7) : ev S d 83 15 [a0, a1, a2] (.inr (.inl k) :: st) (sh, I, R) = ev S d 83 18 [a0, a1, a2] (rv (R k 0) :: st) (sh, I, R) := (ev_eq f_83_15).trans (congrArg (fin S d 83) (if_pos h))
theorem f_83_18 : fetch 83 18 = some (18, .iload_n 2, 1, [2], 0) := (fm_83 18).trans rfl
theorem u_83_18 {S : Scr} {d : Nat} {a0 a1 : AV} {st : List AV} {sh : Shp} {I : IM} {R : RM} {x : Int} : ev S d 83 18 [a0, a1, .inl x] st (sh, I, R) = ev S d 83 19 [a0, a1, .inl x] (.inl x :: st) (sh, I, R) := (ev_eq f_83_18).trans rfl
theorem f_83_19 : fetch 83 19 = some (19, .aaload, 1, [], 0) := (fm_83 19).trans rfl
theorem u_83_19 {S : Scr} {d : Nat} {a0 a1 a2 : AV} {st : List AV} {sh : Shp} {I : IM} {R : RM} {k : Nat} {i : Int} (h : 200 ≤ tg sh k ∧ tg sh k < 210) (h0 : 0 ≤ i) (h1 : i < ln sh k) : ev S d 83 19 [a0, a1, a2] (.inl i :: .inr (.inl k) :: st) (sh, I, R) = ev S d 83 20 [a0, a1, a2] (rv (R k i) :: st) (sh, I, R) := (ev_eq f_83_19).trans (congrArg (fin S d 83) (if_pos ⟨h.1, h.2, h0, h1⟩))
theorem f_83_20 : fetch 83 20 = some (20, .invokevirtual 51, 3, [35, 1, 66], 0) := (fm_83 20).trans rfl
theorem u_83_20 {S : Scr} {d : Nat} {a0 a1 a2 : AV} {st : List AV} {sh : Shp} {I : IM} {R : RM} {x0 : Nat} {k : Nat} (h : tg sh k = 3) (hr : st.length ≤ 8) : ev S d 83 20 [a0, a1, a2] (.inr (.inl x0) :: .inr (.inl k) :: st) (sh, I, R) = bnd (cl d 35 [.inr (.inl k), .inr (.inl x0)] (sh, I, R)) (fun v M => ev S d 83 23 [a0, a1, a2] (psh v st) M) := (ev_eq f_83_20).trans (congrArg (fin S d 83) (if_pos ⟨h, rfl, hr⟩))
theorem u_83_20n {S : Scr} {d : Nat} {a0 a1 a2 : AV} {st : List AV} {sh : Shp} {I : IM} {R : RM} {k : Nat} (h : tg sh k = 3) (hr : st.length ≤ 8) : ev S d 83 20 [a0, a1, a2] (.inr (.inr 0) :: .inr (.inl k) :: st) (sh, I, R) = bnd (cl d 35 [.inr (.inl k), .inr (.inr 0)] (sh, I, R)) (fun v M => ev S d 83 23 [a0, a1, a2] (psh v st) M) := (ev_eq f_83_20).trans (congrArg (fin S d 83) (if_pos ⟨h, rfl, hr⟩))
theorem f_83_23 : fetch 83 23 = some (23, .iinc 2 1, 3, [2], 1) := (fm_83 23).trans rfl
theorem u_83_23 {S : Scr} {d : Nat} {a0 a1 : AV} {st : List AV} {sh : Shp} {I : IM} {R : RM} {x : Int} : ev S d 83 23 [a0, a1, .inl x] st (sh, I, R) = ev S d 83 26 [a0, a1, .inl (wr (x + 1))] st (sh, I, R) := (ev_eq f_83_23).trans rfl
theorem f_83_26 : fetch 83 26 = some (26, .goto (-24), 3, [2], 0) := (fm_83 26).trans rfl
theorem u_83_26 {S : Scr} {d : Nat} {a0 a1 a2 : AV} {st : List AV} {sh : Shp} {I : IM} {R : RM} : ev S d 83 26 [a0, a1, a2] st (sh, I, R) = ev S d 83 2 [a0, a1, a2] st (sh, I, R) := (ev_eq f_83_26).trans rfl
theorem f_83_29 : fetch 83 29 = some (29, .iconst 0, 1, [], 0) := (fm_83 29).trans rfl
theorem u_83_29 {S : Scr} {d : Nat} {a0 a1 a2 : AV} {st : List AV} {sh : Shp} {I : IM} {R : RM} : ev S d 83 29 [a0, a1, a2] st (sh, I, R) = ev S d 83 30 [a0, a1, a2] (.inl 0 :: st) (sh, I, R) := (ev_eq f_83_29).trans rfl
theorem f_83_30 : fetch 83 30 = some (30, .istore_n 2, 1, [2], 0) := (fm_83 30).trans rfl
theorem u_83_30 {S : Scr} {d : Nat} {a0 a1 a2 : AV} {st : List AV} {sh : Shp} {I : IM} {R : RM} {x : Int} : ev S d 83 30 [a0, a1, a2] (.inl x :: st) (sh, I, R) = ev S d 83 31 [a0, a1, .inl x] st (sh, I, R) := (ev_eq f_83_30).trans rfl
theorem f_83_31 : fetch 83 31 = some (31, .iload_n 2, 1, [2], 0) := (fm_83 31).trans rfl
theorem u_83_31 {S : Scr} {d : Nat} {a0 a1 : AV} {st : List AV} {sh : Shp} {I : IM} {R : RM} {x : Int} : ev S d 83 31 [a0, a1, .inl x] st (sh, I, R) = ev S d 83 32 [a0, a1, .inl x] (.inl x :: st) (sh, I, R) := (ev_eq f_83_31).trans rfl
theorem f_83_32 : fetch 83 32 = some (32, .bipush 9, 2, [], 9) := (fm_83 32).trans rfl
theorem u_83_32 {S : Scr} {d : Nat} {a0 a1 a2 : AV} {st : List AV} {sh : Shp} {I : IM} {R : RM} : ev S d 83 32 [a0, a1, a2] st (sh, I, R) = ev S d 83 34 [a0, a1, a2] (.inl 9 :: st) (sh, I, R) := (ev_eq f_83_32).trans rfl
theorem f_83_34 : fetch 83 34 = some (34, .if_icmp .ge 24, 3, [58], 0) := (fm_83 34).trans rfl
theorem u_83_34 {S : Scr} {d : Nat} {a0 a1 a2 : AV} {st : List AV} {sh : Shp} {I : IM} {R : RM} {x y : Int} : ev S d 83 34 [a0, a1, a2] (.inl y :: .inl x :: st) (sh, I, R) = if y ≤ x then ev S d 83 58 [a0, a1, a2] st (sh, I, R) else ev S d 83 37 [a0, a1, a2] st (sh, I, R) := (ev_eq f_83_34).trans fin_icmp_ge
theorem f_83_37 : fetch 83 37 = some (37, .aload_n 0, 1, [0], 0) := (fm_83 37).trans rfl
theorem u_83_37 {S : Scr} {d : Nat} {a1 a2 : AV} {st : List AV} {sh : Shp} {I : IM} {R : RM} {x : Nat} : ev S d 83 37 [.inr (.inl x), a1, a2] st (sh, I, R) = ev S d 83 38 [.inr (.inl x), a1, a2] (.inr (.inl x) :: st) (sh, I, R) := (ev_eq f_83_37).trans rfl
theorem f_83_38 : fetch 83 38 = some (38, .getfield 19, 3, [7, 1, 1, 50], 0) := (fm_83 38).trans rfl
theorem u_83_38 {S : Scr} {d : Nat} {a0 a1 a2 : AV} {st : List AV} {sh : Shp} {I : IM} {R : RM} {k : Nat} (h : tg sh k = 7) : ev S d 83 38 [a0, a1, a2] (.inr (.inl k) :: st) (sh, I, R) = ev S d 83 41 [a0, a1, a2] (rv (R k 1) :: st) (sh, I, R) := (ev_eq f_83_38).trans (congrArg (fin S d 83) (if_pos h))
theorem f_83_41 : fetch 83 41 = some (41, .iload_n 2, 1, [2], 0) := (fm_83 41).trans rfl
theorem u_83_41 {S : Scr} {d : Nat} {a0 a1 : AV} {st : List AV} {sh : Shp} {I : IM} {R : RM} {x : Int} : ev S d 83 41 [a0, a1, .inl x] st (sh, I, R) = ev S d 83 42 [a0, a1, .inl x] (.inl x :: st) (sh, I, R) := (ev_eq f_83_41).trans rfl
theorem f_83_42 : fetch 83 42 = some (42, .aaload, 1, [], 0) := (fm_83 42).trans rfl
theorem u_83_42 {S : Scr} {d : Nat} {a0 a1 a2 : AV} {st : List AV} {sh : Shp} {I : IM} {R : RM} {k : Nat} {i : Int} (h : 200 ≤ tg sh k ∧ tg sh k < 210) (h0 : 0 ≤ i) (h1 : i < ln sh k) : ev S d 83 42 [a0, a1, a2] (.inl i :: .inr (.inl k) :: st) (sh, I, R) = ev S d 83 43 [a0, a1, a2] (rv (R k i) :: st) (sh, I, R) := (ev_eq f_83_42).trans (congrArg (fin S d 83) (if_pos ⟨h.1, h.2, h0, h1⟩))
theorem f_83_43 : fetch 83 43 = some (43, .aload_n 1, 1, [1], 0) := (fm_83 43).trans rfl
theorem u_83_43 {S : Scr} {d : Nat} {a0 a2 : AV} {st : List AV} {sh : Shp} {I : IM} {R : RM} {x : Nat} : ev S d 83 43 [a0, .inr (.inl x), a2] st (sh, I, R) = ev S d 83 44 [a0, .inr (.inl x), a2] (.inr (.inl x) :: st) (sh, I, R) := (ev_eq f_83_43).trans rfl
theorem u_83_43n {S : Scr} {d : Nat} {a0 a2 : AV} {st : List AV} {sh : Shp} {I : IM} {R : RM} : ev S d 83 43 [a0, .inr (.inr 0), a2] st (sh, I, R) = ev S d 83 44 [a0, .inr (.inr 0), a2] (.inr (.inr 0) :: st) (sh, I, R) := (ev_eq f_83_43).trans rfl
theorem f_83_44 : fetch 83 44 = some (44, .getfield 19, 3, [7, 1, 1, 50], 0) := (fm_83 44).trans rfl
theorem u_83_44 {S : Scr} {d : Nat} {a0 a1 a2 : AV} {st : List AV} {sh : Shp} {I : IM} {R : RM} {k : Nat} (h : tg sh k = 7) : ev S d 83 44 [a0, a1, a2] (.inr (.inl k) :: st) (sh, I, R) = ev S d 83 47 [a0, a1, a2] (rv (R k 1) :: st) (sh, I, R) := (ev_eq f_83_44).trans (congrArg (fin S d 83) (if_pos h))
theorem f_83_47 : fetch 83 47 = some (47, .iload_n 2, 1, [2], 0) := (fm_83 47).trans rfl
theorem u_83_47 {S : Scr} {d : Nat} {a0 a1 : AV} {st : List AV} {sh : Shp} {I : IM} {R : RM} {x : Int} : ev S d 83 47 [a0, a1, .inl x] st (sh, I, R) = ev S d 83 48 [a0, a1, .inl x] (.inl x :: st) (sh, I, R) := (ev_eq f_83_47).trans rfl
theorem f_83_48 : fetch 83 48 = some (48, .aaload, 1, [], 0) := (fm_83 48).trans rfl
theorem u_83_48 {S : Scr} {d : Nat} {a0 a1 a2 : AV} {st : List AV} {sh : Shp} {I : IM} {R : RM} {k : Nat} {i : Int} (h : 200 ≤ tg sh k ∧ tg sh k < 210) (h0 : 0 ≤ i) (h1 : i < ln sh k) : ev S d 83 48 [a0, a1, a2] (.inl i :: .inr (.inl k) :: st) (sh, I, R) = ev S d 83 49 [a0, a1, a2] (rv (R k i) :: st) (sh, I, R) := (ev_eq f_83_48).trans (congrArg (fin S d 83) (if_pos ⟨h.1, h.2, h0, h1⟩))
theorem f_83_49 : fetch 83 49 = some (49, .invokevirtual 81, 3, [13, 1, 72], 0) := (fm_83 49).trans rfl
theorem u_83_49 {S : Scr} {d : Nat} {a0 a1 a2 : AV} {st : List AV} {sh : Shp} {I : IM} {R : RM} {x0 : Nat} {k : Nat} (h : tg sh k = 1) (hr : st.length ≤ 8) : ev S d 83 49 [a0, a1, a2] (.inr (.inl x0) :: .inr (.inl k) :: st) (sh, I, R) = bnd (cl d 13 [.inr (.inl k), .inr (.inl x0)] (sh, I, R)) (fun v M => ev S d 83 52 [a0, a1, a2] (psh v st) M) := (ev_eq f_83_49).trans (congrArg (fin S d 83) (if_pos ⟨h, rfl, hr⟩))
theorem u_83_49n {S : Scr} {d : Nat} {a0 a1 a2 : AV} {st : List AV} {sh : Shp} {I : IM} {R : RM} {k : Nat} (h : tg sh k = 1) (hr : st.length ≤ 8) : ev S d 83 49 [a0, a1, a2] (.inr (.inr 0) :: .inr (.inl k) :: st) (sh, I, R) = bnd (cl d 13 [.inr (.inl k), .inr (.inr 0)] (sh, I, R)) (fun v M => ev S d 83 52 [a0, a1, a2] (psh v st) M) := (ev_eq f_83_49).trans (congrArg (fin S d 83) (if_pos ⟨h, rfl, hr⟩))
theorem f_83_52 : fetch 83 52 = some (52, .iinc 2 1, 3, [2], 1) := (fm_83 52).trans rfl
theorem u_83_52 {S : Scr} {d : Nat} {a0 a1 : AV} {st : List AV} {sh : Shp} {I : IM} {R : RM} {x : Int} : ev S d 83 52 [a0, a1, .inl x] st (sh, I, R) = ev S d 83 55 [a0, a1, .inl (wr (x + 1))] st (sh, I, R) := (ev_eq f_83_52).trans rfl
theorem f_83_55 : fetch 83 55 = some (55, .goto (-24), 3, [31], 0) := (fm_83 55).trans rfl
theorem u_83_55 {S : Scr} {d : Nat} {a0 a1 a2 : AV} {st : List AV} {sh : Shp} {I : IM} {R : RM} : ev S d 83 55 [a0, a1, a2] st (sh, I, R) = ev S d 83 31 [a0, a1, a2] st (sh, I, R) := (ev_eq f_83_55).trans rfl
theorem f_83_58 : fetch 83 58 = some (58, .aload_n 1, 1, [1], 0) := (fm_83 58).trans rfl
theorem u_83_58 {S : Scr} {d : Nat} {a0 a2 : AV} {st : List AV} {sh : Shp} {I : IM} {R : RM} {x : Nat} : ev S d 83 58 [a0, .inr (.inl x), a2] st (sh, I, R) = ev S d 83 59 [a0, .inr (.inl x), a2] (.inr (.inl x) :: st) (sh, I, R) := (ev_eq f_83_58).trans rfl
theorem u_83_58n {S : Scr} {d : Nat} {a0 a2 : AV} {st : List AV} {sh : Shp} {I : IM} {R : RM} : ev S d 83 58 [a0, .inr (.inr 0), a2] st (sh, I, R) = ev S d 83 59 [a0, .inr (.inr 0), a2] (.inr (.inr 0) :: st) (sh, I, R) := (ev_eq f_83_58).trans rfl
theorem f_83_59 : fetch 83 59 = some (59, .getfield 23, 3, [7, 2, 1, 51], 0) := (fm_83 59).trans rfl
theorem u_83_59 {S : Scr} {d : Nat} {a0 a1 a2 : AV} {st : List AV} {sh : Shp} {I : IM} {R : RM} {k : Nat} (h : tg sh k = 7) : ev S d 83 59 [a0, a1, a2] (.inr (.inl k) :: st) (sh, I, R) = ev S d 83 62 [a0, a1, a2] (rv (R k 2) :: st) (sh, I, R) := (ev_eq f_83_59).trans (congrArg (fin S d 83) (if_pos h))
theorem f_83_62 : fetch 83 62 = some (62, .iconst 0, 1, [], 0) := (fm_83 62).trans rfl
theorem u_83_62 {S : Scr} {d : Nat} {a0 a1 a2 : AV} {st : List AV} {sh : Shp} {I : IM} {R : RM} : ev S d 83 62 [a0, a1, a2] st (sh, I, R) = ev S d 83 63 [a0, a1, a2] (.inl 0 :: st) (sh, I, R) := (ev_eq f_83_62).trans rfl
theorem f_83_63 : fetch 83 63 = some (63, .aload_n 0, 1, [0], 0) := (fm_83 63).trans rfl
theorem u_83_63 {S : Scr} {d : Nat} {a1 a2 : AV} {st : List AV} {sh : Shp} {I : IM} {R : RM} {x : Nat} : ev S d 83 63 [.inr (.inl x), a1, a2] st (sh, I, R) = ev S d 83 64 [.inr (.inl x), a1, a2] (.inr (.inl x) :: st) (sh, I, R) := (ev_eq f_83_63).trans rfl
theorem f_83_64 : fetch 83 64 = some (64, .getfield 23, 3, [7, 2, 1, 51], 0) := (fm_83 64).trans rfl
theorem u_83_64 {S : Scr} {d : Nat} {a0 a1 a2 : AV} {st : List AV} {sh : Shp} {I : IM} {R : RM} {k : Nat} (h : tg sh k = 7) : ev S d 83 64 [a0, a1, a2] (.inr (.inl k) :: st) (sh, I, R) = ev S d 83 67 [a0, a1, a2] (rv (R k 2) :: st) (sh, I, R) := (ev_eq f_83_64).trans (congrArg (fin S d 83) (if_pos h))
theorem f_83_67 : fetch 83 67 = some (67, .iconst 0, 1, [], 0) := (fm_83 67).trans rfl
theorem u_83_67 {S : Scr} {d : Nat} {a0 a1 a2 : AV} {st : List AV} {sh : Shp} {I : IM} {R : RM} : ev S d 83 67 [a0, a1, a2] st (sh, I, R) = ev S d 83 68 [a0, a1, a2] (.inl 0 :: st) (sh, I, R) := (ev_eq f_83_67).trans rfl
theorem f_83_68 : fetch 83 68 = some (68, .iconst 4, 1, [], 4) := (fm_83 68).trans rfl
theorem u_83_68 {S : Scr} {d : Nat} {a0 a1 a2 : AV} {st : List AV} {sh : Shp} {I : IM} {R : RM} : ev S d 83 68 [a0, a1, a2] st (sh, I, R) = ev S d 83 69 [a0, a1, a2] (.inl 4 :: st) (sh, I, R) := (ev_eq f_83_68).trans rfl
theorem f_83_69 : fetch 83 69 = some (69, .invokestatic 83, 3, [2], 0) := (fm_83 69).trans rfl
theorem u_83_69 {S : Scr} {d : Nat} {a0 a1 a2 : AV} {st : List AV} {sh : Shp} {I : IM} {R : RM} {k0 k1 : Nat} {sp dp c : Int} (h : tg sh k0 = 100 ∧ tg sh k1 = 100 ∧ k0 ≠ k1 ∧ 0 ≤ sp ∧ 0 ≤ dp ∧ 0 ≤ c ∧ sp + c ≤ ln sh k0 ∧ dp + c ≤ ln sh k1 ∧ st.length ≤ 8) : ev S d 83 69 [a0, a1, a2] (.inl c :: .inl dp :: .inr (.inl k1) :: .inl sp :: .inr (.inl k0) :: st) (sh, I, R) = ev S d 83 72 [a0, a1, a2] st (sh, cp I k0 sp k1 dp c, R) := (ev_eq f_83_69).trans (congrArg (fin S d 83) (if_pos h))
theorem f_83_72 : fetch 83 72 = some (72, .return_, 1, [], 0) := (fm_83 72).trans rfl
theorem u_83_72 {S : Scr} {d : Nat} {a0 a1 a2 : AV} {sh : Shp} {I : IM} {R : RM} : ev S d 83 72 [a0, a1, a2] [] (sh, I, R) = some (none, (sh, I, R)) := (ev_eq f_83_72).trans rfl
