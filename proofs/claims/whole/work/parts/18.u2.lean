/-! one step each (by program): 84 GraphSaver.<init>, 85 GraphSaver.schema, 86 GraphSaver.version, 87 GraphSaver.byDefault, 88 GraphSaver.object, 89 GraphSaver.row, 90 GraphSaver.write, 91 GraphSaver.read, 92 GraphSaver.forget, 93 GraphSaver.graft, 94 GraphSaver.ref, 95 GraphSaver.of, 96 GraphSaver.name, 97 GraphSaver.copy, 98 GraphSaver.graph, 99 GraphSaver.sweep, 100 GraphSaver.shelf, 101 GraphSaver.put, 102 GraphSaver.sign, 103 GraphSaver.save, 104 GraphSaver.load, 105 GraphSaver.cause, 106 GraphSaver.judge, 107 GraphSaver.told, 108 GraphSaver.reaches, 109 GraphSaver.alike, 110 GraphSaver.stream, 111 GraphSaver.image, 112 GraphSaver.back, 113 GraphSaver.hold, 114 GraphSaver.held, 115 GraphSaver.tells, 116 GraphSaver.count, 117 GraphSaver.usedHandles, 118 GraphSaver.usedShelves, 119 GraphSaver.pointAtCopies, 120 GraphSaver.isObjectOrNothing, 121 GraphSaver.isShelf, 122 GraphSaver.isHandle, 123 GraphSaver.isName, 124 GraphSaver.isNumber, 125 GraphSaver.hasSchemas, 126 GraphSaver.refsOf, 127 GraphSaver.orNot -/
theorem c_84 {d : Nat} {a0 : AV} {M : Mem} : cl (d + 1) 84 [a0] M = ev S0 d 84 0 [a0, .inr (.inr 1)] [] M := (cl_eq (as := [a0]) (show 1 ≤ maxOf 84 by decide +kernel)).trans rfl
theorem mt_84 : MT[84]? = some m_84 := rfl
theorem fm_84 (pc : Nat) : fetch 84 pc = lk m_84.2.2.2.2.2 pc := by
  unfold fetch
  rw [mt_84]
theorem f_84_0 : fetch 84 0 = some (0, .aload_n 0, 1, [0], 0) := (fm_84 0).trans rfl
theorem u_84_0 {S : Scr} {d : Nat} {a1 : AV} {st : List AV} {sh : Shp} {I : IM} {R : RM} {x : Nat} : ev S d 84 0 [.inr (.inl x), a1] st (sh, I, R) = ev S d 84 1 [.inr (.inl x), a1] (.inr (.inl x) :: st) (sh, I, R) := (ev_eq f_84_0).trans rfl
theorem f_84_1 : fetch 84 1 = some (1, .invokespecial 1, 3, [8], 0) := (fm_84 1).trans rfl
theorem u_84_1 {S : Scr} {d : Nat} {a0 a1 : AV} {st : List AV} {sh : Shp} {I : IM} {R : RM} {k : Nat} (hr : st.length ≤ 8) : ev S d 84 1 [a0, a1] (.inr (.inl k) :: st) (sh, I, R) = ev S d 84 4 [a0, a1] st (sh, I, R) := (ev_eq f_84_1).trans (congrArg (fin S d 84) (if_pos hr))
theorem f_84_4 : fetch 84 4 = some (4, .aload_n 0, 1, [0], 0) := (fm_84 4).trans rfl
theorem u_84_4 {S : Scr} {d : Nat} {a1 : AV} {st : List AV} {sh : Shp} {I : IM} {R : RM} {x : Nat} : ev S d 84 4 [.inr (.inl x), a1] st (sh, I, R) = ev S d 84 5 [.inr (.inl x), a1] (.inr (.inl x) :: st) (sh, I, R) := (ev_eq f_84_4).trans rfl
theorem f_84_5 : fetch 84 5 = some (5, .new 7, 3, [7, 3, 6], 0) := (fm_84 5).trans rfl
theorem f_84_8 : fetch 84 8 = some (8, .dup, 1, [], 0) := (fm_84 8).trans rfl
theorem u_84_8 {S : Scr} {d : Nat} {a0 a1 : AV} {st : List AV} {sh : Shp} {I : IM} {R : RM} {x : AV} : ev S d 84 8 [a0, a1] (x :: st) (sh, I, R) = ev S d 84 9 [a0, a1] (x :: x :: st) (sh, I, R) := (ev_eq f_84_8).trans rfl
theorem f_84_9 : fetch 84 9 = some (9, .invokespecial 9, 3, [67, 0, 73], 0) := (fm_84 9).trans rfl
theorem u_84_9 {S : Scr} {d : Nat} {a0 a1 : AV} {st : List AV} {sh : Shp} {I : IM} {R : RM} {k : Nat} (h : tg sh k = 7) (hr : st.length ≤ 8) : ev S d 84 9 [a0, a1] (.inr (.inl k) :: st) (sh, I, R) = bnd (cl d 67 [.inr (.inl k)] (sh, I, R)) (fun v M => ev S d 84 12 [a0, a1] (psh v st) M) := (ev_eq f_84_9).trans (congrArg (fin S d 84) (if_pos ⟨h, rfl, hr⟩))
theorem f_84_12 : fetch 84 12 = some (12, .putfield 10, 3, [8, 0, 1, 55], 0) := (fm_84 12).trans rfl
theorem u_84_12 {S : Scr} {d : Nat} {a0 a1 : AV} {st : List AV} {sh : Shp} {I : IM} {R : RM} {k v : Nat} (h : tg sh k = 8) : ev S d 84 12 [a0, a1] (.inr (.inl v) :: .inr (.inl k) :: st) (sh, I, R) = ev S d 84 15 [a0, a1] st (sh, I, up R k 0 (some v)) := (ev_eq f_84_12).trans (congrArg (fin S d 84) (if_pos h))
theorem f_84_15 : fetch 84 15 = some (15, .aload_n 0, 1, [0], 0) := (fm_84 15).trans rfl
theorem u_84_15 {S : Scr} {d : Nat} {a1 : AV} {st : List AV} {sh : Shp} {I : IM} {R : RM} {x : Nat} : ev S d 84 15 [.inr (.inl x), a1] st (sh, I, R) = ev S d 84 16 [.inr (.inl x), a1] (.inr (.inl x) :: st) (sh, I, R) := (ev_eq f_84_15).trans rfl
theorem f_84_16 : fetch 84 16 = some (16, .new 7, 3, [7, 3, 6], 0) := (fm_84 16).trans rfl
theorem f_84_19 : fetch 84 19 = some (19, .dup, 1, [], 0) := (fm_84 19).trans rfl
theorem u_84_19 {S : Scr} {d : Nat} {a0 a1 : AV} {st : List AV} {sh : Shp} {I : IM} {R : RM} {x : AV} : ev S d 84 19 [a0, a1] (x :: st) (sh, I, R) = ev S d 84 20 [a0, a1] (x :: x :: st) (sh, I, R) := (ev_eq f_84_19).trans rfl
theorem f_84_20 : fetch 84 20 = some (20, .invokespecial 9, 3, [67, 0, 73], 0) := (fm_84 20).trans rfl
theorem u_84_20 {S : Scr} {d : Nat} {a0 a1 : AV} {st : List AV} {sh : Shp} {I : IM} {R : RM} {k : Nat} (h : tg sh k = 7) (hr : st.length ≤ 8) : ev S d 84 20 [a0, a1] (.inr (.inl k) :: st) (sh, I, R) = bnd (cl d 67 [.inr (.inl k)] (sh, I, R)) (fun v M => ev S d 84 23 [a0, a1] (psh v st) M) := (ev_eq f_84_20).trans (congrArg (fin S d 84) (if_pos ⟨h, rfl, hr⟩))
theorem f_84_23 : fetch 84 23 = some (23, .putfield 16, 3, [8, 1, 1, 56], 0) := (fm_84 23).trans rfl
theorem u_84_23 {S : Scr} {d : Nat} {a0 a1 : AV} {st : List AV} {sh : Shp} {I : IM} {R : RM} {k v : Nat} (h : tg sh k = 8) : ev S d 84 23 [a0, a1] (.inr (.inl v) :: .inr (.inl k) :: st) (sh, I, R) = ev S d 84 26 [a0, a1] st (sh, I, up R k 1 (some v)) := (ev_eq f_84_23).trans (congrArg (fin S d 84) (if_pos h))
theorem f_84_26 : fetch 84 26 = some (26, .aload_n 0, 1, [0], 0) := (fm_84 26).trans rfl
theorem u_84_26 {S : Scr} {d : Nat} {a1 : AV} {st : List AV} {sh : Shp} {I : IM} {R : RM} {x : Nat} : ev S d 84 26 [.inr (.inl x), a1] st (sh, I, R) = ev S d 84 27 [.inr (.inl x), a1] (.inr (.inl x) :: st) (sh, I, R) := (ev_eq f_84_26).trans rfl
theorem f_84_27 : fetch 84 27 = some (27, .new 19, 3, [6, 6, 7], 0) := (fm_84 27).trans rfl
theorem f_84_30 : fetch 84 30 = some (30, .dup, 1, [], 0) := (fm_84 30).trans rfl
theorem u_84_30 {S : Scr} {d : Nat} {a0 a1 : AV} {st : List AV} {sh : Shp} {I : IM} {R : RM} {x : AV} : ev S d 84 30 [a0, a1] (x :: st) (sh, I, R) = ev S d 84 31 [a0, a1] (x :: x :: st) (sh, I, R) := (ev_eq f_84_30).trans rfl
theorem f_84_31 : fetch 84 31 = some (31, .aload_n 0, 1, [0], 0) := (fm_84 31).trans rfl
theorem u_84_31 {S : Scr} {d : Nat} {a1 : AV} {st : List AV} {sh : Shp} {I : IM} {R : RM} {x : Nat} : ev S d 84 31 [.inr (.inl x), a1] st (sh, I, R) = ev S d 84 32 [.inr (.inl x), a1] (.inr (.inl x) :: st) (sh, I, R) := (ev_eq f_84_31).trans rfl
theorem f_84_32 : fetch 84 32 = some (32, .getfield 10, 3, [8, 0, 1, 55], 0) := (fm_84 32).trans rfl
theorem u_84_32 {S : Scr} {d : Nat} {a0 a1 : AV} {st : List AV} {sh : Shp} {I : IM} {R : RM} {k : Nat} (h : tg sh k = 8) : ev S d 84 32 [a0, a1] (.inr (.inl k) :: st) (sh, I, R) = ev S d 84 35 [a0, a1] (rv (R k 0) :: st) (sh, I, R) := (ev_eq f_84_32).trans (congrArg (fin S d 84) (if_pos h))
theorem f_84_35 : fetch 84 35 = some (35, .invokespecial 21, 3, [53, 1, 74], 0) := (fm_84 35).trans rfl
theorem u_84_35 {S : Scr} {d : Nat} {a0 a1 : AV} {st : List AV} {sh : Shp} {I : IM} {R : RM} {x0 : Nat} {k : Nat} (h : tg sh k = 6) (hr : st.length ≤ 8) : ev S d 84 35 [a0, a1] (.inr (.inl x0) :: .inr (.inl k) :: st) (sh, I, R) = bnd (cl d 53 [.inr (.inl k), .inr (.inl x0)] (sh, I, R)) (fun v M => ev S d 84 38 [a0, a1] (psh v st) M) := (ev_eq f_84_35).trans (congrArg (fin S d 84) (if_pos ⟨h, rfl, hr⟩))
theorem u_84_35n {S : Scr} {d : Nat} {a0 a1 : AV} {st : List AV} {sh : Shp} {I : IM} {R : RM} {k : Nat} (h : tg sh k = 6) (hr : st.length ≤ 8) : ev S d 84 35 [a0, a1] (.inr (.inr 0) :: .inr (.inl k) :: st) (sh, I, R) = bnd (cl d 53 [.inr (.inl k), .inr (.inr 0)] (sh, I, R)) (fun v M => ev S d 84 38 [a0, a1] (psh v st) M) := (ev_eq f_84_35).trans (congrArg (fin S d 84) (if_pos ⟨h, rfl, hr⟩))
theorem f_84_38 : fetch 84 38 = some (38, .putfield 24, 3, [8, 2, 1, 57], 0) := (fm_84 38).trans rfl
theorem u_84_38 {S : Scr} {d : Nat} {a0 a1 : AV} {st : List AV} {sh : Shp} {I : IM} {R : RM} {k v : Nat} (h : tg sh k = 8) : ev S d 84 38 [a0, a1] (.inr (.inl v) :: .inr (.inl k) :: st) (sh, I, R) = ev S d 84 41 [a0, a1] st (sh, I, up R k 2 (some v)) := (ev_eq f_84_38).trans (congrArg (fin S d 84) (if_pos h))
theorem f_84_41 : fetch 84 41 = some (41, .aload_n 0, 1, [0], 0) := (fm_84 41).trans rfl
theorem u_84_41 {S : Scr} {d : Nat} {a1 : AV} {st : List AV} {sh : Shp} {I : IM} {R : RM} {x : Nat} : ev S d 84 41 [.inr (.inl x), a1] st (sh, I, R) = ev S d 84 42 [.inr (.inl x), a1] (.inr (.inl x) :: st) (sh, I, R) := (ev_eq f_84_41).trans rfl
theorem f_84_42 : fetch 84 42 = some (42, .new 28, 3, [4, 5, 8], 0) := (fm_84 42).trans rfl
theorem f_84_45 : fetch 84 45 = some (45, .dup, 1, [], 0) := (fm_84 45).trans rfl
theorem u_84_45 {S : Scr} {d : Nat} {a0 a1 : AV} {st : List AV} {sh : Shp} {I : IM} {R : RM} {x : AV} : ev S d 84 45 [a0, a1] (x :: st) (sh, I, R) = ev S d 84 46 [a0, a1] (x :: x :: st) (sh, I, R) := (ev_eq f_84_45).trans rfl
theorem f_84_46 : fetch 84 46 = some (46, .aload_n 0, 1, [0], 0) := (fm_84 46).trans rfl
theorem u_84_46 {S : Scr} {d : Nat} {a1 : AV} {st : List AV} {sh : Shp} {I : IM} {R : RM} {x : Nat} : ev S d 84 46 [.inr (.inl x), a1] st (sh, I, R) = ev S d 84 47 [.inr (.inl x), a1] (.inr (.inl x) :: st) (sh, I, R) := (ev_eq f_84_46).trans rfl
theorem f_84_47 : fetch 84 47 = some (47, .getfield 10, 3, [8, 0, 1, 55], 0) := (fm_84 47).trans rfl
theorem u_84_47 {S : Scr} {d : Nat} {a0 a1 : AV} {st : List AV} {sh : Shp} {I : IM} {R : RM} {k : Nat} (h : tg sh k = 8) : ev S d 84 47 [a0, a1] (.inr (.inl k) :: st) (sh, I, R) = ev S d 84 50 [a0, a1] (rv (R k 0) :: st) (sh, I, R) := (ev_eq f_84_47).trans (congrArg (fin S d 84) (if_pos h))
theorem f_84_50 : fetch 84 50 = some (50, .invokespecial 30, 3, [40, 1, 75], 0) := (fm_84 50).trans rfl
theorem u_84_50 {S : Scr} {d : Nat} {a0 a1 : AV} {st : List AV} {sh : Shp} {I : IM} {R : RM} {x0 : Nat} {k : Nat} (h : tg sh k = 4) (hr : st.length ≤ 8) : ev S d 84 50 [a0, a1] (.inr (.inl x0) :: .inr (.inl k) :: st) (sh, I, R) = bnd (cl d 40 [.inr (.inl k), .inr (.inl x0)] (sh, I, R)) (fun v M => ev S d 84 53 [a0, a1] (psh v st) M) := (ev_eq f_84_50).trans (congrArg (fin S d 84) (if_pos ⟨h, rfl, hr⟩))
theorem u_84_50n {S : Scr} {d : Nat} {a0 a1 : AV} {st : List AV} {sh : Shp} {I : IM} {R : RM} {k : Nat} (h : tg sh k = 4) (hr : st.length ≤ 8) : ev S d 84 50 [a0, a1] (.inr (.inr 0) :: .inr (.inl k) :: st) (sh, I, R) = bnd (cl d 40 [.inr (.inl k), .inr (.inr 0)] (sh, I, R)) (fun v M => ev S d 84 53 [a0, a1] (psh v st) M) := (ev_eq f_84_50).trans (congrArg (fin S d 84) (if_pos ⟨h, rfl, hr⟩))
theorem f_84_53 : fetch 84 53 = some (53, .putfield 31, 3, [8, 3, 1, 58], 0) := (fm_84 53).trans rfl
theorem u_84_53 {S : Scr} {d : Nat} {a0 a1 : AV} {st : List AV} {sh : Shp} {I : IM} {R : RM} {k v : Nat} (h : tg sh k = 8) : ev S d 84 53 [a0, a1] (.inr (.inl v) :: .inr (.inl k) :: st) (sh, I, R) = ev S d 84 56 [a0, a1] st (sh, I, up R k 3 (some v)) := (ev_eq f_84_53).trans (congrArg (fin S d 84) (if_pos h))
theorem f_84_56 : fetch 84 56 = some (56, .aload_n 0, 1, [0], 0) := (fm_84 56).trans rfl
theorem u_84_56 {S : Scr} {d : Nat} {a1 : AV} {st : List AV} {sh : Shp} {I : IM} {R : RM} {x : Nat} : ev S d 84 56 [.inr (.inl x), a1] st (sh, I, R) = ev S d 84 57 [.inr (.inl x), a1] (.inr (.inl x) :: st) (sh, I, R) := (ev_eq f_84_56).trans rfl
theorem f_84_57 : fetch 84 57 = some (57, .new 35, 3, [2, 7, 9], 0) := (fm_84 57).trans rfl
theorem f_84_60 : fetch 84 60 = some (60, .dup, 1, [], 0) := (fm_84 60).trans rfl
theorem u_84_60 {S : Scr} {d : Nat} {a0 a1 : AV} {st : List AV} {sh : Shp} {I : IM} {R : RM} {x : AV} : ev S d 84 60 [a0, a1] (x :: st) (sh, I, R) = ev S d 84 61 [a0, a1] (x :: x :: st) (sh, I, R) := (ev_eq f_84_60).trans rfl
theorem f_84_61 : fetch 84 61 = some (61, .aload_n 0, 1, [0], 0) := (fm_84 61).trans rfl
theorem u_84_61 {S : Scr} {d : Nat} {a1 : AV} {st : List AV} {sh : Shp} {I : IM} {R : RM} {x : Nat} : ev S d 84 61 [.inr (.inl x), a1] st (sh, I, R) = ev S d 84 62 [.inr (.inl x), a1] (.inr (.inl x) :: st) (sh, I, R) := (ev_eq f_84_61).trans rfl
theorem f_84_62 : fetch 84 62 = some (62, .getfield 10, 3, [8, 0, 1, 55], 0) := (fm_84 62).trans rfl
theorem u_84_62 {S : Scr} {d : Nat} {a0 a1 : AV} {st : List AV} {sh : Shp} {I : IM} {R : RM} {k : Nat} (h : tg sh k = 8) : ev S d 84 62 [a0, a1] (.inr (.inl k) :: st) (sh, I, R) = ev S d 84 65 [a0, a1] (rv (R k 0) :: st) (sh, I, R) := (ev_eq f_84_62).trans (congrArg (fin S d 84) (if_pos h))
theorem f_84_65 : fetch 84 65 = some (65, .invokespecial 37, 3, [17, 1, 76], 0) := (fm_84 65).trans rfl
theorem u_84_65 {S : Scr} {d : Nat} {a0 a1 : AV} {st : List AV} {sh : Shp} {I : IM} {R : RM} {x0 : Nat} {k : Nat} (h : tg sh k = 2) (hr : st.length ≤ 8) : ev S d 84 65 [a0, a1] (.inr (.inl x0) :: .inr (.inl k) :: st) (sh, I, R) = bnd (cl d 17 [.inr (.inl k), .inr (.inl x0)] (sh, I, R)) (fun v M => ev S d 84 68 [a0, a1] (psh v st) M) := (ev_eq f_84_65).trans (congrArg (fin S d 84) (if_pos ⟨h, rfl, hr⟩))
theorem u_84_65n {S : Scr} {d : Nat} {a0 a1 : AV} {st : List AV} {sh : Shp} {I : IM} {R : RM} {k : Nat} (h : tg sh k = 2) (hr : st.length ≤ 8) : ev S d 84 65 [a0, a1] (.inr (.inr 0) :: .inr (.inl k) :: st) (sh, I, R) = bnd (cl d 17 [.inr (.inl k), .inr (.inr 0)] (sh, I, R)) (fun v M => ev S d 84 68 [a0, a1] (psh v st) M) := (ev_eq f_84_65).trans (congrArg (fin S d 84) (if_pos ⟨h, rfl, hr⟩))
theorem f_84_68 : fetch 84 68 = some (68, .putfield 38, 3, [8, 4, 1, 59], 0) := (fm_84 68).trans rfl
theorem u_84_68 {S : Scr} {d : Nat} {a0 a1 : AV} {st : List AV} {sh : Shp} {I : IM} {R : RM} {k v : Nat} (h : tg sh k = 8) : ev S d 84 68 [a0, a1] (.inr (.inl v) :: .inr (.inl k) :: st) (sh, I, R) = ev S d 84 71 [a0, a1] st (sh, I, up R k 4 (some v)) := (ev_eq f_84_68).trans (congrArg (fin S d 84) (if_pos h))
theorem f_84_71 : fetch 84 71 = some (71, .aload_n 0, 1, [0], 0) := (fm_84 71).trans rfl
theorem u_84_71 {S : Scr} {d : Nat} {a1 : AV} {st : List AV} {sh : Shp} {I : IM} {R : RM} {x : Nat} : ev S d 84 71 [.inr (.inl x), a1] st (sh, I, R) = ev S d 84 72 [.inr (.inl x), a1] (.inr (.inl x) :: st) (sh, I, R) := (ev_eq f_84_71).trans rfl
theorem f_84_72 : fetch 84 72 = some (72, .iconst 4, 1, [], 4) := (fm_84 72).trans rfl
theorem u_84_72 {S : Scr} {d : Nat} {a0 a1 : AV} {st : List AV} {sh : Shp} {I : IM} {R : RM} : ev S d 84 72 [a0, a1] st (sh, I, R) = ev S d 84 73 [a0, a1] (.inl 4 :: st) (sh, I, R) := (ev_eq f_84_72).trans rfl
theorem f_84_73 : fetch 84 73 = some (73, .anewarray 42, 3, [5, 10, 2], 0) := (fm_84 73).trans rfl
theorem f_84_76 : fetch 84 76 = some (76, .putfield 44, 3, [8, 5, 1, 60], 0) := (fm_84 76).trans rfl
theorem u_84_76 {S : Scr} {d : Nat} {a0 a1 : AV} {st : List AV} {sh : Shp} {I : IM} {R : RM} {k v : Nat} (h : tg sh k = 8) : ev S d 84 76 [a0, a1] (.inr (.inl v) :: .inr (.inl k) :: st) (sh, I, R) = ev S d 84 79 [a0, a1] st (sh, I, up R k 5 (some v)) := (ev_eq f_84_76).trans (congrArg (fin S d 84) (if_pos h))
theorem f_84_79 : fetch 84 79 = some (79, .aload_n 0, 1, [0], 0) := (fm_84 79).trans rfl
theorem u_84_79 {S : Scr} {d : Nat} {a1 : AV} {st : List AV} {sh : Shp} {I : IM} {R : RM} {x : Nat} : ev S d 84 79 [.inr (.inl x), a1] st (sh, I, R) = ev S d 84 80 [.inr (.inl x), a1] (.inr (.inl x) :: st) (sh, I, R) := (ev_eq f_84_79).trans rfl
theorem f_84_80 : fetch 84 80 = some (80, .bipush 8, 2, [], 8) := (fm_84 80).trans rfl
theorem u_84_80 {S : Scr} {d : Nat} {a0 a1 : AV} {st : List AV} {sh : Shp} {I : IM} {R : RM} : ev S d 84 80 [a0, a1] st (sh, I, R) = ev S d 84 82 [a0, a1] (.inl 8 :: st) (sh, I, R) := (ev_eq f_84_80).trans rfl
theorem f_84_82 : fetch 84 82 = some (82, .newarray .int, 2, [], 0) := (fm_84 82).trans rfl
theorem f_84_84 : fetch 84 84 = some (84, .putfield 48, 3, [8, 6, 1, 61], 0) := (fm_84 84).trans rfl
theorem u_84_84 {S : Scr} {d : Nat} {a0 a1 : AV} {st : List AV} {sh : Shp} {I : IM} {R : RM} {k v : Nat} (h : tg sh k = 8) : ev S d 84 84 [a0, a1] (.inr (.inl v) :: .inr (.inl k) :: st) (sh, I, R) = ev S d 84 87 [a0, a1] st (sh, I, up R k 6 (some v)) := (ev_eq f_84_84).trans (congrArg (fin S d 84) (if_pos h))
theorem f_84_87 : fetch 84 87 = some (87, .aload_n 0, 1, [0], 0) := (fm_84 87).trans rfl
theorem u_84_87 {S : Scr} {d : Nat} {a1 : AV} {st : List AV} {sh : Shp} {I : IM} {R : RM} {x : Nat} : ev S d 84 87 [.inr (.inl x), a1] st (sh, I, R) = ev S d 84 88 [.inr (.inl x), a1] (.inr (.inl x) :: st) (sh, I, R) := (ev_eq f_84_87).trans rfl
theorem f_84_88 : fetch 84 88 = some (88, .bipush 30, 2, [], 30) := (fm_84 88).trans rfl
theorem u_84_88 {S : Scr} {d : Nat} {a0 a1 : AV} {st : List AV} {sh : Shp} {I : IM} {R : RM} : ev S d 84 88 [a0, a1] st (sh, I, R) = ev S d 84 90 [a0, a1] (.inl 30 :: st) (sh, I, R) := (ev_eq f_84_88).trans rfl
theorem f_84_90 : fetch 84 90 = some (90, .newarray .int, 2, [], 0) := (fm_84 90).trans rfl
theorem f_84_92 : fetch 84 92 = some (92, .putfield 52, 3, [8, 7, 1, 62], 0) := (fm_84 92).trans rfl
theorem u_84_92 {S : Scr} {d : Nat} {a0 a1 : AV} {st : List AV} {sh : Shp} {I : IM} {R : RM} {k v : Nat} (h : tg sh k = 8) : ev S d 84 92 [a0, a1] (.inr (.inl v) :: .inr (.inl k) :: st) (sh, I, R) = ev S d 84 95 [a0, a1] st (sh, I, up R k 7 (some v)) := (ev_eq f_84_92).trans (congrArg (fin S d 84) (if_pos h))
theorem f_84_95 : fetch 84 95 = some (95, .iconst 0, 1, [], 0) := (fm_84 95).trans rfl
theorem u_84_95 {S : Scr} {d : Nat} {a0 a1 : AV} {st : List AV} {sh : Shp} {I : IM} {R : RM} : ev S d 84 95 [a0, a1] st (sh, I, R) = ev S d 84 96 [a0, a1] (.inl 0 :: st) (sh, I, R) := (ev_eq f_84_95).trans rfl
theorem f_84_96 : fetch 84 96 = some (96, .istore_n 1, 1, [1], 0) := (fm_84 96).trans rfl
theorem u_84_96 {S : Scr} {d : Nat} {a0 a1 : AV} {st : List AV} {sh : Shp} {I : IM} {R : RM} {x : Int} : ev S d 84 96 [a0, a1] (.inl x :: st) (sh, I, R) = ev S d 84 97 [a0, .inl x] st (sh, I, R) := (ev_eq f_84_96).trans rfl
theorem f_84_97 : fetch 84 97 = some (97, .iload_n 1, 1, [1], 0) := (fm_84 97).trans rfl
theorem u_84_97 {S : Scr} {d : Nat} {a0 : AV} {st : List AV} {sh : Shp} {I : IM} {R : RM} {x : Int} : ev S d 84 97 [a0, .inl x] st (sh, I, R) = ev S d 84 98 [a0, .inl x] (.inl x :: st) (sh, I, R) := (ev_eq f_84_97).trans rfl
theorem f_84_98 : fetch 84 98 = some (98, .iconst 4, 1, [], 4) := (fm_84 98).trans rfl
theorem u_84_98 {S : Scr} {d : Nat} {a0 a1 : AV} {st : List AV} {sh : Shp} {I : IM} {R : RM} : ev S d 84 98 [a0, a1] st (sh, I, R) = ev S d 84 99 [a0, a1] (.inl 4 :: st) (sh, I, R) := (ev_eq f_84_98).trans rfl
theorem f_84_99 : fetch 84 99 = some (99, .if_icmp .ge 22, 3, [121], 0) := (fm_84 99).trans rfl
theorem u_84_99 {S : Scr} {d : Nat} {a0 a1 : AV} {st : List AV} {sh : Shp} {I : IM} {R : RM} {x y : Int} : ev S d 84 99 [a0, a1] (.inl y :: .inl x :: st) (sh, I, R) = if y ≤ x then ev S d 84 121 [a0, a1] st (sh, I, R) else ev S d 84 102 [a0, a1] st (sh, I, R) := (ev_eq f_84_99).trans fin_icmp_ge
theorem f_84_102 : fetch 84 102 = some (102, .aload_n 0, 1, [0], 0) := (fm_84 102).trans rfl
theorem u_84_102 {S : Scr} {d : Nat} {a1 : AV} {st : List AV} {sh : Shp} {I : IM} {R : RM} {x : Nat} : ev S d 84 102 [.inr (.inl x), a1] st (sh, I, R) = ev S d 84 103 [.inr (.inl x), a1] (.inr (.inl x) :: st) (sh, I, R) := (ev_eq f_84_102).trans rfl
theorem f_84_103 : fetch 84 103 = some (103, .getfield 44, 3, [8, 5, 1, 60], 0) := (fm_84 103).trans rfl
theorem u_84_103 {S : Scr} {d : Nat} {a0 a1 : AV} {st : List AV} {sh : Shp} {I : IM} {R : RM} {k : Nat} (h : tg sh k = 8) : ev S d 84 103 [a0, a1] (.inr (.inl k) :: st) (sh, I, R) = ev S d 84 106 [a0, a1] (rv (R k 5) :: st) (sh, I, R) := (ev_eq f_84_103).trans (congrArg (fin S d 84) (if_pos h))
theorem f_84_106 : fetch 84 106 = some (106, .iload_n 1, 1, [1], 0) := (fm_84 106).trans rfl
theorem u_84_106 {S : Scr} {d : Nat} {a0 : AV} {st : List AV} {sh : Shp} {I : IM} {R : RM} {x : Int} : ev S d 84 106 [a0, .inl x] st (sh, I, R) = ev S d 84 107 [a0, .inl x] (.inl x :: st) (sh, I, R) := (ev_eq f_84_106).trans rfl
theorem f_84_107 : fetch 84 107 = some (107, .new 42, 3, [5, 2, 10], 0) := (fm_84 107).trans rfl
theorem f_84_110 : fetch 84 110 = some (110, .dup, 1, [], 0) := (fm_84 110).trans rfl
theorem u_84_110 {S : Scr} {d : Nat} {a0 a1 : AV} {st : List AV} {sh : Shp} {I : IM} {R : RM} {x : AV} : ev S d 84 110 [a0, a1] (x :: st) (sh, I, R) = ev S d 84 111 [a0, a1] (x :: x :: st) (sh, I, R) := (ev_eq f_84_110).trans rfl
theorem f_84_111 : fetch 84 111 = some (111, .invokespecial 55, 3, [44, 0, 77], 0) := (fm_84 111).trans rfl
theorem u_84_111 {S : Scr} {d : Nat} {a0 a1 : AV} {st : List AV} {sh : Shp} {I : IM} {R : RM} {k : Nat} (h : tg sh k = 5) (hr : st.length ≤ 8) : ev S d 84 111 [a0, a1] (.inr (.inl k) :: st) (sh, I, R) = bnd (cl d 44 [.inr (.inl k)] (sh, I, R)) (fun v M => ev S d 84 114 [a0, a1] (psh v st) M) := (ev_eq f_84_111).trans (congrArg (fin S d 84) (if_pos ⟨h, rfl, hr⟩))
theorem f_84_114 : fetch 84 114 = some (114, .aastore, 1, [], 0) := (fm_84 114).trans rfl
theorem f_84_115 : fetch 84 115 = some (115, .iinc 1 1, 3, [1], 1) := (fm_84 115).trans rfl
theorem u_84_115 {S : Scr} {d : Nat} {a0 : AV} {st : List AV} {sh : Shp} {I : IM} {R : RM} {x : Int} : ev S d 84 115 [a0, .inl x] st (sh, I, R) = ev S d 84 118 [a0, .inl (wr (x + 1))] st (sh, I, R) := (ev_eq f_84_115).trans rfl
theorem f_84_118 : fetch 84 118 = some (118, .goto (-21), 3, [97], 0) := (fm_84 118).trans rfl
theorem u_84_118 {S : Scr} {d : Nat} {a0 a1 : AV} {st : List AV} {sh : Shp} {I : IM} {R : RM} : ev S d 84 118 [a0, a1] st (sh, I, R) = ev S d 84 97 [a0, a1] st (sh, I, R) := (ev_eq f_84_118).trans rfl
theorem f_84_121 : fetch 84 121 = some (121, .iconst 0, 1, [], 0) := (fm_84 121).trans rfl
theorem u_84_121 {S : Scr} {d : Nat} {a0 a1 : AV} {st : List AV} {sh : Shp} {I : IM} {R : RM} : ev S d 84 121 [a0, a1] st (sh, I, R) = ev S d 84 122 [a0, a1] (.inl 0 :: st) (sh, I, R) := (ev_eq f_84_121).trans rfl
theorem f_84_122 : fetch 84 122 = some (122, .istore_n 1, 1, [1], 0) := (fm_84 122).trans rfl
theorem u_84_122 {S : Scr} {d : Nat} {a0 a1 : AV} {st : List AV} {sh : Shp} {I : IM} {R : RM} {x : Int} : ev S d 84 122 [a0, a1] (.inl x :: st) (sh, I, R) = ev S d 84 123 [a0, .inl x] st (sh, I, R) := (ev_eq f_84_122).trans rfl
theorem f_84_123 : fetch 84 123 = some (123, .iload_n 1, 1, [1], 0) := (fm_84 123).trans rfl
theorem u_84_123 {S : Scr} {d : Nat} {a0 : AV} {st : List AV} {sh : Shp} {I : IM} {R : RM} {x : Int} : ev S d 84 123 [a0, .inl x] st (sh, I, R) = ev S d 84 124 [a0, .inl x] (.inl x :: st) (sh, I, R) := (ev_eq f_84_123).trans rfl
theorem f_84_124 : fetch 84 124 = some (124, .bipush 8, 2, [], 8) := (fm_84 124).trans rfl
theorem u_84_124 {S : Scr} {d : Nat} {a0 a1 : AV} {st : List AV} {sh : Shp} {I : IM} {R : RM} : ev S d 84 124 [a0, a1] st (sh, I, R) = ev S d 84 126 [a0, a1] (.inl 8 :: st) (sh, I, R) := (ev_eq f_84_124).trans rfl
theorem f_84_126 : fetch 84 126 = some (126, .if_icmp .ge 16, 3, [142], 0) := (fm_84 126).trans rfl
theorem u_84_126 {S : Scr} {d : Nat} {a0 a1 : AV} {st : List AV} {sh : Shp} {I : IM} {R : RM} {x y : Int} : ev S d 84 126 [a0, a1] (.inl y :: .inl x :: st) (sh, I, R) = if y ≤ x then ev S d 84 142 [a0, a1] st (sh, I, R) else ev S d 84 129 [a0, a1] st (sh, I, R) := (ev_eq f_84_126).trans fin_icmp_ge
theorem f_84_129 : fetch 84 129 = some (129, .aload_n 0, 1, [0], 0) := (fm_84 129).trans rfl
theorem u_84_129 {S : Scr} {d : Nat} {a1 : AV} {st : List AV} {sh : Shp} {I : IM} {R : RM} {x : Nat} : ev S d 84 129 [.inr (.inl x), a1] st (sh, I, R) = ev S d 84 130 [.inr (.inl x), a1] (.inr (.inl x) :: st) (sh, I, R) := (ev_eq f_84_129).trans rfl
theorem f_84_130 : fetch 84 130 = some (130, .getfield 48, 3, [8, 6, 1, 61], 0) := (fm_84 130).trans rfl
theorem u_84_130 {S : Scr} {d : Nat} {a0 a1 : AV} {st : List AV} {sh : Shp} {I : IM} {R : RM} {k : Nat} (h : tg sh k = 8) : ev S d 84 130 [a0, a1] (.inr (.inl k) :: st) (sh, I, R) = ev S d 84 133 [a0, a1] (rv (R k 6) :: st) (sh, I, R) := (ev_eq f_84_130).trans (congrArg (fin S d 84) (if_pos h))
theorem f_84_133 : fetch 84 133 = some (133, .iload_n 1, 1, [1], 0) := (fm_84 133).trans rfl
theorem u_84_133 {S : Scr} {d : Nat} {a0 : AV} {st : List AV} {sh : Shp} {I : IM} {R : RM} {x : Int} : ev S d 84 133 [a0, .inl x] st (sh, I, R) = ev S d 84 134 [a0, .inl x] (.inl x :: st) (sh, I, R) := (ev_eq f_84_133).trans rfl
theorem f_84_134 : fetch 84 134 = some (134, .iconst (-1), 1, [], (-1)) := (fm_84 134).trans rfl
theorem u_84_134 {S : Scr} {d : Nat} {a0 a1 : AV} {st : List AV} {sh : Shp} {I : IM} {R : RM} : ev S d 84 134 [a0, a1] st (sh, I, R) = ev S d 84 135 [a0, a1] (.inl (-1) :: st) (sh, I, R) := (ev_eq f_84_134).trans rfl
theorem f_84_135 : fetch 84 135 = some (135, .iastore, 1, [], 0) := (fm_84 135).trans rfl
theorem u_84_135 {S : Scr} {d : Nat} {a0 a1 : AV} {st : List AV} {sh : Shp} {I : IM} {R : RM} {k : Nat} {i x : Int} (h : tg sh k = 100) (h0 : 0 ≤ i) (h1 : i < ln sh k) : ev S d 84 135 [a0, a1] (.inl x :: .inl i :: .inr (.inl k) :: st) (sh, I, R) = ev S d 84 136 [a0, a1] st (sh, up I k i x, R) := (ev_eq f_84_135).trans (congrArg (fin S d 84) (if_pos ⟨h, h0, h1⟩))
theorem f_84_136 : fetch 84 136 = some (136, .iinc 1 1, 3, [1], 1) := (fm_84 136).trans rfl
theorem u_84_136 {S : Scr} {d : Nat} {a0 : AV} {st : List AV} {sh : Shp} {I : IM} {R : RM} {x : Int} : ev S d 84 136 [a0, .inl x] st (sh, I, R) = ev S d 84 139 [a0, .inl (wr (x + 1))] st (sh, I, R) := (ev_eq f_84_136).trans rfl
theorem f_84_139 : fetch 84 139 = some (139, .goto (-16), 3, [123], 0) := (fm_84 139).trans rfl
theorem u_84_139 {S : Scr} {d : Nat} {a0 a1 : AV} {st : List AV} {sh : Shp} {I : IM} {R : RM} : ev S d 84 139 [a0, a1] st (sh, I, R) = ev S d 84 123 [a0, a1] st (sh, I, R) := (ev_eq f_84_139).trans rfl
theorem f_84_142 : fetch 84 142 = some (142, .return_, 1, [], 0) := (fm_84 142).trans rfl
theorem u_84_142 {S : Scr} {d : Nat} {a0 a1 : AV} {sh : Shp} {I : IM} {R : RM} : ev S d 84 142 [a0, a1] [] (sh, I, R) = some (none, (sh, I, R)) := (ev_eq f_84_142).trans rfl
theorem c_85 {d : Nat} {a0 a1 a2 a3 a4 : AV} {M : Mem} : cl (d + 1) 85 [a0, a1, a2, a3, a4] M = ev S0 d 85 0 [a0, a1, a2, a3, a4, .inr (.inr 1)] [] M := (cl_eq (as := [a0, a1, a2, a3, a4]) (show 5 ≤ maxOf 85 by decide +kernel)).trans rfl
theorem mt_85 : MT[85]? = some m_85 := rfl
theorem fm_85 (pc : Nat) : fetch 85 pc = lk m_85.2.2.2.2.2 pc := by
  unfold fetch
  rw [mt_85]
theorem f_85_0 : fetch 85 0 = some (0, .aload_n 0, 1, [0], 0) := (fm_85 0).trans rfl
theorem u_85_0 {S : Scr} {d : Nat} {a1 a2 a3 a4 a5 : AV} {st : List AV} {sh : Shp} {I : IM} {R : RM} {x : Nat} : ev S d 85 0 [.inr (.inl x), a1, a2, a3, a4, a5] st (sh, I, R) = ev S d 85 1 [.inr (.inl x), a1, a2, a3, a4, a5] (.inr (.inl x) :: st) (sh, I, R) := (ev_eq f_85_0).trans rfl
theorem f_85_1 : fetch 85 1 = some (1, .getfield 10, 3, [8, 0, 1, 55], 0) := (fm_85 1).trans rfl
theorem u_85_1 {S : Scr} {d : Nat} {a0 a1 a2 a3 a4 a5 : AV} {st : List AV} {sh : Shp} {I : IM} {R : RM} {k : Nat} (h : tg sh k = 8) : ev S d 85 1 [a0, a1, a2, a3, a4, a5] (.inr (.inl k) :: st) (sh, I, R) = ev S d 85 4 [a0, a1, a2, a3, a4, a5] (rv (R k 0) :: st) (sh, I, R) := (ev_eq f_85_1).trans (congrArg (fin S d 85) (if_pos h))
theorem f_85_4 : fetch 85 4 = some (4, .iload_n 1, 1, [1], 0) := (fm_85 4).trans rfl
theorem u_85_4 {S : Scr} {d : Nat} {a0 a2 a3 a4 a5 : AV} {st : List AV} {sh : Shp} {I : IM} {R : RM} {x : Int} : ev S d 85 4 [a0, .inl x, a2, a3, a4, a5] st (sh, I, R) = ev S d 85 5 [a0, .inl x, a2, a3, a4, a5] (.inl x :: st) (sh, I, R) := (ev_eq f_85_4).trans rfl
theorem f_85_5 : fetch 85 5 = some (5, .iload_n 2, 1, [2], 0) := (fm_85 5).trans rfl
theorem u_85_5 {S : Scr} {d : Nat} {a0 a1 a3 a4 a5 : AV} {st : List AV} {sh : Shp} {I : IM} {R : RM} {x : Int} : ev S d 85 5 [a0, a1, .inl x, a3, a4, a5] st (sh, I, R) = ev S d 85 6 [a0, a1, .inl x, a3, a4, a5] (.inl x :: st) (sh, I, R) := (ev_eq f_85_5).trans rfl
theorem f_85_6 : fetch 85 6 = some (6, .invokevirtual 56, 3, [69, 2, 78], 0) := (fm_85 6).trans rfl
theorem u_85_6 {S : Scr} {d : Nat} {a0 a1 a2 a3 a4 a5 : AV} {st : List AV} {sh : Shp} {I : IM} {R : RM} {x0 : Int} {x1 : Int} {k : Nat} (h : tg sh k = 7) (hr : st.length ≤ 8) : ev S d 85 6 [a0, a1, a2, a3, a4, a5] (.inl x1 :: .inl x0 :: .inr (.inl k) :: st) (sh, I, R) = bnd (cl d 69 [.inr (.inl k), .inl x0, .inl x1] (sh, I, R)) (fun v M => ev S d 85 9 [a0, a1, a2, a3, a4, a5] (psh v st) M) := (ev_eq f_85_6).trans (congrArg (fin S d 85) (if_pos ⟨h, rfl, hr⟩))
theorem f_85_9 : fetch 85 9 = some (9, .astore 5, 2, [5], 0) := (fm_85 9).trans rfl
theorem u_85_9 {S : Scr} {d : Nat} {a0 a1 a2 a3 a4 a5 : AV} {st : List AV} {sh : Shp} {I : IM} {R : RM} {x : Nat} : ev S d 85 9 [a0, a1, a2, a3, a4, a5] (.inr (.inl x) :: st) (sh, I, R) = ev S d 85 11 [a0, a1, a2, a3, a4, .inr (.inl x)] st (sh, I, R) := (ev_eq f_85_9).trans rfl
theorem u_85_9n {S : Scr} {d : Nat} {a0 a1 a2 a3 a4 a5 : AV} {st : List AV} {sh : Shp} {I : IM} {R : RM} : ev S d 85 9 [a0, a1, a2, a3, a4, a5] (.inr (.inr 0) :: st) (sh, I, R) = ev S d 85 11 [a0, a1, a2, a3, a4, .inr (.inr 0)] st (sh, I, R) := (ev_eq f_85_9).trans rfl
theorem f_85_11 : fetch 85 11 = some (11, .aload 5, 2, [5], 0) := (fm_85 11).trans rfl
theorem u_85_11 {S : Scr} {d : Nat} {a0 a1 a2 a3 a4 : AV} {st : List AV} {sh : Shp} {I : IM} {R : RM} {x : Nat} : ev S d 85 11 [a0, a1, a2, a3, a4, .inr (.inl x)] st (sh, I, R) = ev S d 85 13 [a0, a1, a2, a3, a4, .inr (.inl x)] (.inr (.inl x) :: st) (sh, I, R) := (ev_eq f_85_11).trans rfl
theorem u_85_11n {S : Scr} {d : Nat} {a0 a1 a2 a3 a4 : AV} {st : List AV} {sh : Shp} {I : IM} {R : RM} : ev S d 85 11 [a0, a1, a2, a3, a4, .inr (.inr 0)] st (sh, I, R) = ev S d 85 13 [a0, a1, a2, a3, a4, .inr (.inr 0)] (.inr (.inr 0) :: st) (sh, I, R) := (ev_eq f_85_11).trans rfl
theorem f_85_13 : fetch 85 13 = some (13, .ifnull 18, 3, [31], 0) := (fm_85 13).trans rfl
theorem u_85_13 {S : Scr} {d : Nat} {a0 a1 a2 a3 a4 a5 : AV} {st : List AV} {sh : Shp} {I : IM} {R : RM} {x : Nat} : ev S d 85 13 [a0, a1, a2, a3, a4, a5] (.inr (.inl x) :: st) (sh, I, R) = ev S d 85 16 [a0, a1, a2, a3, a4, a5] st (sh, I, R) := (ev_eq f_85_13).trans rfl
theorem u_85_13n {S : Scr} {d : Nat} {a0 a1 a2 a3 a4 a5 : AV} {st : List AV} {sh : Shp} {I : IM} {R : RM} : ev S d 85 13 [a0, a1, a2, a3, a4, a5] (.inr (.inr 0) :: st) (sh, I, R) = ev S d 85 31 [a0, a1, a2, a3, a4, a5] st (sh, I, R) := (ev_eq f_85_13).trans rfl
theorem f_85_16 : fetch 85 16 = some (16, .iload_n 3, 1, [3], 0) := (fm_85 16).trans rfl
theorem u_85_16 {S : Scr} {d : Nat} {a0 a1 a2 a4 a5 : AV} {st : List AV} {sh : Shp} {I : IM} {R : RM} {x : Int} : ev S d 85 16 [a0, a1, a2, .inl x, a4, a5] st (sh, I, R) = ev S d 85 17 [a0, a1, a2, .inl x, a4, a5] (.inl x :: st) (sh, I, R) := (ev_eq f_85_16).trans rfl
theorem f_85_17 : fetch 85 17 = some (17, .invokestatic 60, 3, [123, 1, 79], 0) := (fm_85 17).trans rfl
theorem u_85_17 {S : Scr} {d : Nat} {a0 a1 a2 a3 a4 a5 : AV} {st : List AV} {sh : Shp} {I : IM} {R : RM} {x0 : Int} (hr : st.length ≤ 8) : ev S d 85 17 [a0, a1, a2, a3, a4, a5] (.inl x0 :: st) (sh, I, R) = bnd (cl d 123 [.inl x0] (sh, I, R)) (fun v M => ev S d 85 20 [a0, a1, a2, a3, a4, a5] (psh v st) M) := (ev_eq f_85_17).trans (congrArg (fin S d 85) (if_pos ⟨rfl, hr⟩))
theorem f_85_20 : fetch 85 20 = some (20, .ifCond .eq 11, 3, [31], 0) := (fm_85 20).trans rfl
theorem u_85_20 {S : Scr} {d : Nat} {a0 a1 a2 a3 a4 a5 : AV} {st : List AV} {sh : Shp} {I : IM} {R : RM} {x : Int} : ev S d 85 20 [a0, a1, a2, a3, a4, a5] (.inl x :: st) (sh, I, R) = if x = 0 then ev S d 85 31 [a0, a1, a2, a3, a4, a5] st (sh, I, R) else ev S d 85 23 [a0, a1, a2, a3, a4, a5] st (sh, I, R) := (ev_eq f_85_20).trans fin_if_eq
theorem f_85_23 : fetch 85 23 = some (23, .iload 4, 2, [4], 0) := (fm_85 23).trans rfl
theorem u_85_23 {S : Scr} {d : Nat} {a0 a1 a2 a3 a5 : AV} {st : List AV} {sh : Shp} {I : IM} {R : RM} {x : Int} : ev S d 85 23 [a0, a1, a2, a3, .inl x, a5] st (sh, I, R) = ev S d 85 25 [a0, a1, a2, a3, .inl x, a5] (.inl x :: st) (sh, I, R) := (ev_eq f_85_23).trans rfl
theorem f_85_25 : fetch 85 25 = some (25, .invokestatic 64, 3, [124, 1, 80], 0) := (fm_85 25).trans rfl
theorem u_85_25 {S : Scr} {d : Nat} {a0 a1 a2 a3 a4 a5 : AV} {st : List AV} {sh : Shp} {I : IM} {R : RM} {x0 : Int} (hr : st.length ≤ 8) : ev S d 85 25 [a0, a1, a2, a3, a4, a5] (.inl x0 :: st) (sh, I, R) = bnd (cl d 124 [.inl x0] (sh, I, R)) (fun v M => ev S d 85 28 [a0, a1, a2, a3, a4, a5] (psh v st) M) := (ev_eq f_85_25).trans (congrArg (fin S d 85) (if_pos ⟨rfl, hr⟩))
theorem f_85_28 : fetch 85 28 = some (28, .ifCond .ne 5, 3, [33], 0) := (fm_85 28).trans rfl
theorem u_85_28 {S : Scr} {d : Nat} {a0 a1 a2 a3 a4 a5 : AV} {st : List AV} {sh : Shp} {I : IM} {R : RM} {x : Int} : ev S d 85 28 [a0, a1, a2, a3, a4, a5] (.inl x :: st) (sh, I, R) = if ¬ x = 0 then ev S d 85 33 [a0, a1, a2, a3, a4, a5] st (sh, I, R) else ev S d 85 31 [a0, a1, a2, a3, a4, a5] st (sh, I, R) := (ev_eq f_85_28).trans fin_if_ne
theorem f_85_31 : fetch 85 31 = some (31, .iconst (-1), 1, [], (-1)) := (fm_85 31).trans rfl
theorem u_85_31 {S : Scr} {d : Nat} {a0 a1 a2 a3 a4 a5 : AV} {st : List AV} {sh : Shp} {I : IM} {R : RM} : ev S d 85 31 [a0, a1, a2, a3, a4, a5] st (sh, I, R) = ev S d 85 32 [a0, a1, a2, a3, a4, a5] (.inl (-1) :: st) (sh, I, R) := (ev_eq f_85_31).trans rfl
theorem f_85_32 : fetch 85 32 = some (32, .ireturn, 1, [0], 0) := (fm_85 32).trans rfl
theorem u_85_32 {S : Scr} {d : Nat} {a0 a1 a2 a3 a4 a5 : AV} {sh : Shp} {I : IM} {R : RM} {x : Int} : ev S d 85 32 [a0, a1, a2, a3, a4, a5] [.inl x] (sh, I, R) = some (some (.inl x), (sh, I, R)) := (ev_eq f_85_32).trans fin_iret0
theorem f_85_33 : fetch 85 33 = some (33, .aload 5, 2, [5], 0) := (fm_85 33).trans rfl
theorem u_85_33 {S : Scr} {d : Nat} {a0 a1 a2 a3 a4 : AV} {st : List AV} {sh : Shp} {I : IM} {R : RM} {x : Nat} : ev S d 85 33 [a0, a1, a2, a3, a4, .inr (.inl x)] st (sh, I, R) = ev S d 85 35 [a0, a1, a2, a3, a4, .inr (.inl x)] (.inr (.inl x) :: st) (sh, I, R) := (ev_eq f_85_33).trans rfl
theorem u_85_33n {S : Scr} {d : Nat} {a0 a1 a2 a3 a4 : AV} {st : List AV} {sh : Shp} {I : IM} {R : RM} : ev S d 85 33 [a0, a1, a2, a3, a4, .inr (.inr 0)] st (sh, I, R) = ev S d 85 35 [a0, a1, a2, a3, a4, .inr (.inr 0)] (.inr (.inr 0) :: st) (sh, I, R) := (ev_eq f_85_33).trans rfl
theorem f_85_35 : fetch 85 35 = some (35, .iload_n 3, 1, [3], 0) := (fm_85 35).trans rfl
theorem u_85_35 {S : Scr} {d : Nat} {a0 a1 a2 a4 a5 : AV} {st : List AV} {sh : Shp} {I : IM} {R : RM} {x : Int} : ev S d 85 35 [a0, a1, a2, .inl x, a4, a5] st (sh, I, R) = ev S d 85 36 [a0, a1, a2, .inl x, a4, a5] (.inl x :: st) (sh, I, R) := (ev_eq f_85_35).trans rfl
theorem f_85_36 : fetch 85 36 = some (36, .invokevirtual 67, 3, [6, 1, 81], 0) := (fm_85 36).trans rfl
theorem u_85_36 {S : Scr} {d : Nat} {a0 a1 a2 a3 a4 a5 : AV} {st : List AV} {sh : Shp} {I : IM} {R : RM} {x0 : Int} {k : Nat} (h : tg sh k = 1) (hr : st.length ≤ 8) : ev S d 85 36 [a0, a1, a2, a3, a4, a5] (.inl x0 :: .inr (.inl k) :: st) (sh, I, R) = bnd (cl d 6 [.inr (.inl k), .inl x0] (sh, I, R)) (fun v M => ev S d 85 39 [a0, a1, a2, a3, a4, a5] (psh v st) M) := (ev_eq f_85_36).trans (congrArg (fin S d 85) (if_pos ⟨h, rfl, hr⟩))
theorem f_85_39 : fetch 85 39 = some (39, .ifCond .eq 6, 3, [45], 0) := (fm_85 39).trans rfl
theorem u_85_39 {S : Scr} {d : Nat} {a0 a1 a2 a3 a4 a5 : AV} {st : List AV} {sh : Shp} {I : IM} {R : RM} {x : Int} : ev S d 85 39 [a0, a1, a2, a3, a4, a5] (.inl x :: st) (sh, I, R) = if x = 0 then ev S d 85 45 [a0, a1, a2, a3, a4, a5] st (sh, I, R) else ev S d 85 42 [a0, a1, a2, a3, a4, a5] st (sh, I, R) := (ev_eq f_85_39).trans fin_if_eq
theorem f_85_42 : fetch 85 42 = some (42, .bipush (-5), 2, [], (-5)) := (fm_85 42).trans rfl
theorem u_85_42 {S : Scr} {d : Nat} {a0 a1 a2 a3 a4 a5 : AV} {st : List AV} {sh : Shp} {I : IM} {R : RM} : ev S d 85 42 [a0, a1, a2, a3, a4, a5] st (sh, I, R) = ev S d 85 44 [a0, a1, a2, a3, a4, a5] (.inl (-5) :: st) (sh, I, R) := (ev_eq f_85_42).trans rfl
theorem f_85_44 : fetch 85 44 = some (44, .ireturn, 1, [0], 0) := (fm_85 44).trans rfl
theorem u_85_44 {S : Scr} {d : Nat} {a0 a1 a2 a3 a4 a5 : AV} {sh : Shp} {I : IM} {R : RM} {x : Int} : ev S d 85 44 [a0, a1, a2, a3, a4, a5] [.inl x] (sh, I, R) = some (some (.inl x), (sh, I, R)) := (ev_eq f_85_44).trans fin_iret0
theorem f_85_45 : fetch 85 45 = some (45, .aload 5, 2, [5], 0) := (fm_85 45).trans rfl
theorem u_85_45 {S : Scr} {d : Nat} {a0 a1 a2 a3 a4 : AV} {st : List AV} {sh : Shp} {I : IM} {R : RM} {x : Nat} : ev S d 85 45 [a0, a1, a2, a3, a4, .inr (.inl x)] st (sh, I, R) = ev S d 85 47 [a0, a1, a2, a3, a4, .inr (.inl x)] (.inr (.inl x) :: st) (sh, I, R) := (ev_eq f_85_45).trans rfl
theorem u_85_45n {S : Scr} {d : Nat} {a0 a1 a2 a3 a4 : AV} {st : List AV} {sh : Shp} {I : IM} {R : RM} : ev S d 85 45 [a0, a1, a2, a3, a4, .inr (.inr 0)] st (sh, I, R) = ev S d 85 47 [a0, a1, a2, a3, a4, .inr (.inr 0)] (.inr (.inr 0) :: st) (sh, I, R) := (ev_eq f_85_45).trans rfl
theorem f_85_47 : fetch 85 47 = some (47, .iload_n 3, 1, [3], 0) := (fm_85 47).trans rfl
theorem u_85_47 {S : Scr} {d : Nat} {a0 a1 a2 a4 a5 : AV} {st : List AV} {sh : Shp} {I : IM} {R : RM} {x : Int} : ev S d 85 47 [a0, a1, a2, .inl x, a4, a5] st (sh, I, R) = ev S d 85 48 [a0, a1, a2, .inl x, a4, a5] (.inl x :: st) (sh, I, R) := (ev_eq f_85_47).trans rfl
theorem f_85_48 : fetch 85 48 = some (48, .iload 4, 2, [4], 0) := (fm_85 48).trans rfl
theorem u_85_48 {S : Scr} {d : Nat} {a0 a1 a2 a3 a5 : AV} {st : List AV} {sh : Shp} {I : IM} {R : RM} {x : Int} : ev S d 85 48 [a0, a1, a2, a3, .inl x, a5] st (sh, I, R) = ev S d 85 50 [a0, a1, a2, a3, .inl x, a5] (.inl x :: st) (sh, I, R) := (ev_eq f_85_48).trans rfl
theorem f_85_50 : fetch 85 50 = some (50, .invokevirtual 72, 3, [9, 2, 82], 0) := (fm_85 50).trans rfl
theorem u_85_50 {S : Scr} {d : Nat} {a0 a1 a2 a3 a4 a5 : AV} {st : List AV} {sh : Shp} {I : IM} {R : RM} {x0 : Int} {x1 : Int} {k : Nat} (h : tg sh k = 1) (hr : st.length ≤ 8) : ev S d 85 50 [a0, a1, a2, a3, a4, a5] (.inl x1 :: .inl x0 :: .inr (.inl k) :: st) (sh, I, R) = bnd (cl d 9 [.inr (.inl k), .inl x0, .inl x1] (sh, I, R)) (fun v M => ev S d 85 53 [a0, a1, a2, a3, a4, a5] (psh v st) M) := (ev_eq f_85_50).trans (congrArg (fin S d 85) (if_pos ⟨h, rfl, hr⟩))
theorem f_85_53 : fetch 85 53 = some (53, .ifCond .eq 11, 3, [64], 0) := (fm_85 53).trans rfl
theorem u_85_53 {S : Scr} {d : Nat} {a0 a1 a2 a3 a4 a5 : AV} {st : List AV} {sh : Shp} {I : IM} {R : RM} {x : Int} : ev S d 85 53 [a0, a1, a2, a3, a4, a5] (.inl x :: st) (sh, I, R) = if x = 0 then ev S d 85 64 [a0, a1, a2, a3, a4, a5] st (sh, I, R) else ev S d 85 56 [a0, a1, a2, a3, a4, a5] st (sh, I, R) := (ev_eq f_85_53).trans fin_if_eq
theorem f_85_56 : fetch 85 56 = some (56, .aload 5, 2, [5], 0) := (fm_85 56).trans rfl
theorem u_85_56 {S : Scr} {d : Nat} {a0 a1 a2 a3 a4 : AV} {st : List AV} {sh : Shp} {I : IM} {R : RM} {x : Nat} : ev S d 85 56 [a0, a1, a2, a3, a4, .inr (.inl x)] st (sh, I, R) = ev S d 85 58 [a0, a1, a2, a3, a4, .inr (.inl x)] (.inr (.inl x) :: st) (sh, I, R) := (ev_eq f_85_56).trans rfl
theorem u_85_56n {S : Scr} {d : Nat} {a0 a1 a2 a3 a4 : AV} {st : List AV} {sh : Shp} {I : IM} {R : RM} : ev S d 85 56 [a0, a1, a2, a3, a4, .inr (.inr 0)] st (sh, I, R) = ev S d 85 58 [a0, a1, a2, a3, a4, .inr (.inr 0)] (.inr (.inr 0) :: st) (sh, I, R) := (ev_eq f_85_56).trans rfl
theorem f_85_58 : fetch 85 58 = some (58, .getfield 76, 3, [1, 3, 0, 63], 0) := (fm_85 58).trans rfl
theorem u_85_58 {S : Scr} {d : Nat} {a0 a1 a2 a3 a4 a5 : AV} {st : List AV} {sh : Shp} {I : IM} {R : RM} {k : Nat} (h : tg sh k = 1) : ev S d 85 58 [a0, a1, a2, a3, a4, a5] (.inr (.inl k) :: st) (sh, I, R) = ev S d 85 61 [a0, a1, a2, a3, a4, a5] (.inl (I k 3) :: st) (sh, I, R) := (ev_eq f_85_58).trans (congrArg (fin S d 85) (if_pos h))
theorem f_85_61 : fetch 85 61 = some (61, .goto 5, 3, [66], 0) := (fm_85 61).trans rfl
theorem u_85_61 {S : Scr} {d : Nat} {a0 a1 a2 a3 a4 a5 : AV} {st : List AV} {sh : Shp} {I : IM} {R : RM} : ev S d 85 61 [a0, a1, a2, a3, a4, a5] st (sh, I, R) = ev S d 85 66 [a0, a1, a2, a3, a4, a5] st (sh, I, R) := (ev_eq f_85_61).trans rfl
theorem f_85_64 : fetch 85 64 = some (64, .bipush (-3), 2, [], (-3)) := (fm_85 64).trans rfl
theorem u_85_64 {S : Scr} {d : Nat} {a0 a1 a2 a3 a4 a5 : AV} {st : List AV} {sh : Shp} {I : IM} {R : RM} : ev S d 85 64 [a0, a1, a2, a3, a4, a5] st (sh, I, R) = ev S d 85 66 [a0, a1, a2, a3, a4, a5] (.inl (-3) :: st) (sh, I, R) := (ev_eq f_85_64).trans rfl
theorem f_85_66 : fetch 85 66 = some (66, .ireturn, 1, [0], 0) := (fm_85 66).trans rfl
theorem u_85_66 {S : Scr} {d : Nat} {a0 a1 a2 a3 a4 a5 : AV} {sh : Shp} {I : IM} {R : RM} {x : Int} : ev S d 85 66 [a0, a1, a2, a3, a4, a5] [.inl x] (sh, I, R) = some (some (.inl x), (sh, I, R)) := (ev_eq f_85_66).trans fin_iret0
theorem c_86 {d : Nat} {a0 a1 a2 : AV} {M : Mem} : cl (d + 1) 86 [a0, a1, a2] M = ev S0 d 86 0 [a0, a1, a2, .inr (.inr 1)] [] M := (cl_eq (as := [a0, a1, a2]) (show 3 ≤ maxOf 86 by decide +kernel)).trans rfl
theorem mt_86 : MT[86]? = some m_86 := rfl
theorem fm_86 (pc : Nat) : fetch 86 pc = lk m_86.2.2.2.2.2 pc := by
  unfold fetch
  rw [mt_86]
theorem f_86_0 : fetch 86 0 = some (0, .iload_n 1, 1, [1], 0) := (fm_86 0).trans rfl
theorem u_86_0 {S : Scr} {d : Nat} {a0 a2 a3 : AV} {st : List AV} {sh : Shp} {I : IM} {R : RM} {x : Int} : ev S d 86 0 [a0, .inl x, a2, a3] st (sh, I, R) = ev S d 86 1 [a0, .inl x, a2, a3] (.inl x :: st) (sh, I, R) := (ev_eq f_86_0).trans rfl
theorem f_86_1 : fetch 86 1 = some (1, .invokestatic 80, 3, [125, 1, 83], 0) := (fm_86 1).trans rfl
theorem u_86_1 {S : Scr} {d : Nat} {a0 a1 a2 a3 : AV} {st : List AV} {sh : Shp} {I : IM} {R : RM} {x0 : Int} (hr : st.length ≤ 8) : ev S d 86 1 [a0, a1, a2, a3] (.inl x0 :: st) (sh, I, R) = bnd (cl d 125 [.inl x0] (sh, I, R)) (fun v M => ev S d 86 4 [a0, a1, a2, a3] (psh v st) M) := (ev_eq f_86_1).trans (congrArg (fin S d 86) (if_pos ⟨rfl, hr⟩))
theorem f_86_4 : fetch 86 4 = some (4, .ifCond .eq 13, 3, [17], 0) := (fm_86 4).trans rfl
theorem u_86_4 {S : Scr} {d : Nat} {a0 a1 a2 a3 : AV} {st : List AV} {sh : Shp} {I : IM} {R : RM} {x : Int} : ev S d 86 4 [a0, a1, a2, a3] (.inl x :: st) (sh, I, R) = if x = 0 then ev S d 86 17 [a0, a1, a2, a3] st (sh, I, R) else ev S d 86 7 [a0, a1, a2, a3] st (sh, I, R) := (ev_eq f_86_4).trans fin_if_eq
theorem f_86_7 : fetch 86 7 = some (7, .iload_n 2, 1, [2], 0) := (fm_86 7).trans rfl
theorem u_86_7 {S : Scr} {d : Nat} {a0 a1 a3 : AV} {st : List AV} {sh : Shp} {I : IM} {R : RM} {x : Int} : ev S d 86 7 [a0, a1, .inl x, a3] st (sh, I, R) = ev S d 86 8 [a0, a1, .inl x, a3] (.inl x :: st) (sh, I, R) := (ev_eq f_86_7).trans rfl
theorem f_86_8 : fetch 86 8 = some (8, .iconst 1, 1, [], 1) := (fm_86 8).trans rfl
theorem u_86_8 {S : Scr} {d : Nat} {a0 a1 a2 a3 : AV} {st : List AV} {sh : Shp} {I : IM} {R : RM} : ev S d 86 8 [a0, a1, a2, a3] st (sh, I, R) = ev S d 86 9 [a0, a1, a2, a3] (.inl 1 :: st) (sh, I, R) := (ev_eq f_86_8).trans rfl
theorem f_86_9 : fetch 86 9 = some (9, .if_icmp .lt 8, 3, [17], 0) := (fm_86 9).trans rfl
theorem u_86_9 {S : Scr} {d : Nat} {a0 a1 a2 a3 : AV} {st : List AV} {sh : Shp} {I : IM} {R : RM} {x y : Int} : ev S d 86 9 [a0, a1, a2, a3] (.inl y :: .inl x :: st) (sh, I, R) = if x < y then ev S d 86 17 [a0, a1, a2, a3] st (sh, I, R) else ev S d 86 12 [a0, a1, a2, a3] st (sh, I, R) := (ev_eq f_86_9).trans fin_icmp_lt
theorem f_86_12 : fetch 86 12 = some (12, .iload_n 2, 1, [2], 0) := (fm_86 12).trans rfl
theorem u_86_12 {S : Scr} {d : Nat} {a0 a1 a3 : AV} {st : List AV} {sh : Shp} {I : IM} {R : RM} {x : Int} : ev S d 86 12 [a0, a1, .inl x, a3] st (sh, I, R) = ev S d 86 13 [a0, a1, .inl x, a3] (.inl x :: st) (sh, I, R) := (ev_eq f_86_12).trans rfl
theorem f_86_13 : fetch 86 13 = some (13, .iconst 3, 1, [], 3) := (fm_86 13).trans rfl
theorem u_86_13 {S : Scr} {d : Nat} {a0 a1 a2 a3 : AV} {st : List AV} {sh : Shp} {I : IM} {R : RM} : ev S d 86 13 [a0, a1, a2, a3] st (sh, I, R) = ev S d 86 14 [a0, a1, a2, a3] (.inl 3 :: st) (sh, I, R) := (ev_eq f_86_13).trans rfl
theorem f_86_14 : fetch 86 14 = some (14, .if_icmp .le 5, 3, [19], 0) := (fm_86 14).trans rfl
theorem u_86_14 {S : Scr} {d : Nat} {a0 a1 a2 a3 : AV} {st : List AV} {sh : Shp} {I : IM} {R : RM} {x y : Int} : ev S d 86 14 [a0, a1, a2, a3] (.inl y :: .inl x :: st) (sh, I, R) = if x ≤ y then ev S d 86 19 [a0, a1, a2, a3] st (sh, I, R) else ev S d 86 17 [a0, a1, a2, a3] st (sh, I, R) := (ev_eq f_86_14).trans fin_icmp_le
theorem f_86_17 : fetch 86 17 = some (17, .iconst (-1), 1, [], (-1)) := (fm_86 17).trans rfl
theorem u_86_17 {S : Scr} {d : Nat} {a0 a1 a2 a3 : AV} {st : List AV} {sh : Shp} {I : IM} {R : RM} : ev S d 86 17 [a0, a1, a2, a3] st (sh, I, R) = ev S d 86 18 [a0, a1, a2, a3] (.inl (-1) :: st) (sh, I, R) := (ev_eq f_86_17).trans rfl
theorem f_86_18 : fetch 86 18 = some (18, .ireturn, 1, [0], 0) := (fm_86 18).trans rfl
theorem u_86_18 {S : Scr} {d : Nat} {a0 a1 a2 a3 : AV} {sh : Shp} {I : IM} {R : RM} {x : Int} : ev S d 86 18 [a0, a1, a2, a3] [.inl x] (sh, I, R) = some (some (.inl x), (sh, I, R)) := (ev_eq f_86_18).trans fin_iret0
theorem f_86_19 : fetch 86 19 = some (19, .aload_n 0, 1, [0], 0) := (fm_86 19).trans rfl
theorem u_86_19 {S : Scr} {d : Nat} {a1 a2 a3 : AV} {st : List AV} {sh : Shp} {I : IM} {R : RM} {x : Nat} : ev S d 86 19 [.inr (.inl x), a1, a2, a3] st (sh, I, R) = ev S d 86 20 [.inr (.inl x), a1, a2, a3] (.inr (.inl x) :: st) (sh, I, R) := (ev_eq f_86_19).trans rfl
theorem f_86_20 : fetch 86 20 = some (20, .getfield 10, 3, [8, 0, 1, 55], 0) := (fm_86 20).trans rfl
theorem u_86_20 {S : Scr} {d : Nat} {a0 a1 a2 a3 : AV} {st : List AV} {sh : Shp} {I : IM} {R : RM} {k : Nat} (h : tg sh k = 8) : ev S d 86 20 [a0, a1, a2, a3] (.inr (.inl k) :: st) (sh, I, R) = ev S d 86 23 [a0, a1, a2, a3] (rv (R k 0) :: st) (sh, I, R) := (ev_eq f_86_20).trans (congrArg (fin S d 86) (if_pos h))
theorem f_86_23 : fetch 86 23 = some (23, .getfield 83, 3, [7, 2, 1, 64], 0) := (fm_86 23).trans rfl
theorem u_86_23 {S : Scr} {d : Nat} {a0 a1 a2 a3 : AV} {st : List AV} {sh : Shp} {I : IM} {R : RM} {k : Nat} (h : tg sh k = 7) : ev S d 86 23 [a0, a1, a2, a3] (.inr (.inl k) :: st) (sh, I, R) = ev S d 86 26 [a0, a1, a2, a3] (rv (R k 2) :: st) (sh, I, R) := (ev_eq f_86_23).trans (congrArg (fin S d 86) (if_pos h))
theorem f_86_26 : fetch 86 26 = some (26, .iload_n 1, 1, [1], 0) := (fm_86 26).trans rfl
theorem u_86_26 {S : Scr} {d : Nat} {a0 a2 a3 : AV} {st : List AV} {sh : Shp} {I : IM} {R : RM} {x : Int} : ev S d 86 26 [a0, .inl x, a2, a3] st (sh, I, R) = ev S d 86 27 [a0, .inl x, a2, a3] (.inl x :: st) (sh, I, R) := (ev_eq f_86_26).trans rfl
theorem f_86_27 : fetch 86 27 = some (27, .iaload, 1, [], 0) := (fm_86 27).trans rfl
theorem u_86_27 {S : Scr} {d : Nat} {a0 a1 a2 a3 : AV} {st : List AV} {sh : Shp} {I : IM} {R : RM} {k : Nat} {i : Int} (h : tg sh k = 100) (h0 : 0 ≤ i) (h1 : i < ln sh k) : ev S d 86 27 [a0, a1, a2, a3] (.inl i :: .inr (.inl k) :: st) (sh, I, R) = ev S d 86 28 [a0, a1, a2, a3] (.inl (I k i) :: st) (sh, I, R) := (ev_eq f_86_27).trans (congrArg (fin S d 86) (if_pos ⟨h, h0, h1⟩))
theorem f_86_28 : fetch 86 28 = some (28, .istore_n 3, 1, [3], 0) := (fm_86 28).trans rfl
theorem u_86_28 {S : Scr} {d : Nat} {a0 a1 a2 a3 : AV} {st : List AV} {sh : Shp} {I : IM} {R : RM} {x : Int} : ev S d 86 28 [a0, a1, a2, a3] (.inl x :: st) (sh, I, R) = ev S d 86 29 [a0, a1, a2, .inl x] st (sh, I, R) := (ev_eq f_86_28).trans rfl
theorem f_86_29 : fetch 86 29 = some (29, .aload_n 0, 1, [0], 0) := (fm_86 29).trans rfl
theorem u_86_29 {S : Scr} {d : Nat} {a1 a2 a3 : AV} {st : List AV} {sh : Shp} {I : IM} {R : RM} {x : Nat} : ev S d 86 29 [.inr (.inl x), a1, a2, a3] st (sh, I, R) = ev S d 86 30 [.inr (.inl x), a1, a2, a3] (.inr (.inl x) :: st) (sh, I, R) := (ev_eq f_86_29).trans rfl
theorem f_86_30 : fetch 86 30 = some (30, .getfield 10, 3, [8, 0, 1, 55], 0) := (fm_86 30).trans rfl
theorem u_86_30 {S : Scr} {d : Nat} {a0 a1 a2 a3 : AV} {st : List AV} {sh : Shp} {I : IM} {R : RM} {k : Nat} (h : tg sh k = 8) : ev S d 86 30 [a0, a1, a2, a3] (.inr (.inl k) :: st) (sh, I, R) = ev S d 86 33 [a0, a1, a2, a3] (rv (R k 0) :: st) (sh, I, R) := (ev_eq f_86_30).trans (congrArg (fin S d 86) (if_pos h))
theorem f_86_33 : fetch 86 33 = some (33, .getfield 83, 3, [7, 2, 1, 64], 0) := (fm_86 33).trans rfl
theorem u_86_33 {S : Scr} {d : Nat} {a0 a1 a2 a3 : AV} {st : List AV} {sh : Shp} {I : IM} {R : RM} {k : Nat} (h : tg sh k = 7) : ev S d 86 33 [a0, a1, a2, a3] (.inr (.inl k) :: st) (sh, I, R) = ev S d 86 36 [a0, a1, a2, a3] (rv (R k 2) :: st) (sh, I, R) := (ev_eq f_86_33).trans (congrArg (fin S d 86) (if_pos h))
theorem f_86_36 : fetch 86 36 = some (36, .iload_n 1, 1, [1], 0) := (fm_86 36).trans rfl
theorem u_86_36 {S : Scr} {d : Nat} {a0 a2 a3 : AV} {st : List AV} {sh : Shp} {I : IM} {R : RM} {x : Int} : ev S d 86 36 [a0, .inl x, a2, a3] st (sh, I, R) = ev S d 86 37 [a0, .inl x, a2, a3] (.inl x :: st) (sh, I, R) := (ev_eq f_86_36).trans rfl
theorem f_86_37 : fetch 86 37 = some (37, .iload_n 2, 1, [2], 0) := (fm_86 37).trans rfl
theorem u_86_37 {S : Scr} {d : Nat} {a0 a1 a3 : AV} {st : List AV} {sh : Shp} {I : IM} {R : RM} {x : Int} : ev S d 86 37 [a0, a1, .inl x, a3] st (sh, I, R) = ev S d 86 38 [a0, a1, .inl x, a3] (.inl x :: st) (sh, I, R) := (ev_eq f_86_37).trans rfl
theorem f_86_38 : fetch 86 38 = some (38, .iastore, 1, [], 0) := (fm_86 38).trans rfl
theorem u_86_38 {S : Scr} {d : Nat} {a0 a1 a2 a3 : AV} {st : List AV} {sh : Shp} {I : IM} {R : RM} {k : Nat} {i x : Int} (h : tg sh k = 100) (h0 : 0 ≤ i) (h1 : i < ln sh k) : ev S d 86 38 [a0, a1, a2, a3] (.inl x :: .inl i :: .inr (.inl k) :: st) (sh, I, R) = ev S d 86 39 [a0, a1, a2, a3] st (sh, up I k i x, R) := (ev_eq f_86_38).trans (congrArg (fin S d 86) (if_pos ⟨h, h0, h1⟩))
theorem f_86_39 : fetch 86 39 = some (39, .iload_n 3, 1, [3], 0) := (fm_86 39).trans rfl
theorem u_86_39 {S : Scr} {d : Nat} {a0 a1 a2 : AV} {st : List AV} {sh : Shp} {I : IM} {R : RM} {x : Int} : ev S d 86 39 [a0, a1, a2, .inl x] st (sh, I, R) = ev S d 86 40 [a0, a1, a2, .inl x] (.inl x :: st) (sh, I, R) := (ev_eq f_86_39).trans rfl
theorem f_86_40 : fetch 86 40 = some (40, .ireturn, 1, [0], 0) := (fm_86 40).trans rfl
theorem u_86_40 {S : Scr} {d : Nat} {a0 a1 a2 a3 : AV} {sh : Shp} {I : IM} {R : RM} {x : Int} : ev S d 86 40 [a0, a1, a2, a3] [.inl x] (sh, I, R) = some (some (.inl x), (sh, I, R)) := (ev_eq f_86_40).trans fin_iret0
theorem c_87 {d : Nat} {a0 a1 a2 a3 : AV} {M : Mem} : cl (d + 1) 87 [a0, a1, a2, a3] M = ev S0 d 87 0 [a0, a1, a2, a3, .inr (.inr 1)] [] M := (cl_eq (as := [a0, a1, a2, a3]) (show 4 ≤ maxOf 87 by decide +kernel)).trans rfl
theorem mt_87 : MT[87]? = some m_87 := rfl
theorem fm_87 (pc : Nat) : fetch 87 pc = lk m_87.2.2.2.2.2 pc := by
  unfold fetch
  rw [mt_87]
theorem f_87_0 : fetch 87 0 = some (0, .aload_n 0, 1, [0], 0) := (fm_87 0).trans rfl
theorem u_87_0 {S : Scr} {d : Nat} {a1 a2 a3 a4 : AV} {st : List AV} {sh : Shp} {I : IM} {R : RM} {x : Nat} : ev S d 87 0 [.inr (.inl x), a1, a2, a3, a4] st (sh, I, R) = ev S d 87 1 [.inr (.inl x), a1, a2, a3, a4] (.inr (.inl x) :: st) (sh, I, R) := (ev_eq f_87_0).trans rfl
theorem f_87_1 : fetch 87 1 = some (1, .getfield 10, 3, [8, 0, 1, 55], 0) := (fm_87 1).trans rfl
theorem u_87_1 {S : Scr} {d : Nat} {a0 a1 a2 a3 a4 : AV} {st : List AV} {sh : Shp} {I : IM} {R : RM} {k : Nat} (h : tg sh k = 8) : ev S d 87 1 [a0, a1, a2, a3, a4] (.inr (.inl k) :: st) (sh, I, R) = ev S d 87 4 [a0, a1, a2, a3, a4] (rv (R k 0) :: st) (sh, I, R) := (ev_eq f_87_1).trans (congrArg (fin S d 87) (if_pos h))
theorem f_87_4 : fetch 87 4 = some (4, .iload_n 1, 1, [1], 0) := (fm_87 4).trans rfl
theorem u_87_4 {S : Scr} {d : Nat} {a0 a2 a3 a4 : AV} {st : List AV} {sh : Shp} {I : IM} {R : RM} {x : Int} : ev S d 87 4 [a0, .inl x, a2, a3, a4] st (sh, I, R) = ev S d 87 5 [a0, .inl x, a2, a3, a4] (.inl x :: st) (sh, I, R) := (ev_eq f_87_4).trans rfl
theorem f_87_5 : fetch 87 5 = some (5, .iload_n 2, 1, [2], 0) := (fm_87 5).trans rfl
theorem u_87_5 {S : Scr} {d : Nat} {a0 a1 a3 a4 : AV} {st : List AV} {sh : Shp} {I : IM} {R : RM} {x : Int} : ev S d 87 5 [a0, a1, .inl x, a3, a4] st (sh, I, R) = ev S d 87 6 [a0, a1, .inl x, a3, a4] (.inl x :: st) (sh, I, R) := (ev_eq f_87_5).trans rfl
theorem f_87_6 : fetch 87 6 = some (6, .invokevirtual 56, 3, [69, 2, 78], 0) := (fm_87 6).trans rfl
theorem u_87_6 {S : Scr} {d : Nat} {a0 a1 a2 a3 a4 : AV} {st : List AV} {sh : Shp} {I : IM} {R : RM} {x0 : Int} {x1 : Int} {k : Nat} (h : tg sh k = 7) (hr : st.length ≤ 8) : ev S d 87 6 [a0, a1, a2, a3, a4] (.inl x1 :: .inl x0 :: .inr (.inl k) :: st) (sh, I, R) = bnd (cl d 69 [.inr (.inl k), .inl x0, .inl x1] (sh, I, R)) (fun v M => ev S d 87 9 [a0, a1, a2, a3, a4] (psh v st) M) := (ev_eq f_87_6).trans (congrArg (fin S d 87) (if_pos ⟨h, rfl, hr⟩))
theorem f_87_9 : fetch 87 9 = some (9, .astore 4, 2, [4], 0) := (fm_87 9).trans rfl
theorem u_87_9 {S : Scr} {d : Nat} {a0 a1 a2 a3 a4 : AV} {st : List AV} {sh : Shp} {I : IM} {R : RM} {x : Nat} : ev S d 87 9 [a0, a1, a2, a3, a4] (.inr (.inl x) :: st) (sh, I, R) = ev S d 87 11 [a0, a1, a2, a3, .inr (.inl x)] st (sh, I, R) := (ev_eq f_87_9).trans rfl
theorem u_87_9n {S : Scr} {d : Nat} {a0 a1 a2 a3 a4 : AV} {st : List AV} {sh : Shp} {I : IM} {R : RM} : ev S d 87 9 [a0, a1, a2, a3, a4] (.inr (.inr 0) :: st) (sh, I, R) = ev S d 87 11 [a0, a1, a2, a3, .inr (.inr 0)] st (sh, I, R) := (ev_eq f_87_9).trans rfl
theorem f_87_11 : fetch 87 11 = some (11, .aload 4, 2, [4], 0) := (fm_87 11).trans rfl
theorem u_87_11 {S : Scr} {d : Nat} {a0 a1 a2 a3 : AV} {st : List AV} {sh : Shp} {I : IM} {R : RM} {x : Nat} : ev S d 87 11 [a0, a1, a2, a3, .inr (.inl x)] st (sh, I, R) = ev S d 87 13 [a0, a1, a2, a3, .inr (.inl x)] (.inr (.inl x) :: st) (sh, I, R) := (ev_eq f_87_11).trans rfl
theorem u_87_11n {S : Scr} {d : Nat} {a0 a1 a2 a3 : AV} {st : List AV} {sh : Shp} {I : IM} {R : RM} : ev S d 87 11 [a0, a1, a2, a3, .inr (.inr 0)] st (sh, I, R) = ev S d 87 13 [a0, a1, a2, a3, .inr (.inr 0)] (.inr (.inr 0) :: st) (sh, I, R) := (ev_eq f_87_11).trans rfl
theorem f_87_13 : fetch 87 13 = some (13, .ifnonnull 8, 3, [21], 0) := (fm_87 13).trans rfl
theorem u_87_13 {S : Scr} {d : Nat} {a0 a1 a2 a3 a4 : AV} {st : List AV} {sh : Shp} {I : IM} {R : RM} {x : Nat} : ev S d 87 13 [a0, a1, a2, a3, a4] (.inr (.inl x) :: st) (sh, I, R) = ev S d 87 21 [a0, a1, a2, a3, a4] st (sh, I, R) := (ev_eq f_87_13).trans rfl
theorem u_87_13n {S : Scr} {d : Nat} {a0 a1 a2 a3 a4 : AV} {st : List AV} {sh : Shp} {I : IM} {R : RM} : ev S d 87 13 [a0, a1, a2, a3, a4] (.inr (.inr 0) :: st) (sh, I, R) = ev S d 87 16 [a0, a1, a2, a3, a4] st (sh, I, R) := (ev_eq f_87_13).trans rfl
theorem f_87_16 : fetch 87 16 = some (16, .ldc 86, 2, [3], (-2000000000)) := (fm_87 16).trans rfl
theorem u_87_16 {S : Scr} {d : Nat} {a0 a1 a2 a3 a4 : AV} {st : List AV} {sh : Shp} {I : IM} {R : RM} : ev S d 87 16 [a0, a1, a2, a3, a4] st (sh, I, R) = ev S d 87 18 [a0, a1, a2, a3, a4] (.inl (-2000000000) :: st) (sh, I, R) := (ev_eq f_87_16).trans rfl
theorem f_87_18 : fetch 87 18 = some (18, .goto 9, 3, [27], 0) := (fm_87 18).trans rfl
theorem u_87_18 {S : Scr} {d : Nat} {a0 a1 a2 a3 a4 : AV} {st : List AV} {sh : Shp} {I : IM} {R : RM} : ev S d 87 18 [a0, a1, a2, a3, a4] st (sh, I, R) = ev S d 87 27 [a0, a1, a2, a3, a4] st (sh, I, R) := (ev_eq f_87_18).trans rfl
theorem f_87_21 : fetch 87 21 = some (21, .aload 4, 2, [4], 0) := (fm_87 21).trans rfl
theorem u_87_21 {S : Scr} {d : Nat} {a0 a1 a2 a3 : AV} {st : List AV} {sh : Shp} {I : IM} {R : RM} {x : Nat} : ev S d 87 21 [a0, a1, a2, a3, .inr (.inl x)] st (sh, I, R) = ev S d 87 23 [a0, a1, a2, a3, .inr (.inl x)] (.inr (.inl x) :: st) (sh, I, R) := (ev_eq f_87_21).trans rfl
theorem u_87_21n {S : Scr} {d : Nat} {a0 a1 a2 a3 : AV} {st : List AV} {sh : Shp} {I : IM} {R : RM} : ev S d 87 21 [a0, a1, a2, a3, .inr (.inr 0)] st (sh, I, R) = ev S d 87 23 [a0, a1, a2, a3, .inr (.inr 0)] (.inr (.inr 0) :: st) (sh, I, R) := (ev_eq f_87_21).trans rfl
theorem f_87_23 : fetch 87 23 = some (23, .iload_n 3, 1, [3], 0) := (fm_87 23).trans rfl
theorem u_87_23 {S : Scr} {d : Nat} {a0 a1 a2 a4 : AV} {st : List AV} {sh : Shp} {I : IM} {R : RM} {x : Int} : ev S d 87 23 [a0, a1, a2, .inl x, a4] st (sh, I, R) = ev S d 87 24 [a0, a1, a2, .inl x, a4] (.inl x :: st) (sh, I, R) := (ev_eq f_87_23).trans rfl
theorem f_87_24 : fetch 87 24 = some (24, .invokevirtual 87, 3, [7, 1, 84], 0) := (fm_87 24).trans rfl
theorem u_87_24 {S : Scr} {d : Nat} {a0 a1 a2 a3 a4 : AV} {st : List AV} {sh : Shp} {I : IM} {R : RM} {x0 : Int} {k : Nat} (h : tg sh k = 1) (hr : st.length ≤ 8) : ev S d 87 24 [a0, a1, a2, a3, a4] (.inl x0 :: .inr (.inl k) :: st) (sh, I, R) = bnd (cl d 7 [.inr (.inl k), .inl x0] (sh, I, R)) (fun v M => ev S d 87 27 [a0, a1, a2, a3, a4] (psh v st) M) := (ev_eq f_87_24).trans (congrArg (fin S d 87) (if_pos ⟨h, rfl, hr⟩))
theorem f_87_27 : fetch 87 27 = some (27, .ireturn, 1, [0], 0) := (fm_87 27).trans rfl
theorem u_87_27 {S : Scr} {d : Nat} {a0 a1 a2 a3 a4 : AV} {sh : Shp} {I : IM} {R : RM} {x : Int} : ev S d 87 27 [a0, a1, a2, a3, a4] [.inl x] (sh, I, R) = some (some (.inl x), (sh, I, R)) := (ev_eq f_87_27).trans fin_iret0
theorem c_88 {d : Nat} {a0 a1 : AV} {M : Mem} : cl (d + 1) 88 [a0, a1] M = ev S0 d 88 0 [a0, a1, .inr (.inr 1), .inr (.inr 1)] [] M := (cl_eq (as := [a0, a1]) (show 2 ≤ maxOf 88 by decide +kernel)).trans rfl
theorem mt_88 : MT[88]? = some m_88 := rfl
theorem fm_88 (pc : Nat) : fetch 88 pc = lk m_88.2.2.2.2.2 pc := by
  unfold fetch
  rw [mt_88]
theorem f_88_0 : fetch 88 0 = some (0, .iload_n 1, 1, [1], 0) := (fm_88 0).trans rfl
theorem u_88_0 {S : Scr} {d : Nat} {a0 a2 a3 : AV} {st : List AV} {sh : Shp} {I : IM} {R : RM} {x : Int} : ev S d 88 0 [a0, .inl x, a2, a3] st (sh, I, R) = ev S d 88 1 [a0, .inl x, a2, a3] (.inl x :: st) (sh, I, R) := (ev_eq f_88_0).trans rfl
theorem f_88_1 : fetch 88 1 = some (1, .invokestatic 80, 3, [125, 1, 83], 0) := (fm_88 1).trans rfl
theorem u_88_1 {S : Scr} {d : Nat} {a0 a1 a2 a3 : AV} {st : List AV} {sh : Shp} {I : IM} {R : RM} {x0 : Int} (hr : st.length ≤ 8) : ev S d 88 1 [a0, a1, a2, a3] (.inl x0 :: st) (sh, I, R) = bnd (cl d 125 [.inl x0] (sh, I, R)) (fun v M => ev S d 88 4 [a0, a1, a2, a3] (psh v st) M) := (ev_eq f_88_1).trans (congrArg (fin S d 88) (if_pos ⟨rfl, hr⟩))
theorem f_88_4 : fetch 88 4 = some (4, .ifCond .ne 5, 3, [9], 0) := (fm_88 4).trans rfl
theorem u_88_4 {S : Scr} {d : Nat} {a0 a1 a2 a3 : AV} {st : List AV} {sh : Shp} {I : IM} {R : RM} {x : Int} : ev S d 88 4 [a0, a1, a2, a3] (.inl x :: st) (sh, I, R) = if ¬ x = 0 then ev S d 88 9 [a0, a1, a2, a3] st (sh, I, R) else ev S d 88 7 [a0, a1, a2, a3] st (sh, I, R) := (ev_eq f_88_4).trans fin_if_ne
theorem f_88_7 : fetch 88 7 = some (7, .iconst (-1), 1, [], (-1)) := (fm_88 7).trans rfl
theorem u_88_7 {S : Scr} {d : Nat} {a0 a1 a2 a3 : AV} {st : List AV} {sh : Shp} {I : IM} {R : RM} : ev S d 88 7 [a0, a1, a2, a3] st (sh, I, R) = ev S d 88 8 [a0, a1, a2, a3] (.inl (-1) :: st) (sh, I, R) := (ev_eq f_88_7).trans rfl
theorem f_88_8 : fetch 88 8 = some (8, .ireturn, 1, [0], 0) := (fm_88 8).trans rfl
theorem u_88_8 {S : Scr} {d : Nat} {a0 a1 a2 a3 : AV} {sh : Shp} {I : IM} {R : RM} {x : Int} : ev S d 88 8 [a0, a1, a2, a3] [.inl x] (sh, I, R) = some (some (.inl x), (sh, I, R)) := (ev_eq f_88_8).trans fin_iret0
theorem f_88_9 : fetch 88 9 = some (9, .aload_n 0, 1, [0], 0) := (fm_88 9).trans rfl
theorem u_88_9 {S : Scr} {d : Nat} {a1 a2 a3 : AV} {st : List AV} {sh : Shp} {I : IM} {R : RM} {x : Nat} : ev S d 88 9 [.inr (.inl x), a1, a2, a3] st (sh, I, R) = ev S d 88 10 [.inr (.inl x), a1, a2, a3] (.inr (.inl x) :: st) (sh, I, R) := (ev_eq f_88_9).trans rfl
theorem f_88_10 : fetch 88 10 = some (10, .getfield 10, 3, [8, 0, 1, 55], 0) := (fm_88 10).trans rfl
theorem u_88_10 {S : Scr} {d : Nat} {a0 a1 a2 a3 : AV} {st : List AV} {sh : Shp} {I : IM} {R : RM} {k : Nat} (h : tg sh k = 8) : ev S d 88 10 [a0, a1, a2, a3] (.inr (.inl k) :: st) (sh, I, R) = ev S d 88 13 [a0, a1, a2, a3] (rv (R k 0) :: st) (sh, I, R) := (ev_eq f_88_10).trans (congrArg (fin S d 88) (if_pos h))
theorem f_88_13 : fetch 88 13 = some (13, .invokevirtual 91, 3, [72, 0, 85], 0) := (fm_88 13).trans rfl
theorem u_88_13 {S : Scr} {d : Nat} {a0 a1 a2 a3 : AV} {st : List AV} {sh : Shp} {I : IM} {R : RM} {k : Nat} (h : tg sh k = 7) (hr : st.length ≤ 8) : ev S d 88 13 [a0, a1, a2, a3] (.inr (.inl k) :: st) (sh, I, R) = bnd (cl d 72 [.inr (.inl k)] (sh, I, R)) (fun v M => ev S d 88 16 [a0, a1, a2, a3] (psh v st) M) := (ev_eq f_88_13).trans (congrArg (fin S d 88) (if_pos ⟨h, rfl, hr⟩))
theorem f_88_16 : fetch 88 16 = some (16, .ifCond .eq 6, 3, [22], 0) := (fm_88 16).trans rfl
theorem u_88_16 {S : Scr} {d : Nat} {a0 a1 a2 a3 : AV} {st : List AV} {sh : Shp} {I : IM} {R : RM} {x : Int} : ev S d 88 16 [a0, a1, a2, a3] (.inl x :: st) (sh, I, R) = if x = 0 then ev S d 88 22 [a0, a1, a2, a3] st (sh, I, R) else ev S d 88 19 [a0, a1, a2, a3] st (sh, I, R) := (ev_eq f_88_16).trans fin_if_eq
theorem f_88_19 : fetch 88 19 = some (19, .bipush (-3), 2, [], (-3)) := (fm_88 19).trans rfl
theorem u_88_19 {S : Scr} {d : Nat} {a0 a1 a2 a3 : AV} {st : List AV} {sh : Shp} {I : IM} {R : RM} : ev S d 88 19 [a0, a1, a2, a3] st (sh, I, R) = ev S d 88 21 [a0, a1, a2, a3] (.inl (-3) :: st) (sh, I, R) := (ev_eq f_88_19).trans rfl
theorem f_88_21 : fetch 88 21 = some (21, .ireturn, 1, [0], 0) := (fm_88 21).trans rfl
theorem u_88_21 {S : Scr} {d : Nat} {a0 a1 a2 a3 : AV} {sh : Shp} {I : IM} {R : RM} {x : Int} : ev S d 88 21 [a0, a1, a2, a3] [.inl x] (sh, I, R) = some (some (.inl x), (sh, I, R)) := (ev_eq f_88_21).trans fin_iret0
theorem f_88_22 : fetch 88 22 = some (22, .aload_n 0, 1, [0], 0) := (fm_88 22).trans rfl
theorem u_88_22 {S : Scr} {d : Nat} {a1 a2 a3 : AV} {st : List AV} {sh : Shp} {I : IM} {R : RM} {x : Nat} : ev S d 88 22 [.inr (.inl x), a1, a2, a3] st (sh, I, R) = ev S d 88 23 [.inr (.inl x), a1, a2, a3] (.inr (.inl x) :: st) (sh, I, R) := (ev_eq f_88_22).trans rfl
theorem f_88_23 : fetch 88 23 = some (23, .getfield 10, 3, [8, 0, 1, 55], 0) := (fm_88 23).trans rfl
theorem u_88_23 {S : Scr} {d : Nat} {a0 a1 a2 a3 : AV} {st : List AV} {sh : Shp} {I : IM} {R : RM} {k : Nat} (h : tg sh k = 8) : ev S d 88 23 [a0, a1, a2, a3] (.inr (.inl k) :: st) (sh, I, R) = ev S d 88 26 [a0, a1, a2, a3] (rv (R k 0) :: st) (sh, I, R) := (ev_eq f_88_23).trans (congrArg (fin S d 88) (if_pos h))
theorem f_88_26 : fetch 88 26 = some (26, .iload_n 1, 1, [1], 0) := (fm_88 26).trans rfl
theorem u_88_26 {S : Scr} {d : Nat} {a0 a2 a3 : AV} {st : List AV} {sh : Shp} {I : IM} {R : RM} {x : Int} : ev S d 88 26 [a0, .inl x, a2, a3] st (sh, I, R) = ev S d 88 27 [a0, .inl x, a2, a3] (.inl x :: st) (sh, I, R) := (ev_eq f_88_26).trans rfl
theorem f_88_27 : fetch 88 27 = some (27, .iconst 0, 1, [], 0) := (fm_88 27).trans rfl
theorem u_88_27 {S : Scr} {d : Nat} {a0 a1 a2 a3 : AV} {st : List AV} {sh : Shp} {I : IM} {R : RM} : ev S d 88 27 [a0, a1, a2, a3] st (sh, I, R) = ev S d 88 28 [a0, a1, a2, a3] (.inl 0 :: st) (sh, I, R) := (ev_eq f_88_27).trans rfl
theorem f_88_28 : fetch 88 28 = some (28, .iload_n 1, 1, [1], 0) := (fm_88 28).trans rfl
theorem u_88_28 {S : Scr} {d : Nat} {a0 a2 a3 : AV} {st : List AV} {sh : Shp} {I : IM} {R : RM} {x : Int} : ev S d 88 28 [a0, .inl x, a2, a3] st (sh, I, R) = ev S d 88 29 [a0, .inl x, a2, a3] (.inl x :: st) (sh, I, R) := (ev_eq f_88_28).trans rfl
theorem f_88_29 : fetch 88 29 = some (29, .invokestatic 95, 3, [126, 1, 86], 0) := (fm_88 29).trans rfl
theorem u_88_29 {S : Scr} {d : Nat} {a0 a1 a2 a3 : AV} {st : List AV} {sh : Shp} {I : IM} {R : RM} {x0 : Int} (hr : st.length ≤ 8) : ev S d 88 29 [a0, a1, a2, a3] (.inl x0 :: st) (sh, I, R) = bnd (cl d 126 [.inl x0] (sh, I, R)) (fun v M => ev S d 88 32 [a0, a1, a2, a3] (psh v st) M) := (ev_eq f_88_29).trans (congrArg (fin S d 88) (if_pos ⟨rfl, hr⟩))
theorem f_88_32 : fetch 88 32 = some (32, .invokevirtual 98, 3, [73, 3, 87], 0) := (fm_88 32).trans rfl
theorem u_88_32 {S : Scr} {d : Nat} {a0 a1 a2 a3 : AV} {st : List AV} {sh : Shp} {I : IM} {R : RM} {x0 : Int} {x1 : Int} {x2 : Int} {k : Nat} (h : tg sh k = 7) (hr : st.length ≤ 8) : ev S d 88 32 [a0, a1, a2, a3] (.inl x2 :: .inl x1 :: .inl x0 :: .inr (.inl k) :: st) (sh, I, R) = bnd (cl d 73 [.inr (.inl k), .inl x0, .inl x1, .inl x2] (sh, I, R)) (fun v M => ev S d 88 35 [a0, a1, a2, a3] (psh v st) M) := (ev_eq f_88_32).trans (congrArg (fin S d 88) (if_pos ⟨h, rfl, hr⟩))
theorem f_88_35 : fetch 88 35 = some (35, .istore_n 2, 1, [2], 0) := (fm_88 35).trans rfl
theorem u_88_35 {S : Scr} {d : Nat} {a0 a1 a2 a3 : AV} {st : List AV} {sh : Shp} {I : IM} {R : RM} {x : Int} : ev S d 88 35 [a0, a1, a2, a3] (.inl x :: st) (sh, I, R) = ev S d 88 36 [a0, a1, .inl x, a3] st (sh, I, R) := (ev_eq f_88_35).trans rfl
theorem f_88_36 : fetch 88 36 = some (36, .aload_n 0, 1, [0], 0) := (fm_88 36).trans rfl
theorem u_88_36 {S : Scr} {d : Nat} {a1 a2 a3 : AV} {st : List AV} {sh : Shp} {I : IM} {R : RM} {x : Nat} : ev S d 88 36 [.inr (.inl x), a1, a2, a3] st (sh, I, R) = ev S d 88 37 [.inr (.inl x), a1, a2, a3] (.inr (.inl x) :: st) (sh, I, R) := (ev_eq f_88_36).trans rfl
theorem f_88_37 : fetch 88 37 = some (37, .getfield 10, 3, [8, 0, 1, 55], 0) := (fm_88 37).trans rfl
theorem u_88_37 {S : Scr} {d : Nat} {a0 a1 a2 a3 : AV} {st : List AV} {sh : Shp} {I : IM} {R : RM} {k : Nat} (h : tg sh k = 8) : ev S d 88 37 [a0, a1, a2, a3] (.inr (.inl k) :: st) (sh, I, R) = ev S d 88 40 [a0, a1, a2, a3] (rv (R k 0) :: st) (sh, I, R) := (ev_eq f_88_37).trans (congrArg (fin S d 88) (if_pos h))
theorem f_88_40 : fetch 88 40 = some (40, .iload_n 2, 1, [2], 0) := (fm_88 40).trans rfl
theorem u_88_40 {S : Scr} {d : Nat} {a0 a1 a3 : AV} {st : List AV} {sh : Shp} {I : IM} {R : RM} {x : Int} : ev S d 88 40 [a0, a1, .inl x, a3] st (sh, I, R) = ev S d 88 41 [a0, a1, .inl x, a3] (.inl x :: st) (sh, I, R) := (ev_eq f_88_40).trans rfl
theorem f_88_41 : fetch 88 41 = some (41, .invokevirtual 102, 3, [68, 1, 88], 0) := (fm_88 41).trans rfl
theorem u_88_41 {S : Scr} {d : Nat} {a0 a1 a2 a3 : AV} {st : List AV} {sh : Shp} {I : IM} {R : RM} {x0 : Int} {k : Nat} (h : tg sh k = 7) (hr : st.length ≤ 8) : ev S d 88 41 [a0, a1, a2, a3] (.inl x0 :: .inr (.inl k) :: st) (sh, I, R) = bnd (cl d 68 [.inr (.inl k), .inl x0] (sh, I, R)) (fun v M => ev S d 88 44 [a0, a1, a2, a3] (psh v st) M) := (ev_eq f_88_41).trans (congrArg (fin S d 88) (if_pos ⟨h, rfl, hr⟩))
theorem f_88_44 : fetch 88 44 = some (44, .astore_n 3, 1, [3], 0) := (fm_88 44).trans rfl
theorem u_88_44 {S : Scr} {d : Nat} {a0 a1 a2 a3 : AV} {st : List AV} {sh : Shp} {I : IM} {R : RM} {x : Nat} : ev S d 88 44 [a0, a1, a2, a3] (.inr (.inl x) :: st) (sh, I, R) = ev S d 88 45 [a0, a1, a2, .inr (.inl x)] st (sh, I, R) := (ev_eq f_88_44).trans rfl
theorem u_88_44n {S : Scr} {d : Nat} {a0 a1 a2 a3 : AV} {st : List AV} {sh : Shp} {I : IM} {R : RM} : ev S d 88 44 [a0, a1, a2, a3] (.inr (.inr 0) :: st) (sh, I, R) = ev S d 88 45 [a0, a1, a2, .inr (.inr 0)] st (sh, I, R) := (ev_eq f_88_44).trans rfl
theorem f_88_45 : fetch 88 45 = some (45, .aload_n 3, 1, [3], 0) := (fm_88 45).trans rfl
theorem u_88_45 {S : Scr} {d : Nat} {a0 a1 a2 : AV} {st : List AV} {sh : Shp} {I : IM} {R : RM} {x : Nat} : ev S d 88 45 [a0, a1, a2, .inr (.inl x)] st (sh, I, R) = ev S d 88 46 [a0, a1, a2, .inr (.inl x)] (.inr (.inl x) :: st) (sh, I, R) := (ev_eq f_88_45).trans rfl
theorem u_88_45n {S : Scr} {d : Nat} {a0 a1 a2 : AV} {st : List AV} {sh : Shp} {I : IM} {R : RM} : ev S d 88 45 [a0, a1, a2, .inr (.inr 0)] st (sh, I, R) = ev S d 88 46 [a0, a1, a2, .inr (.inr 0)] (.inr (.inr 0) :: st) (sh, I, R) := (ev_eq f_88_45).trans rfl
theorem f_88_46 : fetch 88 46 = some (46, .ifnull 11, 3, [57], 0) := (fm_88 46).trans rfl
theorem u_88_46 {S : Scr} {d : Nat} {a0 a1 a2 a3 : AV} {st : List AV} {sh : Shp} {I : IM} {R : RM} {x : Nat} : ev S d 88 46 [a0, a1, a2, a3] (.inr (.inl x) :: st) (sh, I, R) = ev S d 88 49 [a0, a1, a2, a3] st (sh, I, R) := (ev_eq f_88_46).trans rfl
theorem u_88_46n {S : Scr} {d : Nat} {a0 a1 a2 a3 : AV} {st : List AV} {sh : Shp} {I : IM} {R : RM} : ev S d 88 46 [a0, a1, a2, a3] (.inr (.inr 0) :: st) (sh, I, R) = ev S d 88 57 [a0, a1, a2, a3] st (sh, I, R) := (ev_eq f_88_46).trans rfl
theorem f_88_49 : fetch 88 49 = some (49, .aload_n 0, 1, [0], 0) := (fm_88 49).trans rfl
theorem u_88_49 {S : Scr} {d : Nat} {a1 a2 a3 : AV} {st : List AV} {sh : Shp} {I : IM} {R : RM} {x : Nat} : ev S d 88 49 [.inr (.inl x), a1, a2, a3] st (sh, I, R) = ev S d 88 50 [.inr (.inl x), a1, a2, a3] (.inr (.inl x) :: st) (sh, I, R) := (ev_eq f_88_49).trans rfl
theorem f_88_50 : fetch 88 50 = some (50, .getfield 10, 3, [8, 0, 1, 55], 0) := (fm_88 50).trans rfl
theorem u_88_50 {S : Scr} {d : Nat} {a0 a1 a2 a3 : AV} {st : List AV} {sh : Shp} {I : IM} {R : RM} {k : Nat} (h : tg sh k = 8) : ev S d 88 50 [a0, a1, a2, a3] (.inr (.inl k) :: st) (sh, I, R) = ev S d 88 53 [a0, a1, a2, a3] (rv (R k 0) :: st) (sh, I, R) := (ev_eq f_88_50).trans (congrArg (fin S d 88) (if_pos h))
theorem f_88_53 : fetch 88 53 = some (53, .aload_n 3, 1, [3], 0) := (fm_88 53).trans rfl
theorem u_88_53 {S : Scr} {d : Nat} {a0 a1 a2 : AV} {st : List AV} {sh : Shp} {I : IM} {R : RM} {x : Nat} : ev S d 88 53 [a0, a1, a2, .inr (.inl x)] st (sh, I, R) = ev S d 88 54 [a0, a1, a2, .inr (.inl x)] (.inr (.inl x) :: st) (sh, I, R) := (ev_eq f_88_53).trans rfl
theorem u_88_53n {S : Scr} {d : Nat} {a0 a1 a2 : AV} {st : List AV} {sh : Shp} {I : IM} {R : RM} : ev S d 88 53 [a0, a1, a2, .inr (.inr 0)] st (sh, I, R) = ev S d 88 54 [a0, a1, a2, .inr (.inr 0)] (.inr (.inr 0) :: st) (sh, I, R) := (ev_eq f_88_53).trans rfl
theorem f_88_54 : fetch 88 54 = some (54, .invokevirtual 106, 3, [76, 1, 89], 0) := (fm_88 54).trans rfl
theorem u_88_54 {S : Scr} {d : Nat} {a0 a1 a2 a3 : AV} {st : List AV} {sh : Shp} {I : IM} {R : RM} {x0 : Nat} {k : Nat} (h : tg sh k = 7) (hr : st.length ≤ 8) : ev S d 88 54 [a0, a1, a2, a3] (.inr (.inl x0) :: .inr (.inl k) :: st) (sh, I, R) = bnd (cl d 76 [.inr (.inl k), .inr (.inl x0)] (sh, I, R)) (fun v M => ev S d 88 57 [a0, a1, a2, a3] (psh v st) M) := (ev_eq f_88_54).trans (congrArg (fin S d 88) (if_pos ⟨h, rfl, hr⟩))
theorem u_88_54n {S : Scr} {d : Nat} {a0 a1 a2 a3 : AV} {st : List AV} {sh : Shp} {I : IM} {R : RM} {k : Nat} (h : tg sh k = 7) (hr : st.length ≤ 8) : ev S d 88 54 [a0, a1, a2, a3] (.inr (.inr 0) :: .inr (.inl k) :: st) (sh, I, R) = bnd (cl d 76 [.inr (.inl k), .inr (.inr 0)] (sh, I, R)) (fun v M => ev S d 88 57 [a0, a1, a2, a3] (psh v st) M) := (ev_eq f_88_54).trans (congrArg (fin S d 88) (if_pos ⟨h, rfl, hr⟩))
theorem f_88_57 : fetch 88 57 = some (57, .iload_n 2, 1, [2], 0) := (fm_88 57).trans rfl
theorem u_88_57 {S : Scr} {d : Nat} {a0 a1 a3 : AV} {st : List AV} {sh : Shp} {I : IM} {R : RM} {x : Int} : ev S d 88 57 [a0, a1, .inl x, a3] st (sh, I, R) = ev S d 88 58 [a0, a1, .inl x, a3] (.inl x :: st) (sh, I, R) := (ev_eq f_88_57).trans rfl
theorem f_88_58 : fetch 88 58 = some (58, .ireturn, 1, [0], 0) := (fm_88 58).trans rfl
theorem u_88_58 {S : Scr} {d : Nat} {a0 a1 a2 a3 : AV} {sh : Shp} {I : IM} {R : RM} {x : Int} : ev S d 88 58 [a0, a1, a2, a3] [.inl x] (sh, I, R) = some (some (.inl x), (sh, I, R)) := (ev_eq f_88_58).trans fin_iret0
theorem c_89 {d : Nat} {a0 a1 a2 : AV} {M : Mem} : cl (d + 1) 89 [a0, a1, a2] M = ev S0 d 89 0 [a0, a1, a2] [] M := (cl_eq (as := [a0, a1, a2]) (show 3 ≤ maxOf 89 by decide +kernel)).trans rfl
theorem mt_89 : MT[89]? = some m_89 := rfl
theorem fm_89 (pc : Nat) : fetch 89 pc = lk m_89.2.2.2.2.2 pc := by
  unfold fetch
  rw [mt_89]
theorem f_89_0 : fetch 89 0 = some (0, .iload_n 1, 1, [1], 0) := (fm_89 0).trans rfl
theorem u_89_0 {S : Scr} {d : Nat} {a0 a2 : AV} {st : List AV} {sh : Shp} {I : IM} {R : RM} {x : Int} : ev S d 89 0 [a0, .inl x, a2] st (sh, I, R) = ev S d 89 1 [a0, .inl x, a2] (.inl x :: st) (sh, I, R) := (ev_eq f_89_0).trans rfl
theorem f_89_1 : fetch 89 1 = some (1, .ifCond .lt 14, 3, [15], 0) := (fm_89 1).trans rfl
theorem u_89_1 {S : Scr} {d : Nat} {a0 a1 a2 : AV} {st : List AV} {sh : Shp} {I : IM} {R : RM} {x : Int} : ev S d 89 1 [a0, a1, a2] (.inl x :: st) (sh, I, R) = if x < 0 then ev S d 89 15 [a0, a1, a2] st (sh, I, R) else ev S d 89 4 [a0, a1, a2] st (sh, I, R) := (ev_eq f_89_1).trans fin_if_lt
theorem f_89_4 : fetch 89 4 = some (4, .iload_n 1, 1, [1], 0) := (fm_89 4).trans rfl
theorem u_89_4 {S : Scr} {d : Nat} {a0 a2 : AV} {st : List AV} {sh : Shp} {I : IM} {R : RM} {x : Int} : ev S d 89 4 [a0, .inl x, a2] st (sh, I, R) = ev S d 89 5 [a0, .inl x, a2] (.inl x :: st) (sh, I, R) := (ev_eq f_89_4).trans rfl
theorem f_89_5 : fetch 89 5 = some (5, .iconst 3, 1, [], 3) := (fm_89 5).trans rfl
theorem u_89_5 {S : Scr} {d : Nat} {a0 a1 a2 : AV} {st : List AV} {sh : Shp} {I : IM} {R : RM} : ev S d 89 5 [a0, a1, a2] st (sh, I, R) = ev S d 89 6 [a0, a1, a2] (.inl 3 :: st) (sh, I, R) := (ev_eq f_89_5).trans rfl
theorem f_89_6 : fetch 89 6 = some (6, .if_icmp .gt 9, 3, [15], 0) := (fm_89 6).trans rfl
theorem u_89_6 {S : Scr} {d : Nat} {a0 a1 a2 : AV} {st : List AV} {sh : Shp} {I : IM} {R : RM} {x y : Int} : ev S d 89 6 [a0, a1, a2] (.inl y :: .inl x :: st) (sh, I, R) = if y < x then ev S d 89 15 [a0, a1, a2] st (sh, I, R) else ev S d 89 9 [a0, a1, a2] st (sh, I, R) := (ev_eq f_89_6).trans fin_icmp_gt
theorem f_89_9 : fetch 89 9 = some (9, .iload_n 2, 1, [2], 0) := (fm_89 9).trans rfl
theorem u_89_9 {S : Scr} {d : Nat} {a0 a1 : AV} {st : List AV} {sh : Shp} {I : IM} {R : RM} {x : Int} : ev S d 89 9 [a0, a1, .inl x] st (sh, I, R) = ev S d 89 10 [a0, a1, .inl x] (.inl x :: st) (sh, I, R) := (ev_eq f_89_9).trans rfl
theorem f_89_10 : fetch 89 10 = some (10, .bipush 6, 2, [], 6) := (fm_89 10).trans rfl
theorem u_89_10 {S : Scr} {d : Nat} {a0 a1 a2 : AV} {st : List AV} {sh : Shp} {I : IM} {R : RM} : ev S d 89 10 [a0, a1, a2] st (sh, I, R) = ev S d 89 12 [a0, a1, a2] (.inl 6 :: st) (sh, I, R) := (ev_eq f_89_10).trans rfl
theorem f_89_12 : fetch 89 12 = some (12, .if_icmp .le 5, 3, [17], 0) := (fm_89 12).trans rfl
theorem u_89_12 {S : Scr} {d : Nat} {a0 a1 a2 : AV} {st : List AV} {sh : Shp} {I : IM} {R : RM} {x y : Int} : ev S d 89 12 [a0, a1, a2] (.inl y :: .inl x :: st) (sh, I, R) = if x ≤ y then ev S d 89 17 [a0, a1, a2] st (sh, I, R) else ev S d 89 15 [a0, a1, a2] st (sh, I, R) := (ev_eq f_89_12).trans fin_icmp_le
theorem f_89_15 : fetch 89 15 = some (15, .iconst (-1), 1, [], (-1)) := (fm_89 15).trans rfl
theorem u_89_15 {S : Scr} {d : Nat} {a0 a1 a2 : AV} {st : List AV} {sh : Shp} {I : IM} {R : RM} : ev S d 89 15 [a0, a1, a2] st (sh, I, R) = ev S d 89 16 [a0, a1, a2] (.inl (-1) :: st) (sh, I, R) := (ev_eq f_89_15).trans rfl
theorem f_89_16 : fetch 89 16 = some (16, .ireturn, 1, [0], 0) := (fm_89 16).trans rfl
theorem u_89_16 {S : Scr} {d : Nat} {a0 a1 a2 : AV} {sh : Shp} {I : IM} {R : RM} {x : Int} : ev S d 89 16 [a0, a1, a2] [.inl x] (sh, I, R) = some (some (.inl x), (sh, I, R)) := (ev_eq f_89_16).trans fin_iret0
theorem f_89_17 : fetch 89 17 = some (17, .iload_n 2, 1, [2], 0) := (fm_89 17).trans rfl
theorem u_89_17 {S : Scr} {d : Nat} {a0 a1 : AV} {st : List AV} {sh : Shp} {I : IM} {R : RM} {x : Int} : ev S d 89 17 [a0, a1, .inl x] st (sh, I, R) = ev S d 89 18 [a0, a1, .inl x] (.inl x :: st) (sh, I, R) := (ev_eq f_89_17).trans rfl
theorem f_89_18 : fetch 89 18 = some (18, .ifCond .ge 6, 3, [24], 0) := (fm_89 18).trans rfl
theorem u_89_18 {S : Scr} {d : Nat} {a0 a1 a2 : AV} {st : List AV} {sh : Shp} {I : IM} {R : RM} {x : Int} : ev S d 89 18 [a0, a1, a2] (.inl x :: st) (sh, I, R) = if 0 ≤ x then ev S d 89 24 [a0, a1, a2] st (sh, I, R) else ev S d 89 21 [a0, a1, a2] st (sh, I, R) := (ev_eq f_89_18).trans fin_if_ge
theorem f_89_21 : fetch 89 21 = some (21, .bipush (-14), 2, [], (-14)) := (fm_89 21).trans rfl
theorem u_89_21 {S : Scr} {d : Nat} {a0 a1 a2 : AV} {st : List AV} {sh : Shp} {I : IM} {R : RM} : ev S d 89 21 [a0, a1, a2] st (sh, I, R) = ev S d 89 23 [a0, a1, a2] (.inl (-14) :: st) (sh, I, R) := (ev_eq f_89_21).trans rfl
theorem f_89_23 : fetch 89 23 = some (23, .ireturn, 1, [0], 0) := (fm_89 23).trans rfl
theorem u_89_23 {S : Scr} {d : Nat} {a0 a1 a2 : AV} {sh : Shp} {I : IM} {R : RM} {x : Int} : ev S d 89 23 [a0, a1, a2] [.inl x] (sh, I, R) = some (some (.inl x), (sh, I, R)) := (ev_eq f_89_23).trans fin_iret0
theorem f_89_24 : fetch 89 24 = some (24, .aload_n 0, 1, [0], 0) := (fm_89 24).trans rfl
theorem u_89_24 {S : Scr} {d : Nat} {a1 a2 : AV} {st : List AV} {sh : Shp} {I : IM} {R : RM} {x : Nat} : ev S d 89 24 [.inr (.inl x), a1, a2] st (sh, I, R) = ev S d 89 25 [.inr (.inl x), a1, a2] (.inr (.inl x) :: st) (sh, I, R) := (ev_eq f_89_24).trans rfl
theorem f_89_25 : fetch 89 25 = some (25, .getfield 10, 3, [8, 0, 1, 55], 0) := (fm_89 25).trans rfl
theorem u_89_25 {S : Scr} {d : Nat} {a0 a1 a2 : AV} {st : List AV} {sh : Shp} {I : IM} {R : RM} {k : Nat} (h : tg sh k = 8) : ev S d 89 25 [a0, a1, a2] (.inr (.inl k) :: st) (sh, I, R) = ev S d 89 28 [a0, a1, a2] (rv (R k 0) :: st) (sh, I, R) := (ev_eq f_89_25).trans (congrArg (fin S d 89) (if_pos h))
theorem f_89_28 : fetch 89 28 = some (28, .invokevirtual 91, 3, [72, 0, 85], 0) := (fm_89 28).trans rfl
theorem u_89_28 {S : Scr} {d : Nat} {a0 a1 a2 : AV} {st : List AV} {sh : Shp} {I : IM} {R : RM} {k : Nat} (h : tg sh k = 7) (hr : st.length ≤ 8) : ev S d 89 28 [a0, a1, a2] (.inr (.inl k) :: st) (sh, I, R) = bnd (cl d 72 [.inr (.inl k)] (sh, I, R)) (fun v M => ev S d 89 31 [a0, a1, a2] (psh v st) M) := (ev_eq f_89_28).trans (congrArg (fin S d 89) (if_pos ⟨h, rfl, hr⟩))
theorem f_89_31 : fetch 89 31 = some (31, .ifCond .eq 8, 3, [39], 0) := (fm_89 31).trans rfl
theorem u_89_31 {S : Scr} {d : Nat} {a0 a1 a2 : AV} {st : List AV} {sh : Shp} {I : IM} {R : RM} {x : Int} : ev S d 89 31 [a0, a1, a2] (.inl x :: st) (sh, I, R) = if x = 0 then ev S d 89 39 [a0, a1, a2] st (sh, I, R) else ev S d 89 34 [a0, a1, a2] st (sh, I, R) := (ev_eq f_89_31).trans fin_if_eq
theorem f_89_34 : fetch 89 34 = some (34, .bipush (-3), 2, [], (-3)) := (fm_89 34).trans rfl
theorem u_89_34 {S : Scr} {d : Nat} {a0 a1 a2 : AV} {st : List AV} {sh : Shp} {I : IM} {R : RM} : ev S d 89 34 [a0, a1, a2] st (sh, I, R) = ev S d 89 36 [a0, a1, a2] (.inl (-3) :: st) (sh, I, R) := (ev_eq f_89_34).trans rfl
theorem f_89_36 : fetch 89 36 = some (36, .goto 13, 3, [49], 0) := (fm_89 36).trans rfl
theorem u_89_36 {S : Scr} {d : Nat} {a0 a1 a2 : AV} {st : List AV} {sh : Shp} {I : IM} {R : RM} : ev S d 89 36 [a0, a1, a2] st (sh, I, R) = ev S d 89 49 [a0, a1, a2] st (sh, I, R) := (ev_eq f_89_36).trans rfl
theorem f_89_39 : fetch 89 39 = some (39, .aload_n 0, 1, [0], 0) := (fm_89 39).trans rfl
theorem u_89_39 {S : Scr} {d : Nat} {a1 a2 : AV} {st : List AV} {sh : Shp} {I : IM} {R : RM} {x : Nat} : ev S d 89 39 [.inr (.inl x), a1, a2] st (sh, I, R) = ev S d 89 40 [.inr (.inl x), a1, a2] (.inr (.inl x) :: st) (sh, I, R) := (ev_eq f_89_39).trans rfl
theorem f_89_40 : fetch 89 40 = some (40, .getfield 10, 3, [8, 0, 1, 55], 0) := (fm_89 40).trans rfl
theorem u_89_40 {S : Scr} {d : Nat} {a0 a1 a2 : AV} {st : List AV} {sh : Shp} {I : IM} {R : RM} {k : Nat} (h : tg sh k = 8) : ev S d 89 40 [a0, a1, a2] (.inr (.inl k) :: st) (sh, I, R) = ev S d 89 43 [a0, a1, a2] (rv (R k 0) :: st) (sh, I, R) := (ev_eq f_89_40).trans (congrArg (fin S d 89) (if_pos h))
theorem f_89_43 : fetch 89 43 = some (43, .iconst 4, 1, [], 4) := (fm_89 43).trans rfl
theorem u_89_43 {S : Scr} {d : Nat} {a0 a1 a2 : AV} {st : List AV} {sh : Shp} {I : IM} {R : RM} : ev S d 89 43 [a0, a1, a2] st (sh, I, R) = ev S d 89 44 [a0, a1, a2] (.inl 4 :: st) (sh, I, R) := (ev_eq f_89_43).trans rfl
theorem f_89_44 : fetch 89 44 = some (44, .iload_n 1, 1, [1], 0) := (fm_89 44).trans rfl
theorem u_89_44 {S : Scr} {d : Nat} {a0 a2 : AV} {st : List AV} {sh : Shp} {I : IM} {R : RM} {x : Int} : ev S d 89 44 [a0, .inl x, a2] st (sh, I, R) = ev S d 89 45 [a0, .inl x, a2] (.inl x :: st) (sh, I, R) := (ev_eq f_89_44).trans rfl
theorem f_89_45 : fetch 89 45 = some (45, .iload_n 2, 1, [2], 0) := (fm_89 45).trans rfl
theorem u_89_45 {S : Scr} {d : Nat} {a0 a1 : AV} {st : List AV} {sh : Shp} {I : IM} {R : RM} {x : Int} : ev S d 89 45 [a0, a1, .inl x] st (sh, I, R) = ev S d 89 46 [a0, a1, .inl x] (.inl x :: st) (sh, I, R) := (ev_eq f_89_45).trans rfl
theorem f_89_46 : fetch 89 46 = some (46, .invokevirtual 98, 3, [73, 3, 87], 0) := (fm_89 46).trans rfl
theorem u_89_46 {S : Scr} {d : Nat} {a0 a1 a2 : AV} {st : List AV} {sh : Shp} {I : IM} {R : RM} {x0 : Int} {x1 : Int} {x2 : Int} {k : Nat} (h : tg sh k = 7) (hr : st.length ≤ 8) : ev S d 89 46 [a0, a1, a2] (.inl x2 :: .inl x1 :: .inl x0 :: .inr (.inl k) :: st) (sh, I, R) = bnd (cl d 73 [.inr (.inl k), .inl x0, .inl x1, .inl x2] (sh, I, R)) (fun v M => ev S d 89 49 [a0, a1, a2] (psh v st) M) := (ev_eq f_89_46).trans (congrArg (fin S d 89) (if_pos ⟨h, rfl, hr⟩))
theorem f_89_49 : fetch 89 49 = some (49, .ireturn, 1, [0], 0) := (fm_89 49).trans rfl
theorem u_89_49 {S : Scr} {d : Nat} {a0 a1 a2 : AV} {sh : Shp} {I : IM} {R : RM} {x : Int} : ev S d 89 49 [a0, a1, a2] [.inl x] (sh, I, R) = some (some (.inl x), (sh, I, R)) := (ev_eq f_89_49).trans fin_iret0
theorem c_90 {d : Nat} {a0 a1 a2 a3 : AV} {M : Mem} : cl (d + 1) 90 [a0, a1, a2, a3] M = ev S0 d 90 0 [a0, a1, a2, a3, .inr (.inr 1)] [] M := (cl_eq (as := [a0, a1, a2, a3]) (show 4 ≤ maxOf 90 by decide +kernel)).trans rfl
theorem mt_90 : MT[90]? = some m_90 := rfl
theorem fm_90 (pc : Nat) : fetch 90 pc = lk m_90.2.2.2.2.2 pc := by
  unfold fetch
  rw [mt_90]
theorem f_90_0 : fetch 90 0 = some (0, .aload_n 0, 1, [0], 0) := (fm_90 0).trans rfl
theorem u_90_0 {S : Scr} {d : Nat} {a1 a2 a3 a4 : AV} {st : List AV} {sh : Shp} {I : IM} {R : RM} {x : Nat} : ev S d 90 0 [.inr (.inl x), a1, a2, a3, a4] st (sh, I, R) = ev S d 90 1 [.inr (.inl x), a1, a2, a3, a4] (.inr (.inl x) :: st) (sh, I, R) := (ev_eq f_90_0).trans rfl
theorem f_90_1 : fetch 90 1 = some (1, .getfield 10, 3, [8, 0, 1, 55], 0) := (fm_90 1).trans rfl
theorem u_90_1 {S : Scr} {d : Nat} {a0 a1 a2 a3 a4 : AV} {st : List AV} {sh : Shp} {I : IM} {R : RM} {k : Nat} (h : tg sh k = 8) : ev S d 90 1 [a0, a1, a2, a3, a4] (.inr (.inl k) :: st) (sh, I, R) = ev S d 90 4 [a0, a1, a2, a3, a4] (rv (R k 0) :: st) (sh, I, R) := (ev_eq f_90_1).trans (congrArg (fin S d 90) (if_pos h))
theorem f_90_4 : fetch 90 4 = some (4, .iload_n 1, 1, [1], 0) := (fm_90 4).trans rfl
theorem u_90_4 {S : Scr} {d : Nat} {a0 a2 a3 a4 : AV} {st : List AV} {sh : Shp} {I : IM} {R : RM} {x : Int} : ev S d 90 4 [a0, .inl x, a2, a3, a4] st (sh, I, R) = ev S d 90 5 [a0, .inl x, a2, a3, a4] (.inl x :: st) (sh, I, R) := (ev_eq f_90_4).trans rfl
theorem f_90_5 : fetch 90 5 = some (5, .invokevirtual 102, 3, [68, 1, 88], 0) := (fm_90 5).trans rfl
theorem u_90_5 {S : Scr} {d : Nat} {a0 a1 a2 a3 a4 : AV} {st : List AV} {sh : Shp} {I : IM} {R : RM} {x0 : Int} {k : Nat} (h : tg sh k = 7) (hr : st.length ≤ 8) : ev S d 90 5 [a0, a1, a2, a3, a4] (.inl x0 :: .inr (.inl k) :: st) (sh, I, R) = bnd (cl d 68 [.inr (.inl k), .inl x0] (sh, I, R)) (fun v M => ev S d 90 8 [a0, a1, a2, a3, a4] (psh v st) M) := (ev_eq f_90_5).trans (congrArg (fin S d 90) (if_pos ⟨h, rfl, hr⟩))
theorem f_90_8 : fetch 90 8 = some (8, .astore 4, 2, [4], 0) := (fm_90 8).trans rfl
theorem u_90_8 {S : Scr} {d : Nat} {a0 a1 a2 a3 a4 : AV} {st : List AV} {sh : Shp} {I : IM} {R : RM} {x : Nat} : ev S d 90 8 [a0, a1, a2, a3, a4] (.inr (.inl x) :: st) (sh, I, R) = ev S d 90 10 [a0, a1, a2, a3, .inr (.inl x)] st (sh, I, R) := (ev_eq f_90_8).trans rfl
theorem u_90_8n {S : Scr} {d : Nat} {a0 a1 a2 a3 a4 : AV} {st : List AV} {sh : Shp} {I : IM} {R : RM} : ev S d 90 8 [a0, a1, a2, a3, a4] (.inr (.inr 0) :: st) (sh, I, R) = ev S d 90 10 [a0, a1, a2, a3, .inr (.inr 0)] st (sh, I, R) := (ev_eq f_90_8).trans rfl
theorem f_90_10 : fetch 90 10 = some (10, .aload 4, 2, [4], 0) := (fm_90 10).trans rfl
theorem u_90_10 {S : Scr} {d : Nat} {a0 a1 a2 a3 : AV} {st : List AV} {sh : Shp} {I : IM} {R : RM} {x : Nat} : ev S d 90 10 [a0, a1, a2, a3, .inr (.inl x)] st (sh, I, R) = ev S d 90 12 [a0, a1, a2, a3, .inr (.inl x)] (.inr (.inl x) :: st) (sh, I, R) := (ev_eq f_90_10).trans rfl
theorem u_90_10n {S : Scr} {d : Nat} {a0 a1 a2 a3 : AV} {st : List AV} {sh : Shp} {I : IM} {R : RM} : ev S d 90 10 [a0, a1, a2, a3, .inr (.inr 0)] st (sh, I, R) = ev S d 90 12 [a0, a1, a2, a3, .inr (.inr 0)] (.inr (.inr 0) :: st) (sh, I, R) := (ev_eq f_90_10).trans rfl
theorem f_90_12 : fetch 90 12 = some (12, .ifnull 26, 3, [38], 0) := (fm_90 12).trans rfl
theorem u_90_12 {S : Scr} {d : Nat} {a0 a1 a2 a3 a4 : AV} {st : List AV} {sh : Shp} {I : IM} {R : RM} {x : Nat} : ev S d 90 12 [a0, a1, a2, a3, a4] (.inr (.inl x) :: st) (sh, I, R) = ev S d 90 15 [a0, a1, a2, a3, a4] st (sh, I, R) := (ev_eq f_90_12).trans rfl
theorem u_90_12n {S : Scr} {d : Nat} {a0 a1 a2 a3 a4 : AV} {st : List AV} {sh : Shp} {I : IM} {R : RM} : ev S d 90 12 [a0, a1, a2, a3, a4] (.inr (.inr 0) :: st) (sh, I, R) = ev S d 90 38 [a0, a1, a2, a3, a4] st (sh, I, R) := (ev_eq f_90_12).trans rfl
theorem f_90_15 : fetch 90 15 = some (15, .aload 4, 2, [4], 0) := (fm_90 15).trans rfl
theorem u_90_15 {S : Scr} {d : Nat} {a0 a1 a2 a3 : AV} {st : List AV} {sh : Shp} {I : IM} {R : RM} {x : Nat} : ev S d 90 15 [a0, a1, a2, a3, .inr (.inl x)] st (sh, I, R) = ev S d 90 17 [a0, a1, a2, a3, .inr (.inl x)] (.inr (.inl x) :: st) (sh, I, R) := (ev_eq f_90_15).trans rfl
theorem u_90_15n {S : Scr} {d : Nat} {a0 a1 a2 a3 : AV} {st : List AV} {sh : Shp} {I : IM} {R : RM} : ev S d 90 15 [a0, a1, a2, a3, .inr (.inr 0)] st (sh, I, R) = ev S d 90 17 [a0, a1, a2, a3, .inr (.inr 0)] (.inr (.inr 0) :: st) (sh, I, R) := (ev_eq f_90_15).trans rfl
theorem f_90_17 : fetch 90 17 = some (17, .getfield 110, 3, [3, 2, 0, 65], 0) := (fm_90 17).trans rfl
theorem u_90_17 {S : Scr} {d : Nat} {a0 a1 a2 a3 a4 : AV} {st : List AV} {sh : Shp} {I : IM} {R : RM} {k : Nat} (h : tg sh k = 3) : ev S d 90 17 [a0, a1, a2, a3, a4] (.inr (.inl k) :: st) (sh, I, R) = ev S d 90 20 [a0, a1, a2, a3, a4] (.inl (I k 2) :: st) (sh, I, R) := (ev_eq f_90_17).trans (congrArg (fin S d 90) (if_pos h))
theorem f_90_20 : fetch 90 20 = some (20, .iconst 4, 1, [], 4) := (fm_90 20).trans rfl
theorem u_90_20 {S : Scr} {d : Nat} {a0 a1 a2 a3 a4 : AV} {st : List AV} {sh : Shp} {I : IM} {R : RM} : ev S d 90 20 [a0, a1, a2, a3, a4] st (sh, I, R) = ev S d 90 21 [a0, a1, a2, a3, a4] (.inl 4 :: st) (sh, I, R) := (ev_eq f_90_20).trans rfl
theorem f_90_21 : fetch 90 21 = some (21, .if_icmp .eq 17, 3, [38], 0) := (fm_90 21).trans rfl
theorem u_90_21 {S : Scr} {d : Nat} {a0 a1 a2 a3 a4 : AV} {st : List AV} {sh : Shp} {I : IM} {R : RM} {x y : Int} : ev S d 90 21 [a0, a1, a2, a3, a4] (.inl y :: .inl x :: st) (sh, I, R) = if x = y then ev S d 90 38 [a0, a1, a2, a3, a4] st (sh, I, R) else ev S d 90 24 [a0, a1, a2, a3, a4] st (sh, I, R) := (ev_eq f_90_21).trans fin_icmp_eq
theorem f_90_24 : fetch 90 24 = some (24, .iload_n 2, 1, [2], 0) := (fm_90 24).trans rfl
theorem u_90_24 {S : Scr} {d : Nat} {a0 a1 a3 a4 : AV} {st : List AV} {sh : Shp} {I : IM} {R : RM} {x : Int} : ev S d 90 24 [a0, a1, .inl x, a3, a4] st (sh, I, R) = ev S d 90 25 [a0, a1, .inl x, a3, a4] (.inl x :: st) (sh, I, R) := (ev_eq f_90_24).trans rfl
theorem f_90_25 : fetch 90 25 = some (25, .invokestatic 60, 3, [123, 1, 79], 0) := (fm_90 25).trans rfl
theorem u_90_25 {S : Scr} {d : Nat} {a0 a1 a2 a3 a4 : AV} {st : List AV} {sh : Shp} {I : IM} {R : RM} {x0 : Int} (hr : st.length ≤ 8) : ev S d 90 25 [a0, a1, a2, a3, a4] (.inl x0 :: st) (sh, I, R) = bnd (cl d 123 [.inl x0] (sh, I, R)) (fun v M => ev S d 90 28 [a0, a1, a2, a3, a4] (psh v st) M) := (ev_eq f_90_25).trans (congrArg (fin S d 90) (if_pos ⟨rfl, hr⟩))
theorem f_90_28 : fetch 90 28 = some (28, .ifCond .eq 10, 3, [38], 0) := (fm_90 28).trans rfl
theorem u_90_28 {S : Scr} {d : Nat} {a0 a1 a2 a3 a4 : AV} {st : List AV} {sh : Shp} {I : IM} {R : RM} {x : Int} : ev S d 90 28 [a0, a1, a2, a3, a4] (.inl x :: st) (sh, I, R) = if x = 0 then ev S d 90 38 [a0, a1, a2, a3, a4] st (sh, I, R) else ev S d 90 31 [a0, a1, a2, a3, a4] st (sh, I, R) := (ev_eq f_90_28).trans fin_if_eq
theorem f_90_31 : fetch 90 31 = some (31, .iload_n 3, 1, [3], 0) := (fm_90 31).trans rfl
theorem u_90_31 {S : Scr} {d : Nat} {a0 a1 a2 a4 : AV} {st : List AV} {sh : Shp} {I : IM} {R : RM} {x : Int} : ev S d 90 31 [a0, a1, a2, .inl x, a4] st (sh, I, R) = ev S d 90 32 [a0, a1, a2, .inl x, a4] (.inl x :: st) (sh, I, R) := (ev_eq f_90_31).trans rfl
theorem f_90_32 : fetch 90 32 = some (32, .invokestatic 64, 3, [124, 1, 80], 0) := (fm_90 32).trans rfl
theorem u_90_32 {S : Scr} {d : Nat} {a0 a1 a2 a3 a4 : AV} {st : List AV} {sh : Shp} {I : IM} {R : RM} {x0 : Int} (hr : st.length ≤ 8) : ev S d 90 32 [a0, a1, a2, a3, a4] (.inl x0 :: st) (sh, I, R) = bnd (cl d 124 [.inl x0] (sh, I, R)) (fun v M => ev S d 90 35 [a0, a1, a2, a3, a4] (psh v st) M) := (ev_eq f_90_32).trans (congrArg (fin S d 90) (if_pos ⟨rfl, hr⟩))
theorem f_90_35 : fetch 90 35 = some (35, .ifCond .ne 6, 3, [41], 0) := (fm_90 35).trans rfl
theorem u_90_35 {S : Scr} {d : Nat} {a0 a1 a2 a3 a4 : AV} {st : List AV} {sh : Shp} {I : IM} {R : RM} {x : Int} : ev S d 90 35 [a0, a1, a2, a3, a4] (.inl x :: st) (sh, I, R) = if ¬ x = 0 then ev S d 90 41 [a0, a1, a2, a3, a4] st (sh, I, R) else ev S d 90 38 [a0, a1, a2, a3, a4] st (sh, I, R) := (ev_eq f_90_35).trans fin_if_ne
theorem f_90_38 : fetch 90 38 = some (38, .ldc 86, 2, [3], (-2000000000)) := (fm_90 38).trans rfl
theorem u_90_38 {S : Scr} {d : Nat} {a0 a1 a2 a3 a4 : AV} {st : List AV} {sh : Shp} {I : IM} {R : RM} : ev S d 90 38 [a0, a1, a2, a3, a4] st (sh, I, R) = ev S d 90 40 [a0, a1, a2, a3, a4] (.inl (-2000000000) :: st) (sh, I, R) := (ev_eq f_90_38).trans rfl
theorem f_90_40 : fetch 90 40 = some (40, .ireturn, 1, [0], 0) := (fm_90 40).trans rfl
theorem u_90_40 {S : Scr} {d : Nat} {a0 a1 a2 a3 a4 : AV} {sh : Shp} {I : IM} {R : RM} {x : Int} : ev S d 90 40 [a0, a1, a2, a3, a4] [.inl x] (sh, I, R) = some (some (.inl x), (sh, I, R)) := (ev_eq f_90_40).trans fin_iret0
theorem f_90_41 : fetch 90 41 = some (41, .aload 4, 2, [4], 0) := (fm_90 41).trans rfl
theorem u_90_41 {S : Scr} {d : Nat} {a0 a1 a2 a3 : AV} {st : List AV} {sh : Shp} {I : IM} {R : RM} {x : Nat} : ev S d 90 41 [a0, a1, a2, a3, .inr (.inl x)] st (sh, I, R) = ev S d 90 43 [a0, a1, a2, a3, .inr (.inl x)] (.inr (.inl x) :: st) (sh, I, R) := (ev_eq f_90_41).trans rfl
theorem u_90_41n {S : Scr} {d : Nat} {a0 a1 a2 a3 : AV} {st : List AV} {sh : Shp} {I : IM} {R : RM} : ev S d 90 41 [a0, a1, a2, a3, .inr (.inr 0)] st (sh, I, R) = ev S d 90 43 [a0, a1, a2, a3, .inr (.inr 0)] (.inr (.inr 0) :: st) (sh, I, R) := (ev_eq f_90_41).trans rfl
theorem f_90_43 : fetch 90 43 = some (43, .getfield 115, 3, [3, 0, 1, 66], 0) := (fm_90 43).trans rfl
theorem u_90_43 {S : Scr} {d : Nat} {a0 a1 a2 a3 a4 : AV} {st : List AV} {sh : Shp} {I : IM} {R : RM} {k : Nat} (h : tg sh k = 3) : ev S d 90 43 [a0, a1, a2, a3, a4] (.inr (.inl k) :: st) (sh, I, R) = ev S d 90 46 [a0, a1, a2, a3, a4] (rv (R k 0) :: st) (sh, I, R) := (ev_eq f_90_43).trans (congrArg (fin S d 90) (if_pos h))
theorem f_90_46 : fetch 90 46 = some (46, .iload_n 2, 1, [2], 0) := (fm_90 46).trans rfl
theorem u_90_46 {S : Scr} {d : Nat} {a0 a1 a3 a4 : AV} {st : List AV} {sh : Shp} {I : IM} {R : RM} {x : Int} : ev S d 90 46 [a0, a1, .inl x, a3, a4] st (sh, I, R) = ev S d 90 47 [a0, a1, .inl x, a3, a4] (.inl x :: st) (sh, I, R) := (ev_eq f_90_46).trans rfl
theorem f_90_47 : fetch 90 47 = some (47, .iload_n 3, 1, [3], 0) := (fm_90 47).trans rfl
theorem u_90_47 {S : Scr} {d : Nat} {a0 a1 a2 a4 : AV} {st : List AV} {sh : Shp} {I : IM} {R : RM} {x : Int} : ev S d 90 47 [a0, a1, a2, .inl x, a4] st (sh, I, R) = ev S d 90 48 [a0, a1, a2, .inl x, a4] (.inl x :: st) (sh, I, R) := (ev_eq f_90_47).trans rfl
theorem f_90_48 : fetch 90 48 = some (48, .invokevirtual 119, 3, [10, 2, 90], 0) := (fm_90 48).trans rfl
theorem u_90_48 {S : Scr} {d : Nat} {a0 a1 a2 a3 a4 : AV} {st : List AV} {sh : Shp} {I : IM} {R : RM} {x0 : Int} {x1 : Int} {k : Nat} (h : tg sh k = 1) (hr : st.length ≤ 8) : ev S d 90 48 [a0, a1, a2, a3, a4] (.inl x1 :: .inl x0 :: .inr (.inl k) :: st) (sh, I, R) = bnd (cl d 10 [.inr (.inl k), .inl x0, .inl x1] (sh, I, R)) (fun v M => ev S d 90 51 [a0, a1, a2, a3, a4] (psh v st) M) := (ev_eq f_90_48).trans (congrArg (fin S d 90) (if_pos ⟨h, rfl, hr⟩))
theorem f_90_51 : fetch 90 51 = some (51, .ireturn, 1, [0], 0) := (fm_90 51).trans rfl
theorem u_90_51 {S : Scr} {d : Nat} {a0 a1 a2 a3 a4 : AV} {sh : Shp} {I : IM} {R : RM} {x : Int} : ev S d 90 51 [a0, a1, a2, a3, a4] [.inl x] (sh, I, R) = some (some (.inl x), (sh, I, R)) := (ev_eq f_90_51).trans fin_iret0
theorem c_91 {d : Nat} {a0 a1 a2 : AV} {M : Mem} : cl (d + 1) 91 [a0, a1, a2] M = ev S0 d 91 0 [a0, a1, a2, .inr (.inr 1)] [] M := (cl_eq (as := [a0, a1, a2]) (show 3 ≤ maxOf 91 by decide +kernel)).trans rfl
theorem mt_91 : MT[91]? = some m_91 := rfl
theorem fm_91 (pc : Nat) : fetch 91 pc = lk m_91.2.2.2.2.2 pc := by
  unfold fetch
  rw [mt_91]
theorem f_91_0 : fetch 91 0 = some (0, .aload_n 0, 1, [0], 0) := (fm_91 0).trans rfl
theorem u_91_0 {S : Scr} {d : Nat} {a1 a2 a3 : AV} {st : List AV} {sh : Shp} {I : IM} {R : RM} {x : Nat} : ev S d 91 0 [.inr (.inl x), a1, a2, a3] st (sh, I, R) = ev S d 91 1 [.inr (.inl x), a1, a2, a3] (.inr (.inl x) :: st) (sh, I, R) := (ev_eq f_91_0).trans rfl
theorem f_91_1 : fetch 91 1 = some (1, .getfield 10, 3, [8, 0, 1, 55], 0) := (fm_91 1).trans rfl
theorem u_91_1 {S : Scr} {d : Nat} {a0 a1 a2 a3 : AV} {st : List AV} {sh : Shp} {I : IM} {R : RM} {k : Nat} (h : tg sh k = 8) : ev S d 91 1 [a0, a1, a2, a3] (.inr (.inl k) :: st) (sh, I, R) = ev S d 91 4 [a0, a1, a2, a3] (rv (R k 0) :: st) (sh, I, R) := (ev_eq f_91_1).trans (congrArg (fin S d 91) (if_pos h))
theorem f_91_4 : fetch 91 4 = some (4, .iload_n 1, 1, [1], 0) := (fm_91 4).trans rfl
theorem u_91_4 {S : Scr} {d : Nat} {a0 a2 a3 : AV} {st : List AV} {sh : Shp} {I : IM} {R : RM} {x : Int} : ev S d 91 4 [a0, .inl x, a2, a3] st (sh, I, R) = ev S d 91 5 [a0, .inl x, a2, a3] (.inl x :: st) (sh, I, R) := (ev_eq f_91_4).trans rfl
theorem f_91_5 : fetch 91 5 = some (5, .invokevirtual 102, 3, [68, 1, 88], 0) := (fm_91 5).trans rfl
theorem u_91_5 {S : Scr} {d : Nat} {a0 a1 a2 a3 : AV} {st : List AV} {sh : Shp} {I : IM} {R : RM} {x0 : Int} {k : Nat} (h : tg sh k = 7) (hr : st.length ≤ 8) : ev S d 91 5 [a0, a1, a2, a3] (.inl x0 :: .inr (.inl k) :: st) (sh, I, R) = bnd (cl d 68 [.inr (.inl k), .inl x0] (sh, I, R)) (fun v M => ev S d 91 8 [a0, a1, a2, a3] (psh v st) M) := (ev_eq f_91_5).trans (congrArg (fin S d 91) (if_pos ⟨h, rfl, hr⟩))
theorem f_91_8 : fetch 91 8 = some (8, .astore_n 3, 1, [3], 0) := (fm_91 8).trans rfl
theorem u_91_8 {S : Scr} {d : Nat} {a0 a1 a2 a3 : AV} {st : List AV} {sh : Shp} {I : IM} {R : RM} {x : Nat} : ev S d 91 8 [a0, a1, a2, a3] (.inr (.inl x) :: st) (sh, I, R) = ev S d 91 9 [a0, a1, a2, .inr (.inl x)] st (sh, I, R) := (ev_eq f_91_8).trans rfl
theorem u_91_8n {S : Scr} {d : Nat} {a0 a1 a2 a3 : AV} {st : List AV} {sh : Shp} {I : IM} {R : RM} : ev S d 91 8 [a0, a1, a2, a3] (.inr (.inr 0) :: st) (sh, I, R) = ev S d 91 9 [a0, a1, a2, .inr (.inr 0)] st (sh, I, R) := (ev_eq f_91_8).trans rfl
theorem f_91_9 : fetch 91 9 = some (9, .aload_n 3, 1, [3], 0) := (fm_91 9).trans rfl
theorem u_91_9 {S : Scr} {d : Nat} {a0 a1 a2 : AV} {st : List AV} {sh : Shp} {I : IM} {R : RM} {x : Nat} : ev S d 91 9 [a0, a1, a2, .inr (.inl x)] st (sh, I, R) = ev S d 91 10 [a0, a1, a2, .inr (.inl x)] (.inr (.inl x) :: st) (sh, I, R) := (ev_eq f_91_9).trans rfl
theorem u_91_9n {S : Scr} {d : Nat} {a0 a1 a2 : AV} {st : List AV} {sh : Shp} {I : IM} {R : RM} : ev S d 91 9 [a0, a1, a2, .inr (.inr 0)] st (sh, I, R) = ev S d 91 10 [a0, a1, a2, .inr (.inr 0)] (.inr (.inr 0) :: st) (sh, I, R) := (ev_eq f_91_9).trans rfl
theorem f_91_10 : fetch 91 10 = some (10, .ifnonnull 8, 3, [18], 0) := (fm_91 10).trans rfl
theorem u_91_10 {S : Scr} {d : Nat} {a0 a1 a2 a3 : AV} {st : List AV} {sh : Shp} {I : IM} {R : RM} {x : Nat} : ev S d 91 10 [a0, a1, a2, a3] (.inr (.inl x) :: st) (sh, I, R) = ev S d 91 18 [a0, a1, a2, a3] st (sh, I, R) := (ev_eq f_91_10).trans rfl
theorem u_91_10n {S : Scr} {d : Nat} {a0 a1 a2 a3 : AV} {st : List AV} {sh : Shp} {I : IM} {R : RM} : ev S d 91 10 [a0, a1, a2, a3] (.inr (.inr 0) :: st) (sh, I, R) = ev S d 91 13 [a0, a1, a2, a3] st (sh, I, R) := (ev_eq f_91_10).trans rfl
theorem f_91_13 : fetch 91 13 = some (13, .ldc 86, 2, [3], (-2000000000)) := (fm_91 13).trans rfl
theorem u_91_13 {S : Scr} {d : Nat} {a0 a1 a2 a3 : AV} {st : List AV} {sh : Shp} {I : IM} {R : RM} : ev S d 91 13 [a0, a1, a2, a3] st (sh, I, R) = ev S d 91 15 [a0, a1, a2, a3] (.inl (-2000000000) :: st) (sh, I, R) := (ev_eq f_91_13).trans rfl
theorem f_91_15 : fetch 91 15 = some (15, .goto 11, 3, [26], 0) := (fm_91 15).trans rfl
theorem u_91_15 {S : Scr} {d : Nat} {a0 a1 a2 a3 : AV} {st : List AV} {sh : Shp} {I : IM} {R : RM} : ev S d 91 15 [a0, a1, a2, a3] st (sh, I, R) = ev S d 91 26 [a0, a1, a2, a3] st (sh, I, R) := (ev_eq f_91_15).trans rfl
theorem f_91_18 : fetch 91 18 = some (18, .aload_n 3, 1, [3], 0) := (fm_91 18).trans rfl
theorem u_91_18 {S : Scr} {d : Nat} {a0 a1 a2 : AV} {st : List AV} {sh : Shp} {I : IM} {R : RM} {x : Nat} : ev S d 91 18 [a0, a1, a2, .inr (.inl x)] st (sh, I, R) = ev S d 91 19 [a0, a1, a2, .inr (.inl x)] (.inr (.inl x) :: st) (sh, I, R) := (ev_eq f_91_18).trans rfl
theorem u_91_18n {S : Scr} {d : Nat} {a0 a1 a2 : AV} {st : List AV} {sh : Shp} {I : IM} {R : RM} : ev S d 91 18 [a0, a1, a2, .inr (.inr 0)] st (sh, I, R) = ev S d 91 19 [a0, a1, a2, .inr (.inr 0)] (.inr (.inr 0) :: st) (sh, I, R) := (ev_eq f_91_18).trans rfl
theorem f_91_19 : fetch 91 19 = some (19, .getfield 115, 3, [3, 0, 1, 66], 0) := (fm_91 19).trans rfl
theorem u_91_19 {S : Scr} {d : Nat} {a0 a1 a2 a3 : AV} {st : List AV} {sh : Shp} {I : IM} {R : RM} {k : Nat} (h : tg sh k = 3) : ev S d 91 19 [a0, a1, a2, a3] (.inr (.inl k) :: st) (sh, I, R) = ev S d 91 22 [a0, a1, a2, a3] (rv (R k 0) :: st) (sh, I, R) := (ev_eq f_91_19).trans (congrArg (fin S d 91) (if_pos h))
theorem f_91_22 : fetch 91 22 = some (22, .iload_n 2, 1, [2], 0) := (fm_91 22).trans rfl
theorem u_91_22 {S : Scr} {d : Nat} {a0 a1 a3 : AV} {st : List AV} {sh : Shp} {I : IM} {R : RM} {x : Int} : ev S d 91 22 [a0, a1, .inl x, a3] st (sh, I, R) = ev S d 91 23 [a0, a1, .inl x, a3] (.inl x :: st) (sh, I, R) := (ev_eq f_91_22).trans rfl
theorem f_91_23 : fetch 91 23 = some (23, .invokevirtual 87, 3, [7, 1, 84], 0) := (fm_91 23).trans rfl
theorem u_91_23 {S : Scr} {d : Nat} {a0 a1 a2 a3 : AV} {st : List AV} {sh : Shp} {I : IM} {R : RM} {x0 : Int} {k : Nat} (h : tg sh k = 1) (hr : st.length ≤ 8) : ev S d 91 23 [a0, a1, a2, a3] (.inl x0 :: .inr (.inl k) :: st) (sh, I, R) = bnd (cl d 7 [.inr (.inl k), .inl x0] (sh, I, R)) (fun v M => ev S d 91 26 [a0, a1, a2, a3] (psh v st) M) := (ev_eq f_91_23).trans (congrArg (fin S d 91) (if_pos ⟨h, rfl, hr⟩))
theorem f_91_26 : fetch 91 26 = some (26, .ireturn, 1, [0], 0) := (fm_91 26).trans rfl
theorem u_91_26 {S : Scr} {d : Nat} {a0 a1 a2 a3 : AV} {sh : Shp} {I : IM} {R : RM} {x : Int} : ev S d 91 26 [a0, a1, a2, a3] [.inl x] (sh, I, R) = some (some (.inl x), (sh, I, R)) := (ev_eq f_91_26).trans fin_iret0
theorem c_92 {d : Nat} {a0 a1 a2 : AV} {M : Mem} : cl (d + 1) 92 [a0, a1, a2] M = ev S0 d 92 0 [a0, a1, a2, .inr (.inr 1)] [] M := (cl_eq (as := [a0, a1, a2]) (show 3 ≤ maxOf 92 by decide +kernel)).trans rfl
theorem mt_92 : MT[92]? = some m_92 := rfl
theorem fm_92 (pc : Nat) : fetch 92 pc = lk m_92.2.2.2.2.2 pc := by
  unfold fetch
  rw [mt_92]
theorem f_92_0 : fetch 92 0 = some (0, .aload_n 0, 1, [0], 0) := (fm_92 0).trans rfl
theorem u_92_0 {S : Scr} {d : Nat} {a1 a2 a3 : AV} {st : List AV} {sh : Shp} {I : IM} {R : RM} {x : Nat} : ev S d 92 0 [.inr (.inl x), a1, a2, a3] st (sh, I, R) = ev S d 92 1 [.inr (.inl x), a1, a2, a3] (.inr (.inl x) :: st) (sh, I, R) := (ev_eq f_92_0).trans rfl
theorem f_92_1 : fetch 92 1 = some (1, .getfield 10, 3, [8, 0, 1, 55], 0) := (fm_92 1).trans rfl
theorem u_92_1 {S : Scr} {d : Nat} {a0 a1 a2 a3 : AV} {st : List AV} {sh : Shp} {I : IM} {R : RM} {k : Nat} (h : tg sh k = 8) : ev S d 92 1 [a0, a1, a2, a3] (.inr (.inl k) :: st) (sh, I, R) = ev S d 92 4 [a0, a1, a2, a3] (rv (R k 0) :: st) (sh, I, R) := (ev_eq f_92_1).trans (congrArg (fin S d 92) (if_pos h))
theorem f_92_4 : fetch 92 4 = some (4, .iload_n 1, 1, [1], 0) := (fm_92 4).trans rfl
theorem u_92_4 {S : Scr} {d : Nat} {a0 a2 a3 : AV} {st : List AV} {sh : Shp} {I : IM} {R : RM} {x : Int} : ev S d 92 4 [a0, .inl x, a2, a3] st (sh, I, R) = ev S d 92 5 [a0, .inl x, a2, a3] (.inl x :: st) (sh, I, R) := (ev_eq f_92_4).trans rfl
theorem f_92_5 : fetch 92 5 = some (5, .invokevirtual 102, 3, [68, 1, 88], 0) := (fm_92 5).trans rfl
theorem u_92_5 {S : Scr} {d : Nat} {a0 a1 a2 a3 : AV} {st : List AV} {sh : Shp} {I : IM} {R : RM} {x0 : Int} {k : Nat} (h : tg sh k = 7) (hr : st.length ≤ 8) : ev S d 92 5 [a0, a1, a2, a3] (.inl x0 :: .inr (.inl k) :: st) (sh, I, R) = bnd (cl d 68 [.inr (.inl k), .inl x0] (sh, I, R)) (fun v M => ev S d 92 8 [a0, a1, a2, a3] (psh v st) M) := (ev_eq f_92_5).trans (congrArg (fin S d 92) (if_pos ⟨h, rfl, hr⟩))
theorem f_92_8 : fetch 92 8 = some (8, .astore_n 3, 1, [3], 0) := (fm_92 8).trans rfl
theorem u_92_8 {S : Scr} {d : Nat} {a0 a1 a2 a3 : AV} {st : List AV} {sh : Shp} {I : IM} {R : RM} {x : Nat} : ev S d 92 8 [a0, a1, a2, a3] (.inr (.inl x) :: st) (sh, I, R) = ev S d 92 9 [a0, a1, a2, .inr (.inl x)] st (sh, I, R) := (ev_eq f_92_8).trans rfl
theorem u_92_8n {S : Scr} {d : Nat} {a0 a1 a2 a3 : AV} {st : List AV} {sh : Shp} {I : IM} {R : RM} : ev S d 92 8 [a0, a1, a2, a3] (.inr (.inr 0) :: st) (sh, I, R) = ev S d 92 9 [a0, a1, a2, .inr (.inr 0)] st (sh, I, R) := (ev_eq f_92_8).trans rfl
theorem f_92_9 : fetch 92 9 = some (9, .aload_n 3, 1, [3], 0) := (fm_92 9).trans rfl
theorem u_92_9 {S : Scr} {d : Nat} {a0 a1 a2 : AV} {st : List AV} {sh : Shp} {I : IM} {R : RM} {x : Nat} : ev S d 92 9 [a0, a1, a2, .inr (.inl x)] st (sh, I, R) = ev S d 92 10 [a0, a1, a2, .inr (.inl x)] (.inr (.inl x) :: st) (sh, I, R) := (ev_eq f_92_9).trans rfl
theorem u_92_9n {S : Scr} {d : Nat} {a0 a1 a2 : AV} {st : List AV} {sh : Shp} {I : IM} {R : RM} : ev S d 92 9 [a0, a1, a2, .inr (.inr 0)] st (sh, I, R) = ev S d 92 10 [a0, a1, a2, .inr (.inr 0)] (.inr (.inr 0) :: st) (sh, I, R) := (ev_eq f_92_9).trans rfl
theorem f_92_10 : fetch 92 10 = some (10, .ifnull 10, 3, [20], 0) := (fm_92 10).trans rfl
theorem u_92_10 {S : Scr} {d : Nat} {a0 a1 a2 a3 : AV} {st : List AV} {sh : Shp} {I : IM} {R : RM} {x : Nat} : ev S d 92 10 [a0, a1, a2, a3] (.inr (.inl x) :: st) (sh, I, R) = ev S d 92 13 [a0, a1, a2, a3] st (sh, I, R) := (ev_eq f_92_10).trans rfl
theorem u_92_10n {S : Scr} {d : Nat} {a0 a1 a2 a3 : AV} {st : List AV} {sh : Shp} {I : IM} {R : RM} : ev S d 92 10 [a0, a1, a2, a3] (.inr (.inr 0) :: st) (sh, I, R) = ev S d 92 20 [a0, a1, a2, a3] st (sh, I, R) := (ev_eq f_92_10).trans rfl
theorem f_92_13 : fetch 92 13 = some (13, .iload_n 2, 1, [2], 0) := (fm_92 13).trans rfl
theorem u_92_13 {S : Scr} {d : Nat} {a0 a1 a3 : AV} {st : List AV} {sh : Shp} {I : IM} {R : RM} {x : Int} : ev S d 92 13 [a0, a1, .inl x, a3] st (sh, I, R) = ev S d 92 14 [a0, a1, .inl x, a3] (.inl x :: st) (sh, I, R) := (ev_eq f_92_13).trans rfl
theorem f_92_14 : fetch 92 14 = some (14, .invokestatic 60, 3, [123, 1, 79], 0) := (fm_92 14).trans rfl
theorem u_92_14 {S : Scr} {d : Nat} {a0 a1 a2 a3 : AV} {st : List AV} {sh : Shp} {I : IM} {R : RM} {x0 : Int} (hr : st.length ≤ 8) : ev S d 92 14 [a0, a1, a2, a3] (.inl x0 :: st) (sh, I, R) = bnd (cl d 123 [.inl x0] (sh, I, R)) (fun v M => ev S d 92 17 [a0, a1, a2, a3] (psh v st) M) := (ev_eq f_92_14).trans (congrArg (fin S d 92) (if_pos ⟨rfl, hr⟩))
theorem f_92_17 : fetch 92 17 = some (17, .ifCond .ne 5, 3, [22], 0) := (fm_92 17).trans rfl
theorem u_92_17 {S : Scr} {d : Nat} {a0 a1 a2 a3 : AV} {st : List AV} {sh : Shp} {I : IM} {R : RM} {x : Int} : ev S d 92 17 [a0, a1, a2, a3] (.inl x :: st) (sh, I, R) = if ¬ x = 0 then ev S d 92 22 [a0, a1, a2, a3] st (sh, I, R) else ev S d 92 20 [a0, a1, a2, a3] st (sh, I, R) := (ev_eq f_92_17).trans fin_if_ne
theorem f_92_20 : fetch 92 20 = some (20, .iconst (-1), 1, [], (-1)) := (fm_92 20).trans rfl
theorem u_92_20 {S : Scr} {d : Nat} {a0 a1 a2 a3 : AV} {st : List AV} {sh : Shp} {I : IM} {R : RM} : ev S d 92 20 [a0, a1, a2, a3] st (sh, I, R) = ev S d 92 21 [a0, a1, a2, a3] (.inl (-1) :: st) (sh, I, R) := (ev_eq f_92_20).trans rfl
theorem f_92_21 : fetch 92 21 = some (21, .ireturn, 1, [0], 0) := (fm_92 21).trans rfl
theorem u_92_21 {S : Scr} {d : Nat} {a0 a1 a2 a3 : AV} {sh : Shp} {I : IM} {R : RM} {x : Int} : ev S d 92 21 [a0, a1, a2, a3] [.inl x] (sh, I, R) = some (some (.inl x), (sh, I, R)) := (ev_eq f_92_21).trans fin_iret0
theorem f_92_22 : fetch 92 22 = some (22, .aload_n 3, 1, [3], 0) := (fm_92 22).trans rfl
theorem u_92_22 {S : Scr} {d : Nat} {a0 a1 a2 : AV} {st : List AV} {sh : Shp} {I : IM} {R : RM} {x : Nat} : ev S d 92 22 [a0, a1, a2, .inr (.inl x)] st (sh, I, R) = ev S d 92 23 [a0, a1, a2, .inr (.inl x)] (.inr (.inl x) :: st) (sh, I, R) := (ev_eq f_92_22).trans rfl
theorem u_92_22n {S : Scr} {d : Nat} {a0 a1 a2 : AV} {st : List AV} {sh : Shp} {I : IM} {R : RM} : ev S d 92 22 [a0, a1, a2, .inr (.inr 0)] st (sh, I, R) = ev S d 92 23 [a0, a1, a2, .inr (.inr 0)] (.inr (.inr 0) :: st) (sh, I, R) := (ev_eq f_92_22).trans rfl
theorem f_92_23 : fetch 92 23 = some (23, .getfield 110, 3, [3, 2, 0, 65], 0) := (fm_92 23).trans rfl
theorem u_92_23 {S : Scr} {d : Nat} {a0 a1 a2 a3 : AV} {st : List AV} {sh : Shp} {I : IM} {R : RM} {k : Nat} (h : tg sh k = 3) : ev S d 92 23 [a0, a1, a2, a3] (.inr (.inl k) :: st) (sh, I, R) = ev S d 92 26 [a0, a1, a2, a3] (.inl (I k 2) :: st) (sh, I, R) := (ev_eq f_92_23).trans (congrArg (fin S d 92) (if_pos h))
theorem f_92_26 : fetch 92 26 = some (26, .iconst 4, 1, [], 4) := (fm_92 26).trans rfl
theorem u_92_26 {S : Scr} {d : Nat} {a0 a1 a2 a3 : AV} {st : List AV} {sh : Shp} {I : IM} {R : RM} : ev S d 92 26 [a0, a1, a2, a3] st (sh, I, R) = ev S d 92 27 [a0, a1, a2, a3] (.inl 4 :: st) (sh, I, R) := (ev_eq f_92_26).trans rfl
theorem f_92_27 : fetch 92 27 = some (27, .if_icmp .ne 6, 3, [33], 0) := (fm_92 27).trans rfl
theorem u_92_27 {S : Scr} {d : Nat} {a0 a1 a2 a3 : AV} {st : List AV} {sh : Shp} {I : IM} {R : RM} {x y : Int} : ev S d 92 27 [a0, a1, a2, a3] (.inl y :: .inl x :: st) (sh, I, R) = if ¬ x = y then ev S d 92 33 [a0, a1, a2, a3] st (sh, I, R) else ev S d 92 30 [a0, a1, a2, a3] st (sh, I, R) := (ev_eq f_92_27).trans fin_icmp_ne
theorem f_92_30 : fetch 92 30 = some (30, .bipush (-12), 2, [], (-12)) := (fm_92 30).trans rfl
theorem u_92_30 {S : Scr} {d : Nat} {a0 a1 a2 a3 : AV} {st : List AV} {sh : Shp} {I : IM} {R : RM} : ev S d 92 30 [a0, a1, a2, a3] st (sh, I, R) = ev S d 92 32 [a0, a1, a2, a3] (.inl (-12) :: st) (sh, I, R) := (ev_eq f_92_30).trans rfl
theorem f_92_32 : fetch 92 32 = some (32, .ireturn, 1, [0], 0) := (fm_92 32).trans rfl
theorem u_92_32 {S : Scr} {d : Nat} {a0 a1 a2 a3 : AV} {sh : Shp} {I : IM} {R : RM} {x : Int} : ev S d 92 32 [a0, a1, a2, a3] [.inl x] (sh, I, R) = some (some (.inl x), (sh, I, R)) := (ev_eq f_92_32).trans fin_iret0
theorem f_92_33 : fetch 92 33 = some (33, .aload_n 3, 1, [3], 0) := (fm_92 33).trans rfl
theorem u_92_33 {S : Scr} {d : Nat} {a0 a1 a2 : AV} {st : List AV} {sh : Shp} {I : IM} {R : RM} {x : Nat} : ev S d 92 33 [a0, a1, a2, .inr (.inl x)] st (sh, I, R) = ev S d 92 34 [a0, a1, a2, .inr (.inl x)] (.inr (.inl x) :: st) (sh, I, R) := (ev_eq f_92_33).trans rfl
theorem u_92_33n {S : Scr} {d : Nat} {a0 a1 a2 : AV} {st : List AV} {sh : Shp} {I : IM} {R : RM} : ev S d 92 33 [a0, a1, a2, .inr (.inr 0)] st (sh, I, R) = ev S d 92 34 [a0, a1, a2, .inr (.inr 0)] (.inr (.inr 0) :: st) (sh, I, R) := (ev_eq f_92_33).trans rfl
theorem f_92_34 : fetch 92 34 = some (34, .getfield 115, 3, [3, 0, 1, 66], 0) := (fm_92 34).trans rfl
theorem u_92_34 {S : Scr} {d : Nat} {a0 a1 a2 a3 : AV} {st : List AV} {sh : Shp} {I : IM} {R : RM} {k : Nat} (h : tg sh k = 3) : ev S d 92 34 [a0, a1, a2, a3] (.inr (.inl k) :: st) (sh, I, R) = ev S d 92 37 [a0, a1, a2, a3] (rv (R k 0) :: st) (sh, I, R) := (ev_eq f_92_34).trans (congrArg (fin S d 92) (if_pos h))
theorem f_92_37 : fetch 92 37 = some (37, .iload_n 2, 1, [2], 0) := (fm_92 37).trans rfl
theorem u_92_37 {S : Scr} {d : Nat} {a0 a1 a3 : AV} {st : List AV} {sh : Shp} {I : IM} {R : RM} {x : Int} : ev S d 92 37 [a0, a1, .inl x, a3] st (sh, I, R) = ev S d 92 38 [a0, a1, .inl x, a3] (.inl x :: st) (sh, I, R) := (ev_eq f_92_37).trans rfl
theorem f_92_38 : fetch 92 38 = some (38, .invokevirtual 123, 3, [11, 1, 91], 0) := (fm_92 38).trans rfl
theorem u_92_38 {S : Scr} {d : Nat} {a0 a1 a2 a3 : AV} {st : List AV} {sh : Shp} {I : IM} {R : RM} {x0 : Int} {k : Nat} (h : tg sh k = 1) (hr : st.length ≤ 8) : ev S d 92 38 [a0, a1, a2, a3] (.inl x0 :: .inr (.inl k) :: st) (sh, I, R) = bnd (cl d 11 [.inr (.inl k), .inl x0] (sh, I, R)) (fun v M => ev S d 92 41 [a0, a1, a2, a3] (psh v st) M) := (ev_eq f_92_38).trans (congrArg (fin S d 92) (if_pos ⟨h, rfl, hr⟩))
theorem f_92_41 : fetch 92 41 = some (41, .ifCond .eq 13, 3, [54], 0) := (fm_92 41).trans rfl
theorem u_92_41 {S : Scr} {d : Nat} {a0 a1 a2 a3 : AV} {st : List AV} {sh : Shp} {I : IM} {R : RM} {x : Int} : ev S d 92 41 [a0, a1, a2, a3] (.inl x :: st) (sh, I, R) = if x = 0 then ev S d 92 54 [a0, a1, a2, a3] st (sh, I, R) else ev S d 92 44 [a0, a1, a2, a3] st (sh, I, R) := (ev_eq f_92_41).trans fin_if_eq
theorem f_92_44 : fetch 92 44 = some (44, .aload_n 3, 1, [3], 0) := (fm_92 44).trans rfl
theorem u_92_44 {S : Scr} {d : Nat} {a0 a1 a2 : AV} {st : List AV} {sh : Shp} {I : IM} {R : RM} {x : Nat} : ev S d 92 44 [a0, a1, a2, .inr (.inl x)] st (sh, I, R) = ev S d 92 45 [a0, a1, a2, .inr (.inl x)] (.inr (.inl x) :: st) (sh, I, R) := (ev_eq f_92_44).trans rfl
theorem u_92_44n {S : Scr} {d : Nat} {a0 a1 a2 : AV} {st : List AV} {sh : Shp} {I : IM} {R : RM} : ev S d 92 44 [a0, a1, a2, .inr (.inr 0)] st (sh, I, R) = ev S d 92 45 [a0, a1, a2, .inr (.inr 0)] (.inr (.inr 0) :: st) (sh, I, R) := (ev_eq f_92_44).trans rfl
theorem f_92_45 : fetch 92 45 = some (45, .getfield 115, 3, [3, 0, 1, 66], 0) := (fm_92 45).trans rfl
theorem u_92_45 {S : Scr} {d : Nat} {a0 a1 a2 a3 : AV} {st : List AV} {sh : Shp} {I : IM} {R : RM} {k : Nat} (h : tg sh k = 3) : ev S d 92 45 [a0, a1, a2, a3] (.inr (.inl k) :: st) (sh, I, R) = ev S d 92 48 [a0, a1, a2, a3] (rv (R k 0) :: st) (sh, I, R) := (ev_eq f_92_45).trans (congrArg (fin S d 92) (if_pos h))
theorem f_92_48 : fetch 92 48 = some (48, .getfield 76, 3, [1, 3, 0, 63], 0) := (fm_92 48).trans rfl
theorem u_92_48 {S : Scr} {d : Nat} {a0 a1 a2 a3 : AV} {st : List AV} {sh : Shp} {I : IM} {R : RM} {k : Nat} (h : tg sh k = 1) : ev S d 92 48 [a0, a1, a2, a3] (.inr (.inl k) :: st) (sh, I, R) = ev S d 92 51 [a0, a1, a2, a3] (.inl (I k 3) :: st) (sh, I, R) := (ev_eq f_92_48).trans (congrArg (fin S d 92) (if_pos h))
theorem f_92_51 : fetch 92 51 = some (51, .goto 5, 3, [56], 0) := (fm_92 51).trans rfl
theorem u_92_51 {S : Scr} {d : Nat} {a0 a1 a2 a3 : AV} {st : List AV} {sh : Shp} {I : IM} {R : RM} : ev S d 92 51 [a0, a1, a2, a3] st (sh, I, R) = ev S d 92 56 [a0, a1, a2, a3] st (sh, I, R) := (ev_eq f_92_51).trans rfl
theorem f_92_54 : fetch 92 54 = some (54, .bipush (-2), 2, [], (-2)) := (fm_92 54).trans rfl
theorem u_92_54 {S : Scr} {d : Nat} {a0 a1 a2 a3 : AV} {st : List AV} {sh : Shp} {I : IM} {R : RM} : ev S d 92 54 [a0, a1, a2, a3] st (sh, I, R) = ev S d 92 56 [a0, a1, a2, a3] (.inl (-2) :: st) (sh, I, R) := (ev_eq f_92_54).trans rfl
theorem f_92_56 : fetch 92 56 = some (56, .ireturn, 1, [0], 0) := (fm_92 56).trans rfl
theorem u_92_56 {S : Scr} {d : Nat} {a0 a1 a2 a3 : AV} {sh : Shp} {I : IM} {R : RM} {x : Int} : ev S d 92 56 [a0, a1, a2, a3] [.inl x] (sh, I, R) = some (some (.inl x), (sh, I, R)) := (ev_eq f_92_56).trans fin_iret0
theorem c_93 {d : Nat} {a0 a1 a2 a3 : AV} {M : Mem} : cl (d + 1) 93 [a0, a1, a2, a3] M = ev S0 d 93 0 [a0, a1, a2, a3, .inr (.inr 1), .inr (.inr 1)] [] M := (cl_eq (as := [a0, a1, a2, a3]) (show 4 ≤ maxOf 93 by decide +kernel)).trans rfl
theorem mt_93 : MT[93]? = some m_93 := rfl
theorem fm_93 (pc : Nat) : fetch 93 pc = lk m_93.2.2.2.2.2 pc := by
  unfold fetch
  rw [mt_93]
theorem f_93_0 : fetch 93 0 = some (0, .aload_n 0, 1, [0], 0) := (fm_93 0).trans rfl
theorem u_93_0 {S : Scr} {d : Nat} {a1 a2 a3 a4 a5 : AV} {st : List AV} {sh : Shp} {I : IM} {R : RM} {x : Nat} : ev S d 93 0 [.inr (.inl x), a1, a2, a3, a4, a5] st (sh, I, R) = ev S d 93 1 [.inr (.inl x), a1, a2, a3, a4, a5] (.inr (.inl x) :: st) (sh, I, R) := (ev_eq f_93_0).trans rfl
theorem f_93_1 : fetch 93 1 = some (1, .getfield 10, 3, [8, 0, 1, 55], 0) := (fm_93 1).trans rfl
theorem u_93_1 {S : Scr} {d : Nat} {a0 a1 a2 a3 a4 a5 : AV} {st : List AV} {sh : Shp} {I : IM} {R : RM} {k : Nat} (h : tg sh k = 8) : ev S d 93 1 [a0, a1, a2, a3, a4, a5] (.inr (.inl k) :: st) (sh, I, R) = ev S d 93 4 [a0, a1, a2, a3, a4, a5] (rv (R k 0) :: st) (sh, I, R) := (ev_eq f_93_1).trans (congrArg (fin S d 93) (if_pos h))
theorem f_93_4 : fetch 93 4 = some (4, .iload_n 1, 1, [1], 0) := (fm_93 4).trans rfl
theorem u_93_4 {S : Scr} {d : Nat} {a0 a2 a3 a4 a5 : AV} {st : List AV} {sh : Shp} {I : IM} {R : RM} {x : Int} : ev S d 93 4 [a0, .inl x, a2, a3, a4, a5] st (sh, I, R) = ev S d 93 5 [a0, .inl x, a2, a3, a4, a5] (.inl x :: st) (sh, I, R) := (ev_eq f_93_4).trans rfl
theorem f_93_5 : fetch 93 5 = some (5, .invokevirtual 102, 3, [68, 1, 88], 0) := (fm_93 5).trans rfl
theorem u_93_5 {S : Scr} {d : Nat} {a0 a1 a2 a3 a4 a5 : AV} {st : List AV} {sh : Shp} {I : IM} {R : RM} {x0 : Int} {k : Nat} (h : tg sh k = 7) (hr : st.length ≤ 8) : ev S d 93 5 [a0, a1, a2, a3, a4, a5] (.inl x0 :: .inr (.inl k) :: st) (sh, I, R) = bnd (cl d 68 [.inr (.inl k), .inl x0] (sh, I, R)) (fun v M => ev S d 93 8 [a0, a1, a2, a3, a4, a5] (psh v st) M) := (ev_eq f_93_5).trans (congrArg (fin S d 93) (if_pos ⟨h, rfl, hr⟩))
theorem f_93_8 : fetch 93 8 = some (8, .astore 4, 2, [4], 0) := (fm_93 8).trans rfl
theorem u_93_8 {S : Scr} {d : Nat} {a0 a1 a2 a3 a4 a5 : AV} {st : List AV} {sh : Shp} {I : IM} {R : RM} {x : Nat} : ev S d 93 8 [a0, a1, a2, a3, a4, a5] (.inr (.inl x) :: st) (sh, I, R) = ev S d 93 10 [a0, a1, a2, a3, .inr (.inl x), a5] st (sh, I, R) := (ev_eq f_93_8).trans rfl
theorem u_93_8n {S : Scr} {d : Nat} {a0 a1 a2 a3 a4 a5 : AV} {st : List AV} {sh : Shp} {I : IM} {R : RM} : ev S d 93 8 [a0, a1, a2, a3, a4, a5] (.inr (.inr 0) :: st) (sh, I, R) = ev S d 93 10 [a0, a1, a2, a3, .inr (.inr 0), a5] st (sh, I, R) := (ev_eq f_93_8).trans rfl
theorem f_93_10 : fetch 93 10 = some (10, .aload 4, 2, [4], 0) := (fm_93 10).trans rfl
theorem u_93_10 {S : Scr} {d : Nat} {a0 a1 a2 a3 a5 : AV} {st : List AV} {sh : Shp} {I : IM} {R : RM} {x : Nat} : ev S d 93 10 [a0, a1, a2, a3, .inr (.inl x), a5] st (sh, I, R) = ev S d 93 12 [a0, a1, a2, a3, .inr (.inl x), a5] (.inr (.inl x) :: st) (sh, I, R) := (ev_eq f_93_10).trans rfl
theorem u_93_10n {S : Scr} {d : Nat} {a0 a1 a2 a3 a5 : AV} {st : List AV} {sh : Shp} {I : IM} {R : RM} : ev S d 93 10 [a0, a1, a2, a3, .inr (.inr 0), a5] st (sh, I, R) = ev S d 93 12 [a0, a1, a2, a3, .inr (.inr 0), a5] (.inr (.inr 0) :: st) (sh, I, R) := (ev_eq f_93_10).trans rfl
theorem f_93_12 : fetch 93 12 = some (12, .ifnull 11, 3, [23], 0) := (fm_93 12).trans rfl
theorem u_93_12 {S : Scr} {d : Nat} {a0 a1 a2 a3 a4 a5 : AV} {st : List AV} {sh : Shp} {I : IM} {R : RM} {x : Nat} : ev S d 93 12 [a0, a1, a2, a3, a4, a5] (.inr (.inl x) :: st) (sh, I, R) = ev S d 93 15 [a0, a1, a2, a3, a4, a5] st (sh, I, R) := (ev_eq f_93_12).trans rfl
theorem u_93_12n {S : Scr} {d : Nat} {a0 a1 a2 a3 a4 a5 : AV} {st : List AV} {sh : Shp} {I : IM} {R : RM} : ev S d 93 12 [a0, a1, a2, a3, a4, a5] (.inr (.inr 0) :: st) (sh, I, R) = ev S d 93 23 [a0, a1, a2, a3, a4, a5] st (sh, I, R) := (ev_eq f_93_12).trans rfl
theorem f_93_15 : fetch 93 15 = some (15, .aload_n 0, 1, [0], 0) := (fm_93 15).trans rfl
theorem u_93_15 {S : Scr} {d : Nat} {a1 a2 a3 a4 a5 : AV} {st : List AV} {sh : Shp} {I : IM} {R : RM} {x : Nat} : ev S d 93 15 [.inr (.inl x), a1, a2, a3, a4, a5] st (sh, I, R) = ev S d 93 16 [.inr (.inl x), a1, a2, a3, a4, a5] (.inr (.inl x) :: st) (sh, I, R) := (ev_eq f_93_15).trans rfl
theorem f_93_16 : fetch 93 16 = some (16, .iload_n 3, 1, [3], 0) := (fm_93 16).trans rfl
theorem u_93_16 {S : Scr} {d : Nat} {a0 a1 a2 a4 a5 : AV} {st : List AV} {sh : Shp} {I : IM} {R : RM} {x : Int} : ev S d 93 16 [a0, a1, a2, .inl x, a4, a5] st (sh, I, R) = ev S d 93 17 [a0, a1, a2, .inl x, a4, a5] (.inl x :: st) (sh, I, R) := (ev_eq f_93_16).trans rfl
theorem f_93_17 : fetch 93 17 = some (17, .invokevirtual 126, 3, [120, 1, 92], 0) := (fm_93 17).trans rfl
theorem u_93_17 {S : Scr} {d : Nat} {a0 a1 a2 a3 a4 a5 : AV} {st : List AV} {sh : Shp} {I : IM} {R : RM} {x0 : Int} {k : Nat} (h : tg sh k = 8) (hr : st.length ≤ 8) : ev S d 93 17 [a0, a1, a2, a3, a4, a5] (.inl x0 :: .inr (.inl k) :: st) (sh, I, R) = bnd (cl d 120 [.inr (.inl k), .inl x0] (sh, I, R)) (fun v M => ev S d 93 20 [a0, a1, a2, a3, a4, a5] (psh v st) M) := (ev_eq f_93_17).trans (congrArg (fin S d 93) (if_pos ⟨h, rfl, hr⟩))
theorem f_93_20 : fetch 93 20 = some (20, .ifCond .ne 5, 3, [25], 0) := (fm_93 20).trans rfl
theorem u_93_20 {S : Scr} {d : Nat} {a0 a1 a2 a3 a4 a5 : AV} {st : List AV} {sh : Shp} {I : IM} {R : RM} {x : Int} : ev S d 93 20 [a0, a1, a2, a3, a4, a5] (.inl x :: st) (sh, I, R) = if ¬ x = 0 then ev S d 93 25 [a0, a1, a2, a3, a4, a5] st (sh, I, R) else ev S d 93 23 [a0, a1, a2, a3, a4, a5] st (sh, I, R) := (ev_eq f_93_20).trans fin_if_ne
theorem f_93_23 : fetch 93 23 = some (23, .iconst (-1), 1, [], (-1)) := (fm_93 23).trans rfl
theorem u_93_23 {S : Scr} {d : Nat} {a0 a1 a2 a3 a4 a5 : AV} {st : List AV} {sh : Shp} {I : IM} {R : RM} : ev S d 93 23 [a0, a1, a2, a3, a4, a5] st (sh, I, R) = ev S d 93 24 [a0, a1, a2, a3, a4, a5] (.inl (-1) :: st) (sh, I, R) := (ev_eq f_93_23).trans rfl
theorem f_93_24 : fetch 93 24 = some (24, .ireturn, 1, [0], 0) := (fm_93 24).trans rfl
theorem u_93_24 {S : Scr} {d : Nat} {a0 a1 a2 a3 a4 a5 : AV} {sh : Shp} {I : IM} {R : RM} {x : Int} : ev S d 93 24 [a0, a1, a2, a3, a4, a5] [.inl x] (sh, I, R) = some (some (.inl x), (sh, I, R)) := (ev_eq f_93_24).trans fin_iret0
theorem f_93_25 : fetch 93 25 = some (25, .aload 4, 2, [4], 0) := (fm_93 25).trans rfl
theorem u_93_25 {S : Scr} {d : Nat} {a0 a1 a2 a3 a5 : AV} {st : List AV} {sh : Shp} {I : IM} {R : RM} {x : Nat} : ev S d 93 25 [a0, a1, a2, a3, .inr (.inl x), a5] st (sh, I, R) = ev S d 93 27 [a0, a1, a2, a3, .inr (.inl x), a5] (.inr (.inl x) :: st) (sh, I, R) := (ev_eq f_93_25).trans rfl
theorem u_93_25n {S : Scr} {d : Nat} {a0 a1 a2 a3 a5 : AV} {st : List AV} {sh : Shp} {I : IM} {R : RM} : ev S d 93 25 [a0, a1, a2, a3, .inr (.inr 0), a5] st (sh, I, R) = ev S d 93 27 [a0, a1, a2, a3, .inr (.inr 0), a5] (.inr (.inr 0) :: st) (sh, I, R) := (ev_eq f_93_25).trans rfl
theorem f_93_27 : fetch 93 27 = some (27, .iload_n 2, 1, [2], 0) := (fm_93 27).trans rfl
theorem u_93_27 {S : Scr} {d : Nat} {a0 a1 a3 a4 a5 : AV} {st : List AV} {sh : Shp} {I : IM} {R : RM} {x : Int} : ev S d 93 27 [a0, a1, .inl x, a3, a4, a5] st (sh, I, R) = ev S d 93 28 [a0, a1, .inl x, a3, a4, a5] (.inl x :: st) (sh, I, R) := (ev_eq f_93_27).trans rfl
theorem f_93_28 : fetch 93 28 = some (28, .invokevirtual 129, 3, [36, 1, 93], 0) := (fm_93 28).trans rfl
theorem u_93_28 {S : Scr} {d : Nat} {a0 a1 a2 a3 a4 a5 : AV} {st : List AV} {sh : Shp} {I : IM} {R : RM} {x0 : Int} {k : Nat} (h : tg sh k = 3) (hr : st.length ≤ 8) : ev S d 93 28 [a0, a1, a2, a3, a4, a5] (.inl x0 :: .inr (.inl k) :: st) (sh, I, R) = bnd (cl d 36 [.inr (.inl k), .inl x0] (sh, I, R)) (fun v M => ev S d 93 31 [a0, a1, a2, a3, a4, a5] (psh v st) M) := (ev_eq f_93_28).trans (congrArg (fin S d 93) (if_pos ⟨h, rfl, hr⟩))
theorem f_93_31 : fetch 93 31 = some (31, .ifCond .ne 6, 3, [37], 0) := (fm_93 31).trans rfl
theorem u_93_31 {S : Scr} {d : Nat} {a0 a1 a2 a3 a4 a5 : AV} {st : List AV} {sh : Shp} {I : IM} {R : RM} {x : Int} : ev S d 93 31 [a0, a1, a2, a3, a4, a5] (.inl x :: st) (sh, I, R) = if ¬ x = 0 then ev S d 93 37 [a0, a1, a2, a3, a4, a5] st (sh, I, R) else ev S d 93 34 [a0, a1, a2, a3, a4, a5] st (sh, I, R) := (ev_eq f_93_31).trans fin_if_ne
theorem f_93_34 : fetch 93 34 = some (34, .bipush (-13), 2, [], (-13)) := (fm_93 34).trans rfl
theorem u_93_34 {S : Scr} {d : Nat} {a0 a1 a2 a3 a4 a5 : AV} {st : List AV} {sh : Shp} {I : IM} {R : RM} : ev S d 93 34 [a0, a1, a2, a3, a4, a5] st (sh, I, R) = ev S d 93 36 [a0, a1, a2, a3, a4, a5] (.inl (-13) :: st) (sh, I, R) := (ev_eq f_93_34).trans rfl
theorem f_93_36 : fetch 93 36 = some (36, .ireturn, 1, [0], 0) := (fm_93 36).trans rfl
theorem u_93_36 {S : Scr} {d : Nat} {a0 a1 a2 a3 a4 a5 : AV} {sh : Shp} {I : IM} {R : RM} {x : Int} : ev S d 93 36 [a0, a1, a2, a3, a4, a5] [.inl x] (sh, I, R) = some (some (.inl x), (sh, I, R)) := (ev_eq f_93_36).trans fin_iret0
theorem f_93_37 : fetch 93 37 = some (37, .aload 4, 2, [4], 0) := (fm_93 37).trans rfl
theorem u_93_37 {S : Scr} {d : Nat} {a0 a1 a2 a3 a5 : AV} {st : List AV} {sh : Shp} {I : IM} {R : RM} {x : Nat} : ev S d 93 37 [a0, a1, a2, a3, .inr (.inl x), a5] st (sh, I, R) = ev S d 93 39 [a0, a1, a2, a3, .inr (.inl x), a5] (.inr (.inl x) :: st) (sh, I, R) := (ev_eq f_93_37).trans rfl
theorem u_93_37n {S : Scr} {d : Nat} {a0 a1 a2 a3 a5 : AV} {st : List AV} {sh : Shp} {I : IM} {R : RM} : ev S d 93 37 [a0, a1, a2, a3, .inr (.inr 0), a5] st (sh, I, R) = ev S d 93 39 [a0, a1, a2, a3, .inr (.inr 0), a5] (.inr (.inr 0) :: st) (sh, I, R) := (ev_eq f_93_37).trans rfl
theorem f_93_39 : fetch 93 39 = some (39, .aload_n 0, 1, [0], 0) := (fm_93 39).trans rfl
theorem u_93_39 {S : Scr} {d : Nat} {a1 a2 a3 a4 a5 : AV} {st : List AV} {sh : Shp} {I : IM} {R : RM} {x : Nat} : ev S d 93 39 [.inr (.inl x), a1, a2, a3, a4, a5] st (sh, I, R) = ev S d 93 40 [.inr (.inl x), a1, a2, a3, a4, a5] (.inr (.inl x) :: st) (sh, I, R) := (ev_eq f_93_39).trans rfl
theorem f_93_40 : fetch 93 40 = some (40, .getfield 10, 3, [8, 0, 1, 55], 0) := (fm_93 40).trans rfl
theorem u_93_40 {S : Scr} {d : Nat} {a0 a1 a2 a3 a4 a5 : AV} {st : List AV} {sh : Shp} {I : IM} {R : RM} {k : Nat} (h : tg sh k = 8) : ev S d 93 40 [a0, a1, a2, a3, a4, a5] (.inr (.inl k) :: st) (sh, I, R) = ev S d 93 43 [a0, a1, a2, a3, a4, a5] (rv (R k 0) :: st) (sh, I, R) := (ev_eq f_93_40).trans (congrArg (fin S d 93) (if_pos h))
theorem f_93_43 : fetch 93 43 = some (43, .iload_n 3, 1, [3], 0) := (fm_93 43).trans rfl
theorem u_93_43 {S : Scr} {d : Nat} {a0 a1 a2 a4 a5 : AV} {st : List AV} {sh : Shp} {I : IM} {R : RM} {x : Int} : ev S d 93 43 [a0, a1, a2, .inl x, a4, a5] st (sh, I, R) = ev S d 93 44 [a0, a1, a2, .inl x, a4, a5] (.inl x :: st) (sh, I, R) := (ev_eq f_93_43).trans rfl
theorem f_93_44 : fetch 93 44 = some (44, .invokevirtual 102, 3, [68, 1, 88], 0) := (fm_93 44).trans rfl
theorem u_93_44 {S : Scr} {d : Nat} {a0 a1 a2 a3 a4 a5 : AV} {st : List AV} {sh : Shp} {I : IM} {R : RM} {x0 : Int} {k : Nat} (h : tg sh k = 7) (hr : st.length ≤ 8) : ev S d 93 44 [a0, a1, a2, a3, a4, a5] (.inl x0 :: .inr (.inl k) :: st) (sh, I, R) = bnd (cl d 68 [.inr (.inl k), .inl x0] (sh, I, R)) (fun v M => ev S d 93 47 [a0, a1, a2, a3, a4, a5] (psh v st) M) := (ev_eq f_93_44).trans (congrArg (fin S d 93) (if_pos ⟨h, rfl, hr⟩))
theorem f_93_47 : fetch 93 47 = some (47, .invokevirtual 132, 3, [37, 1, 94], 0) := (fm_93 47).trans rfl
theorem u_93_47 {S : Scr} {d : Nat} {a0 a1 a2 a3 a4 a5 : AV} {st : List AV} {sh : Shp} {I : IM} {R : RM} {x0 : Nat} {k : Nat} (h : tg sh k = 3) (hr : st.length ≤ 8) : ev S d 93 47 [a0, a1, a2, a3, a4, a5] (.inr (.inl x0) :: .inr (.inl k) :: st) (sh, I, R) = bnd (cl d 37 [.inr (.inl k), .inr (.inl x0)] (sh, I, R)) (fun v M => ev S d 93 50 [a0, a1, a2, a3, a4, a5] (psh v st) M) := (ev_eq f_93_47).trans (congrArg (fin S d 93) (if_pos ⟨h, rfl, hr⟩))
theorem u_93_47n {S : Scr} {d : Nat} {a0 a1 a2 a3 a4 a5 : AV} {st : List AV} {sh : Shp} {I : IM} {R : RM} {k : Nat} (h : tg sh k = 3) (hr : st.length ≤ 8) : ev S d 93 47 [a0, a1, a2, a3, a4, a5] (.inr (.inr 0) :: .inr (.inl k) :: st) (sh, I, R) = bnd (cl d 37 [.inr (.inl k), .inr (.inr 0)] (sh, I, R)) (fun v M => ev S d 93 50 [a0, a1, a2, a3, a4, a5] (psh v st) M) := (ev_eq f_93_47).trans (congrArg (fin S d 93) (if_pos ⟨h, rfl, hr⟩))
theorem f_93_50 : fetch 93 50 = some (50, .ifCond .ne 6, 3, [56], 0) := (fm_93 50).trans rfl
theorem u_93_50 {S : Scr} {d : Nat} {a0 a1 a2 a3 a4 a5 : AV} {st : List AV} {sh : Shp} {I : IM} {R : RM} {x : Int} : ev S d 93 50 [a0, a1, a2, a3, a4, a5] (.inl x :: st) (sh, I, R) = if ¬ x = 0 then ev S d 93 56 [a0, a1, a2, a3, a4, a5] st (sh, I, R) else ev S d 93 53 [a0, a1, a2, a3, a4, a5] st (sh, I, R) := (ev_eq f_93_50).trans fin_if_ne
theorem f_93_53 : fetch 93 53 = some (53, .bipush (-16), 2, [], (-16)) := (fm_93 53).trans rfl
theorem u_93_53 {S : Scr} {d : Nat} {a0 a1 a2 a3 a4 a5 : AV} {st : List AV} {sh : Shp} {I : IM} {R : RM} : ev S d 93 53 [a0, a1, a2, a3, a4, a5] st (sh, I, R) = ev S d 93 55 [a0, a1, a2, a3, a4, a5] (.inl (-16) :: st) (sh, I, R) := (ev_eq f_93_53).trans rfl
theorem f_93_55 : fetch 93 55 = some (55, .ireturn, 1, [0], 0) := (fm_93 55).trans rfl
theorem u_93_55 {S : Scr} {d : Nat} {a0 a1 a2 a3 a4 a5 : AV} {sh : Shp} {I : IM} {R : RM} {x : Int} : ev S d 93 55 [a0, a1, a2, a3, a4, a5] [.inl x] (sh, I, R) = some (some (.inl x), (sh, I, R)) := (ev_eq f_93_55).trans fin_iret0
theorem f_93_56 : fetch 93 56 = some (56, .aload 4, 2, [4], 0) := (fm_93 56).trans rfl
theorem u_93_56 {S : Scr} {d : Nat} {a0 a1 a2 a3 a5 : AV} {st : List AV} {sh : Shp} {I : IM} {R : RM} {x : Nat} : ev S d 93 56 [a0, a1, a2, a3, .inr (.inl x), a5] st (sh, I, R) = ev S d 93 58 [a0, a1, a2, a3, .inr (.inl x), a5] (.inr (.inl x) :: st) (sh, I, R) := (ev_eq f_93_56).trans rfl
theorem u_93_56n {S : Scr} {d : Nat} {a0 a1 a2 a3 a5 : AV} {st : List AV} {sh : Shp} {I : IM} {R : RM} : ev S d 93 56 [a0, a1, a2, a3, .inr (.inr 0), a5] st (sh, I, R) = ev S d 93 58 [a0, a1, a2, a3, .inr (.inr 0), a5] (.inr (.inr 0) :: st) (sh, I, R) := (ev_eq f_93_56).trans rfl
theorem f_93_58 : fetch 93 58 = some (58, .getfield 136, 3, [3, 1, 1, 67], 0) := (fm_93 58).trans rfl
theorem u_93_58 {S : Scr} {d : Nat} {a0 a1 a2 a3 a4 a5 : AV} {st : List AV} {sh : Shp} {I : IM} {R : RM} {k : Nat} (h : tg sh k = 3) : ev S d 93 58 [a0, a1, a2, a3, a4, a5] (.inr (.inl k) :: st) (sh, I, R) = ev S d 93 61 [a0, a1, a2, a3, a4, a5] (rv (R k 1) :: st) (sh, I, R) := (ev_eq f_93_58).trans (congrArg (fin S d 93) (if_pos h))
theorem f_93_61 : fetch 93 61 = some (61, .iload_n 2, 1, [2], 0) := (fm_93 61).trans rfl
theorem u_93_61 {S : Scr} {d : Nat} {a0 a1 a3 a4 a5 : AV} {st : List AV} {sh : Shp} {I : IM} {R : RM} {x : Int} : ev S d 93 61 [a0, a1, .inl x, a3, a4, a5] st (sh, I, R) = ev S d 93 62 [a0, a1, .inl x, a3, a4, a5] (.inl x :: st) (sh, I, R) := (ev_eq f_93_61).trans rfl
theorem f_93_62 : fetch 93 62 = some (62, .iaload, 1, [], 0) := (fm_93 62).trans rfl
theorem u_93_62 {S : Scr} {d : Nat} {a0 a1 a2 a3 a4 a5 : AV} {st : List AV} {sh : Shp} {I : IM} {R : RM} {k : Nat} {i : Int} (h : tg sh k = 100) (h0 : 0 ≤ i) (h1 : i < ln sh k) : ev S d 93 62 [a0, a1, a2, a3, a4, a5] (.inl i :: .inr (.inl k) :: st) (sh, I, R) = ev S d 93 63 [a0, a1, a2, a3, a4, a5] (.inl (I k i) :: st) (sh, I, R) := (ev_eq f_93_62).trans (congrArg (fin S d 93) (if_pos ⟨h, h0, h1⟩))
theorem f_93_63 : fetch 93 63 = some (63, .istore 5, 2, [5], 0) := (fm_93 63).trans rfl
theorem u_93_63 {S : Scr} {d : Nat} {a0 a1 a2 a3 a4 a5 : AV} {st : List AV} {sh : Shp} {I : IM} {R : RM} {x : Int} : ev S d 93 63 [a0, a1, a2, a3, a4, a5] (.inl x :: st) (sh, I, R) = ev S d 93 65 [a0, a1, a2, a3, a4, .inl x] st (sh, I, R) := (ev_eq f_93_63).trans rfl
theorem f_93_65 : fetch 93 65 = some (65, .aload 4, 2, [4], 0) := (fm_93 65).trans rfl
theorem u_93_65 {S : Scr} {d : Nat} {a0 a1 a2 a3 a5 : AV} {st : List AV} {sh : Shp} {I : IM} {R : RM} {x : Nat} : ev S d 93 65 [a0, a1, a2, a3, .inr (.inl x), a5] st (sh, I, R) = ev S d 93 67 [a0, a1, a2, a3, .inr (.inl x), a5] (.inr (.inl x) :: st) (sh, I, R) := (ev_eq f_93_65).trans rfl
theorem u_93_65n {S : Scr} {d : Nat} {a0 a1 a2 a3 a5 : AV} {st : List AV} {sh : Shp} {I : IM} {R : RM} : ev S d 93 65 [a0, a1, a2, a3, .inr (.inr 0), a5] st (sh, I, R) = ev S d 93 67 [a0, a1, a2, a3, .inr (.inr 0), a5] (.inr (.inr 0) :: st) (sh, I, R) := (ev_eq f_93_65).trans rfl
theorem f_93_67 : fetch 93 67 = some (67, .getfield 136, 3, [3, 1, 1, 67], 0) := (fm_93 67).trans rfl
theorem u_93_67 {S : Scr} {d : Nat} {a0 a1 a2 a3 a4 a5 : AV} {st : List AV} {sh : Shp} {I : IM} {R : RM} {k : Nat} (h : tg sh k = 3) : ev S d 93 67 [a0, a1, a2, a3, a4, a5] (.inr (.inl k) :: st) (sh, I, R) = ev S d 93 70 [a0, a1, a2, a3, a4, a5] (rv (R k 1) :: st) (sh, I, R) := (ev_eq f_93_67).trans (congrArg (fin S d 93) (if_pos h))
theorem f_93_70 : fetch 93 70 = some (70, .iload_n 2, 1, [2], 0) := (fm_93 70).trans rfl
theorem u_93_70 {S : Scr} {d : Nat} {a0 a1 a3 a4 a5 : AV} {st : List AV} {sh : Shp} {I : IM} {R : RM} {x : Int} : ev S d 93 70 [a0, a1, .inl x, a3, a4, a5] st (sh, I, R) = ev S d 93 71 [a0, a1, .inl x, a3, a4, a5] (.inl x :: st) (sh, I, R) := (ev_eq f_93_70).trans rfl
theorem f_93_71 : fetch 93 71 = some (71, .iload_n 3, 1, [3], 0) := (fm_93 71).trans rfl
theorem u_93_71 {S : Scr} {d : Nat} {a0 a1 a2 a4 a5 : AV} {st : List AV} {sh : Shp} {I : IM} {R : RM} {x : Int} : ev S d 93 71 [a0, a1, a2, .inl x, a4, a5] st (sh, I, R) = ev S d 93 72 [a0, a1, a2, .inl x, a4, a5] (.inl x :: st) (sh, I, R) := (ev_eq f_93_71).trans rfl
theorem f_93_72 : fetch 93 72 = some (72, .iastore, 1, [], 0) := (fm_93 72).trans rfl
theorem u_93_72 {S : Scr} {d : Nat} {a0 a1 a2 a3 a4 a5 : AV} {st : List AV} {sh : Shp} {I : IM} {R : RM} {k : Nat} {i x : Int} (h : tg sh k = 100) (h0 : 0 ≤ i) (h1 : i < ln sh k) : ev S d 93 72 [a0, a1, a2, a3, a4, a5] (.inl x :: .inl i :: .inr (.inl k) :: st) (sh, I, R) = ev S d 93 73 [a0, a1, a2, a3, a4, a5] st (sh, up I k i x, R) := (ev_eq f_93_72).trans (congrArg (fin S d 93) (if_pos ⟨h, h0, h1⟩))
theorem f_93_73 : fetch 93 73 = some (73, .iload 5, 2, [5], 0) := (fm_93 73).trans rfl
theorem u_93_73 {S : Scr} {d : Nat} {a0 a1 a2 a3 a4 : AV} {st : List AV} {sh : Shp} {I : IM} {R : RM} {x : Int} : ev S d 93 73 [a0, a1, a2, a3, a4, .inl x] st (sh, I, R) = ev S d 93 75 [a0, a1, a2, a3, a4, .inl x] (.inl x :: st) (sh, I, R) := (ev_eq f_93_73).trans rfl
theorem f_93_75 : fetch 93 75 = some (75, .invokestatic 139, 3, [127, 1, 95], 0) := (fm_93 75).trans rfl
theorem u_93_75 {S : Scr} {d : Nat} {a0 a1 a2 a3 a4 a5 : AV} {st : List AV} {sh : Shp} {I : IM} {R : RM} {x0 : Int} (hr : st.length ≤ 8) : ev S d 93 75 [a0, a1, a2, a3, a4, a5] (.inl x0 :: st) (sh, I, R) = bnd (cl d 127 [.inl x0] (sh, I, R)) (fun v M => ev S d 93 78 [a0, a1, a2, a3, a4, a5] (psh v st) M) := (ev_eq f_93_75).trans (congrArg (fin S d 93) (if_pos ⟨rfl, hr⟩))
theorem f_93_78 : fetch 93 78 = some (78, .ireturn, 1, [0], 0) := (fm_93 78).trans rfl
theorem u_93_78 {S : Scr} {d : Nat} {a0 a1 a2 a3 a4 a5 : AV} {sh : Shp} {I : IM} {R : RM} {x : Int} : ev S d 93 78 [a0, a1, a2, a3, a4, a5] [.inl x] (sh, I, R) = some (some (.inl x), (sh, I, R)) := (ev_eq f_93_78).trans fin_iret0
theorem c_94 {d : Nat} {a0 a1 a2 : AV} {M : Mem} : cl (d + 1) 94 [a0, a1, a2] M = ev S0 d 94 0 [a0, a1, a2, .inr (.inr 1)] [] M := (cl_eq (as := [a0, a1, a2]) (show 3 ≤ maxOf 94 by decide +kernel)).trans rfl
theorem mt_94 : MT[94]? = some m_94 := rfl
theorem fm_94 (pc : Nat) : fetch 94 pc = lk m_94.2.2.2.2.2 pc := by
  unfold fetch
  rw [mt_94]
theorem f_94_0 : fetch 94 0 = some (0, .aload_n 0, 1, [0], 0) := (fm_94 0).trans rfl
theorem u_94_0 {S : Scr} {d : Nat} {a1 a2 a3 : AV} {st : List AV} {sh : Shp} {I : IM} {R : RM} {x : Nat} : ev S d 94 0 [.inr (.inl x), a1, a2, a3] st (sh, I, R) = ev S d 94 1 [.inr (.inl x), a1, a2, a3] (.inr (.inl x) :: st) (sh, I, R) := (ev_eq f_94_0).trans rfl
theorem f_94_1 : fetch 94 1 = some (1, .getfield 10, 3, [8, 0, 1, 55], 0) := (fm_94 1).trans rfl
theorem u_94_1 {S : Scr} {d : Nat} {a0 a1 a2 a3 : AV} {st : List AV} {sh : Shp} {I : IM} {R : RM} {k : Nat} (h : tg sh k = 8) : ev S d 94 1 [a0, a1, a2, a3] (.inr (.inl k) :: st) (sh, I, R) = ev S d 94 4 [a0, a1, a2, a3] (rv (R k 0) :: st) (sh, I, R) := (ev_eq f_94_1).trans (congrArg (fin S d 94) (if_pos h))
theorem f_94_4 : fetch 94 4 = some (4, .iload_n 1, 1, [1], 0) := (fm_94 4).trans rfl
theorem u_94_4 {S : Scr} {d : Nat} {a0 a2 a3 : AV} {st : List AV} {sh : Shp} {I : IM} {R : RM} {x : Int} : ev S d 94 4 [a0, .inl x, a2, a3] st (sh, I, R) = ev S d 94 5 [a0, .inl x, a2, a3] (.inl x :: st) (sh, I, R) := (ev_eq f_94_4).trans rfl
theorem f_94_5 : fetch 94 5 = some (5, .invokevirtual 102, 3, [68, 1, 88], 0) := (fm_94 5).trans rfl
theorem u_94_5 {S : Scr} {d : Nat} {a0 a1 a2 a3 : AV} {st : List AV} {sh : Shp} {I : IM} {R : RM} {x0 : Int} {k : Nat} (h : tg sh k = 7) (hr : st.length ≤ 8) : ev S d 94 5 [a0, a1, a2, a3] (.inl x0 :: .inr (.inl k) :: st) (sh, I, R) = bnd (cl d 68 [.inr (.inl k), .inl x0] (sh, I, R)) (fun v M => ev S d 94 8 [a0, a1, a2, a3] (psh v st) M) := (ev_eq f_94_5).trans (congrArg (fin S d 94) (if_pos ⟨h, rfl, hr⟩))
theorem f_94_8 : fetch 94 8 = some (8, .astore_n 3, 1, [3], 0) := (fm_94 8).trans rfl
theorem u_94_8 {S : Scr} {d : Nat} {a0 a1 a2 a3 : AV} {st : List AV} {sh : Shp} {I : IM} {R : RM} {x : Nat} : ev S d 94 8 [a0, a1, a2, a3] (.inr (.inl x) :: st) (sh, I, R) = ev S d 94 9 [a0, a1, a2, .inr (.inl x)] st (sh, I, R) := (ev_eq f_94_8).trans rfl
theorem u_94_8n {S : Scr} {d : Nat} {a0 a1 a2 a3 : AV} {st : List AV} {sh : Shp} {I : IM} {R : RM} : ev S d 94 8 [a0, a1, a2, a3] (.inr (.inr 0) :: st) (sh, I, R) = ev S d 94 9 [a0, a1, a2, .inr (.inr 0)] st (sh, I, R) := (ev_eq f_94_8).trans rfl
theorem f_94_9 : fetch 94 9 = some (9, .aload_n 3, 1, [3], 0) := (fm_94 9).trans rfl
theorem u_94_9 {S : Scr} {d : Nat} {a0 a1 a2 : AV} {st : List AV} {sh : Shp} {I : IM} {R : RM} {x : Nat} : ev S d 94 9 [a0, a1, a2, .inr (.inl x)] st (sh, I, R) = ev S d 94 10 [a0, a1, a2, .inr (.inl x)] (.inr (.inl x) :: st) (sh, I, R) := (ev_eq f_94_9).trans rfl
theorem u_94_9n {S : Scr} {d : Nat} {a0 a1 a2 : AV} {st : List AV} {sh : Shp} {I : IM} {R : RM} : ev S d 94 9 [a0, a1, a2, .inr (.inr 0)] st (sh, I, R) = ev S d 94 10 [a0, a1, a2, .inr (.inr 0)] (.inr (.inr 0) :: st) (sh, I, R) := (ev_eq f_94_9).trans rfl
theorem f_94_10 : fetch 94 10 = some (10, .ifnonnull 5, 3, [15], 0) := (fm_94 10).trans rfl
theorem u_94_10 {S : Scr} {d : Nat} {a0 a1 a2 a3 : AV} {st : List AV} {sh : Shp} {I : IM} {R : RM} {x : Nat} : ev S d 94 10 [a0, a1, a2, a3] (.inr (.inl x) :: st) (sh, I, R) = ev S d 94 15 [a0, a1, a2, a3] st (sh, I, R) := (ev_eq f_94_10).trans rfl
theorem u_94_10n {S : Scr} {d : Nat} {a0 a1 a2 a3 : AV} {st : List AV} {sh : Shp} {I : IM} {R : RM} : ev S d 94 10 [a0, a1, a2, a3] (.inr (.inr 0) :: st) (sh, I, R) = ev S d 94 13 [a0, a1, a2, a3] st (sh, I, R) := (ev_eq f_94_10).trans rfl
theorem f_94_13 : fetch 94 13 = some (13, .iconst (-1), 1, [], (-1)) := (fm_94 13).trans rfl
theorem u_94_13 {S : Scr} {d : Nat} {a0 a1 a2 a3 : AV} {st : List AV} {sh : Shp} {I : IM} {R : RM} : ev S d 94 13 [a0, a1, a2, a3] st (sh, I, R) = ev S d 94 14 [a0, a1, a2, a3] (.inl (-1) :: st) (sh, I, R) := (ev_eq f_94_13).trans rfl
theorem f_94_14 : fetch 94 14 = some (14, .ireturn, 1, [0], 0) := (fm_94 14).trans rfl
theorem u_94_14 {S : Scr} {d : Nat} {a0 a1 a2 a3 : AV} {sh : Shp} {I : IM} {R : RM} {x : Int} : ev S d 94 14 [a0, a1, a2, a3] [.inl x] (sh, I, R) = some (some (.inl x), (sh, I, R)) := (ev_eq f_94_14).trans fin_iret0
theorem f_94_15 : fetch 94 15 = some (15, .aload_n 3, 1, [3], 0) := (fm_94 15).trans rfl
theorem u_94_15 {S : Scr} {d : Nat} {a0 a1 a2 : AV} {st : List AV} {sh : Shp} {I : IM} {R : RM} {x : Nat} : ev S d 94 15 [a0, a1, a2, .inr (.inl x)] st (sh, I, R) = ev S d 94 16 [a0, a1, a2, .inr (.inl x)] (.inr (.inl x) :: st) (sh, I, R) := (ev_eq f_94_15).trans rfl
theorem u_94_15n {S : Scr} {d : Nat} {a0 a1 a2 : AV} {st : List AV} {sh : Shp} {I : IM} {R : RM} : ev S d 94 15 [a0, a1, a2, .inr (.inr 0)] st (sh, I, R) = ev S d 94 16 [a0, a1, a2, .inr (.inr 0)] (.inr (.inr 0) :: st) (sh, I, R) := (ev_eq f_94_15).trans rfl
theorem f_94_16 : fetch 94 16 = some (16, .iload_n 2, 1, [2], 0) := (fm_94 16).trans rfl
theorem u_94_16 {S : Scr} {d : Nat} {a0 a1 a3 : AV} {st : List AV} {sh : Shp} {I : IM} {R : RM} {x : Int} : ev S d 94 16 [a0, a1, .inl x, a3] st (sh, I, R) = ev S d 94 17 [a0, a1, .inl x, a3] (.inl x :: st) (sh, I, R) := (ev_eq f_94_16).trans rfl
theorem f_94_17 : fetch 94 17 = some (17, .invokevirtual 129, 3, [36, 1, 93], 0) := (fm_94 17).trans rfl
theorem u_94_17 {S : Scr} {d : Nat} {a0 a1 a2 a3 : AV} {st : List AV} {sh : Shp} {I : IM} {R : RM} {x0 : Int} {k : Nat} (h : tg sh k = 3) (hr : st.length ≤ 8) : ev S d 94 17 [a0, a1, a2, a3] (.inl x0 :: .inr (.inl k) :: st) (sh, I, R) = bnd (cl d 36 [.inr (.inl k), .inl x0] (sh, I, R)) (fun v M => ev S d 94 20 [a0, a1, a2, a3] (psh v st) M) := (ev_eq f_94_17).trans (congrArg (fin S d 94) (if_pos ⟨h, rfl, hr⟩))
theorem f_94_20 : fetch 94 20 = some (20, .ifCond .eq 15, 3, [35], 0) := (fm_94 20).trans rfl
theorem u_94_20 {S : Scr} {d : Nat} {a0 a1 a2 a3 : AV} {st : List AV} {sh : Shp} {I : IM} {R : RM} {x : Int} : ev S d 94 20 [a0, a1, a2, a3] (.inl x :: st) (sh, I, R) = if x = 0 then ev S d 94 35 [a0, a1, a2, a3] st (sh, I, R) else ev S d 94 23 [a0, a1, a2, a3] st (sh, I, R) := (ev_eq f_94_20).trans fin_if_eq
theorem f_94_23 : fetch 94 23 = some (23, .aload_n 3, 1, [3], 0) := (fm_94 23).trans rfl
theorem u_94_23 {S : Scr} {d : Nat} {a0 a1 a2 : AV} {st : List AV} {sh : Shp} {I : IM} {R : RM} {x : Nat} : ev S d 94 23 [a0, a1, a2, .inr (.inl x)] st (sh, I, R) = ev S d 94 24 [a0, a1, a2, .inr (.inl x)] (.inr (.inl x) :: st) (sh, I, R) := (ev_eq f_94_23).trans rfl
theorem u_94_23n {S : Scr} {d : Nat} {a0 a1 a2 : AV} {st : List AV} {sh : Shp} {I : IM} {R : RM} : ev S d 94 23 [a0, a1, a2, .inr (.inr 0)] st (sh, I, R) = ev S d 94 24 [a0, a1, a2, .inr (.inr 0)] (.inr (.inr 0) :: st) (sh, I, R) := (ev_eq f_94_23).trans rfl
theorem f_94_24 : fetch 94 24 = some (24, .getfield 136, 3, [3, 1, 1, 67], 0) := (fm_94 24).trans rfl
theorem u_94_24 {S : Scr} {d : Nat} {a0 a1 a2 a3 : AV} {st : List AV} {sh : Shp} {I : IM} {R : RM} {k : Nat} (h : tg sh k = 3) : ev S d 94 24 [a0, a1, a2, a3] (.inr (.inl k) :: st) (sh, I, R) = ev S d 94 27 [a0, a1, a2, a3] (rv (R k 1) :: st) (sh, I, R) := (ev_eq f_94_24).trans (congrArg (fin S d 94) (if_pos h))
theorem f_94_27 : fetch 94 27 = some (27, .iload_n 2, 1, [2], 0) := (fm_94 27).trans rfl
theorem u_94_27 {S : Scr} {d : Nat} {a0 a1 a3 : AV} {st : List AV} {sh : Shp} {I : IM} {R : RM} {x : Int} : ev S d 94 27 [a0, a1, .inl x, a3] st (sh, I, R) = ev S d 94 28 [a0, a1, .inl x, a3] (.inl x :: st) (sh, I, R) := (ev_eq f_94_27).trans rfl
theorem f_94_28 : fetch 94 28 = some (28, .iaload, 1, [], 0) := (fm_94 28).trans rfl
theorem u_94_28 {S : Scr} {d : Nat} {a0 a1 a2 a3 : AV} {st : List AV} {sh : Shp} {I : IM} {R : RM} {k : Nat} {i : Int} (h : tg sh k = 100) (h0 : 0 ≤ i) (h1 : i < ln sh k) : ev S d 94 28 [a0, a1, a2, a3] (.inl i :: .inr (.inl k) :: st) (sh, I, R) = ev S d 94 29 [a0, a1, a2, a3] (.inl (I k i) :: st) (sh, I, R) := (ev_eq f_94_28).trans (congrArg (fin S d 94) (if_pos ⟨h, h0, h1⟩))
theorem f_94_29 : fetch 94 29 = some (29, .invokestatic 139, 3, [127, 1, 95], 0) := (fm_94 29).trans rfl
theorem u_94_29 {S : Scr} {d : Nat} {a0 a1 a2 a3 : AV} {st : List AV} {sh : Shp} {I : IM} {R : RM} {x0 : Int} (hr : st.length ≤ 8) : ev S d 94 29 [a0, a1, a2, a3] (.inl x0 :: st) (sh, I, R) = bnd (cl d 127 [.inl x0] (sh, I, R)) (fun v M => ev S d 94 32 [a0, a1, a2, a3] (psh v st) M) := (ev_eq f_94_29).trans (congrArg (fin S d 94) (if_pos ⟨rfl, hr⟩))
theorem f_94_32 : fetch 94 32 = some (32, .goto 5, 3, [37], 0) := (fm_94 32).trans rfl
theorem u_94_32 {S : Scr} {d : Nat} {a0 a1 a2 a3 : AV} {st : List AV} {sh : Shp} {I : IM} {R : RM} : ev S d 94 32 [a0, a1, a2, a3] st (sh, I, R) = ev S d 94 37 [a0, a1, a2, a3] st (sh, I, R) := (ev_eq f_94_32).trans rfl
theorem f_94_35 : fetch 94 35 = some (35, .bipush (-13), 2, [], (-13)) := (fm_94 35).trans rfl
theorem u_94_35 {S : Scr} {d : Nat} {a0 a1 a2 a3 : AV} {st : List AV} {sh : Shp} {I : IM} {R : RM} : ev S d 94 35 [a0, a1, a2, a3] st (sh, I, R) = ev S d 94 37 [a0, a1, a2, a3] (.inl (-13) :: st) (sh, I, R) := (ev_eq f_94_35).trans rfl
theorem f_94_37 : fetch 94 37 = some (37, .ireturn, 1, [0], 0) := (fm_94 37).trans rfl
theorem u_94_37 {S : Scr} {d : Nat} {a0 a1 a2 a3 : AV} {sh : Shp} {I : IM} {R : RM} {x : Int} : ev S d 94 37 [a0, a1, a2, a3] [.inl x] (sh, I, R) = some (some (.inl x), (sh, I, R)) := (ev_eq f_94_37).trans fin_iret0
theorem c_95 {d : Nat} {a0 a1 a2 : AV} {M : Mem} : cl (d + 1) 95 [a0, a1, a2] M = ev S0 d 95 0 [a0, a1, a2, .inr (.inr 1)] [] M := (cl_eq (as := [a0, a1, a2]) (show 3 ≤ maxOf 95 by decide +kernel)).trans rfl
theorem mt_95 : MT[95]? = some m_95 := rfl
theorem fm_95 (pc : Nat) : fetch 95 pc = lk m_95.2.2.2.2.2 pc := by
  unfold fetch
  rw [mt_95]
theorem f_95_0 : fetch 95 0 = some (0, .aload_n 0, 1, [0], 0) := (fm_95 0).trans rfl
theorem u_95_0 {S : Scr} {d : Nat} {a1 a2 a3 : AV} {st : List AV} {sh : Shp} {I : IM} {R : RM} {x : Nat} : ev S d 95 0 [.inr (.inl x), a1, a2, a3] st (sh, I, R) = ev S d 95 1 [.inr (.inl x), a1, a2, a3] (.inr (.inl x) :: st) (sh, I, R) := (ev_eq f_95_0).trans rfl
theorem f_95_1 : fetch 95 1 = some (1, .getfield 10, 3, [8, 0, 1, 55], 0) := (fm_95 1).trans rfl
theorem u_95_1 {S : Scr} {d : Nat} {a0 a1 a2 a3 : AV} {st : List AV} {sh : Shp} {I : IM} {R : RM} {k : Nat} (h : tg sh k = 8) : ev S d 95 1 [a0, a1, a2, a3] (.inr (.inl k) :: st) (sh, I, R) = ev S d 95 4 [a0, a1, a2, a3] (rv (R k 0) :: st) (sh, I, R) := (ev_eq f_95_1).trans (congrArg (fin S d 95) (if_pos h))
theorem f_95_4 : fetch 95 4 = some (4, .iload_n 1, 1, [1], 0) := (fm_95 4).trans rfl
theorem u_95_4 {S : Scr} {d : Nat} {a0 a2 a3 : AV} {st : List AV} {sh : Shp} {I : IM} {R : RM} {x : Int} : ev S d 95 4 [a0, .inl x, a2, a3] st (sh, I, R) = ev S d 95 5 [a0, .inl x, a2, a3] (.inl x :: st) (sh, I, R) := (ev_eq f_95_4).trans rfl
theorem f_95_5 : fetch 95 5 = some (5, .invokevirtual 102, 3, [68, 1, 88], 0) := (fm_95 5).trans rfl
theorem u_95_5 {S : Scr} {d : Nat} {a0 a1 a2 a3 : AV} {st : List AV} {sh : Shp} {I : IM} {R : RM} {x0 : Int} {k : Nat} (h : tg sh k = 7) (hr : st.length ≤ 8) : ev S d 95 5 [a0, a1, a2, a3] (.inl x0 :: .inr (.inl k) :: st) (sh, I, R) = bnd (cl d 68 [.inr (.inl k), .inl x0] (sh, I, R)) (fun v M => ev S d 95 8 [a0, a1, a2, a3] (psh v st) M) := (ev_eq f_95_5).trans (congrArg (fin S d 95) (if_pos ⟨h, rfl, hr⟩))
theorem f_95_8 : fetch 95 8 = some (8, .astore_n 3, 1, [3], 0) := (fm_95 8).trans rfl
theorem u_95_8 {S : Scr} {d : Nat} {a0 a1 a2 a3 : AV} {st : List AV} {sh : Shp} {I : IM} {R : RM} {x : Nat} : ev S d 95 8 [a0, a1, a2, a3] (.inr (.inl x) :: st) (sh, I, R) = ev S d 95 9 [a0, a1, a2, .inr (.inl x)] st (sh, I, R) := (ev_eq f_95_8).trans rfl
theorem u_95_8n {S : Scr} {d : Nat} {a0 a1 a2 a3 : AV} {st : List AV} {sh : Shp} {I : IM} {R : RM} : ev S d 95 8 [a0, a1, a2, a3] (.inr (.inr 0) :: st) (sh, I, R) = ev S d 95 9 [a0, a1, a2, .inr (.inr 0)] st (sh, I, R) := (ev_eq f_95_8).trans rfl
theorem f_95_9 : fetch 95 9 = some (9, .aload_n 3, 1, [3], 0) := (fm_95 9).trans rfl
theorem u_95_9 {S : Scr} {d : Nat} {a0 a1 a2 : AV} {st : List AV} {sh : Shp} {I : IM} {R : RM} {x : Nat} : ev S d 95 9 [a0, a1, a2, .inr (.inl x)] st (sh, I, R) = ev S d 95 10 [a0, a1, a2, .inr (.inl x)] (.inr (.inl x) :: st) (sh, I, R) := (ev_eq f_95_9).trans rfl
theorem u_95_9n {S : Scr} {d : Nat} {a0 a1 a2 : AV} {st : List AV} {sh : Shp} {I : IM} {R : RM} : ev S d 95 9 [a0, a1, a2, .inr (.inr 0)] st (sh, I, R) = ev S d 95 10 [a0, a1, a2, .inr (.inr 0)] (.inr (.inr 0) :: st) (sh, I, R) := (ev_eq f_95_9).trans rfl
theorem f_95_10 : fetch 95 10 = some (10, .ifnonnull 5, 3, [15], 0) := (fm_95 10).trans rfl
theorem u_95_10 {S : Scr} {d : Nat} {a0 a1 a2 a3 : AV} {st : List AV} {sh : Shp} {I : IM} {R : RM} {x : Nat} : ev S d 95 10 [a0, a1, a2, a3] (.inr (.inl x) :: st) (sh, I, R) = ev S d 95 15 [a0, a1, a2, a3] st (sh, I, R) := (ev_eq f_95_10).trans rfl
theorem u_95_10n {S : Scr} {d : Nat} {a0 a1 a2 a3 : AV} {st : List AV} {sh : Shp} {I : IM} {R : RM} : ev S d 95 10 [a0, a1, a2, a3] (.inr (.inr 0) :: st) (sh, I, R) = ev S d 95 13 [a0, a1, a2, a3] st (sh, I, R) := (ev_eq f_95_10).trans rfl
theorem f_95_13 : fetch 95 13 = some (13, .iconst (-1), 1, [], (-1)) := (fm_95 13).trans rfl
theorem u_95_13 {S : Scr} {d : Nat} {a0 a1 a2 a3 : AV} {st : List AV} {sh : Shp} {I : IM} {R : RM} : ev S d 95 13 [a0, a1, a2, a3] st (sh, I, R) = ev S d 95 14 [a0, a1, a2, a3] (.inl (-1) :: st) (sh, I, R) := (ev_eq f_95_13).trans rfl
theorem f_95_14 : fetch 95 14 = some (14, .ireturn, 1, [0], 0) := (fm_95 14).trans rfl
theorem u_95_14 {S : Scr} {d : Nat} {a0 a1 a2 a3 : AV} {sh : Shp} {I : IM} {R : RM} {x : Int} : ev S d 95 14 [a0, a1, a2, a3] [.inl x] (sh, I, R) = some (some (.inl x), (sh, I, R)) := (ev_eq f_95_14).trans fin_iret0
theorem f_95_15 : fetch 95 15 = some (15, .iload_n 2, 1, [2], 0) := (fm_95 15).trans rfl
theorem u_95_15 {S : Scr} {d : Nat} {a0 a1 a3 : AV} {st : List AV} {sh : Shp} {I : IM} {R : RM} {x : Int} : ev S d 95 15 [a0, a1, .inl x, a3] st (sh, I, R) = ev S d 95 16 [a0, a1, .inl x, a3] (.inl x :: st) (sh, I, R) := (ev_eq f_95_15).trans rfl
theorem f_95_16 : fetch 95 16 = some (16, .tableswitch 81 0 4 #[36, 41, 49, 54, 63], 36, [97, 0, 52, 1, 57, 2, 65, 3, 70, 4, 79], 0) := (fm_95 16).trans rfl
theorem u_95_16 {S : Scr} {d : Nat} {a0 a1 a2 a3 : AV} {st : List AV} {sh : Shp} {I : IM} {R : RM} {x : Int} : ev S d 95 16 [a0, a1, a2, a3] (.inl x :: st) (sh, I, R) = if x = 0 then ev S d 95 52 [a0, a1, a2, a3] st (sh, I, R) else if x = 1 then ev S d 95 57 [a0, a1, a2, a3] st (sh, I, R) else if x = 2 then ev S d 95 65 [a0, a1, a2, a3] st (sh, I, R) else if x = 3 then ev S d 95 70 [a0, a1, a2, a3] st (sh, I, R) else if x = 4 then ev S d 95 79 [a0, a1, a2, a3] st (sh, I, R) else ev S d 95 97 [a0, a1, a2, a3] st (sh, I, R) := by
  rw [ev_eq f_95_16]
  show ev S d 95 (swt 97 x [0, 52, 1, 57, 2, 65, 3, 70, 4, 79]) _ _ _ = _
  rw [ev_sw, ev_sw, ev_sw, ev_sw, ev_sw, ev_sw0]
  rfl
theorem f_95_52 : fetch 95 52 = some (52, .aload_n 3, 1, [3], 0) := (fm_95 52).trans rfl
theorem u_95_52 {S : Scr} {d : Nat} {a0 a1 a2 : AV} {st : List AV} {sh : Shp} {I : IM} {R : RM} {x : Nat} : ev S d 95 52 [a0, a1, a2, .inr (.inl x)] st (sh, I, R) = ev S d 95 53 [a0, a1, a2, .inr (.inl x)] (.inr (.inl x) :: st) (sh, I, R) := (ev_eq f_95_52).trans rfl
theorem u_95_52n {S : Scr} {d : Nat} {a0 a1 a2 : AV} {st : List AV} {sh : Shp} {I : IM} {R : RM} : ev S d 95 52 [a0, a1, a2, .inr (.inr 0)] st (sh, I, R) = ev S d 95 53 [a0, a1, a2, .inr (.inr 0)] (.inr (.inr 0) :: st) (sh, I, R) := (ev_eq f_95_52).trans rfl
theorem f_95_53 : fetch 95 53 = some (53, .getfield 110, 3, [3, 2, 0, 65], 0) := (fm_95 53).trans rfl
theorem u_95_53 {S : Scr} {d : Nat} {a0 a1 a2 a3 : AV} {st : List AV} {sh : Shp} {I : IM} {R : RM} {k : Nat} (h : tg sh k = 3) : ev S d 95 53 [a0, a1, a2, a3] (.inr (.inl k) :: st) (sh, I, R) = ev S d 95 56 [a0, a1, a2, a3] (.inl (I k 2) :: st) (sh, I, R) := (ev_eq f_95_53).trans (congrArg (fin S d 95) (if_pos h))
theorem f_95_56 : fetch 95 56 = some (56, .ireturn, 1, [0], 0) := (fm_95 56).trans rfl
theorem u_95_56 {S : Scr} {d : Nat} {a0 a1 a2 a3 : AV} {sh : Shp} {I : IM} {R : RM} {x : Int} : ev S d 95 56 [a0, a1, a2, a3] [.inl x] (sh, I, R) = some (some (.inl x), (sh, I, R)) := (ev_eq f_95_56).trans fin_iret0
theorem f_95_57 : fetch 95 57 = some (57, .aload_n 3, 1, [3], 0) := (fm_95 57).trans rfl
theorem u_95_57 {S : Scr} {d : Nat} {a0 a1 a2 : AV} {st : List AV} {sh : Shp} {I : IM} {R : RM} {x : Nat} : ev S d 95 57 [a0, a1, a2, .inr (.inl x)] st (sh, I, R) = ev S d 95 58 [a0, a1, a2, .inr (.inl x)] (.inr (.inl x) :: st) (sh, I, R) := (ev_eq f_95_57).trans rfl
theorem u_95_57n {S : Scr} {d : Nat} {a0 a1 a2 : AV} {st : List AV} {sh : Shp} {I : IM} {R : RM} : ev S d 95 57 [a0, a1, a2, .inr (.inr 0)] st (sh, I, R) = ev S d 95 58 [a0, a1, a2, .inr (.inr 0)] (.inr (.inr 0) :: st) (sh, I, R) := (ev_eq f_95_57).trans rfl
theorem f_95_58 : fetch 95 58 = some (58, .getfield 115, 3, [3, 0, 1, 66], 0) := (fm_95 58).trans rfl
theorem u_95_58 {S : Scr} {d : Nat} {a0 a1 a2 a3 : AV} {st : List AV} {sh : Shp} {I : IM} {R : RM} {k : Nat} (h : tg sh k = 3) : ev S d 95 58 [a0, a1, a2, a3] (.inr (.inl k) :: st) (sh, I, R) = ev S d 95 61 [a0, a1, a2, a3] (rv (R k 0) :: st) (sh, I, R) := (ev_eq f_95_58).trans (congrArg (fin S d 95) (if_pos h))
theorem f_95_61 : fetch 95 61 = some (61, .getfield 76, 3, [1, 3, 0, 63], 0) := (fm_95 61).trans rfl
theorem u_95_61 {S : Scr} {d : Nat} {a0 a1 a2 a3 : AV} {st : List AV} {sh : Shp} {I : IM} {R : RM} {k : Nat} (h : tg sh k = 1) : ev S d 95 61 [a0, a1, a2, a3] (.inr (.inl k) :: st) (sh, I, R) = ev S d 95 64 [a0, a1, a2, a3] (.inl (I k 3) :: st) (sh, I, R) := (ev_eq f_95_61).trans (congrArg (fin S d 95) (if_pos h))
theorem f_95_64 : fetch 95 64 = some (64, .ireturn, 1, [0], 0) := (fm_95 64).trans rfl
theorem u_95_64 {S : Scr} {d : Nat} {a0 a1 a2 a3 : AV} {sh : Shp} {I : IM} {R : RM} {x : Int} : ev S d 95 64 [a0, a1, a2, a3] [.inl x] (sh, I, R) = some (some (.inl x), (sh, I, R)) := (ev_eq f_95_64).trans fin_iret0
theorem f_95_65 : fetch 95 65 = some (65, .aload_n 3, 1, [3], 0) := (fm_95 65).trans rfl
theorem u_95_65 {S : Scr} {d : Nat} {a0 a1 a2 : AV} {st : List AV} {sh : Shp} {I : IM} {R : RM} {x : Nat} : ev S d 95 65 [a0, a1, a2, .inr (.inl x)] st (sh, I, R) = ev S d 95 66 [a0, a1, a2, .inr (.inl x)] (.inr (.inl x) :: st) (sh, I, R) := (ev_eq f_95_65).trans rfl
theorem u_95_65n {S : Scr} {d : Nat} {a0 a1 a2 : AV} {st : List AV} {sh : Shp} {I : IM} {R : RM} : ev S d 95 65 [a0, a1, a2, .inr (.inr 0)] st (sh, I, R) = ev S d 95 66 [a0, a1, a2, .inr (.inr 0)] (.inr (.inr 0) :: st) (sh, I, R) := (ev_eq f_95_65).trans rfl
theorem f_95_66 : fetch 95 66 = some (66, .getfield 142, 3, [3, 4, 0, 68], 0) := (fm_95 66).trans rfl
theorem u_95_66 {S : Scr} {d : Nat} {a0 a1 a2 a3 : AV} {st : List AV} {sh : Shp} {I : IM} {R : RM} {k : Nat} (h : tg sh k = 3) : ev S d 95 66 [a0, a1, a2, a3] (.inr (.inl k) :: st) (sh, I, R) = ev S d 95 69 [a0, a1, a2, a3] (.inl (I k 4) :: st) (sh, I, R) := (ev_eq f_95_66).trans (congrArg (fin S d 95) (if_pos h))
theorem f_95_69 : fetch 95 69 = some (69, .ireturn, 1, [0], 0) := (fm_95 69).trans rfl
theorem u_95_69 {S : Scr} {d : Nat} {a0 a1 a2 a3 : AV} {sh : Shp} {I : IM} {R : RM} {x : Int} : ev S d 95 69 [a0, a1, a2, a3] [.inl x] (sh, I, R) = some (some (.inl x), (sh, I, R)) := (ev_eq f_95_69).trans fin_iret0
theorem f_95_70 : fetch 95 70 = some (70, .aload_n 0, 1, [0], 0) := (fm_95 70).trans rfl
theorem u_95_70 {S : Scr} {d : Nat} {a1 a2 a3 : AV} {st : List AV} {sh : Shp} {I : IM} {R : RM} {x : Nat} : ev S d 95 70 [.inr (.inl x), a1, a2, a3] st (sh, I, R) = ev S d 95 71 [.inr (.inl x), a1, a2, a3] (.inr (.inl x) :: st) (sh, I, R) := (ev_eq f_95_70).trans rfl
theorem f_95_71 : fetch 95 71 = some (71, .getfield 10, 3, [8, 0, 1, 55], 0) := (fm_95 71).trans rfl
theorem u_95_71 {S : Scr} {d : Nat} {a0 a1 a2 a3 : AV} {st : List AV} {sh : Shp} {I : IM} {R : RM} {k : Nat} (h : tg sh k = 8) : ev S d 95 71 [a0, a1, a2, a3] (.inr (.inl k) :: st) (sh, I, R) = ev S d 95 74 [a0, a1, a2, a3] (rv (R k 0) :: st) (sh, I, R) := (ev_eq f_95_71).trans (congrArg (fin S d 95) (if_pos h))
theorem f_95_74 : fetch 95 74 = some (74, .aload_n 3, 1, [3], 0) := (fm_95 74).trans rfl
theorem u_95_74 {S : Scr} {d : Nat} {a0 a1 a2 : AV} {st : List AV} {sh : Shp} {I : IM} {R : RM} {x : Nat} : ev S d 95 74 [a0, a1, a2, .inr (.inl x)] st (sh, I, R) = ev S d 95 75 [a0, a1, a2, .inr (.inl x)] (.inr (.inl x) :: st) (sh, I, R) := (ev_eq f_95_74).trans rfl
theorem u_95_74n {S : Scr} {d : Nat} {a0 a1 a2 : AV} {st : List AV} {sh : Shp} {I : IM} {R : RM} : ev S d 95 74 [a0, a1, a2, .inr (.inr 0)] st (sh, I, R) = ev S d 95 75 [a0, a1, a2, .inr (.inr 0)] (.inr (.inr 0) :: st) (sh, I, R) := (ev_eq f_95_74).trans rfl
theorem f_95_75 : fetch 95 75 = some (75, .invokevirtual 145, 3, [77, 1, 96], 0) := (fm_95 75).trans rfl
theorem u_95_75 {S : Scr} {d : Nat} {a0 a1 a2 a3 : AV} {st : List AV} {sh : Shp} {I : IM} {R : RM} {x0 : Nat} {k : Nat} (h : tg sh k = 7) (hr : st.length ≤ 8) : ev S d 95 75 [a0, a1, a2, a3] (.inr (.inl x0) :: .inr (.inl k) :: st) (sh, I, R) = bnd (cl d 77 [.inr (.inl k), .inr (.inl x0)] (sh, I, R)) (fun v M => ev S d 95 78 [a0, a1, a2, a3] (psh v st) M) := (ev_eq f_95_75).trans (congrArg (fin S d 95) (if_pos ⟨h, rfl, hr⟩))
theorem u_95_75n {S : Scr} {d : Nat} {a0 a1 a2 a3 : AV} {st : List AV} {sh : Shp} {I : IM} {R : RM} {k : Nat} (h : tg sh k = 7) (hr : st.length ≤ 8) : ev S d 95 75 [a0, a1, a2, a3] (.inr (.inr 0) :: .inr (.inl k) :: st) (sh, I, R) = bnd (cl d 77 [.inr (.inl k), .inr (.inr 0)] (sh, I, R)) (fun v M => ev S d 95 78 [a0, a1, a2, a3] (psh v st) M) := (ev_eq f_95_75).trans (congrArg (fin S d 95) (if_pos ⟨h, rfl, hr⟩))
theorem f_95_78 : fetch 95 78 = some (78, .ireturn, 1, [0], 0) := (fm_95 78).trans rfl
theorem u_95_78 {S : Scr} {d : Nat} {a0 a1 a2 a3 : AV} {sh : Shp} {I : IM} {R : RM} {x : Int} : ev S d 95 78 [a0, a1, a2, a3] [.inl x] (sh, I, R) = some (some (.inl x), (sh, I, R)) := (ev_eq f_95_78).trans fin_iret0
theorem f_95_79 : fetch 95 79 = some (79, .aload_n 3, 1, [3], 0) := (fm_95 79).trans rfl
theorem u_95_79 {S : Scr} {d : Nat} {a0 a1 a2 : AV} {st : List AV} {sh : Shp} {I : IM} {R : RM} {x : Nat} : ev S d 95 79 [a0, a1, a2, .inr (.inl x)] st (sh, I, R) = ev S d 95 80 [a0, a1, a2, .inr (.inl x)] (.inr (.inl x) :: st) (sh, I, R) := (ev_eq f_95_79).trans rfl
theorem u_95_79n {S : Scr} {d : Nat} {a0 a1 a2 : AV} {st : List AV} {sh : Shp} {I : IM} {R : RM} : ev S d 95 79 [a0, a1, a2, .inr (.inr 0)] st (sh, I, R) = ev S d 95 80 [a0, a1, a2, .inr (.inr 0)] (.inr (.inr 0) :: st) (sh, I, R) := (ev_eq f_95_79).trans rfl
theorem f_95_80 : fetch 95 80 = some (80, .getfield 110, 3, [3, 2, 0, 65], 0) := (fm_95 80).trans rfl
theorem u_95_80 {S : Scr} {d : Nat} {a0 a1 a2 a3 : AV} {st : List AV} {sh : Shp} {I : IM} {R : RM} {k : Nat} (h : tg sh k = 3) : ev S d 95 80 [a0, a1, a2, a3] (.inr (.inl k) :: st) (sh, I, R) = ev S d 95 83 [a0, a1, a2, a3] (.inl (I k 2) :: st) (sh, I, R) := (ev_eq f_95_80).trans (congrArg (fin S d 95) (if_pos h))
theorem f_95_83 : fetch 95 83 = some (83, .iconst 4, 1, [], 4) := (fm_95 83).trans rfl
theorem u_95_83 {S : Scr} {d : Nat} {a0 a1 a2 a3 : AV} {st : List AV} {sh : Shp} {I : IM} {R : RM} : ev S d 95 83 [a0, a1, a2, a3] st (sh, I, R) = ev S d 95 84 [a0, a1, a2, a3] (.inl 4 :: st) (sh, I, R) := (ev_eq f_95_83).trans rfl
theorem f_95_84 : fetch 95 84 = some (84, .if_icmp .ne 10, 3, [94], 0) := (fm_95 84).trans rfl
theorem u_95_84 {S : Scr} {d : Nat} {a0 a1 a2 a3 : AV} {st : List AV} {sh : Shp} {I : IM} {R : RM} {x y : Int} : ev S d 95 84 [a0, a1, a2, a3] (.inl y :: .inl x :: st) (sh, I, R) = if ¬ x = y then ev S d 95 94 [a0, a1, a2, a3] st (sh, I, R) else ev S d 95 87 [a0, a1, a2, a3] st (sh, I, R) := (ev_eq f_95_84).trans fin_icmp_ne
theorem f_95_87 : fetch 95 87 = some (87, .aload_n 3, 1, [3], 0) := (fm_95 87).trans rfl
theorem u_95_87 {S : Scr} {d : Nat} {a0 a1 a2 : AV} {st : List AV} {sh : Shp} {I : IM} {R : RM} {x : Nat} : ev S d 95 87 [a0, a1, a2, .inr (.inl x)] st (sh, I, R) = ev S d 95 88 [a0, a1, a2, .inr (.inl x)] (.inr (.inl x) :: st) (sh, I, R) := (ev_eq f_95_87).trans rfl
theorem u_95_87n {S : Scr} {d : Nat} {a0 a1 a2 : AV} {st : List AV} {sh : Shp} {I : IM} {R : RM} : ev S d 95 87 [a0, a1, a2, .inr (.inr 0)] st (sh, I, R) = ev S d 95 88 [a0, a1, a2, .inr (.inr 0)] (.inr (.inr 0) :: st) (sh, I, R) := (ev_eq f_95_87).trans rfl
theorem f_95_88 : fetch 95 88 = some (88, .getfield 149, 3, [3, 3, 0, 69], 0) := (fm_95 88).trans rfl
theorem u_95_88 {S : Scr} {d : Nat} {a0 a1 a2 a3 : AV} {st : List AV} {sh : Shp} {I : IM} {R : RM} {k : Nat} (h : tg sh k = 3) : ev S d 95 88 [a0, a1, a2, a3] (.inr (.inl k) :: st) (sh, I, R) = ev S d 95 91 [a0, a1, a2, a3] (.inl (I k 3) :: st) (sh, I, R) := (ev_eq f_95_88).trans (congrArg (fin S d 95) (if_pos h))
theorem f_95_91 : fetch 95 91 = some (91, .goto 5, 3, [96], 0) := (fm_95 91).trans rfl
theorem u_95_91 {S : Scr} {d : Nat} {a0 a1 a2 a3 : AV} {st : List AV} {sh : Shp} {I : IM} {R : RM} : ev S d 95 91 [a0, a1, a2, a3] st (sh, I, R) = ev S d 95 96 [a0, a1, a2, a3] st (sh, I, R) := (ev_eq f_95_91).trans rfl
theorem f_95_94 : fetch 95 94 = some (94, .bipush (-2), 2, [], (-2)) := (fm_95 94).trans rfl
theorem u_95_94 {S : Scr} {d : Nat} {a0 a1 a2 a3 : AV} {st : List AV} {sh : Shp} {I : IM} {R : RM} : ev S d 95 94 [a0, a1, a2, a3] st (sh, I, R) = ev S d 95 96 [a0, a1, a2, a3] (.inl (-2) :: st) (sh, I, R) := (ev_eq f_95_94).trans rfl
theorem f_95_96 : fetch 95 96 = some (96, .ireturn, 1, [0], 0) := (fm_95 96).trans rfl
theorem u_95_96 {S : Scr} {d : Nat} {a0 a1 a2 a3 : AV} {sh : Shp} {I : IM} {R : RM} {x : Int} : ev S d 95 96 [a0, a1, a2, a3] [.inl x] (sh, I, R) = some (some (.inl x), (sh, I, R)) := (ev_eq f_95_96).trans fin_iret0
theorem f_95_97 : fetch 95 97 = some (97, .iconst (-1), 1, [], (-1)) := (fm_95 97).trans rfl
theorem u_95_97 {S : Scr} {d : Nat} {a0 a1 a2 a3 : AV} {st : List AV} {sh : Shp} {I : IM} {R : RM} : ev S d 95 97 [a0, a1, a2, a3] st (sh, I, R) = ev S d 95 98 [a0, a1, a2, a3] (.inl (-1) :: st) (sh, I, R) := (ev_eq f_95_97).trans rfl
theorem f_95_98 : fetch 95 98 = some (98, .ireturn, 1, [0], 0) := (fm_95 98).trans rfl
theorem u_95_98 {S : Scr} {d : Nat} {a0 a1 a2 a3 : AV} {sh : Shp} {I : IM} {R : RM} {x : Int} : ev S d 95 98 [a0, a1, a2, a3] [.inl x] (sh, I, R) = some (some (.inl x), (sh, I, R)) := (ev_eq f_95_98).trans fin_iret0
theorem c_96 {d : Nat} {a0 a1 a2 : AV} {M : Mem} : cl (d + 1) 96 [a0, a1, a2] M = ev S0 d 96 0 [a0, a1, a2, .inr (.inr 1)] [] M := (cl_eq (as := [a0, a1, a2]) (show 3 ≤ maxOf 96 by decide +kernel)).trans rfl
theorem mt_96 : MT[96]? = some m_96 := rfl
theorem fm_96 (pc : Nat) : fetch 96 pc = lk m_96.2.2.2.2.2 pc := by
  unfold fetch
  rw [mt_96]
theorem f_96_0 : fetch 96 0 = some (0, .aload_n 0, 1, [0], 0) := (fm_96 0).trans rfl
theorem u_96_0 {S : Scr} {d : Nat} {a1 a2 a3 : AV} {st : List AV} {sh : Shp} {I : IM} {R : RM} {x : Nat} : ev S d 96 0 [.inr (.inl x), a1, a2, a3] st (sh, I, R) = ev S d 96 1 [.inr (.inl x), a1, a2, a3] (.inr (.inl x) :: st) (sh, I, R) := (ev_eq f_96_0).trans rfl
theorem f_96_1 : fetch 96 1 = some (1, .getfield 10, 3, [8, 0, 1, 55], 0) := (fm_96 1).trans rfl
theorem u_96_1 {S : Scr} {d : Nat} {a0 a1 a2 a3 : AV} {st : List AV} {sh : Shp} {I : IM} {R : RM} {k : Nat} (h : tg sh k = 8) : ev S d 96 1 [a0, a1, a2, a3] (.inr (.inl k) :: st) (sh, I, R) = ev S d 96 4 [a0, a1, a2, a3] (rv (R k 0) :: st) (sh, I, R) := (ev_eq f_96_1).trans (congrArg (fin S d 96) (if_pos h))
theorem f_96_4 : fetch 96 4 = some (4, .iload_n 1, 1, [1], 0) := (fm_96 4).trans rfl
theorem u_96_4 {S : Scr} {d : Nat} {a0 a2 a3 : AV} {st : List AV} {sh : Shp} {I : IM} {R : RM} {x : Int} : ev S d 96 4 [a0, .inl x, a2, a3] st (sh, I, R) = ev S d 96 5 [a0, .inl x, a2, a3] (.inl x :: st) (sh, I, R) := (ev_eq f_96_4).trans rfl
theorem f_96_5 : fetch 96 5 = some (5, .invokevirtual 102, 3, [68, 1, 88], 0) := (fm_96 5).trans rfl
theorem u_96_5 {S : Scr} {d : Nat} {a0 a1 a2 a3 : AV} {st : List AV} {sh : Shp} {I : IM} {R : RM} {x0 : Int} {k : Nat} (h : tg sh k = 7) (hr : st.length ≤ 8) : ev S d 96 5 [a0, a1, a2, a3] (.inl x0 :: .inr (.inl k) :: st) (sh, I, R) = bnd (cl d 68 [.inr (.inl k), .inl x0] (sh, I, R)) (fun v M => ev S d 96 8 [a0, a1, a2, a3] (psh v st) M) := (ev_eq f_96_5).trans (congrArg (fin S d 96) (if_pos ⟨h, rfl, hr⟩))
theorem f_96_8 : fetch 96 8 = some (8, .astore_n 3, 1, [3], 0) := (fm_96 8).trans rfl
theorem u_96_8 {S : Scr} {d : Nat} {a0 a1 a2 a3 : AV} {st : List AV} {sh : Shp} {I : IM} {R : RM} {x : Nat} : ev S d 96 8 [a0, a1, a2, a3] (.inr (.inl x) :: st) (sh, I, R) = ev S d 96 9 [a0, a1, a2, .inr (.inl x)] st (sh, I, R) := (ev_eq f_96_8).trans rfl
theorem u_96_8n {S : Scr} {d : Nat} {a0 a1 a2 a3 : AV} {st : List AV} {sh : Shp} {I : IM} {R : RM} : ev S d 96 8 [a0, a1, a2, a3] (.inr (.inr 0) :: st) (sh, I, R) = ev S d 96 9 [a0, a1, a2, .inr (.inr 0)] st (sh, I, R) := (ev_eq f_96_8).trans rfl
theorem f_96_9 : fetch 96 9 = some (9, .aload_n 3, 1, [3], 0) := (fm_96 9).trans rfl
theorem u_96_9 {S : Scr} {d : Nat} {a0 a1 a2 : AV} {st : List AV} {sh : Shp} {I : IM} {R : RM} {x : Nat} : ev S d 96 9 [a0, a1, a2, .inr (.inl x)] st (sh, I, R) = ev S d 96 10 [a0, a1, a2, .inr (.inl x)] (.inr (.inl x) :: st) (sh, I, R) := (ev_eq f_96_9).trans rfl
theorem u_96_9n {S : Scr} {d : Nat} {a0 a1 a2 : AV} {st : List AV} {sh : Shp} {I : IM} {R : RM} : ev S d 96 9 [a0, a1, a2, .inr (.inr 0)] st (sh, I, R) = ev S d 96 10 [a0, a1, a2, .inr (.inr 0)] (.inr (.inr 0) :: st) (sh, I, R) := (ev_eq f_96_9).trans rfl
theorem f_96_10 : fetch 96 10 = some (10, .ifnull 7, 3, [17], 0) := (fm_96 10).trans rfl
theorem u_96_10 {S : Scr} {d : Nat} {a0 a1 a2 a3 : AV} {st : List AV} {sh : Shp} {I : IM} {R : RM} {x : Nat} : ev S d 96 10 [a0, a1, a2, a3] (.inr (.inl x) :: st) (sh, I, R) = ev S d 96 13 [a0, a1, a2, a3] st (sh, I, R) := (ev_eq f_96_10).trans rfl
theorem u_96_10n {S : Scr} {d : Nat} {a0 a1 a2 a3 : AV} {st : List AV} {sh : Shp} {I : IM} {R : RM} : ev S d 96 10 [a0, a1, a2, a3] (.inr (.inr 0) :: st) (sh, I, R) = ev S d 96 17 [a0, a1, a2, a3] st (sh, I, R) := (ev_eq f_96_10).trans rfl
theorem f_96_13 : fetch 96 13 = some (13, .iload_n 2, 1, [2], 0) := (fm_96 13).trans rfl
theorem u_96_13 {S : Scr} {d : Nat} {a0 a1 a3 : AV} {st : List AV} {sh : Shp} {I : IM} {R : RM} {x : Int} : ev S d 96 13 [a0, a1, .inl x, a3] st (sh, I, R) = ev S d 96 14 [a0, a1, .inl x, a3] (.inl x :: st) (sh, I, R) := (ev_eq f_96_13).trans rfl
theorem f_96_14 : fetch 96 14 = some (14, .ifCond .ge 5, 3, [19], 0) := (fm_96 14).trans rfl
theorem u_96_14 {S : Scr} {d : Nat} {a0 a1 a2 a3 : AV} {st : List AV} {sh : Shp} {I : IM} {R : RM} {x : Int} : ev S d 96 14 [a0, a1, a2, a3] (.inl x :: st) (sh, I, R) = if 0 ≤ x then ev S d 96 19 [a0, a1, a2, a3] st (sh, I, R) else ev S d 96 17 [a0, a1, a2, a3] st (sh, I, R) := (ev_eq f_96_14).trans fin_if_ge
theorem f_96_17 : fetch 96 17 = some (17, .iconst (-1), 1, [], (-1)) := (fm_96 17).trans rfl
theorem u_96_17 {S : Scr} {d : Nat} {a0 a1 a2 a3 : AV} {st : List AV} {sh : Shp} {I : IM} {R : RM} : ev S d 96 17 [a0, a1, a2, a3] st (sh, I, R) = ev S d 96 18 [a0, a1, a2, a3] (.inl (-1) :: st) (sh, I, R) := (ev_eq f_96_17).trans rfl
theorem f_96_18 : fetch 96 18 = some (18, .ireturn, 1, [0], 0) := (fm_96 18).trans rfl
theorem u_96_18 {S : Scr} {d : Nat} {a0 a1 a2 a3 : AV} {sh : Shp} {I : IM} {R : RM} {x : Int} : ev S d 96 18 [a0, a1, a2, a3] [.inl x] (sh, I, R) = some (some (.inl x), (sh, I, R)) := (ev_eq f_96_18).trans fin_iret0
theorem f_96_19 : fetch 96 19 = some (19, .aload_n 3, 1, [3], 0) := (fm_96 19).trans rfl
theorem u_96_19 {S : Scr} {d : Nat} {a0 a1 a2 : AV} {st : List AV} {sh : Shp} {I : IM} {R : RM} {x : Nat} : ev S d 96 19 [a0, a1, a2, .inr (.inl x)] st (sh, I, R) = ev S d 96 20 [a0, a1, a2, .inr (.inl x)] (.inr (.inl x) :: st) (sh, I, R) := (ev_eq f_96_19).trans rfl
theorem u_96_19n {S : Scr} {d : Nat} {a0 a1 a2 : AV} {st : List AV} {sh : Shp} {I : IM} {R : RM} : ev S d 96 19 [a0, a1, a2, .inr (.inr 0)] st (sh, I, R) = ev S d 96 20 [a0, a1, a2, .inr (.inr 0)] (.inr (.inr 0) :: st) (sh, I, R) := (ev_eq f_96_19).trans rfl
theorem f_96_20 : fetch 96 20 = some (20, .getfield 110, 3, [3, 2, 0, 65], 0) := (fm_96 20).trans rfl
theorem u_96_20 {S : Scr} {d : Nat} {a0 a1 a2 a3 : AV} {st : List AV} {sh : Shp} {I : IM} {R : RM} {k : Nat} (h : tg sh k = 3) : ev S d 96 20 [a0, a1, a2, a3] (.inr (.inl k) :: st) (sh, I, R) = ev S d 96 23 [a0, a1, a2, a3] (.inl (I k 2) :: st) (sh, I, R) := (ev_eq f_96_20).trans (congrArg (fin S d 96) (if_pos h))
theorem f_96_23 : fetch 96 23 = some (23, .iconst 4, 1, [], 4) := (fm_96 23).trans rfl
theorem u_96_23 {S : Scr} {d : Nat} {a0 a1 a2 a3 : AV} {st : List AV} {sh : Shp} {I : IM} {R : RM} : ev S d 96 23 [a0, a1, a2, a3] st (sh, I, R) = ev S d 96 24 [a0, a1, a2, a3] (.inl 4 :: st) (sh, I, R) := (ev_eq f_96_23).trans rfl
theorem f_96_24 : fetch 96 24 = some (24, .if_icmp .ne 6, 3, [30], 0) := (fm_96 24).trans rfl
theorem u_96_24 {S : Scr} {d : Nat} {a0 a1 a2 a3 : AV} {st : List AV} {sh : Shp} {I : IM} {R : RM} {x y : Int} : ev S d 96 24 [a0, a1, a2, a3] (.inl y :: .inl x :: st) (sh, I, R) = if ¬ x = y then ev S d 96 30 [a0, a1, a2, a3] st (sh, I, R) else ev S d 96 27 [a0, a1, a2, a3] st (sh, I, R) := (ev_eq f_96_24).trans fin_icmp_ne
theorem f_96_27 : fetch 96 27 = some (27, .bipush (-12), 2, [], (-12)) := (fm_96 27).trans rfl
theorem u_96_27 {S : Scr} {d : Nat} {a0 a1 a2 a3 : AV} {st : List AV} {sh : Shp} {I : IM} {R : RM} : ev S d 96 27 [a0, a1, a2, a3] st (sh, I, R) = ev S d 96 29 [a0, a1, a2, a3] (.inl (-12) :: st) (sh, I, R) := (ev_eq f_96_27).trans rfl
theorem f_96_29 : fetch 96 29 = some (29, .ireturn, 1, [0], 0) := (fm_96 29).trans rfl
theorem u_96_29 {S : Scr} {d : Nat} {a0 a1 a2 a3 : AV} {sh : Shp} {I : IM} {R : RM} {x : Int} : ev S d 96 29 [a0, a1, a2, a3] [.inl x] (sh, I, R) = some (some (.inl x), (sh, I, R)) := (ev_eq f_96_29).trans fin_iret0
theorem f_96_30 : fetch 96 30 = some (30, .iload_n 2, 1, [2], 0) := (fm_96 30).trans rfl
theorem u_96_30 {S : Scr} {d : Nat} {a0 a1 a3 : AV} {st : List AV} {sh : Shp} {I : IM} {R : RM} {x : Int} : ev S d 96 30 [a0, a1, .inl x, a3] st (sh, I, R) = ev S d 96 31 [a0, a1, .inl x, a3] (.inl x :: st) (sh, I, R) := (ev_eq f_96_30).trans rfl
theorem f_96_31 : fetch 96 31 = some (31, .aload_n 3, 1, [3], 0) := (fm_96 31).trans rfl
theorem u_96_31 {S : Scr} {d : Nat} {a0 a1 a2 : AV} {st : List AV} {sh : Shp} {I : IM} {R : RM} {x : Nat} : ev S d 96 31 [a0, a1, a2, .inr (.inl x)] st (sh, I, R) = ev S d 96 32 [a0, a1, a2, .inr (.inl x)] (.inr (.inl x) :: st) (sh, I, R) := (ev_eq f_96_31).trans rfl
theorem u_96_31n {S : Scr} {d : Nat} {a0 a1 a2 : AV} {st : List AV} {sh : Shp} {I : IM} {R : RM} : ev S d 96 31 [a0, a1, a2, .inr (.inr 0)] st (sh, I, R) = ev S d 96 32 [a0, a1, a2, .inr (.inr 0)] (.inr (.inr 0) :: st) (sh, I, R) := (ev_eq f_96_31).trans rfl
theorem f_96_32 : fetch 96 32 = some (32, .getfield 115, 3, [3, 0, 1, 66], 0) := (fm_96 32).trans rfl
theorem u_96_32 {S : Scr} {d : Nat} {a0 a1 a2 a3 : AV} {st : List AV} {sh : Shp} {I : IM} {R : RM} {k : Nat} (h : tg sh k = 3) : ev S d 96 32 [a0, a1, a2, a3] (.inr (.inl k) :: st) (sh, I, R) = ev S d 96 35 [a0, a1, a2, a3] (rv (R k 0) :: st) (sh, I, R) := (ev_eq f_96_32).trans (congrArg (fin S d 96) (if_pos h))
theorem f_96_35 : fetch 96 35 = some (35, .getfield 76, 3, [1, 3, 0, 63], 0) := (fm_96 35).trans rfl
theorem u_96_35 {S : Scr} {d : Nat} {a0 a1 a2 a3 : AV} {st : List AV} {sh : Shp} {I : IM} {R : RM} {k : Nat} (h : tg sh k = 1) : ev S d 96 35 [a0, a1, a2, a3] (.inr (.inl k) :: st) (sh, I, R) = ev S d 96 38 [a0, a1, a2, a3] (.inl (I k 3) :: st) (sh, I, R) := (ev_eq f_96_35).trans (congrArg (fin S d 96) (if_pos h))
theorem f_96_38 : fetch 96 38 = some (38, .if_icmp .ge 15, 3, [53], 0) := (fm_96 38).trans rfl
theorem u_96_38 {S : Scr} {d : Nat} {a0 a1 a2 a3 : AV} {st : List AV} {sh : Shp} {I : IM} {R : RM} {x y : Int} : ev S d 96 38 [a0, a1, a2, a3] (.inl y :: .inl x :: st) (sh, I, R) = if y ≤ x then ev S d 96 53 [a0, a1, a2, a3] st (sh, I, R) else ev S d 96 41 [a0, a1, a2, a3] st (sh, I, R) := (ev_eq f_96_38).trans fin_icmp_ge
theorem f_96_41 : fetch 96 41 = some (41, .aload_n 3, 1, [3], 0) := (fm_96 41).trans rfl
theorem u_96_41 {S : Scr} {d : Nat} {a0 a1 a2 : AV} {st : List AV} {sh : Shp} {I : IM} {R : RM} {x : Nat} : ev S d 96 41 [a0, a1, a2, .inr (.inl x)] st (sh, I, R) = ev S d 96 42 [a0, a1, a2, .inr (.inl x)] (.inr (.inl x) :: st) (sh, I, R) := (ev_eq f_96_41).trans rfl
theorem u_96_41n {S : Scr} {d : Nat} {a0 a1 a2 : AV} {st : List AV} {sh : Shp} {I : IM} {R : RM} : ev S d 96 41 [a0, a1, a2, .inr (.inr 0)] st (sh, I, R) = ev S d 96 42 [a0, a1, a2, .inr (.inr 0)] (.inr (.inr 0) :: st) (sh, I, R) := (ev_eq f_96_41).trans rfl
theorem f_96_42 : fetch 96 42 = some (42, .getfield 115, 3, [3, 0, 1, 66], 0) := (fm_96 42).trans rfl
theorem u_96_42 {S : Scr} {d : Nat} {a0 a1 a2 a3 : AV} {st : List AV} {sh : Shp} {I : IM} {R : RM} {k : Nat} (h : tg sh k = 3) : ev S d 96 42 [a0, a1, a2, a3] (.inr (.inl k) :: st) (sh, I, R) = ev S d 96 45 [a0, a1, a2, a3] (rv (R k 0) :: st) (sh, I, R) := (ev_eq f_96_42).trans (congrArg (fin S d 96) (if_pos h))
theorem f_96_45 : fetch 96 45 = some (45, .getfield 152, 3, [1, 1, 1, 70], 0) := (fm_96 45).trans rfl
theorem u_96_45 {S : Scr} {d : Nat} {a0 a1 a2 a3 : AV} {st : List AV} {sh : Shp} {I : IM} {R : RM} {k : Nat} (h : tg sh k = 1) : ev S d 96 45 [a0, a1, a2, a3] (.inr (.inl k) :: st) (sh, I, R) = ev S d 96 48 [a0, a1, a2, a3] (rv (R k 1) :: st) (sh, I, R) := (ev_eq f_96_45).trans (congrArg (fin S d 96) (if_pos h))
theorem f_96_48 : fetch 96 48 = some (48, .iload_n 2, 1, [2], 0) := (fm_96 48).trans rfl
theorem u_96_48 {S : Scr} {d : Nat} {a0 a1 a3 : AV} {st : List AV} {sh : Shp} {I : IM} {R : RM} {x : Int} : ev S d 96 48 [a0, a1, .inl x, a3] st (sh, I, R) = ev S d 96 49 [a0, a1, .inl x, a3] (.inl x :: st) (sh, I, R) := (ev_eq f_96_48).trans rfl
theorem f_96_49 : fetch 96 49 = some (49, .iaload, 1, [], 0) := (fm_96 49).trans rfl
theorem u_96_49 {S : Scr} {d : Nat} {a0 a1 a2 a3 : AV} {st : List AV} {sh : Shp} {I : IM} {R : RM} {k : Nat} {i : Int} (h : tg sh k = 100) (h0 : 0 ≤ i) (h1 : i < ln sh k) : ev S d 96 49 [a0, a1, a2, a3] (.inl i :: .inr (.inl k) :: st) (sh, I, R) = ev S d 96 50 [a0, a1, a2, a3] (.inl (I k i) :: st) (sh, I, R) := (ev_eq f_96_49).trans (congrArg (fin S d 96) (if_pos ⟨h, h0, h1⟩))
theorem f_96_50 : fetch 96 50 = some (50, .goto 5, 3, [55], 0) := (fm_96 50).trans rfl
theorem u_96_50 {S : Scr} {d : Nat} {a0 a1 a2 a3 : AV} {st : List AV} {sh : Shp} {I : IM} {R : RM} : ev S d 96 50 [a0, a1, a2, a3] st (sh, I, R) = ev S d 96 55 [a0, a1, a2, a3] st (sh, I, R) := (ev_eq f_96_50).trans rfl
theorem f_96_53 : fetch 96 53 = some (53, .bipush (-2), 2, [], (-2)) := (fm_96 53).trans rfl
theorem u_96_53 {S : Scr} {d : Nat} {a0 a1 a2 a3 : AV} {st : List AV} {sh : Shp} {I : IM} {R : RM} : ev S d 96 53 [a0, a1, a2, a3] st (sh, I, R) = ev S d 96 55 [a0, a1, a2, a3] (.inl (-2) :: st) (sh, I, R) := (ev_eq f_96_53).trans rfl
theorem f_96_55 : fetch 96 55 = some (55, .ireturn, 1, [0], 0) := (fm_96 55).trans rfl
theorem u_96_55 {S : Scr} {d : Nat} {a0 a1 a2 a3 : AV} {sh : Shp} {I : IM} {R : RM} {x : Int} : ev S d 96 55 [a0, a1, a2, a3] [.inl x] (sh, I, R) = some (some (.inl x), (sh, I, R)) := (ev_eq f_96_55).trans fin_iret0
theorem c_97 {d : Nat} {a0 a1 : AV} {M : Mem} : cl (d + 1) 97 [a0, a1] M = ev S0 d 97 0 [a0, a1, .inr (.inr 1)] [] M := (cl_eq (as := [a0, a1]) (show 2 ≤ maxOf 97 by decide +kernel)).trans rfl
theorem mt_97 : MT[97]? = some m_97 := rfl
theorem fm_97 (pc : Nat) : fetch 97 pc = lk m_97.2.2.2.2.2 pc := by
  unfold fetch
  rw [mt_97]
theorem f_97_0 : fetch 97 0 = some (0, .aload_n 0, 1, [0], 0) := (fm_97 0).trans rfl
theorem u_97_0 {S : Scr} {d : Nat} {a1 a2 : AV} {st : List AV} {sh : Shp} {I : IM} {R : RM} {x : Nat} : ev S d 97 0 [.inr (.inl x), a1, a2] st (sh, I, R) = ev S d 97 1 [.inr (.inl x), a1, a2] (.inr (.inl x) :: st) (sh, I, R) := (ev_eq f_97_0).trans rfl
theorem f_97_1 : fetch 97 1 = some (1, .getfield 10, 3, [8, 0, 1, 55], 0) := (fm_97 1).trans rfl
theorem u_97_1 {S : Scr} {d : Nat} {a0 a1 a2 : AV} {st : List AV} {sh : Shp} {I : IM} {R : RM} {k : Nat} (h : tg sh k = 8) : ev S d 97 1 [a0, a1, a2] (.inr (.inl k) :: st) (sh, I, R) = ev S d 97 4 [a0, a1, a2] (rv (R k 0) :: st) (sh, I, R) := (ev_eq f_97_1).trans (congrArg (fin S d 97) (if_pos h))
theorem f_97_4 : fetch 97 4 = some (4, .iload_n 1, 1, [1], 0) := (fm_97 4).trans rfl
theorem u_97_4 {S : Scr} {d : Nat} {a0 a2 : AV} {st : List AV} {sh : Shp} {I : IM} {R : RM} {x : Int} : ev S d 97 4 [a0, .inl x, a2] st (sh, I, R) = ev S d 97 5 [a0, .inl x, a2] (.inl x :: st) (sh, I, R) := (ev_eq f_97_4).trans rfl
theorem f_97_5 : fetch 97 5 = some (5, .invokevirtual 102, 3, [68, 1, 88], 0) := (fm_97 5).trans rfl
theorem u_97_5 {S : Scr} {d : Nat} {a0 a1 a2 : AV} {st : List AV} {sh : Shp} {I : IM} {R : RM} {x0 : Int} {k : Nat} (h : tg sh k = 7) (hr : st.length ≤ 8) : ev S d 97 5 [a0, a1, a2] (.inl x0 :: .inr (.inl k) :: st) (sh, I, R) = bnd (cl d 68 [.inr (.inl k), .inl x0] (sh, I, R)) (fun v M => ev S d 97 8 [a0, a1, a2] (psh v st) M) := (ev_eq f_97_5).trans (congrArg (fin S d 97) (if_pos ⟨h, rfl, hr⟩))
theorem f_97_8 : fetch 97 8 = some (8, .astore_n 2, 1, [2], 0) := (fm_97 8).trans rfl
theorem u_97_8 {S : Scr} {d : Nat} {a0 a1 a2 : AV} {st : List AV} {sh : Shp} {I : IM} {R : RM} {x : Nat} : ev S d 97 8 [a0, a1, a2] (.inr (.inl x) :: st) (sh, I, R) = ev S d 97 9 [a0, a1, .inr (.inl x)] st (sh, I, R) := (ev_eq f_97_8).trans rfl
theorem u_97_8n {S : Scr} {d : Nat} {a0 a1 a2 : AV} {st : List AV} {sh : Shp} {I : IM} {R : RM} : ev S d 97 8 [a0, a1, a2] (.inr (.inr 0) :: st) (sh, I, R) = ev S d 97 9 [a0, a1, .inr (.inr 0)] st (sh, I, R) := (ev_eq f_97_8).trans rfl
theorem f_97_9 : fetch 97 9 = some (9, .aload_n 2, 1, [2], 0) := (fm_97 9).trans rfl
theorem u_97_9 {S : Scr} {d : Nat} {a0 a1 : AV} {st : List AV} {sh : Shp} {I : IM} {R : RM} {x : Nat} : ev S d 97 9 [a0, a1, .inr (.inl x)] st (sh, I, R) = ev S d 97 10 [a0, a1, .inr (.inl x)] (.inr (.inl x) :: st) (sh, I, R) := (ev_eq f_97_9).trans rfl
theorem u_97_9n {S : Scr} {d : Nat} {a0 a1 : AV} {st : List AV} {sh : Shp} {I : IM} {R : RM} : ev S d 97 9 [a0, a1, .inr (.inr 0)] st (sh, I, R) = ev S d 97 10 [a0, a1, .inr (.inr 0)] (.inr (.inr 0) :: st) (sh, I, R) := (ev_eq f_97_9).trans rfl
theorem f_97_10 : fetch 97 10 = some (10, .ifnonnull 5, 3, [15], 0) := (fm_97 10).trans rfl
theorem u_97_10 {S : Scr} {d : Nat} {a0 a1 a2 : AV} {st : List AV} {sh : Shp} {I : IM} {R : RM} {x : Nat} : ev S d 97 10 [a0, a1, a2] (.inr (.inl x) :: st) (sh, I, R) = ev S d 97 15 [a0, a1, a2] st (sh, I, R) := (ev_eq f_97_10).trans rfl
theorem u_97_10n {S : Scr} {d : Nat} {a0 a1 a2 : AV} {st : List AV} {sh : Shp} {I : IM} {R : RM} : ev S d 97 10 [a0, a1, a2] (.inr (.inr 0) :: st) (sh, I, R) = ev S d 97 13 [a0, a1, a2] st (sh, I, R) := (ev_eq f_97_10).trans rfl
theorem f_97_13 : fetch 97 13 = some (13, .iconst (-1), 1, [], (-1)) := (fm_97 13).trans rfl
theorem u_97_13 {S : Scr} {d : Nat} {a0 a1 a2 : AV} {st : List AV} {sh : Shp} {I : IM} {R : RM} : ev S d 97 13 [a0, a1, a2] st (sh, I, R) = ev S d 97 14 [a0, a1, a2] (.inl (-1) :: st) (sh, I, R) := (ev_eq f_97_13).trans rfl
theorem f_97_14 : fetch 97 14 = some (14, .ireturn, 1, [0], 0) := (fm_97 14).trans rfl
theorem u_97_14 {S : Scr} {d : Nat} {a0 a1 a2 : AV} {sh : Shp} {I : IM} {R : RM} {x : Int} : ev S d 97 14 [a0, a1, a2] [.inl x] (sh, I, R) = some (some (.inl x), (sh, I, R)) := (ev_eq f_97_14).trans fin_iret0
theorem f_97_15 : fetch 97 15 = some (15, .aload_n 2, 1, [2], 0) := (fm_97 15).trans rfl
theorem u_97_15 {S : Scr} {d : Nat} {a0 a1 : AV} {st : List AV} {sh : Shp} {I : IM} {R : RM} {x : Nat} : ev S d 97 15 [a0, a1, .inr (.inl x)] st (sh, I, R) = ev S d 97 16 [a0, a1, .inr (.inl x)] (.inr (.inl x) :: st) (sh, I, R) := (ev_eq f_97_15).trans rfl
theorem u_97_15n {S : Scr} {d : Nat} {a0 a1 : AV} {st : List AV} {sh : Shp} {I : IM} {R : RM} : ev S d 97 15 [a0, a1, .inr (.inr 0)] st (sh, I, R) = ev S d 97 16 [a0, a1, .inr (.inr 0)] (.inr (.inr 0) :: st) (sh, I, R) := (ev_eq f_97_15).trans rfl
theorem f_97_16 : fetch 97 16 = some (16, .getfield 110, 3, [3, 2, 0, 65], 0) := (fm_97 16).trans rfl
theorem u_97_16 {S : Scr} {d : Nat} {a0 a1 a2 : AV} {st : List AV} {sh : Shp} {I : IM} {R : RM} {k : Nat} (h : tg sh k = 3) : ev S d 97 16 [a0, a1, a2] (.inr (.inl k) :: st) (sh, I, R) = ev S d 97 19 [a0, a1, a2] (.inl (I k 2) :: st) (sh, I, R) := (ev_eq f_97_16).trans (congrArg (fin S d 97) (if_pos h))
theorem f_97_19 : fetch 97 19 = some (19, .iconst 4, 1, [], 4) := (fm_97 19).trans rfl
theorem u_97_19 {S : Scr} {d : Nat} {a0 a1 a2 : AV} {st : List AV} {sh : Shp} {I : IM} {R : RM} : ev S d 97 19 [a0, a1, a2] st (sh, I, R) = ev S d 97 20 [a0, a1, a2] (.inl 4 :: st) (sh, I, R) := (ev_eq f_97_19).trans rfl
theorem f_97_20 : fetch 97 20 = some (20, .if_icmp .eq 6, 3, [26], 0) := (fm_97 20).trans rfl
theorem u_97_20 {S : Scr} {d : Nat} {a0 a1 a2 : AV} {st : List AV} {sh : Shp} {I : IM} {R : RM} {x y : Int} : ev S d 97 20 [a0, a1, a2] (.inl y :: .inl x :: st) (sh, I, R) = if x = y then ev S d 97 26 [a0, a1, a2] st (sh, I, R) else ev S d 97 23 [a0, a1, a2] st (sh, I, R) := (ev_eq f_97_20).trans fin_icmp_eq
theorem f_97_23 : fetch 97 23 = some (23, .bipush (-12), 2, [], (-12)) := (fm_97 23).trans rfl
theorem u_97_23 {S : Scr} {d : Nat} {a0 a1 a2 : AV} {st : List AV} {sh : Shp} {I : IM} {R : RM} : ev S d 97 23 [a0, a1, a2] st (sh, I, R) = ev S d 97 25 [a0, a1, a2] (.inl (-12) :: st) (sh, I, R) := (ev_eq f_97_23).trans rfl
theorem f_97_25 : fetch 97 25 = some (25, .ireturn, 1, [0], 0) := (fm_97 25).trans rfl
theorem u_97_25 {S : Scr} {d : Nat} {a0 a1 a2 : AV} {sh : Shp} {I : IM} {R : RM} {x : Int} : ev S d 97 25 [a0, a1, a2] [.inl x] (sh, I, R) = some (some (.inl x), (sh, I, R)) := (ev_eq f_97_25).trans fin_iret0
theorem f_97_26 : fetch 97 26 = some (26, .aload_n 0, 1, [0], 0) := (fm_97 26).trans rfl
theorem u_97_26 {S : Scr} {d : Nat} {a1 a2 : AV} {st : List AV} {sh : Shp} {I : IM} {R : RM} {x : Nat} : ev S d 97 26 [.inr (.inl x), a1, a2] st (sh, I, R) = ev S d 97 27 [.inr (.inl x), a1, a2] (.inr (.inl x) :: st) (sh, I, R) := (ev_eq f_97_26).trans rfl
theorem f_97_27 : fetch 97 27 = some (27, .getfield 10, 3, [8, 0, 1, 55], 0) := (fm_97 27).trans rfl
theorem u_97_27 {S : Scr} {d : Nat} {a0 a1 a2 : AV} {st : List AV} {sh : Shp} {I : IM} {R : RM} {k : Nat} (h : tg sh k = 8) : ev S d 97 27 [a0, a1, a2] (.inr (.inl k) :: st) (sh, I, R) = ev S d 97 30 [a0, a1, a2] (rv (R k 0) :: st) (sh, I, R) := (ev_eq f_97_27).trans (congrArg (fin S d 97) (if_pos h))
theorem f_97_30 : fetch 97 30 = some (30, .invokevirtual 91, 3, [72, 0, 85], 0) := (fm_97 30).trans rfl
theorem u_97_30 {S : Scr} {d : Nat} {a0 a1 a2 : AV} {st : List AV} {sh : Shp} {I : IM} {R : RM} {k : Nat} (h : tg sh k = 7) (hr : st.length ≤ 8) : ev S d 97 30 [a0, a1, a2] (.inr (.inl k) :: st) (sh, I, R) = bnd (cl d 72 [.inr (.inl k)] (sh, I, R)) (fun v M => ev S d 97 33 [a0, a1, a2] (psh v st) M) := (ev_eq f_97_30).trans (congrArg (fin S d 97) (if_pos ⟨h, rfl, hr⟩))
theorem f_97_33 : fetch 97 33 = some (33, .ifCond .eq 8, 3, [41], 0) := (fm_97 33).trans rfl
theorem u_97_33 {S : Scr} {d : Nat} {a0 a1 a2 : AV} {st : List AV} {sh : Shp} {I : IM} {R : RM} {x : Int} : ev S d 97 33 [a0, a1, a2] (.inl x :: st) (sh, I, R) = if x = 0 then ev S d 97 41 [a0, a1, a2] st (sh, I, R) else ev S d 97 36 [a0, a1, a2] st (sh, I, R) := (ev_eq f_97_33).trans fin_if_eq
theorem f_97_36 : fetch 97 36 = some (36, .bipush (-3), 2, [], (-3)) := (fm_97 36).trans rfl
theorem u_97_36 {S : Scr} {d : Nat} {a0 a1 a2 : AV} {st : List AV} {sh : Shp} {I : IM} {R : RM} : ev S d 97 36 [a0, a1, a2] st (sh, I, R) = ev S d 97 38 [a0, a1, a2] (.inl (-3) :: st) (sh, I, R) := (ev_eq f_97_36).trans rfl
theorem f_97_38 : fetch 97 38 = some (38, .goto 11, 3, [49], 0) := (fm_97 38).trans rfl
theorem u_97_38 {S : Scr} {d : Nat} {a0 a1 a2 : AV} {st : List AV} {sh : Shp} {I : IM} {R : RM} : ev S d 97 38 [a0, a1, a2] st (sh, I, R) = ev S d 97 49 [a0, a1, a2] st (sh, I, R) := (ev_eq f_97_38).trans rfl
theorem f_97_41 : fetch 97 41 = some (41, .aload_n 0, 1, [0], 0) := (fm_97 41).trans rfl
theorem u_97_41 {S : Scr} {d : Nat} {a1 a2 : AV} {st : List AV} {sh : Shp} {I : IM} {R : RM} {x : Nat} : ev S d 97 41 [.inr (.inl x), a1, a2] st (sh, I, R) = ev S d 97 42 [.inr (.inl x), a1, a2] (.inr (.inl x) :: st) (sh, I, R) := (ev_eq f_97_41).trans rfl
theorem f_97_42 : fetch 97 42 = some (42, .getfield 10, 3, [8, 0, 1, 55], 0) := (fm_97 42).trans rfl
theorem u_97_42 {S : Scr} {d : Nat} {a0 a1 a2 : AV} {st : List AV} {sh : Shp} {I : IM} {R : RM} {k : Nat} (h : tg sh k = 8) : ev S d 97 42 [a0, a1, a2] (.inr (.inl k) :: st) (sh, I, R) = ev S d 97 45 [a0, a1, a2] (rv (R k 0) :: st) (sh, I, R) := (ev_eq f_97_42).trans (congrArg (fin S d 97) (if_pos h))
theorem f_97_45 : fetch 97 45 = some (45, .aload_n 2, 1, [2], 0) := (fm_97 45).trans rfl
theorem u_97_45 {S : Scr} {d : Nat} {a0 a1 : AV} {st : List AV} {sh : Shp} {I : IM} {R : RM} {x : Nat} : ev S d 97 45 [a0, a1, .inr (.inl x)] st (sh, I, R) = ev S d 97 46 [a0, a1, .inr (.inl x)] (.inr (.inl x) :: st) (sh, I, R) := (ev_eq f_97_45).trans rfl
theorem u_97_45n {S : Scr} {d : Nat} {a0 a1 : AV} {st : List AV} {sh : Shp} {I : IM} {R : RM} : ev S d 97 45 [a0, a1, .inr (.inr 0)] st (sh, I, R) = ev S d 97 46 [a0, a1, .inr (.inr 0)] (.inr (.inr 0) :: st) (sh, I, R) := (ev_eq f_97_45).trans rfl
theorem f_97_46 : fetch 97 46 = some (46, .invokevirtual 155, 3, [74, 1, 97], 0) := (fm_97 46).trans rfl
theorem u_97_46 {S : Scr} {d : Nat} {a0 a1 a2 : AV} {st : List AV} {sh : Shp} {I : IM} {R : RM} {x0 : Nat} {k : Nat} (h : tg sh k = 7) (hr : st.length ≤ 8) : ev S d 97 46 [a0, a1, a2] (.inr (.inl x0) :: .inr (.inl k) :: st) (sh, I, R) = bnd (cl d 74 [.inr (.inl k), .inr (.inl x0)] (sh, I, R)) (fun v M => ev S d 97 49 [a0, a1, a2] (psh v st) M) := (ev_eq f_97_46).trans (congrArg (fin S d 97) (if_pos ⟨h, rfl, hr⟩))
theorem u_97_46n {S : Scr} {d : Nat} {a0 a1 a2 : AV} {st : List AV} {sh : Shp} {I : IM} {R : RM} {k : Nat} (h : tg sh k = 7) (hr : st.length ≤ 8) : ev S d 97 46 [a0, a1, a2] (.inr (.inr 0) :: .inr (.inl k) :: st) (sh, I, R) = bnd (cl d 74 [.inr (.inl k), .inr (.inr 0)] (sh, I, R)) (fun v M => ev S d 97 49 [a0, a1, a2] (psh v st) M) := (ev_eq f_97_46).trans (congrArg (fin S d 97) (if_pos ⟨h, rfl, hr⟩))
theorem f_97_49 : fetch 97 49 = some (49, .ireturn, 1, [0], 0) := (fm_97 49).trans rfl
theorem u_97_49 {S : Scr} {d : Nat} {a0 a1 a2 : AV} {sh : Shp} {I : IM} {R : RM} {x : Int} : ev S d 97 49 [a0, a1, a2] [.inl x] (sh, I, R) = some (some (.inl x), (sh, I, R)) := (ev_eq f_97_49).trans fin_iret0
theorem c_98 {d : Nat} {a0 a1 : AV} {M : Mem} : cl (d + 1) 98 [a0, a1] M = ev S0 d 98 0 [a0, a1, .inr (.inr 1)] [] M := (cl_eq (as := [a0, a1]) (show 2 ≤ maxOf 98 by decide +kernel)).trans rfl
theorem mt_98 : MT[98]? = some m_98 := rfl
theorem fm_98 (pc : Nat) : fetch 98 pc = lk m_98.2.2.2.2.2 pc := by
  unfold fetch
  rw [mt_98]
theorem f_98_0 : fetch 98 0 = some (0, .aload_n 0, 1, [0], 0) := (fm_98 0).trans rfl
theorem u_98_0 {S : Scr} {d : Nat} {a1 a2 : AV} {st : List AV} {sh : Shp} {I : IM} {R : RM} {x : Nat} : ev S d 98 0 [.inr (.inl x), a1, a2] st (sh, I, R) = ev S d 98 1 [.inr (.inl x), a1, a2] (.inr (.inl x) :: st) (sh, I, R) := (ev_eq f_98_0).trans rfl
theorem f_98_1 : fetch 98 1 = some (1, .getfield 10, 3, [8, 0, 1, 55], 0) := (fm_98 1).trans rfl
theorem u_98_1 {S : Scr} {d : Nat} {a0 a1 a2 : AV} {st : List AV} {sh : Shp} {I : IM} {R : RM} {k : Nat} (h : tg sh k = 8) : ev S d 98 1 [a0, a1, a2] (.inr (.inl k) :: st) (sh, I, R) = ev S d 98 4 [a0, a1, a2] (rv (R k 0) :: st) (sh, I, R) := (ev_eq f_98_1).trans (congrArg (fin S d 98) (if_pos h))
theorem f_98_4 : fetch 98 4 = some (4, .iload_n 1, 1, [1], 0) := (fm_98 4).trans rfl
theorem u_98_4 {S : Scr} {d : Nat} {a0 a2 : AV} {st : List AV} {sh : Shp} {I : IM} {R : RM} {x : Int} : ev S d 98 4 [a0, .inl x, a2] st (sh, I, R) = ev S d 98 5 [a0, .inl x, a2] (.inl x :: st) (sh, I, R) := (ev_eq f_98_4).trans rfl
theorem f_98_5 : fetch 98 5 = some (5, .invokevirtual 102, 3, [68, 1, 88], 0) := (fm_98 5).trans rfl
theorem u_98_5 {S : Scr} {d : Nat} {a0 a1 a2 : AV} {st : List AV} {sh : Shp} {I : IM} {R : RM} {x0 : Int} {k : Nat} (h : tg sh k = 7) (hr : st.length ≤ 8) : ev S d 98 5 [a0, a1, a2] (.inl x0 :: .inr (.inl k) :: st) (sh, I, R) = bnd (cl d 68 [.inr (.inl k), .inl x0] (sh, I, R)) (fun v M => ev S d 98 8 [a0, a1, a2] (psh v st) M) := (ev_eq f_98_5).trans (congrArg (fin S d 98) (if_pos ⟨h, rfl, hr⟩))
theorem f_98_8 : fetch 98 8 = some (8, .ifnonnull 5, 3, [13], 0) := (fm_98 8).trans rfl
theorem u_98_8 {S : Scr} {d : Nat} {a0 a1 a2 : AV} {st : List AV} {sh : Shp} {I : IM} {R : RM} {x : Nat} : ev S d 98 8 [a0, a1, a2] (.inr (.inl x) :: st) (sh, I, R) = ev S d 98 13 [a0, a1, a2] st (sh, I, R) := (ev_eq f_98_8).trans rfl
theorem u_98_8n {S : Scr} {d : Nat} {a0 a1 a2 : AV} {st : List AV} {sh : Shp} {I : IM} {R : RM} : ev S d 98 8 [a0, a1, a2] (.inr (.inr 0) :: st) (sh, I, R) = ev S d 98 11 [a0, a1, a2] st (sh, I, R) := (ev_eq f_98_8).trans rfl
theorem f_98_11 : fetch 98 11 = some (11, .iconst (-1), 1, [], (-1)) := (fm_98 11).trans rfl
theorem u_98_11 {S : Scr} {d : Nat} {a0 a1 a2 : AV} {st : List AV} {sh : Shp} {I : IM} {R : RM} : ev S d 98 11 [a0, a1, a2] st (sh, I, R) = ev S d 98 12 [a0, a1, a2] (.inl (-1) :: st) (sh, I, R) := (ev_eq f_98_11).trans rfl
theorem f_98_12 : fetch 98 12 = some (12, .ireturn, 1, [0], 0) := (fm_98 12).trans rfl
theorem u_98_12 {S : Scr} {d : Nat} {a0 a1 a2 : AV} {sh : Shp} {I : IM} {R : RM} {x : Int} : ev S d 98 12 [a0, a1, a2] [.inl x] (sh, I, R) = some (some (.inl x), (sh, I, R)) := (ev_eq f_98_12).trans fin_iret0
theorem f_98_13 : fetch 98 13 = some (13, .aload_n 0, 1, [0], 0) := (fm_98 13).trans rfl
theorem u_98_13 {S : Scr} {d : Nat} {a1 a2 : AV} {st : List AV} {sh : Shp} {I : IM} {R : RM} {x : Nat} : ev S d 98 13 [.inr (.inl x), a1, a2] st (sh, I, R) = ev S d 98 14 [.inr (.inl x), a1, a2] (.inr (.inl x) :: st) (sh, I, R) := (ev_eq f_98_13).trans rfl
theorem f_98_14 : fetch 98 14 = some (14, .getfield 24, 3, [8, 2, 1, 57], 0) := (fm_98 14).trans rfl
theorem u_98_14 {S : Scr} {d : Nat} {a0 a1 a2 : AV} {st : List AV} {sh : Shp} {I : IM} {R : RM} {k : Nat} (h : tg sh k = 8) : ev S d 98 14 [a0, a1, a2] (.inr (.inl k) :: st) (sh, I, R) = ev S d 98 17 [a0, a1, a2] (rv (R k 2) :: st) (sh, I, R) := (ev_eq f_98_14).trans (congrArg (fin S d 98) (if_pos h))
theorem f_98_17 : fetch 98 17 = some (17, .iload_n 1, 1, [1], 0) := (fm_98 17).trans rfl
theorem u_98_17 {S : Scr} {d : Nat} {a0 a2 : AV} {st : List AV} {sh : Shp} {I : IM} {R : RM} {x : Int} : ev S d 98 17 [a0, .inl x, a2] st (sh, I, R) = ev S d 98 18 [a0, .inl x, a2] (.inl x :: st) (sh, I, R) := (ev_eq f_98_17).trans rfl
theorem f_98_18 : fetch 98 18 = some (18, .invokevirtual 158, 3, [56, 1, 98], 0) := (fm_98 18).trans rfl
theorem u_98_18 {S : Scr} {d : Nat} {a0 a1 a2 : AV} {st : List AV} {sh : Shp} {I : IM} {R : RM} {x0 : Int} {k : Nat} (h : tg sh k = 6) (hr : st.length ≤ 8) : ev S d 98 18 [a0, a1, a2] (.inl x0 :: .inr (.inl k) :: st) (sh, I, R) = bnd (cl d 56 [.inr (.inl k), .inl x0] (sh, I, R)) (fun v M => ev S d 98 21 [a0, a1, a2] (psh v st) M) := (ev_eq f_98_18).trans (congrArg (fin S d 98) (if_pos ⟨h, rfl, hr⟩))
theorem f_98_21 : fetch 98 21 = some (21, .aload_n 0, 1, [0], 0) := (fm_98 21).trans rfl
theorem u_98_21 {S : Scr} {d : Nat} {a1 a2 : AV} {st : List AV} {sh : Shp} {I : IM} {R : RM} {x : Nat} : ev S d 98 21 [.inr (.inl x), a1, a2] st (sh, I, R) = ev S d 98 22 [.inr (.inl x), a1, a2] (.inr (.inl x) :: st) (sh, I, R) := (ev_eq f_98_21).trans rfl
theorem f_98_22 : fetch 98 22 = some (22, .getfield 24, 3, [8, 2, 1, 57], 0) := (fm_98 22).trans rfl
theorem u_98_22 {S : Scr} {d : Nat} {a0 a1 a2 : AV} {st : List AV} {sh : Shp} {I : IM} {R : RM} {k : Nat} (h : tg sh k = 8) : ev S d 98 22 [a0, a1, a2] (.inr (.inl k) :: st) (sh, I, R) = ev S d 98 25 [a0, a1, a2] (rv (R k 2) :: st) (sh, I, R) := (ev_eq f_98_22).trans (congrArg (fin S d 98) (if_pos h))
theorem f_98_25 : fetch 98 25 = some (25, .getfield 162, 3, [6, 5, 0, 71], 0) := (fm_98 25).trans rfl
theorem u_98_25 {S : Scr} {d : Nat} {a0 a1 a2 : AV} {st : List AV} {sh : Shp} {I : IM} {R : RM} {k : Nat} (h : tg sh k = 6) : ev S d 98 25 [a0, a1, a2] (.inr (.inl k) :: st) (sh, I, R) = ev S d 98 28 [a0, a1, a2] (.inl (I k 5) :: st) (sh, I, R) := (ev_eq f_98_25).trans (congrArg (fin S d 98) (if_pos h))
theorem f_98_28 : fetch 98 28 = some (28, .bipush 30, 2, [], 30) := (fm_98 28).trans rfl
theorem u_98_28 {S : Scr} {d : Nat} {a0 a1 a2 : AV} {st : List AV} {sh : Shp} {I : IM} {R : RM} : ev S d 98 28 [a0, a1, a2] st (sh, I, R) = ev S d 98 30 [a0, a1, a2] (.inl 30 :: st) (sh, I, R) := (ev_eq f_98_28).trans rfl
theorem f_98_30 : fetch 98 30 = some (30, .aload_n 0, 1, [0], 0) := (fm_98 30).trans rfl
theorem u_98_30 {S : Scr} {d : Nat} {a1 a2 : AV} {st : List AV} {sh : Shp} {I : IM} {R : RM} {x : Nat} : ev S d 98 30 [.inr (.inl x), a1, a2] st (sh, I, R) = ev S d 98 31 [.inr (.inl x), a1, a2] (.inr (.inl x) :: st) (sh, I, R) := (ev_eq f_98_30).trans rfl
theorem f_98_31 : fetch 98 31 = some (31, .getfield 10, 3, [8, 0, 1, 55], 0) := (fm_98 31).trans rfl
theorem u_98_31 {S : Scr} {d : Nat} {a0 a1 a2 : AV} {st : List AV} {sh : Shp} {I : IM} {R : RM} {k : Nat} (h : tg sh k = 8) : ev S d 98 31 [a0, a1, a2] (.inr (.inl k) :: st) (sh, I, R) = ev S d 98 34 [a0, a1, a2] (rv (R k 0) :: st) (sh, I, R) := (ev_eq f_98_31).trans (congrArg (fin S d 98) (if_pos h))
theorem f_98_34 : fetch 98 34 = some (34, .invokevirtual 165, 3, [79, 0, 99], 0) := (fm_98 34).trans rfl
theorem u_98_34 {S : Scr} {d : Nat} {a0 a1 a2 : AV} {st : List AV} {sh : Shp} {I : IM} {R : RM} {k : Nat} (h : tg sh k = 7) (hr : st.length ≤ 8) : ev S d 98 34 [a0, a1, a2] (.inr (.inl k) :: st) (sh, I, R) = bnd (cl d 79 [.inr (.inl k)] (sh, I, R)) (fun v M => ev S d 98 37 [a0, a1, a2] (psh v st) M) := (ev_eq f_98_34).trans (congrArg (fin S d 98) (if_pos ⟨h, rfl, hr⟩))
theorem f_98_37 : fetch 98 37 = some (37, .isub, 1, [], 0) := (fm_98 37).trans rfl
theorem u_98_37 {S : Scr} {d : Nat} {a0 a1 a2 : AV} {st : List AV} {sh : Shp} {I : IM} {R : RM} {x y : Int} : ev S d 98 37 [a0, a1, a2] (.inl y :: .inl x :: st) (sh, I, R) = ev S d 98 38 [a0, a1, a2] (.inl (wr (x - y)) :: st) (sh, I, R) := (ev_eq f_98_37).trans rfl
theorem f_98_38 : fetch 98 38 = some (38, .if_icmp .le 6, 3, [44], 0) := (fm_98 38).trans rfl
theorem u_98_38 {S : Scr} {d : Nat} {a0 a1 a2 : AV} {st : List AV} {sh : Shp} {I : IM} {R : RM} {x y : Int} : ev S d 98 38 [a0, a1, a2] (.inl y :: .inl x :: st) (sh, I, R) = if x ≤ y then ev S d 98 44 [a0, a1, a2] st (sh, I, R) else ev S d 98 41 [a0, a1, a2] st (sh, I, R) := (ev_eq f_98_38).trans fin_icmp_le
theorem f_98_41 : fetch 98 41 = some (41, .bipush (-3), 2, [], (-3)) := (fm_98 41).trans rfl
theorem u_98_41 {S : Scr} {d : Nat} {a0 a1 a2 : AV} {st : List AV} {sh : Shp} {I : IM} {R : RM} : ev S d 98 41 [a0, a1, a2] st (sh, I, R) = ev S d 98 43 [a0, a1, a2] (.inl (-3) :: st) (sh, I, R) := (ev_eq f_98_41).trans rfl
theorem f_98_43 : fetch 98 43 = some (43, .ireturn, 1, [0], 0) := (fm_98 43).trans rfl
theorem u_98_43 {S : Scr} {d : Nat} {a0 a1 a2 : AV} {sh : Shp} {I : IM} {R : RM} {x : Int} : ev S d 98 43 [a0, a1, a2] [.inl x] (sh, I, R) = some (some (.inl x), (sh, I, R)) := (ev_eq f_98_43).trans fin_iret0
theorem f_98_44 : fetch 98 44 = some (44, .iconst 0, 1, [], 0) := (fm_98 44).trans rfl
theorem u_98_44 {S : Scr} {d : Nat} {a0 a1 a2 : AV} {st : List AV} {sh : Shp} {I : IM} {R : RM} : ev S d 98 44 [a0, a1, a2] st (sh, I, R) = ev S d 98 45 [a0, a1, a2] (.inl 0 :: st) (sh, I, R) := (ev_eq f_98_44).trans rfl
theorem f_98_45 : fetch 98 45 = some (45, .istore_n 2, 1, [2], 0) := (fm_98 45).trans rfl
theorem u_98_45 {S : Scr} {d : Nat} {a0 a1 a2 : AV} {st : List AV} {sh : Shp} {I : IM} {R : RM} {x : Int} : ev S d 98 45 [a0, a1, a2] (.inl x :: st) (sh, I, R) = ev S d 98 46 [a0, a1, .inl x] st (sh, I, R) := (ev_eq f_98_45).trans rfl
theorem f_98_46 : fetch 98 46 = some (46, .iload_n 2, 1, [2], 0) := (fm_98 46).trans rfl
theorem u_98_46 {S : Scr} {d : Nat} {a0 a1 : AV} {st : List AV} {sh : Shp} {I : IM} {R : RM} {x : Int} : ev S d 98 46 [a0, a1, .inl x] st (sh, I, R) = ev S d 98 47 [a0, a1, .inl x] (.inl x :: st) (sh, I, R) := (ev_eq f_98_46).trans rfl
theorem f_98_47 : fetch 98 47 = some (47, .aload_n 0, 1, [0], 0) := (fm_98 47).trans rfl
theorem u_98_47 {S : Scr} {d : Nat} {a1 a2 : AV} {st : List AV} {sh : Shp} {I : IM} {R : RM} {x : Nat} : ev S d 98 47 [.inr (.inl x), a1, a2] st (sh, I, R) = ev S d 98 48 [.inr (.inl x), a1, a2] (.inr (.inl x) :: st) (sh, I, R) := (ev_eq f_98_47).trans rfl
theorem f_98_48 : fetch 98 48 = some (48, .getfield 24, 3, [8, 2, 1, 57], 0) := (fm_98 48).trans rfl
theorem u_98_48 {S : Scr} {d : Nat} {a0 a1 a2 : AV} {st : List AV} {sh : Shp} {I : IM} {R : RM} {k : Nat} (h : tg sh k = 8) : ev S d 98 48 [a0, a1, a2] (.inr (.inl k) :: st) (sh, I, R) = ev S d 98 51 [a0, a1, a2] (rv (R k 2) :: st) (sh, I, R) := (ev_eq f_98_48).trans (congrArg (fin S d 98) (if_pos h))
theorem f_98_51 : fetch 98 51 = some (51, .getfield 162, 3, [6, 5, 0, 71], 0) := (fm_98 51).trans rfl
theorem u_98_51 {S : Scr} {d : Nat} {a0 a1 a2 : AV} {st : List AV} {sh : Shp} {I : IM} {R : RM} {k : Nat} (h : tg sh k = 6) : ev S d 98 51 [a0, a1, a2] (.inr (.inl k) :: st) (sh, I, R) = ev S d 98 54 [a0, a1, a2] (.inl (I k 5) :: st) (sh, I, R) := (ev_eq f_98_51).trans (congrArg (fin S d 98) (if_pos h))
theorem f_98_54 : fetch 98 54 = some (54, .if_icmp .ge 38, 3, [92], 0) := (fm_98 54).trans rfl
theorem u_98_54 {S : Scr} {d : Nat} {a0 a1 a2 : AV} {st : List AV} {sh : Shp} {I : IM} {R : RM} {x y : Int} : ev S d 98 54 [a0, a1, a2] (.inl y :: .inl x :: st) (sh, I, R) = if y ≤ x then ev S d 98 92 [a0, a1, a2] st (sh, I, R) else ev S d 98 57 [a0, a1, a2] st (sh, I, R) := (ev_eq f_98_54).trans fin_icmp_ge
theorem f_98_57 : fetch 98 57 = some (57, .aload_n 0, 1, [0], 0) := (fm_98 57).trans rfl
theorem u_98_57 {S : Scr} {d : Nat} {a1 a2 : AV} {st : List AV} {sh : Shp} {I : IM} {R : RM} {x : Nat} : ev S d 98 57 [.inr (.inl x), a1, a2] st (sh, I, R) = ev S d 98 58 [.inr (.inl x), a1, a2] (.inr (.inl x) :: st) (sh, I, R) := (ev_eq f_98_57).trans rfl
theorem f_98_58 : fetch 98 58 = some (58, .getfield 52, 3, [8, 7, 1, 62], 0) := (fm_98 58).trans rfl
theorem u_98_58 {S : Scr} {d : Nat} {a0 a1 a2 : AV} {st : List AV} {sh : Shp} {I : IM} {R : RM} {k : Nat} (h : tg sh k = 8) : ev S d 98 58 [a0, a1, a2] (.inr (.inl k) :: st) (sh, I, R) = ev S d 98 61 [a0, a1, a2] (rv (R k 7) :: st) (sh, I, R) := (ev_eq f_98_58).trans (congrArg (fin S d 98) (if_pos h))
theorem f_98_61 : fetch 98 61 = some (61, .iload_n 2, 1, [2], 0) := (fm_98 61).trans rfl
theorem u_98_61 {S : Scr} {d : Nat} {a0 a1 : AV} {st : List AV} {sh : Shp} {I : IM} {R : RM} {x : Int} : ev S d 98 61 [a0, a1, .inl x] st (sh, I, R) = ev S d 98 62 [a0, a1, .inl x] (.inl x :: st) (sh, I, R) := (ev_eq f_98_61).trans rfl
theorem f_98_62 : fetch 98 62 = some (62, .aload_n 0, 1, [0], 0) := (fm_98 62).trans rfl
theorem u_98_62 {S : Scr} {d : Nat} {a1 a2 : AV} {st : List AV} {sh : Shp} {I : IM} {R : RM} {x : Nat} : ev S d 98 62 [.inr (.inl x), a1, a2] st (sh, I, R) = ev S d 98 63 [.inr (.inl x), a1, a2] (.inr (.inl x) :: st) (sh, I, R) := (ev_eq f_98_62).trans rfl
theorem f_98_63 : fetch 98 63 = some (63, .getfield 10, 3, [8, 0, 1, 55], 0) := (fm_98 63).trans rfl
theorem u_98_63 {S : Scr} {d : Nat} {a0 a1 a2 : AV} {st : List AV} {sh : Shp} {I : IM} {R : RM} {k : Nat} (h : tg sh k = 8) : ev S d 98 63 [a0, a1, a2] (.inr (.inl k) :: st) (sh, I, R) = ev S d 98 66 [a0, a1, a2] (rv (R k 0) :: st) (sh, I, R) := (ev_eq f_98_63).trans (congrArg (fin S d 98) (if_pos h))
theorem f_98_66 : fetch 98 66 = some (66, .aload_n 0, 1, [0], 0) := (fm_98 66).trans rfl
theorem u_98_66 {S : Scr} {d : Nat} {a1 a2 : AV} {st : List AV} {sh : Shp} {I : IM} {R : RM} {x : Nat} : ev S d 98 66 [.inr (.inl x), a1, a2] st (sh, I, R) = ev S d 98 67 [.inr (.inl x), a1, a2] (.inr (.inl x) :: st) (sh, I, R) := (ev_eq f_98_66).trans rfl
theorem f_98_67 : fetch 98 67 = some (67, .getfield 10, 3, [8, 0, 1, 55], 0) := (fm_98 67).trans rfl
theorem u_98_67 {S : Scr} {d : Nat} {a0 a1 a2 : AV} {st : List AV} {sh : Shp} {I : IM} {R : RM} {k : Nat} (h : tg sh k = 8) : ev S d 98 67 [a0, a1, a2] (.inr (.inl k) :: st) (sh, I, R) = ev S d 98 70 [a0, a1, a2] (rv (R k 0) :: st) (sh, I, R) := (ev_eq f_98_67).trans (congrArg (fin S d 98) (if_pos h))
theorem f_98_70 : fetch 98 70 = some (70, .aload_n 0, 1, [0], 0) := (fm_98 70).trans rfl
theorem u_98_70 {S : Scr} {d : Nat} {a1 a2 : AV} {st : List AV} {sh : Shp} {I : IM} {R : RM} {x : Nat} : ev S d 98 70 [.inr (.inl x), a1, a2] st (sh, I, R) = ev S d 98 71 [.inr (.inl x), a1, a2] (.inr (.inl x) :: st) (sh, I, R) := (ev_eq f_98_70).trans rfl
theorem f_98_71 : fetch 98 71 = some (71, .getfield 24, 3, [8, 2, 1, 57], 0) := (fm_98 71).trans rfl
theorem u_98_71 {S : Scr} {d : Nat} {a0 a1 a2 : AV} {st : List AV} {sh : Shp} {I : IM} {R : RM} {k : Nat} (h : tg sh k = 8) : ev S d 98 71 [a0, a1, a2] (.inr (.inl k) :: st) (sh, I, R) = ev S d 98 74 [a0, a1, a2] (rv (R k 2) :: st) (sh, I, R) := (ev_eq f_98_71).trans (congrArg (fin S d 98) (if_pos h))
theorem f_98_74 : fetch 98 74 = some (74, .getfield 169, 3, [6, 3, 1, 72], 0) := (fm_98 74).trans rfl
theorem u_98_74 {S : Scr} {d : Nat} {a0 a1 a2 : AV} {st : List AV} {sh : Shp} {I : IM} {R : RM} {k : Nat} (h : tg sh k = 6) : ev S d 98 74 [a0, a1, a2] (.inr (.inl k) :: st) (sh, I, R) = ev S d 98 77 [a0, a1, a2] (rv (R k 3) :: st) (sh, I, R) := (ev_eq f_98_74).trans (congrArg (fin S d 98) (if_pos h))
theorem f_98_77 : fetch 98 77 = some (77, .iload_n 2, 1, [2], 0) := (fm_98 77).trans rfl
theorem u_98_77 {S : Scr} {d : Nat} {a0 a1 : AV} {st : List AV} {sh : Shp} {I : IM} {R : RM} {x : Int} : ev S d 98 77 [a0, a1, .inl x] st (sh, I, R) = ev S d 98 78 [a0, a1, .inl x] (.inl x :: st) (sh, I, R) := (ev_eq f_98_77).trans rfl
theorem f_98_78 : fetch 98 78 = some (78, .iaload, 1, [], 0) := (fm_98 78).trans rfl
theorem u_98_78 {S : Scr} {d : Nat} {a0 a1 a2 : AV} {st : List AV} {sh : Shp} {I : IM} {R : RM} {k : Nat} {i : Int} (h : tg sh k = 100) (h0 : 0 ≤ i) (h1 : i < ln sh k) : ev S d 98 78 [a0, a1, a2] (.inl i :: .inr (.inl k) :: st) (sh, I, R) = ev S d 98 79 [a0, a1, a2] (.inl (I k i) :: st) (sh, I, R) := (ev_eq f_98_78).trans (congrArg (fin S d 98) (if_pos ⟨h, h0, h1⟩))
theorem f_98_79 : fetch 98 79 = some (79, .invokevirtual 102, 3, [68, 1, 88], 0) := (fm_98 79).trans rfl
theorem u_98_79 {S : Scr} {d : Nat} {a0 a1 a2 : AV} {st : List AV} {sh : Shp} {I : IM} {R : RM} {x0 : Int} {k : Nat} (h : tg sh k = 7) (hr : st.length ≤ 8) : ev S d 98 79 [a0, a1, a2] (.inl x0 :: .inr (.inl k) :: st) (sh, I, R) = bnd (cl d 68 [.inr (.inl k), .inl x0] (sh, I, R)) (fun v M => ev S d 98 82 [a0, a1, a2] (psh v st) M) := (ev_eq f_98_79).trans (congrArg (fin S d 98) (if_pos ⟨h, rfl, hr⟩))
theorem f_98_82 : fetch 98 82 = some (82, .invokevirtual 155, 3, [74, 1, 97], 0) := (fm_98 82).trans rfl
theorem u_98_82 {S : Scr} {d : Nat} {a0 a1 a2 : AV} {st : List AV} {sh : Shp} {I : IM} {R : RM} {x0 : Nat} {k : Nat} (h : tg sh k = 7) (hr : st.length ≤ 8) : ev S d 98 82 [a0, a1, a2] (.inr (.inl x0) :: .inr (.inl k) :: st) (sh, I, R) = bnd (cl d 74 [.inr (.inl k), .inr (.inl x0)] (sh, I, R)) (fun v M => ev S d 98 85 [a0, a1, a2] (psh v st) M) := (ev_eq f_98_82).trans (congrArg (fin S d 98) (if_pos ⟨h, rfl, hr⟩))
theorem u_98_82n {S : Scr} {d : Nat} {a0 a1 a2 : AV} {st : List AV} {sh : Shp} {I : IM} {R : RM} {k : Nat} (h : tg sh k = 7) (hr : st.length ≤ 8) : ev S d 98 82 [a0, a1, a2] (.inr (.inr 0) :: .inr (.inl k) :: st) (sh, I, R) = bnd (cl d 74 [.inr (.inl k), .inr (.inr 0)] (sh, I, R)) (fun v M => ev S d 98 85 [a0, a1, a2] (psh v st) M) := (ev_eq f_98_82).trans (congrArg (fin S d 98) (if_pos ⟨h, rfl, hr⟩))
theorem f_98_85 : fetch 98 85 = some (85, .iastore, 1, [], 0) := (fm_98 85).trans rfl
theorem u_98_85 {S : Scr} {d : Nat} {a0 a1 a2 : AV} {st : List AV} {sh : Shp} {I : IM} {R : RM} {k : Nat} {i x : Int} (h : tg sh k = 100) (h0 : 0 ≤ i) (h1 : i < ln sh k) : ev S d 98 85 [a0, a1, a2] (.inl x :: .inl i :: .inr (.inl k) :: st) (sh, I, R) = ev S d 98 86 [a0, a1, a2] st (sh, up I k i x, R) := (ev_eq f_98_85).trans (congrArg (fin S d 98) (if_pos ⟨h, h0, h1⟩))
theorem f_98_86 : fetch 98 86 = some (86, .iinc 2 1, 3, [2], 1) := (fm_98 86).trans rfl
theorem u_98_86 {S : Scr} {d : Nat} {a0 a1 : AV} {st : List AV} {sh : Shp} {I : IM} {R : RM} {x : Int} : ev S d 98 86 [a0, a1, .inl x] st (sh, I, R) = ev S d 98 89 [a0, a1, .inl (wr (x + 1))] st (sh, I, R) := (ev_eq f_98_86).trans rfl
theorem f_98_89 : fetch 98 89 = some (89, .goto (-43), 3, [46], 0) := (fm_98 89).trans rfl
theorem u_98_89 {S : Scr} {d : Nat} {a0 a1 a2 : AV} {st : List AV} {sh : Shp} {I : IM} {R : RM} : ev S d 98 89 [a0, a1, a2] st (sh, I, R) = ev S d 98 46 [a0, a1, a2] st (sh, I, R) := (ev_eq f_98_89).trans rfl
theorem f_98_92 : fetch 98 92 = some (92, .iconst 0, 1, [], 0) := (fm_98 92).trans rfl
theorem u_98_92 {S : Scr} {d : Nat} {a0 a1 a2 : AV} {st : List AV} {sh : Shp} {I : IM} {R : RM} : ev S d 98 92 [a0, a1, a2] st (sh, I, R) = ev S d 98 93 [a0, a1, a2] (.inl 0 :: st) (sh, I, R) := (ev_eq f_98_92).trans rfl
theorem f_98_93 : fetch 98 93 = some (93, .istore_n 2, 1, [2], 0) := (fm_98 93).trans rfl
theorem u_98_93 {S : Scr} {d : Nat} {a0 a1 a2 : AV} {st : List AV} {sh : Shp} {I : IM} {R : RM} {x : Int} : ev S d 98 93 [a0, a1, a2] (.inl x :: st) (sh, I, R) = ev S d 98 94 [a0, a1, .inl x] st (sh, I, R) := (ev_eq f_98_93).trans rfl
theorem f_98_94 : fetch 98 94 = some (94, .iload_n 2, 1, [2], 0) := (fm_98 94).trans rfl
theorem u_98_94 {S : Scr} {d : Nat} {a0 a1 : AV} {st : List AV} {sh : Shp} {I : IM} {R : RM} {x : Int} : ev S d 98 94 [a0, a1, .inl x] st (sh, I, R) = ev S d 98 95 [a0, a1, .inl x] (.inl x :: st) (sh, I, R) := (ev_eq f_98_94).trans rfl
theorem f_98_95 : fetch 98 95 = some (95, .aload_n 0, 1, [0], 0) := (fm_98 95).trans rfl
theorem u_98_95 {S : Scr} {d : Nat} {a1 a2 : AV} {st : List AV} {sh : Shp} {I : IM} {R : RM} {x : Nat} : ev S d 98 95 [.inr (.inl x), a1, a2] st (sh, I, R) = ev S d 98 96 [.inr (.inl x), a1, a2] (.inr (.inl x) :: st) (sh, I, R) := (ev_eq f_98_95).trans rfl
theorem f_98_96 : fetch 98 96 = some (96, .getfield 24, 3, [8, 2, 1, 57], 0) := (fm_98 96).trans rfl
theorem u_98_96 {S : Scr} {d : Nat} {a0 a1 a2 : AV} {st : List AV} {sh : Shp} {I : IM} {R : RM} {k : Nat} (h : tg sh k = 8) : ev S d 98 96 [a0, a1, a2] (.inr (.inl k) :: st) (sh, I, R) = ev S d 98 99 [a0, a1, a2] (rv (R k 2) :: st) (sh, I, R) := (ev_eq f_98_96).trans (congrArg (fin S d 98) (if_pos h))
theorem f_98_99 : fetch 98 99 = some (99, .getfield 162, 3, [6, 5, 0, 71], 0) := (fm_98 99).trans rfl
theorem u_98_99 {S : Scr} {d : Nat} {a0 a1 a2 : AV} {st : List AV} {sh : Shp} {I : IM} {R : RM} {k : Nat} (h : tg sh k = 6) : ev S d 98 99 [a0, a1, a2] (.inr (.inl k) :: st) (sh, I, R) = ev S d 98 102 [a0, a1, a2] (.inl (I k 5) :: st) (sh, I, R) := (ev_eq f_98_99).trans (congrArg (fin S d 98) (if_pos h))
theorem f_98_102 : fetch 98 102 = some (102, .if_icmp .ge 26, 3, [128], 0) := (fm_98 102).trans rfl
theorem u_98_102 {S : Scr} {d : Nat} {a0 a1 a2 : AV} {st : List AV} {sh : Shp} {I : IM} {R : RM} {x y : Int} : ev S d 98 102 [a0, a1, a2] (.inl y :: .inl x :: st) (sh, I, R) = if y ≤ x then ev S d 98 128 [a0, a1, a2] st (sh, I, R) else ev S d 98 105 [a0, a1, a2] st (sh, I, R) := (ev_eq f_98_102).trans fin_icmp_ge
theorem f_98_105 : fetch 98 105 = some (105, .aload_n 0, 1, [0], 0) := (fm_98 105).trans rfl
theorem u_98_105 {S : Scr} {d : Nat} {a1 a2 : AV} {st : List AV} {sh : Shp} {I : IM} {R : RM} {x : Nat} : ev S d 98 105 [.inr (.inl x), a1, a2] st (sh, I, R) = ev S d 98 106 [.inr (.inl x), a1, a2] (.inr (.inl x) :: st) (sh, I, R) := (ev_eq f_98_105).trans rfl
theorem f_98_106 : fetch 98 106 = some (106, .aload_n 0, 1, [0], 0) := (fm_98 106).trans rfl
theorem u_98_106 {S : Scr} {d : Nat} {a1 a2 : AV} {st : List AV} {sh : Shp} {I : IM} {R : RM} {x : Nat} : ev S d 98 106 [.inr (.inl x), a1, a2] st (sh, I, R) = ev S d 98 107 [.inr (.inl x), a1, a2] (.inr (.inl x) :: st) (sh, I, R) := (ev_eq f_98_106).trans rfl
theorem f_98_107 : fetch 98 107 = some (107, .getfield 10, 3, [8, 0, 1, 55], 0) := (fm_98 107).trans rfl
theorem u_98_107 {S : Scr} {d : Nat} {a0 a1 a2 : AV} {st : List AV} {sh : Shp} {I : IM} {R : RM} {k : Nat} (h : tg sh k = 8) : ev S d 98 107 [a0, a1, a2] (.inr (.inl k) :: st) (sh, I, R) = ev S d 98 110 [a0, a1, a2] (rv (R k 0) :: st) (sh, I, R) := (ev_eq f_98_107).trans (congrArg (fin S d 98) (if_pos h))
theorem f_98_110 : fetch 98 110 = some (110, .aload_n 0, 1, [0], 0) := (fm_98 110).trans rfl
theorem u_98_110 {S : Scr} {d : Nat} {a1 a2 : AV} {st : List AV} {sh : Shp} {I : IM} {R : RM} {x : Nat} : ev S d 98 110 [.inr (.inl x), a1, a2] st (sh, I, R) = ev S d 98 111 [.inr (.inl x), a1, a2] (.inr (.inl x) :: st) (sh, I, R) := (ev_eq f_98_110).trans rfl
theorem f_98_111 : fetch 98 111 = some (111, .getfield 52, 3, [8, 7, 1, 62], 0) := (fm_98 111).trans rfl
theorem u_98_111 {S : Scr} {d : Nat} {a0 a1 a2 : AV} {st : List AV} {sh : Shp} {I : IM} {R : RM} {k : Nat} (h : tg sh k = 8) : ev S d 98 111 [a0, a1, a2] (.inr (.inl k) :: st) (sh, I, R) = ev S d 98 114 [a0, a1, a2] (rv (R k 7) :: st) (sh, I, R) := (ev_eq f_98_111).trans (congrArg (fin S d 98) (if_pos h))
theorem f_98_114 : fetch 98 114 = some (114, .iload_n 2, 1, [2], 0) := (fm_98 114).trans rfl
theorem u_98_114 {S : Scr} {d : Nat} {a0 a1 : AV} {st : List AV} {sh : Shp} {I : IM} {R : RM} {x : Int} : ev S d 98 114 [a0, a1, .inl x] st (sh, I, R) = ev S d 98 115 [a0, a1, .inl x] (.inl x :: st) (sh, I, R) := (ev_eq f_98_114).trans rfl
theorem f_98_115 : fetch 98 115 = some (115, .iaload, 1, [], 0) := (fm_98 115).trans rfl
theorem u_98_115 {S : Scr} {d : Nat} {a0 a1 a2 : AV} {st : List AV} {sh : Shp} {I : IM} {R : RM} {k : Nat} {i : Int} (h : tg sh k = 100) (h0 : 0 ≤ i) (h1 : i < ln sh k) : ev S d 98 115 [a0, a1, a2] (.inl i :: .inr (.inl k) :: st) (sh, I, R) = ev S d 98 116 [a0, a1, a2] (.inl (I k i) :: st) (sh, I, R) := (ev_eq f_98_115).trans (congrArg (fin S d 98) (if_pos ⟨h, h0, h1⟩))
theorem f_98_116 : fetch 98 116 = some (116, .invokevirtual 102, 3, [68, 1, 88], 0) := (fm_98 116).trans rfl
theorem u_98_116 {S : Scr} {d : Nat} {a0 a1 a2 : AV} {st : List AV} {sh : Shp} {I : IM} {R : RM} {x0 : Int} {k : Nat} (h : tg sh k = 7) (hr : st.length ≤ 8) : ev S d 98 116 [a0, a1, a2] (.inl x0 :: .inr (.inl k) :: st) (sh, I, R) = bnd (cl d 68 [.inr (.inl k), .inl x0] (sh, I, R)) (fun v M => ev S d 98 119 [a0, a1, a2] (psh v st) M) := (ev_eq f_98_116).trans (congrArg (fin S d 98) (if_pos ⟨h, rfl, hr⟩))
theorem f_98_119 : fetch 98 119 = some (119, .invokevirtual 172, 3, [119, 1, 100], 0) := (fm_98 119).trans rfl
theorem u_98_119 {S : Scr} {d : Nat} {a0 a1 a2 : AV} {st : List AV} {sh : Shp} {I : IM} {R : RM} {x0 : Nat} {k : Nat} (h : tg sh k = 8) (hr : st.length ≤ 8) : ev S d 98 119 [a0, a1, a2] (.inr (.inl x0) :: .inr (.inl k) :: st) (sh, I, R) = bnd (cl d 119 [.inr (.inl k), .inr (.inl x0)] (sh, I, R)) (fun v M => ev S d 98 122 [a0, a1, a2] (psh v st) M) := (ev_eq f_98_119).trans (congrArg (fin S d 98) (if_pos ⟨h, rfl, hr⟩))
theorem u_98_119n {S : Scr} {d : Nat} {a0 a1 a2 : AV} {st : List AV} {sh : Shp} {I : IM} {R : RM} {k : Nat} (h : tg sh k = 8) (hr : st.length ≤ 8) : ev S d 98 119 [a0, a1, a2] (.inr (.inr 0) :: .inr (.inl k) :: st) (sh, I, R) = bnd (cl d 119 [.inr (.inl k), .inr (.inr 0)] (sh, I, R)) (fun v M => ev S d 98 122 [a0, a1, a2] (psh v st) M) := (ev_eq f_98_119).trans (congrArg (fin S d 98) (if_pos ⟨h, rfl, hr⟩))
theorem f_98_122 : fetch 98 122 = some (122, .iinc 2 1, 3, [2], 1) := (fm_98 122).trans rfl
theorem u_98_122 {S : Scr} {d : Nat} {a0 a1 : AV} {st : List AV} {sh : Shp} {I : IM} {R : RM} {x : Int} : ev S d 98 122 [a0, a1, .inl x] st (sh, I, R) = ev S d 98 125 [a0, a1, .inl (wr (x + 1))] st (sh, I, R) := (ev_eq f_98_122).trans rfl
theorem f_98_125 : fetch 98 125 = some (125, .goto (-31), 3, [94], 0) := (fm_98 125).trans rfl
theorem u_98_125 {S : Scr} {d : Nat} {a0 a1 a2 : AV} {st : List AV} {sh : Shp} {I : IM} {R : RM} : ev S d 98 125 [a0, a1, a2] st (sh, I, R) = ev S d 98 94 [a0, a1, a2] st (sh, I, R) := (ev_eq f_98_125).trans rfl
theorem f_98_128 : fetch 98 128 = some (128, .aload_n 0, 1, [0], 0) := (fm_98 128).trans rfl
theorem u_98_128 {S : Scr} {d : Nat} {a1 a2 : AV} {st : List AV} {sh : Shp} {I : IM} {R : RM} {x : Nat} : ev S d 98 128 [.inr (.inl x), a1, a2] st (sh, I, R) = ev S d 98 129 [.inr (.inl x), a1, a2] (.inr (.inl x) :: st) (sh, I, R) := (ev_eq f_98_128).trans rfl
theorem f_98_129 : fetch 98 129 = some (129, .getfield 52, 3, [8, 7, 1, 62], 0) := (fm_98 129).trans rfl
theorem u_98_129 {S : Scr} {d : Nat} {a0 a1 a2 : AV} {st : List AV} {sh : Shp} {I : IM} {R : RM} {k : Nat} (h : tg sh k = 8) : ev S d 98 129 [a0, a1, a2] (.inr (.inl k) :: st) (sh, I, R) = ev S d 98 132 [a0, a1, a2] (rv (R k 7) :: st) (sh, I, R) := (ev_eq f_98_129).trans (congrArg (fin S d 98) (if_pos h))
theorem f_98_132 : fetch 98 132 = some (132, .iconst 0, 1, [], 0) := (fm_98 132).trans rfl
theorem u_98_132 {S : Scr} {d : Nat} {a0 a1 a2 : AV} {st : List AV} {sh : Shp} {I : IM} {R : RM} : ev S d 98 132 [a0, a1, a2] st (sh, I, R) = ev S d 98 133 [a0, a1, a2] (.inl 0 :: st) (sh, I, R) := (ev_eq f_98_132).trans rfl
theorem f_98_133 : fetch 98 133 = some (133, .iaload, 1, [], 0) := (fm_98 133).trans rfl
theorem u_98_133 {S : Scr} {d : Nat} {a0 a1 a2 : AV} {st : List AV} {sh : Shp} {I : IM} {R : RM} {k : Nat} {i : Int} (h : tg sh k = 100) (h0 : 0 ≤ i) (h1 : i < ln sh k) : ev S d 98 133 [a0, a1, a2] (.inl i :: .inr (.inl k) :: st) (sh, I, R) = ev S d 98 134 [a0, a1, a2] (.inl (I k i) :: st) (sh, I, R) := (ev_eq f_98_133).trans (congrArg (fin S d 98) (if_pos ⟨h, h0, h1⟩))
theorem f_98_134 : fetch 98 134 = some (134, .ireturn, 1, [0], 0) := (fm_98 134).trans rfl
theorem u_98_134 {S : Scr} {d : Nat} {a0 a1 a2 : AV} {sh : Shp} {I : IM} {R : RM} {x : Int} : ev S d 98 134 [a0, a1, a2] [.inl x] (sh, I, R) = some (some (.inl x), (sh, I, R)) := (ev_eq f_98_134).trans fin_iret0
theorem c_99 {d : Nat} {a0 : AV} {M : Mem} : cl (d + 1) 99 [a0] M = ev S0 d 99 0 [a0, .inr (.inr 1), .inr (.inr 1)] [] M := (cl_eq (as := [a0]) (show 1 ≤ maxOf 99 by decide +kernel)).trans rfl
theorem mt_99 : MT[99]? = some m_99 := rfl
theorem fm_99 (pc : Nat) : fetch 99 pc = lk m_99.2.2.2.2.2 pc := by
  unfold fetch
  rw [mt_99]
theorem f_99_0 : fetch 99 0 = some (0, .aload_n 0, 1, [0], 0) := (fm_99 0).trans rfl
theorem u_99_0 {S : Scr} {d : Nat} {a1 a2 : AV} {st : List AV} {sh : Shp} {I : IM} {R : RM} {x : Nat} : ev S d 99 0 [.inr (.inl x), a1, a2] st (sh, I, R) = ev S d 99 1 [.inr (.inl x), a1, a2] (.inr (.inl x) :: st) (sh, I, R) := (ev_eq f_99_0).trans rfl
theorem f_99_1 : fetch 99 1 = some (1, .getfield 24, 3, [8, 2, 1, 57], 0) := (fm_99 1).trans rfl
theorem u_99_1 {S : Scr} {d : Nat} {a0 a1 a2 : AV} {st : List AV} {sh : Shp} {I : IM} {R : RM} {k : Nat} (h : tg sh k = 8) : ev S d 99 1 [a0, a1, a2] (.inr (.inl k) :: st) (sh, I, R) = ev S d 99 4 [a0, a1, a2] (rv (R k 2) :: st) (sh, I, R) := (ev_eq f_99_1).trans (congrArg (fin S d 99) (if_pos h))
theorem f_99_4 : fetch 99 4 = some (4, .invokevirtual 175, 3, [54, 0, 101], 0) := (fm_99 4).trans rfl
theorem u_99_4 {S : Scr} {d : Nat} {a0 a1 a2 : AV} {st : List AV} {sh : Shp} {I : IM} {R : RM} {k : Nat} (h : tg sh k = 6) (hr : st.length ≤ 8) : ev S d 99 4 [a0, a1, a2] (.inr (.inl k) :: st) (sh, I, R) = bnd (cl d 54 [.inr (.inl k)] (sh, I, R)) (fun v M => ev S d 99 7 [a0, a1, a2] (psh v st) M) := (ev_eq f_99_4).trans (congrArg (fin S d 99) (if_pos ⟨h, rfl, hr⟩))
theorem f_99_7 : fetch 99 7 = some (7, .iconst 0, 1, [], 0) := (fm_99 7).trans rfl
theorem u_99_7 {S : Scr} {d : Nat} {a0 a1 a2 : AV} {st : List AV} {sh : Shp} {I : IM} {R : RM} : ev S d 99 7 [a0, a1, a2] st (sh, I, R) = ev S d 99 8 [a0, a1, a2] (.inl 0 :: st) (sh, I, R) := (ev_eq f_99_7).trans rfl
theorem f_99_8 : fetch 99 8 = some (8, .istore_n 1, 1, [1], 0) := (fm_99 8).trans rfl
theorem u_99_8 {S : Scr} {d : Nat} {a0 a1 a2 : AV} {st : List AV} {sh : Shp} {I : IM} {R : RM} {x : Int} : ev S d 99 8 [a0, a1, a2] (.inl x :: st) (sh, I, R) = ev S d 99 9 [a0, .inl x, a2] st (sh, I, R) := (ev_eq f_99_8).trans rfl
theorem f_99_9 : fetch 99 9 = some (9, .iload_n 1, 1, [1], 0) := (fm_99 9).trans rfl
theorem u_99_9 {S : Scr} {d : Nat} {a0 a2 : AV} {st : List AV} {sh : Shp} {I : IM} {R : RM} {x : Int} : ev S d 99 9 [a0, .inl x, a2] st (sh, I, R) = ev S d 99 10 [a0, .inl x, a2] (.inl x :: st) (sh, I, R) := (ev_eq f_99_9).trans rfl
theorem f_99_10 : fetch 99 10 = some (10, .bipush 8, 2, [], 8) := (fm_99 10).trans rfl
theorem u_99_10 {S : Scr} {d : Nat} {a0 a1 a2 : AV} {st : List AV} {sh : Shp} {I : IM} {R : RM} : ev S d 99 10 [a0, a1, a2] st (sh, I, R) = ev S d 99 12 [a0, a1, a2] (.inl 8 :: st) (sh, I, R) := (ev_eq f_99_10).trans rfl
theorem f_99_12 : fetch 99 12 = some (12, .if_icmp .ge 32, 3, [44], 0) := (fm_99 12).trans rfl
theorem u_99_12 {S : Scr} {d : Nat} {a0 a1 a2 : AV} {st : List AV} {sh : Shp} {I : IM} {R : RM} {x y : Int} : ev S d 99 12 [a0, a1, a2] (.inl y :: .inl x :: st) (sh, I, R) = if y ≤ x then ev S d 99 44 [a0, a1, a2] st (sh, I, R) else ev S d 99 15 [a0, a1, a2] st (sh, I, R) := (ev_eq f_99_12).trans fin_icmp_ge
theorem f_99_15 : fetch 99 15 = some (15, .aload_n 0, 1, [0], 0) := (fm_99 15).trans rfl
theorem u_99_15 {S : Scr} {d : Nat} {a1 a2 : AV} {st : List AV} {sh : Shp} {I : IM} {R : RM} {x : Nat} : ev S d 99 15 [.inr (.inl x), a1, a2] st (sh, I, R) = ev S d 99 16 [.inr (.inl x), a1, a2] (.inr (.inl x) :: st) (sh, I, R) := (ev_eq f_99_15).trans rfl
theorem f_99_16 : fetch 99 16 = some (16, .getfield 48, 3, [8, 6, 1, 61], 0) := (fm_99 16).trans rfl
theorem u_99_16 {S : Scr} {d : Nat} {a0 a1 a2 : AV} {st : List AV} {sh : Shp} {I : IM} {R : RM} {k : Nat} (h : tg sh k = 8) : ev S d 99 16 [a0, a1, a2] (.inr (.inl k) :: st) (sh, I, R) = ev S d 99 19 [a0, a1, a2] (rv (R k 6) :: st) (sh, I, R) := (ev_eq f_99_16).trans (congrArg (fin S d 99) (if_pos h))
theorem f_99_19 : fetch 99 19 = some (19, .iload_n 1, 1, [1], 0) := (fm_99 19).trans rfl
theorem u_99_19 {S : Scr} {d : Nat} {a0 a2 : AV} {st : List AV} {sh : Shp} {I : IM} {R : RM} {x : Int} : ev S d 99 19 [a0, .inl x, a2] st (sh, I, R) = ev S d 99 20 [a0, .inl x, a2] (.inl x :: st) (sh, I, R) := (ev_eq f_99_19).trans rfl
theorem f_99_20 : fetch 99 20 = some (20, .iaload, 1, [], 0) := (fm_99 20).trans rfl
theorem u_99_20 {S : Scr} {d : Nat} {a0 a1 a2 : AV} {st : List AV} {sh : Shp} {I : IM} {R : RM} {k : Nat} {i : Int} (h : tg sh k = 100) (h0 : 0 ≤ i) (h1 : i < ln sh k) : ev S d 99 20 [a0, a1, a2] (.inl i :: .inr (.inl k) :: st) (sh, I, R) = ev S d 99 21 [a0, a1, a2] (.inl (I k i) :: st) (sh, I, R) := (ev_eq f_99_20).trans (congrArg (fin S d 99) (if_pos ⟨h, h0, h1⟩))
theorem f_99_21 : fetch 99 21 = some (21, .iconst (-1), 1, [], (-1)) := (fm_99 21).trans rfl
theorem u_99_21 {S : Scr} {d : Nat} {a0 a1 a2 : AV} {st : List AV} {sh : Shp} {I : IM} {R : RM} : ev S d 99 21 [a0, a1, a2] st (sh, I, R) = ev S d 99 22 [a0, a1, a2] (.inl (-1) :: st) (sh, I, R) := (ev_eq f_99_21).trans rfl
theorem f_99_22 : fetch 99 22 = some (22, .if_icmp .eq 16, 3, [38], 0) := (fm_99 22).trans rfl
theorem u_99_22 {S : Scr} {d : Nat} {a0 a1 a2 : AV} {st : List AV} {sh : Shp} {I : IM} {R : RM} {x y : Int} : ev S d 99 22 [a0, a1, a2] (.inl y :: .inl x :: st) (sh, I, R) = if x = y then ev S d 99 38 [a0, a1, a2] st (sh, I, R) else ev S d 99 25 [a0, a1, a2] st (sh, I, R) := (ev_eq f_99_22).trans fin_icmp_eq
theorem f_99_25 : fetch 99 25 = some (25, .aload_n 0, 1, [0], 0) := (fm_99 25).trans rfl
theorem u_99_25 {S : Scr} {d : Nat} {a1 a2 : AV} {st : List AV} {sh : Shp} {I : IM} {R : RM} {x : Nat} : ev S d 99 25 [.inr (.inl x), a1, a2] st (sh, I, R) = ev S d 99 26 [.inr (.inl x), a1, a2] (.inr (.inl x) :: st) (sh, I, R) := (ev_eq f_99_25).trans rfl
theorem f_99_26 : fetch 99 26 = some (26, .getfield 24, 3, [8, 2, 1, 57], 0) := (fm_99 26).trans rfl
theorem u_99_26 {S : Scr} {d : Nat} {a0 a1 a2 : AV} {st : List AV} {sh : Shp} {I : IM} {R : RM} {k : Nat} (h : tg sh k = 8) : ev S d 99 26 [a0, a1, a2] (.inr (.inl k) :: st) (sh, I, R) = ev S d 99 29 [a0, a1, a2] (rv (R k 2) :: st) (sh, I, R) := (ev_eq f_99_26).trans (congrArg (fin S d 99) (if_pos h))
theorem f_99_29 : fetch 99 29 = some (29, .aload_n 0, 1, [0], 0) := (fm_99 29).trans rfl
theorem u_99_29 {S : Scr} {d : Nat} {a1 a2 : AV} {st : List AV} {sh : Shp} {I : IM} {R : RM} {x : Nat} : ev S d 99 29 [.inr (.inl x), a1, a2] st (sh, I, R) = ev S d 99 30 [.inr (.inl x), a1, a2] (.inr (.inl x) :: st) (sh, I, R) := (ev_eq f_99_29).trans rfl
theorem f_99_30 : fetch 99 30 = some (30, .getfield 48, 3, [8, 6, 1, 61], 0) := (fm_99 30).trans rfl
theorem u_99_30 {S : Scr} {d : Nat} {a0 a1 a2 : AV} {st : List AV} {sh : Shp} {I : IM} {R : RM} {k : Nat} (h : tg sh k = 8) : ev S d 99 30 [a0, a1, a2] (.inr (.inl k) :: st) (sh, I, R) = ev S d 99 33 [a0, a1, a2] (rv (R k 6) :: st) (sh, I, R) := (ev_eq f_99_30).trans (congrArg (fin S d 99) (if_pos h))
theorem f_99_33 : fetch 99 33 = some (33, .iload_n 1, 1, [1], 0) := (fm_99 33).trans rfl
theorem u_99_33 {S : Scr} {d : Nat} {a0 a2 : AV} {st : List AV} {sh : Shp} {I : IM} {R : RM} {x : Int} : ev S d 99 33 [a0, .inl x, a2] st (sh, I, R) = ev S d 99 34 [a0, .inl x, a2] (.inl x :: st) (sh, I, R) := (ev_eq f_99_33).trans rfl
theorem f_99_34 : fetch 99 34 = some (34, .iaload, 1, [], 0) := (fm_99 34).trans rfl
theorem u_99_34 {S : Scr} {d : Nat} {a0 a1 a2 : AV} {st : List AV} {sh : Shp} {I : IM} {R : RM} {k : Nat} {i : Int} (h : tg sh k = 100) (h0 : 0 ≤ i) (h1 : i < ln sh k) : ev S d 99 34 [a0, a1, a2] (.inl i :: .inr (.inl k) :: st) (sh, I, R) = ev S d 99 35 [a0, a1, a2] (.inl (I k i) :: st) (sh, I, R) := (ev_eq f_99_34).trans (congrArg (fin S d 99) (if_pos ⟨h, h0, h1⟩))
theorem f_99_35 : fetch 99 35 = some (35, .invokevirtual 178, 3, [55, 1, 102], 0) := (fm_99 35).trans rfl
theorem u_99_35 {S : Scr} {d : Nat} {a0 a1 a2 : AV} {st : List AV} {sh : Shp} {I : IM} {R : RM} {x0 : Int} {k : Nat} (h : tg sh k = 6) (hr : st.length ≤ 8) : ev S d 99 35 [a0, a1, a2] (.inl x0 :: .inr (.inl k) :: st) (sh, I, R) = bnd (cl d 55 [.inr (.inl k), .inl x0] (sh, I, R)) (fun v M => ev S d 99 38 [a0, a1, a2] (psh v st) M) := (ev_eq f_99_35).trans (congrArg (fin S d 99) (if_pos ⟨h, rfl, hr⟩))
theorem f_99_38 : fetch 99 38 = some (38, .iinc 1 1, 3, [1], 1) := (fm_99 38).trans rfl
theorem u_99_38 {S : Scr} {d : Nat} {a0 a2 : AV} {st : List AV} {sh : Shp} {I : IM} {R : RM} {x : Int} : ev S d 99 38 [a0, .inl x, a2] st (sh, I, R) = ev S d 99 41 [a0, .inl (wr (x + 1)), a2] st (sh, I, R) := (ev_eq f_99_38).trans rfl
theorem f_99_41 : fetch 99 41 = some (41, .goto (-32), 3, [9], 0) := (fm_99 41).trans rfl
theorem u_99_41 {S : Scr} {d : Nat} {a0 a1 a2 : AV} {st : List AV} {sh : Shp} {I : IM} {R : RM} : ev S d 99 41 [a0, a1, a2] st (sh, I, R) = ev S d 99 9 [a0, a1, a2] st (sh, I, R) := (ev_eq f_99_41).trans rfl
theorem f_99_44 : fetch 99 44 = some (44, .iconst 0, 1, [], 0) := (fm_99 44).trans rfl
theorem u_99_44 {S : Scr} {d : Nat} {a0 a1 a2 : AV} {st : List AV} {sh : Shp} {I : IM} {R : RM} : ev S d 99 44 [a0, a1, a2] st (sh, I, R) = ev S d 99 45 [a0, a1, a2] (.inl 0 :: st) (sh, I, R) := (ev_eq f_99_44).trans rfl
theorem f_99_45 : fetch 99 45 = some (45, .istore_n 1, 1, [1], 0) := (fm_99 45).trans rfl
theorem u_99_45 {S : Scr} {d : Nat} {a0 a1 a2 : AV} {st : List AV} {sh : Shp} {I : IM} {R : RM} {x : Int} : ev S d 99 45 [a0, a1, a2] (.inl x :: st) (sh, I, R) = ev S d 99 46 [a0, .inl x, a2] st (sh, I, R) := (ev_eq f_99_45).trans rfl
theorem f_99_46 : fetch 99 46 = some (46, .iconst 0, 1, [], 0) := (fm_99 46).trans rfl
theorem u_99_46 {S : Scr} {d : Nat} {a0 a1 a2 : AV} {st : List AV} {sh : Shp} {I : IM} {R : RM} : ev S d 99 46 [a0, a1, a2] st (sh, I, R) = ev S d 99 47 [a0, a1, a2] (.inl 0 :: st) (sh, I, R) := (ev_eq f_99_46).trans rfl
theorem f_99_47 : fetch 99 47 = some (47, .istore_n 2, 1, [2], 0) := (fm_99 47).trans rfl
theorem u_99_47 {S : Scr} {d : Nat} {a0 a1 a2 : AV} {st : List AV} {sh : Shp} {I : IM} {R : RM} {x : Int} : ev S d 99 47 [a0, a1, a2] (.inl x :: st) (sh, I, R) = ev S d 99 48 [a0, a1, .inl x] st (sh, I, R) := (ev_eq f_99_47).trans rfl
theorem f_99_48 : fetch 99 48 = some (48, .iload_n 2, 1, [2], 0) := (fm_99 48).trans rfl
theorem u_99_48 {S : Scr} {d : Nat} {a0 a1 : AV} {st : List AV} {sh : Shp} {I : IM} {R : RM} {x : Int} : ev S d 99 48 [a0, a1, .inl x] st (sh, I, R) = ev S d 99 49 [a0, a1, .inl x] (.inl x :: st) (sh, I, R) := (ev_eq f_99_48).trans rfl
theorem f_99_49 : fetch 99 49 = some (49, .bipush 30, 2, [], 30) := (fm_99 49).trans rfl
theorem u_99_49 {S : Scr} {d : Nat} {a0 a1 a2 : AV} {st : List AV} {sh : Shp} {I : IM} {R : RM} : ev S d 99 49 [a0, a1, a2] st (sh, I, R) = ev S d 99 51 [a0, a1, a2] (.inl 30 :: st) (sh, I, R) := (ev_eq f_99_49).trans rfl
theorem f_99_51 : fetch 99 51 = some (51, .if_icmp .ge 42, 3, [93], 0) := (fm_99 51).trans rfl
theorem u_99_51 {S : Scr} {d : Nat} {a0 a1 a2 : AV} {st : List AV} {sh : Shp} {I : IM} {R : RM} {x y : Int} : ev S d 99 51 [a0, a1, a2] (.inl y :: .inl x :: st) (sh, I, R) = if y ≤ x then ev S d 99 93 [a0, a1, a2] st (sh, I, R) else ev S d 99 54 [a0, a1, a2] st (sh, I, R) := (ev_eq f_99_51).trans fin_icmp_ge
theorem f_99_54 : fetch 99 54 = some (54, .aload_n 0, 1, [0], 0) := (fm_99 54).trans rfl
theorem u_99_54 {S : Scr} {d : Nat} {a1 a2 : AV} {st : List AV} {sh : Shp} {I : IM} {R : RM} {x : Nat} : ev S d 99 54 [.inr (.inl x), a1, a2] st (sh, I, R) = ev S d 99 55 [.inr (.inl x), a1, a2] (.inr (.inl x) :: st) (sh, I, R) := (ev_eq f_99_54).trans rfl
theorem f_99_55 : fetch 99 55 = some (55, .getfield 10, 3, [8, 0, 1, 55], 0) := (fm_99 55).trans rfl
theorem u_99_55 {S : Scr} {d : Nat} {a0 a1 a2 : AV} {st : List AV} {sh : Shp} {I : IM} {R : RM} {k : Nat} (h : tg sh k = 8) : ev S d 99 55 [a0, a1, a2] (.inr (.inl k) :: st) (sh, I, R) = ev S d 99 58 [a0, a1, a2] (rv (R k 0) :: st) (sh, I, R) := (ev_eq f_99_55).trans (congrArg (fin S d 99) (if_pos h))
theorem f_99_58 : fetch 99 58 = some (58, .iload_n 2, 1, [2], 0) := (fm_99 58).trans rfl
theorem u_99_58 {S : Scr} {d : Nat} {a0 a1 : AV} {st : List AV} {sh : Shp} {I : IM} {R : RM} {x : Int} : ev S d 99 58 [a0, a1, .inl x] st (sh, I, R) = ev S d 99 59 [a0, a1, .inl x] (.inl x :: st) (sh, I, R) := (ev_eq f_99_58).trans rfl
theorem f_99_59 : fetch 99 59 = some (59, .invokevirtual 102, 3, [68, 1, 88], 0) := (fm_99 59).trans rfl
theorem u_99_59 {S : Scr} {d : Nat} {a0 a1 a2 : AV} {st : List AV} {sh : Shp} {I : IM} {R : RM} {x0 : Int} {k : Nat} (h : tg sh k = 7) (hr : st.length ≤ 8) : ev S d 99 59 [a0, a1, a2] (.inl x0 :: .inr (.inl k) :: st) (sh, I, R) = bnd (cl d 68 [.inr (.inl k), .inl x0] (sh, I, R)) (fun v M => ev S d 99 62 [a0, a1, a2] (psh v st) M) := (ev_eq f_99_59).trans (congrArg (fin S d 99) (if_pos ⟨h, rfl, hr⟩))
theorem f_99_62 : fetch 99 62 = some (62, .ifnull 25, 3, [87], 0) := (fm_99 62).trans rfl
theorem u_99_62 {S : Scr} {d : Nat} {a0 a1 a2 : AV} {st : List AV} {sh : Shp} {I : IM} {R : RM} {x : Nat} : ev S d 99 62 [a0, a1, a2] (.inr (.inl x) :: st) (sh, I, R) = ev S d 99 65 [a0, a1, a2] st (sh, I, R) := (ev_eq f_99_62).trans rfl
theorem u_99_62n {S : Scr} {d : Nat} {a0 a1 a2 : AV} {st : List AV} {sh : Shp} {I : IM} {R : RM} : ev S d 99 62 [a0, a1, a2] (.inr (.inr 0) :: st) (sh, I, R) = ev S d 99 87 [a0, a1, a2] st (sh, I, R) := (ev_eq f_99_62).trans rfl
theorem f_99_65 : fetch 99 65 = some (65, .aload_n 0, 1, [0], 0) := (fm_99 65).trans rfl
theorem u_99_65 {S : Scr} {d : Nat} {a1 a2 : AV} {st : List AV} {sh : Shp} {I : IM} {R : RM} {x : Nat} : ev S d 99 65 [.inr (.inl x), a1, a2] st (sh, I, R) = ev S d 99 66 [.inr (.inl x), a1, a2] (.inr (.inl x) :: st) (sh, I, R) := (ev_eq f_99_65).trans rfl
theorem f_99_66 : fetch 99 66 = some (66, .getfield 24, 3, [8, 2, 1, 57], 0) := (fm_99 66).trans rfl
theorem u_99_66 {S : Scr} {d : Nat} {a0 a1 a2 : AV} {st : List AV} {sh : Shp} {I : IM} {R : RM} {k : Nat} (h : tg sh k = 8) : ev S d 99 66 [a0, a1, a2] (.inr (.inl k) :: st) (sh, I, R) = ev S d 99 69 [a0, a1, a2] (rv (R k 2) :: st) (sh, I, R) := (ev_eq f_99_66).trans (congrArg (fin S d 99) (if_pos h))
theorem f_99_69 : fetch 99 69 = some (69, .iload_n 2, 1, [2], 0) := (fm_99 69).trans rfl
theorem u_99_69 {S : Scr} {d : Nat} {a0 a1 : AV} {st : List AV} {sh : Shp} {I : IM} {R : RM} {x : Int} : ev S d 99 69 [a0, a1, .inl x] st (sh, I, R) = ev S d 99 70 [a0, a1, .inl x] (.inl x :: st) (sh, I, R) := (ev_eq f_99_69).trans rfl
theorem f_99_70 : fetch 99 70 = some (70, .invokevirtual 181, 3, [57, 1, 103], 0) := (fm_99 70).trans rfl
theorem u_99_70 {S : Scr} {d : Nat} {a0 a1 a2 : AV} {st : List AV} {sh : Shp} {I : IM} {R : RM} {x0 : Int} {k : Nat} (h : tg sh k = 6) (hr : st.length ≤ 8) : ev S d 99 70 [a0, a1, a2] (.inl x0 :: .inr (.inl k) :: st) (sh, I, R) = bnd (cl d 57 [.inr (.inl k), .inl x0] (sh, I, R)) (fun v M => ev S d 99 73 [a0, a1, a2] (psh v st) M) := (ev_eq f_99_70).trans (congrArg (fin S d 99) (if_pos ⟨h, rfl, hr⟩))
theorem f_99_73 : fetch 99 73 = some (73, .ifCond .ne 14, 3, [87], 0) := (fm_99 73).trans rfl
theorem u_99_73 {S : Scr} {d : Nat} {a0 a1 a2 : AV} {st : List AV} {sh : Shp} {I : IM} {R : RM} {x : Int} : ev S d 99 73 [a0, a1, a2] (.inl x :: st) (sh, I, R) = if ¬ x = 0 then ev S d 99 87 [a0, a1, a2] st (sh, I, R) else ev S d 99 76 [a0, a1, a2] st (sh, I, R) := (ev_eq f_99_73).trans fin_if_ne
theorem f_99_76 : fetch 99 76 = some (76, .aload_n 0, 1, [0], 0) := (fm_99 76).trans rfl
theorem u_99_76 {S : Scr} {d : Nat} {a1 a2 : AV} {st : List AV} {sh : Shp} {I : IM} {R : RM} {x : Nat} : ev S d 99 76 [.inr (.inl x), a1, a2] st (sh, I, R) = ev S d 99 77 [.inr (.inl x), a1, a2] (.inr (.inl x) :: st) (sh, I, R) := (ev_eq f_99_76).trans rfl
theorem f_99_77 : fetch 99 77 = some (77, .getfield 10, 3, [8, 0, 1, 55], 0) := (fm_99 77).trans rfl
theorem u_99_77 {S : Scr} {d : Nat} {a0 a1 a2 : AV} {st : List AV} {sh : Shp} {I : IM} {R : RM} {k : Nat} (h : tg sh k = 8) : ev S d 99 77 [a0, a1, a2] (.inr (.inl k) :: st) (sh, I, R) = ev S d 99 80 [a0, a1, a2] (rv (R k 0) :: st) (sh, I, R) := (ev_eq f_99_77).trans (congrArg (fin S d 99) (if_pos h))
theorem f_99_80 : fetch 99 80 = some (80, .iload_n 2, 1, [2], 0) := (fm_99 80).trans rfl
theorem u_99_80 {S : Scr} {d : Nat} {a0 a1 : AV} {st : List AV} {sh : Shp} {I : IM} {R : RM} {x : Int} : ev S d 99 80 [a0, a1, .inl x] st (sh, I, R) = ev S d 99 81 [a0, a1, .inl x] (.inl x :: st) (sh, I, R) := (ev_eq f_99_80).trans rfl
theorem f_99_81 : fetch 99 81 = some (81, .invokevirtual 184, 3, [75, 1, 104], 0) := (fm_99 81).trans rfl
theorem u_99_81 {S : Scr} {d : Nat} {a0 a1 a2 : AV} {st : List AV} {sh : Shp} {I : IM} {R : RM} {x0 : Int} {k : Nat} (h : tg sh k = 7) (hr : st.length ≤ 8) : ev S d 99 81 [a0, a1, a2] (.inl x0 :: .inr (.inl k) :: st) (sh, I, R) = bnd (cl d 75 [.inr (.inl k), .inl x0] (sh, I, R)) (fun v M => ev S d 99 84 [a0, a1, a2] (psh v st) M) := (ev_eq f_99_81).trans (congrArg (fin S d 99) (if_pos ⟨h, rfl, hr⟩))
theorem f_99_84 : fetch 99 84 = some (84, .iinc 1 1, 3, [1], 1) := (fm_99 84).trans rfl
theorem u_99_84 {S : Scr} {d : Nat} {a0 a2 : AV} {st : List AV} {sh : Shp} {I : IM} {R : RM} {x : Int} : ev S d 99 84 [a0, .inl x, a2] st (sh, I, R) = ev S d 99 87 [a0, .inl (wr (x + 1)), a2] st (sh, I, R) := (ev_eq f_99_84).trans rfl
theorem f_99_87 : fetch 99 87 = some (87, .iinc 2 1, 3, [2], 1) := (fm_99 87).trans rfl
theorem u_99_87 {S : Scr} {d : Nat} {a0 a1 : AV} {st : List AV} {sh : Shp} {I : IM} {R : RM} {x : Int} : ev S d 99 87 [a0, a1, .inl x] st (sh, I, R) = ev S d 99 90 [a0, a1, .inl (wr (x + 1))] st (sh, I, R) := (ev_eq f_99_87).trans rfl
theorem f_99_90 : fetch 99 90 = some (90, .goto (-42), 3, [48], 0) := (fm_99 90).trans rfl
theorem u_99_90 {S : Scr} {d : Nat} {a0 a1 a2 : AV} {st : List AV} {sh : Shp} {I : IM} {R : RM} : ev S d 99 90 [a0, a1, a2] st (sh, I, R) = ev S d 99 48 [a0, a1, a2] st (sh, I, R) := (ev_eq f_99_90).trans rfl
theorem f_99_93 : fetch 99 93 = some (93, .iload_n 1, 1, [1], 0) := (fm_99 93).trans rfl
theorem u_99_93 {S : Scr} {d : Nat} {a0 a2 : AV} {st : List AV} {sh : Shp} {I : IM} {R : RM} {x : Int} : ev S d 99 93 [a0, .inl x, a2] st (sh, I, R) = ev S d 99 94 [a0, .inl x, a2] (.inl x :: st) (sh, I, R) := (ev_eq f_99_93).trans rfl
theorem f_99_94 : fetch 99 94 = some (94, .ireturn, 1, [0], 0) := (fm_99 94).trans rfl
theorem u_99_94 {S : Scr} {d : Nat} {a0 a1 a2 : AV} {sh : Shp} {I : IM} {R : RM} {x : Int} : ev S d 99 94 [a0, a1, a2] [.inl x] (sh, I, R) = some (some (.inl x), (sh, I, R)) := (ev_eq f_99_94).trans fin_iret0
theorem c_100 {d : Nat} {a0 a1 a2 : AV} {M : Mem} : cl (d + 1) 100 [a0, a1, a2] M = ev S0 d 100 0 [a0, a1, a2] [] M := (cl_eq (as := [a0, a1, a2]) (show 3 ≤ maxOf 100 by decide +kernel)).trans rfl
theorem mt_100 : MT[100]? = some m_100 := rfl
theorem fm_100 (pc : Nat) : fetch 100 pc = lk m_100.2.2.2.2.2 pc := by
  unfold fetch
  rw [mt_100]
theorem f_100_0 : fetch 100 0 = some (0, .iload_n 1, 1, [1], 0) := (fm_100 0).trans rfl
theorem u_100_0 {S : Scr} {d : Nat} {a0 a2 : AV} {st : List AV} {sh : Shp} {I : IM} {R : RM} {x : Int} : ev S d 100 0 [a0, .inl x, a2] st (sh, I, R) = ev S d 100 1 [a0, .inl x, a2] (.inl x :: st) (sh, I, R) := (ev_eq f_100_0).trans rfl
theorem f_100_1 : fetch 100 1 = some (1, .invokestatic 187, 3, [121, 1, 105], 0) := (fm_100 1).trans rfl
theorem u_100_1 {S : Scr} {d : Nat} {a0 a1 a2 : AV} {st : List AV} {sh : Shp} {I : IM} {R : RM} {x0 : Int} (hr : st.length ≤ 8) : ev S d 100 1 [a0, a1, a2] (.inl x0 :: st) (sh, I, R) = bnd (cl d 121 [.inl x0] (sh, I, R)) (fun v M => ev S d 100 4 [a0, a1, a2] (psh v st) M) := (ev_eq f_100_1).trans (congrArg (fin S d 100) (if_pos ⟨rfl, hr⟩))
theorem f_100_4 : fetch 100 4 = some (4, .ifCond .eq 10, 3, [14], 0) := (fm_100 4).trans rfl
theorem u_100_4 {S : Scr} {d : Nat} {a0 a1 a2 : AV} {st : List AV} {sh : Shp} {I : IM} {R : RM} {x : Int} : ev S d 100 4 [a0, a1, a2] (.inl x :: st) (sh, I, R) = if x = 0 then ev S d 100 14 [a0, a1, a2] st (sh, I, R) else ev S d 100 7 [a0, a1, a2] st (sh, I, R) := (ev_eq f_100_4).trans fin_if_eq
theorem f_100_7 : fetch 100 7 = some (7, .iload_n 2, 1, [2], 0) := (fm_100 7).trans rfl
theorem u_100_7 {S : Scr} {d : Nat} {a0 a1 : AV} {st : List AV} {sh : Shp} {I : IM} {R : RM} {x : Int} : ev S d 100 7 [a0, a1, .inl x] st (sh, I, R) = ev S d 100 8 [a0, a1, .inl x] (.inl x :: st) (sh, I, R) := (ev_eq f_100_7).trans rfl
theorem f_100_8 : fetch 100 8 = some (8, .sipush 200, 3, [], 200) := (fm_100 8).trans rfl
theorem u_100_8 {S : Scr} {d : Nat} {a0 a1 a2 : AV} {st : List AV} {sh : Shp} {I : IM} {R : RM} : ev S d 100 8 [a0, a1, a2] st (sh, I, R) = ev S d 100 11 [a0, a1, a2] (.inl 200 :: st) (sh, I, R) := (ev_eq f_100_8).trans rfl
theorem f_100_11 : fetch 100 11 = some (11, .if_icmp .le 5, 3, [16], 0) := (fm_100 11).trans rfl
theorem u_100_11 {S : Scr} {d : Nat} {a0 a1 a2 : AV} {st : List AV} {sh : Shp} {I : IM} {R : RM} {x y : Int} : ev S d 100 11 [a0, a1, a2] (.inl y :: .inl x :: st) (sh, I, R) = if x ≤ y then ev S d 100 16 [a0, a1, a2] st (sh, I, R) else ev S d 100 14 [a0, a1, a2] st (sh, I, R) := (ev_eq f_100_11).trans fin_icmp_le
theorem f_100_14 : fetch 100 14 = some (14, .iconst (-1), 1, [], (-1)) := (fm_100 14).trans rfl
theorem u_100_14 {S : Scr} {d : Nat} {a0 a1 a2 : AV} {st : List AV} {sh : Shp} {I : IM} {R : RM} : ev S d 100 14 [a0, a1, a2] st (sh, I, R) = ev S d 100 15 [a0, a1, a2] (.inl (-1) :: st) (sh, I, R) := (ev_eq f_100_14).trans rfl
theorem f_100_15 : fetch 100 15 = some (15, .ireturn, 1, [0], 0) := (fm_100 15).trans rfl
theorem u_100_15 {S : Scr} {d : Nat} {a0 a1 a2 : AV} {sh : Shp} {I : IM} {R : RM} {x : Int} : ev S d 100 15 [a0, a1, a2] [.inl x] (sh, I, R) = some (some (.inl x), (sh, I, R)) := (ev_eq f_100_15).trans fin_iret0
theorem f_100_16 : fetch 100 16 = some (16, .iload_n 2, 1, [2], 0) := (fm_100 16).trans rfl
theorem u_100_16 {S : Scr} {d : Nat} {a0 a1 : AV} {st : List AV} {sh : Shp} {I : IM} {R : RM} {x : Int} : ev S d 100 16 [a0, a1, .inl x] st (sh, I, R) = ev S d 100 17 [a0, a1, .inl x] (.inl x :: st) (sh, I, R) := (ev_eq f_100_16).trans rfl
theorem f_100_17 : fetch 100 17 = some (17, .iconst (-1), 1, [], (-1)) := (fm_100 17).trans rfl
theorem u_100_17 {S : Scr} {d : Nat} {a0 a1 a2 : AV} {st : List AV} {sh : Shp} {I : IM} {R : RM} : ev S d 100 17 [a0, a1, a2] st (sh, I, R) = ev S d 100 18 [a0, a1, a2] (.inl (-1) :: st) (sh, I, R) := (ev_eq f_100_17).trans rfl
theorem f_100_18 : fetch 100 18 = some (18, .if_icmp .ge 6, 3, [24], 0) := (fm_100 18).trans rfl
theorem u_100_18 {S : Scr} {d : Nat} {a0 a1 a2 : AV} {st : List AV} {sh : Shp} {I : IM} {R : RM} {x y : Int} : ev S d 100 18 [a0, a1, a2] (.inl y :: .inl x :: st) (sh, I, R) = if y ≤ x then ev S d 100 24 [a0, a1, a2] st (sh, I, R) else ev S d 100 21 [a0, a1, a2] st (sh, I, R) := (ev_eq f_100_18).trans fin_icmp_ge
theorem f_100_21 : fetch 100 21 = some (21, .bipush (-14), 2, [], (-14)) := (fm_100 21).trans rfl
theorem u_100_21 {S : Scr} {d : Nat} {a0 a1 a2 : AV} {st : List AV} {sh : Shp} {I : IM} {R : RM} : ev S d 100 21 [a0, a1, a2] st (sh, I, R) = ev S d 100 23 [a0, a1, a2] (.inl (-14) :: st) (sh, I, R) := (ev_eq f_100_21).trans rfl
theorem f_100_23 : fetch 100 23 = some (23, .ireturn, 1, [0], 0) := (fm_100 23).trans rfl
theorem u_100_23 {S : Scr} {d : Nat} {a0 a1 a2 : AV} {sh : Shp} {I : IM} {R : RM} {x : Int} : ev S d 100 23 [a0, a1, a2] [.inl x] (sh, I, R) = some (some (.inl x), (sh, I, R)) := (ev_eq f_100_23).trans fin_iret0
theorem f_100_24 : fetch 100 24 = some (24, .aload_n 0, 1, [0], 0) := (fm_100 24).trans rfl
theorem u_100_24 {S : Scr} {d : Nat} {a1 a2 : AV} {st : List AV} {sh : Shp} {I : IM} {R : RM} {x : Nat} : ev S d 100 24 [.inr (.inl x), a1, a2] st (sh, I, R) = ev S d 100 25 [.inr (.inl x), a1, a2] (.inr (.inl x) :: st) (sh, I, R) := (ev_eq f_100_24).trans rfl
theorem f_100_25 : fetch 100 25 = some (25, .getfield 44, 3, [8, 5, 1, 60], 0) := (fm_100 25).trans rfl
theorem u_100_25 {S : Scr} {d : Nat} {a0 a1 a2 : AV} {st : List AV} {sh : Shp} {I : IM} {R : RM} {k : Nat} (h : tg sh k = 8) : ev S d 100 25 [a0, a1, a2] (.inr (.inl k) :: st) (sh, I, R) = ev S d 100 28 [a0, a1, a2] (rv (R k 5) :: st) (sh, I, R) := (ev_eq f_100_25).trans (congrArg (fin S d 100) (if_pos h))
theorem f_100_28 : fetch 100 28 = some (28, .iload_n 1, 1, [1], 0) := (fm_100 28).trans rfl
theorem u_100_28 {S : Scr} {d : Nat} {a0 a2 : AV} {st : List AV} {sh : Shp} {I : IM} {R : RM} {x : Int} : ev S d 100 28 [a0, .inl x, a2] st (sh, I, R) = ev S d 100 29 [a0, .inl x, a2] (.inl x :: st) (sh, I, R) := (ev_eq f_100_28).trans rfl
theorem f_100_29 : fetch 100 29 = some (29, .aaload, 1, [], 0) := (fm_100 29).trans rfl
theorem u_100_29 {S : Scr} {d : Nat} {a0 a1 a2 : AV} {st : List AV} {sh : Shp} {I : IM} {R : RM} {k : Nat} {i : Int} (h : 200 ≤ tg sh k ∧ tg sh k < 210) (h0 : 0 ≤ i) (h1 : i < ln sh k) : ev S d 100 29 [a0, a1, a2] (.inl i :: .inr (.inl k) :: st) (sh, I, R) = ev S d 100 30 [a0, a1, a2] (rv (R k i) :: st) (sh, I, R) := (ev_eq f_100_29).trans (congrArg (fin S d 100) (if_pos ⟨h.1, h.2, h0, h1⟩))
theorem f_100_30 : fetch 100 30 = some (30, .iload_n 2, 1, [2], 0) := (fm_100 30).trans rfl
theorem u_100_30 {S : Scr} {d : Nat} {a0 a1 : AV} {st : List AV} {sh : Shp} {I : IM} {R : RM} {x : Int} : ev S d 100 30 [a0, a1, .inl x] st (sh, I, R) = ev S d 100 31 [a0, a1, .inl x] (.inl x :: st) (sh, I, R) := (ev_eq f_100_30).trans rfl
theorem f_100_31 : fetch 100 31 = some (31, .invokevirtual 190, 3, [49, 1, 106], 0) := (fm_100 31).trans rfl
theorem u_100_31 {S : Scr} {d : Nat} {a0 a1 a2 : AV} {st : List AV} {sh : Shp} {I : IM} {R : RM} {x0 : Int} {k : Nat} (h : tg sh k = 5) (hr : st.length ≤ 8) : ev S d 100 31 [a0, a1, a2] (.inl x0 :: .inr (.inl k) :: st) (sh, I, R) = bnd (cl d 49 [.inr (.inl k), .inl x0] (sh, I, R)) (fun v M => ev S d 100 34 [a0, a1, a2] (psh v st) M) := (ev_eq f_100_31).trans (congrArg (fin S d 100) (if_pos ⟨h, rfl, hr⟩))
theorem f_100_34 : fetch 100 34 = some (34, .iconst 1, 1, [], 1) := (fm_100 34).trans rfl
theorem u_100_34 {S : Scr} {d : Nat} {a0 a1 a2 : AV} {st : List AV} {sh : Shp} {I : IM} {R : RM} : ev S d 100 34 [a0, a1, a2] st (sh, I, R) = ev S d 100 35 [a0, a1, a2] (.inl 1 :: st) (sh, I, R) := (ev_eq f_100_34).trans rfl
theorem f_100_35 : fetch 100 35 = some (35, .ireturn, 1, [0], 0) := (fm_100 35).trans rfl
theorem u_100_35 {S : Scr} {d : Nat} {a0 a1 a2 : AV} {sh : Shp} {I : IM} {R : RM} {x : Int} : ev S d 100 35 [a0, a1, a2] [.inl x] (sh, I, R) = some (some (.inl x), (sh, I, R)) := (ev_eq f_100_35).trans fin_iret0
theorem c_101 {d : Nat} {a0 a1 a2 a3 : AV} {M : Mem} : cl (d + 1) 101 [a0, a1, a2, a3] M = ev S0 d 101 0 [a0, a1, a2, a3, .inr (.inr 1), .inr (.inr 1)] [] M := (cl_eq (as := [a0, a1, a2, a3]) (show 4 ≤ maxOf 101 by decide +kernel)).trans rfl
theorem mt_101 : MT[101]? = some m_101 := rfl
theorem fm_101 (pc : Nat) : fetch 101 pc = lk m_101.2.2.2.2.2 pc := by
  unfold fetch
  rw [mt_101]
theorem f_101_0 : fetch 101 0 = some (0, .iload_n 1, 1, [1], 0) := (fm_101 0).trans rfl
theorem u_101_0 {S : Scr} {d : Nat} {a0 a2 a3 a4 a5 : AV} {st : List AV} {sh : Shp} {I : IM} {R : RM} {x : Int} : ev S d 101 0 [a0, .inl x, a2, a3, a4, a5] st (sh, I, R) = ev S d 101 1 [a0, .inl x, a2, a3, a4, a5] (.inl x :: st) (sh, I, R) := (ev_eq f_101_0).trans rfl
theorem f_101_1 : fetch 101 1 = some (1, .invokestatic 187, 3, [121, 1, 105], 0) := (fm_101 1).trans rfl
theorem u_101_1 {S : Scr} {d : Nat} {a0 a1 a2 a3 a4 a5 : AV} {st : List AV} {sh : Shp} {I : IM} {R : RM} {x0 : Int} (hr : st.length ≤ 8) : ev S d 101 1 [a0, a1, a2, a3, a4, a5] (.inl x0 :: st) (sh, I, R) = bnd (cl d 121 [.inl x0] (sh, I, R)) (fun v M => ev S d 101 4 [a0, a1, a2, a3, a4, a5] (psh v st) M) := (ev_eq f_101_1).trans (congrArg (fin S d 101) (if_pos ⟨rfl, hr⟩))
theorem f_101_4 : fetch 101 4 = some (4, .ifCond .eq 14, 3, [18], 0) := (fm_101 4).trans rfl
theorem u_101_4 {S : Scr} {d : Nat} {a0 a1 a2 a3 a4 a5 : AV} {st : List AV} {sh : Shp} {I : IM} {R : RM} {x : Int} : ev S d 101 4 [a0, a1, a2, a3, a4, a5] (.inl x :: st) (sh, I, R) = if x = 0 then ev S d 101 18 [a0, a1, a2, a3, a4, a5] st (sh, I, R) else ev S d 101 7 [a0, a1, a2, a3, a4, a5] st (sh, I, R) := (ev_eq f_101_4).trans fin_if_eq
theorem f_101_7 : fetch 101 7 = some (7, .iload_n 3, 1, [3], 0) := (fm_101 7).trans rfl
theorem u_101_7 {S : Scr} {d : Nat} {a0 a1 a2 a4 a5 : AV} {st : List AV} {sh : Shp} {I : IM} {R : RM} {x : Int} : ev S d 101 7 [a0, a1, a2, .inl x, a4, a5] st (sh, I, R) = ev S d 101 8 [a0, a1, a2, .inl x, a4, a5] (.inl x :: st) (sh, I, R) := (ev_eq f_101_7).trans rfl
theorem f_101_8 : fetch 101 8 = some (8, .ifCond .lt 10, 3, [18], 0) := (fm_101 8).trans rfl
theorem u_101_8 {S : Scr} {d : Nat} {a0 a1 a2 a3 a4 a5 : AV} {st : List AV} {sh : Shp} {I : IM} {R : RM} {x : Int} : ev S d 101 8 [a0, a1, a2, a3, a4, a5] (.inl x :: st) (sh, I, R) = if x < 0 then ev S d 101 18 [a0, a1, a2, a3, a4, a5] st (sh, I, R) else ev S d 101 11 [a0, a1, a2, a3, a4, a5] st (sh, I, R) := (ev_eq f_101_8).trans fin_if_lt
theorem f_101_11 : fetch 101 11 = some (11, .iload_n 3, 1, [3], 0) := (fm_101 11).trans rfl
theorem u_101_11 {S : Scr} {d : Nat} {a0 a1 a2 a4 a5 : AV} {st : List AV} {sh : Shp} {I : IM} {R : RM} {x : Int} : ev S d 101 11 [a0, a1, a2, .inl x, a4, a5] st (sh, I, R) = ev S d 101 12 [a0, a1, a2, .inl x, a4, a5] (.inl x :: st) (sh, I, R) := (ev_eq f_101_11).trans rfl
theorem f_101_12 : fetch 101 12 = some (12, .sipush 255, 3, [], 255) := (fm_101 12).trans rfl
theorem u_101_12 {S : Scr} {d : Nat} {a0 a1 a2 a3 a4 a5 : AV} {st : List AV} {sh : Shp} {I : IM} {R : RM} : ev S d 101 12 [a0, a1, a2, a3, a4, a5] st (sh, I, R) = ev S d 101 15 [a0, a1, a2, a3, a4, a5] (.inl 255 :: st) (sh, I, R) := (ev_eq f_101_12).trans rfl
theorem f_101_15 : fetch 101 15 = some (15, .if_icmp .le 5, 3, [20], 0) := (fm_101 15).trans rfl
theorem u_101_15 {S : Scr} {d : Nat} {a0 a1 a2 a3 a4 a5 : AV} {st : List AV} {sh : Shp} {I : IM} {R : RM} {x y : Int} : ev S d 101 15 [a0, a1, a2, a3, a4, a5] (.inl y :: .inl x :: st) (sh, I, R) = if x ≤ y then ev S d 101 20 [a0, a1, a2, a3, a4, a5] st (sh, I, R) else ev S d 101 18 [a0, a1, a2, a3, a4, a5] st (sh, I, R) := (ev_eq f_101_15).trans fin_icmp_le
theorem f_101_18 : fetch 101 18 = some (18, .iconst (-1), 1, [], (-1)) := (fm_101 18).trans rfl
theorem u_101_18 {S : Scr} {d : Nat} {a0 a1 a2 a3 a4 a5 : AV} {st : List AV} {sh : Shp} {I : IM} {R : RM} : ev S d 101 18 [a0, a1, a2, a3, a4, a5] st (sh, I, R) = ev S d 101 19 [a0, a1, a2, a3, a4, a5] (.inl (-1) :: st) (sh, I, R) := (ev_eq f_101_18).trans rfl
theorem f_101_19 : fetch 101 19 = some (19, .ireturn, 1, [0], 0) := (fm_101 19).trans rfl
theorem u_101_19 {S : Scr} {d : Nat} {a0 a1 a2 a3 a4 a5 : AV} {sh : Shp} {I : IM} {R : RM} {x : Int} : ev S d 101 19 [a0, a1, a2, a3, a4, a5] [.inl x] (sh, I, R) = some (some (.inl x), (sh, I, R)) := (ev_eq f_101_19).trans fin_iret0
theorem f_101_20 : fetch 101 20 = some (20, .aload_n 0, 1, [0], 0) := (fm_101 20).trans rfl
theorem u_101_20 {S : Scr} {d : Nat} {a1 a2 a3 a4 a5 : AV} {st : List AV} {sh : Shp} {I : IM} {R : RM} {x : Nat} : ev S d 101 20 [.inr (.inl x), a1, a2, a3, a4, a5] st (sh, I, R) = ev S d 101 21 [.inr (.inl x), a1, a2, a3, a4, a5] (.inr (.inl x) :: st) (sh, I, R) := (ev_eq f_101_20).trans rfl
theorem f_101_21 : fetch 101 21 = some (21, .getfield 44, 3, [8, 5, 1, 60], 0) := (fm_101 21).trans rfl
theorem u_101_21 {S : Scr} {d : Nat} {a0 a1 a2 a3 a4 a5 : AV} {st : List AV} {sh : Shp} {I : IM} {R : RM} {k : Nat} (h : tg sh k = 8) : ev S d 101 21 [a0, a1, a2, a3, a4, a5] (.inr (.inl k) :: st) (sh, I, R) = ev S d 101 24 [a0, a1, a2, a3, a4, a5] (rv (R k 5) :: st) (sh, I, R) := (ev_eq f_101_21).trans (congrArg (fin S d 101) (if_pos h))
theorem f_101_24 : fetch 101 24 = some (24, .iload_n 1, 1, [1], 0) := (fm_101 24).trans rfl
theorem u_101_24 {S : Scr} {d : Nat} {a0 a2 a3 a4 a5 : AV} {st : List AV} {sh : Shp} {I : IM} {R : RM} {x : Int} : ev S d 101 24 [a0, .inl x, a2, a3, a4, a5] st (sh, I, R) = ev S d 101 25 [a0, .inl x, a2, a3, a4, a5] (.inl x :: st) (sh, I, R) := (ev_eq f_101_24).trans rfl
theorem f_101_25 : fetch 101 25 = some (25, .aaload, 1, [], 0) := (fm_101 25).trans rfl
theorem u_101_25 {S : Scr} {d : Nat} {a0 a1 a2 a3 a4 a5 : AV} {st : List AV} {sh : Shp} {I : IM} {R : RM} {k : Nat} {i : Int} (h : 200 ≤ tg sh k ∧ tg sh k < 210) (h0 : 0 ≤ i) (h1 : i < ln sh k) : ev S d 101 25 [a0, a1, a2, a3, a4, a5] (.inl i :: .inr (.inl k) :: st) (sh, I, R) = ev S d 101 26 [a0, a1, a2, a3, a4, a5] (rv (R k i) :: st) (sh, I, R) := (ev_eq f_101_25).trans (congrArg (fin S d 101) (if_pos ⟨h.1, h.2, h0, h1⟩))
theorem f_101_26 : fetch 101 26 = some (26, .astore 4, 2, [4], 0) := (fm_101 26).trans rfl
theorem u_101_26 {S : Scr} {d : Nat} {a0 a1 a2 a3 a4 a5 : AV} {st : List AV} {sh : Shp} {I : IM} {R : RM} {x : Nat} : ev S d 101 26 [a0, a1, a2, a3, a4, a5] (.inr (.inl x) :: st) (sh, I, R) = ev S d 101 28 [a0, a1, a2, a3, .inr (.inl x), a5] st (sh, I, R) := (ev_eq f_101_26).trans rfl
theorem u_101_26n {S : Scr} {d : Nat} {a0 a1 a2 a3 a4 a5 : AV} {st : List AV} {sh : Shp} {I : IM} {R : RM} : ev S d 101 26 [a0, a1, a2, a3, a4, a5] (.inr (.inr 0) :: st) (sh, I, R) = ev S d 101 28 [a0, a1, a2, a3, .inr (.inr 0), a5] st (sh, I, R) := (ev_eq f_101_26).trans rfl
theorem f_101_28 : fetch 101 28 = some (28, .aload 4, 2, [4], 0) := (fm_101 28).trans rfl
theorem u_101_28 {S : Scr} {d : Nat} {a0 a1 a2 a3 a5 : AV} {st : List AV} {sh : Shp} {I : IM} {R : RM} {x : Nat} : ev S d 101 28 [a0, a1, a2, a3, .inr (.inl x), a5] st (sh, I, R) = ev S d 101 30 [a0, a1, a2, a3, .inr (.inl x), a5] (.inr (.inl x) :: st) (sh, I, R) := (ev_eq f_101_28).trans rfl
theorem u_101_28n {S : Scr} {d : Nat} {a0 a1 a2 a3 a5 : AV} {st : List AV} {sh : Shp} {I : IM} {R : RM} : ev S d 101 28 [a0, a1, a2, a3, .inr (.inr 0), a5] st (sh, I, R) = ev S d 101 30 [a0, a1, a2, a3, .inr (.inr 0), a5] (.inr (.inr 0) :: st) (sh, I, R) := (ev_eq f_101_28).trans rfl
theorem f_101_30 : fetch 101 30 = some (30, .invokevirtual 193, 3, [45, 0, 107], 0) := (fm_101 30).trans rfl
theorem u_101_30 {S : Scr} {d : Nat} {a0 a1 a2 a3 a4 a5 : AV} {st : List AV} {sh : Shp} {I : IM} {R : RM} {k : Nat} (h : tg sh k = 5) (hr : st.length ≤ 8) : ev S d 101 30 [a0, a1, a2, a3, a4, a5] (.inr (.inl k) :: st) (sh, I, R) = bnd (cl d 45 [.inr (.inl k)] (sh, I, R)) (fun v M => ev S d 101 33 [a0, a1, a2, a3, a4, a5] (psh v st) M) := (ev_eq f_101_30).trans (congrArg (fin S d 101) (if_pos ⟨h, rfl, hr⟩))
theorem f_101_33 : fetch 101 33 = some (33, .ifCond .eq 6, 3, [39], 0) := (fm_101 33).trans rfl
theorem u_101_33 {S : Scr} {d : Nat} {a0 a1 a2 a3 a4 a5 : AV} {st : List AV} {sh : Shp} {I : IM} {R : RM} {x : Int} : ev S d 101 33 [a0, a1, a2, a3, a4, a5] (.inl x :: st) (sh, I, R) = if x = 0 then ev S d 101 39 [a0, a1, a2, a3, a4, a5] st (sh, I, R) else ev S d 101 36 [a0, a1, a2, a3, a4, a5] st (sh, I, R) := (ev_eq f_101_33).trans fin_if_eq
theorem f_101_36 : fetch 101 36 = some (36, .bipush (-11), 2, [], (-11)) := (fm_101 36).trans rfl
theorem u_101_36 {S : Scr} {d : Nat} {a0 a1 a2 a3 a4 a5 : AV} {st : List AV} {sh : Shp} {I : IM} {R : RM} : ev S d 101 36 [a0, a1, a2, a3, a4, a5] st (sh, I, R) = ev S d 101 38 [a0, a1, a2, a3, a4, a5] (.inl (-11) :: st) (sh, I, R) := (ev_eq f_101_36).trans rfl
theorem f_101_38 : fetch 101 38 = some (38, .ireturn, 1, [0], 0) := (fm_101 38).trans rfl
theorem u_101_38 {S : Scr} {d : Nat} {a0 a1 a2 a3 a4 a5 : AV} {sh : Shp} {I : IM} {R : RM} {x : Int} : ev S d 101 38 [a0, a1, a2, a3, a4, a5] [.inl x] (sh, I, R) = some (some (.inl x), (sh, I, R)) := (ev_eq f_101_38).trans fin_iret0
theorem f_101_39 : fetch 101 39 = some (39, .aload 4, 2, [4], 0) := (fm_101 39).trans rfl
theorem u_101_39 {S : Scr} {d : Nat} {a0 a1 a2 a3 a5 : AV} {st : List AV} {sh : Shp} {I : IM} {R : RM} {x : Nat} : ev S d 101 39 [a0, a1, a2, a3, .inr (.inl x), a5] st (sh, I, R) = ev S d 101 41 [a0, a1, a2, a3, .inr (.inl x), a5] (.inr (.inl x) :: st) (sh, I, R) := (ev_eq f_101_39).trans rfl
theorem u_101_39n {S : Scr} {d : Nat} {a0 a1 a2 a3 a5 : AV} {st : List AV} {sh : Shp} {I : IM} {R : RM} : ev S d 101 39 [a0, a1, a2, a3, .inr (.inr 0), a5] st (sh, I, R) = ev S d 101 41 [a0, a1, a2, a3, .inr (.inr 0), a5] (.inr (.inr 0) :: st) (sh, I, R) := (ev_eq f_101_39).trans rfl
theorem f_101_41 : fetch 101 41 = some (41, .iload_n 2, 1, [2], 0) := (fm_101 41).trans rfl
theorem u_101_41 {S : Scr} {d : Nat} {a0 a1 a3 a4 a5 : AV} {st : List AV} {sh : Shp} {I : IM} {R : RM} {x : Int} : ev S d 101 41 [a0, a1, .inl x, a3, a4, a5] st (sh, I, R) = ev S d 101 42 [a0, a1, .inl x, a3, a4, a5] (.inl x :: st) (sh, I, R) := (ev_eq f_101_41).trans rfl
theorem f_101_42 : fetch 101 42 = some (42, .invokevirtual 196, 3, [47, 1, 108], 0) := (fm_101 42).trans rfl
theorem u_101_42 {S : Scr} {d : Nat} {a0 a1 a2 a3 a4 a5 : AV} {st : List AV} {sh : Shp} {I : IM} {R : RM} {x0 : Int} {k : Nat} (h : tg sh k = 5) (hr : st.length ≤ 8) : ev S d 101 42 [a0, a1, a2, a3, a4, a5] (.inl x0 :: .inr (.inl k) :: st) (sh, I, R) = bnd (cl d 47 [.inr (.inl k), .inl x0] (sh, I, R)) (fun v M => ev S d 101 45 [a0, a1, a2, a3, a4, a5] (psh v st) M) := (ev_eq f_101_42).trans (congrArg (fin S d 101) (if_pos ⟨h, rfl, hr⟩))
theorem f_101_45 : fetch 101 45 = some (45, .ifCond .ne 6, 3, [51], 0) := (fm_101 45).trans rfl
theorem u_101_45 {S : Scr} {d : Nat} {a0 a1 a2 a3 a4 a5 : AV} {st : List AV} {sh : Shp} {I : IM} {R : RM} {x : Int} : ev S d 101 45 [a0, a1, a2, a3, a4, a5] (.inl x :: st) (sh, I, R) = if ¬ x = 0 then ev S d 101 51 [a0, a1, a2, a3, a4, a5] st (sh, I, R) else ev S d 101 48 [a0, a1, a2, a3, a4, a5] st (sh, I, R) := (ev_eq f_101_45).trans fin_if_ne
theorem f_101_48 : fetch 101 48 = some (48, .bipush (-13), 2, [], (-13)) := (fm_101 48).trans rfl
theorem u_101_48 {S : Scr} {d : Nat} {a0 a1 a2 a3 a4 a5 : AV} {st : List AV} {sh : Shp} {I : IM} {R : RM} : ev S d 101 48 [a0, a1, a2, a3, a4, a5] st (sh, I, R) = ev S d 101 50 [a0, a1, a2, a3, a4, a5] (.inl (-13) :: st) (sh, I, R) := (ev_eq f_101_48).trans rfl
theorem f_101_50 : fetch 101 50 = some (50, .ireturn, 1, [0], 0) := (fm_101 50).trans rfl
theorem u_101_50 {S : Scr} {d : Nat} {a0 a1 a2 a3 a4 a5 : AV} {sh : Shp} {I : IM} {R : RM} {x : Int} : ev S d 101 50 [a0, a1, a2, a3, a4, a5] [.inl x] (sh, I, R) = some (some (.inl x), (sh, I, R)) := (ev_eq f_101_50).trans fin_iret0
theorem f_101_51 : fetch 101 51 = some (51, .aload 4, 2, [4], 0) := (fm_101 51).trans rfl
theorem u_101_51 {S : Scr} {d : Nat} {a0 a1 a2 a3 a5 : AV} {st : List AV} {sh : Shp} {I : IM} {R : RM} {x : Nat} : ev S d 101 51 [a0, a1, a2, a3, .inr (.inl x), a5] st (sh, I, R) = ev S d 101 53 [a0, a1, a2, a3, .inr (.inl x), a5] (.inr (.inl x) :: st) (sh, I, R) := (ev_eq f_101_51).trans rfl
theorem u_101_51n {S : Scr} {d : Nat} {a0 a1 a2 a3 a5 : AV} {st : List AV} {sh : Shp} {I : IM} {R : RM} : ev S d 101 51 [a0, a1, a2, a3, .inr (.inr 0), a5] st (sh, I, R) = ev S d 101 53 [a0, a1, a2, a3, .inr (.inr 0), a5] (.inr (.inr 0) :: st) (sh, I, R) := (ev_eq f_101_51).trans rfl
theorem f_101_53 : fetch 101 53 = some (53, .getfield 197, 3, [5, 0, 1, 73], 0) := (fm_101 53).trans rfl
theorem u_101_53 {S : Scr} {d : Nat} {a0 a1 a2 a3 a4 a5 : AV} {st : List AV} {sh : Shp} {I : IM} {R : RM} {k : Nat} (h : tg sh k = 5) : ev S d 101 53 [a0, a1, a2, a3, a4, a5] (.inr (.inl k) :: st) (sh, I, R) = ev S d 101 56 [a0, a1, a2, a3, a4, a5] (rv (R k 0) :: st) (sh, I, R) := (ev_eq f_101_53).trans (congrArg (fin S d 101) (if_pos h))
theorem f_101_56 : fetch 101 56 = some (56, .iload_n 2, 1, [2], 0) := (fm_101 56).trans rfl
theorem u_101_56 {S : Scr} {d : Nat} {a0 a1 a3 a4 a5 : AV} {st : List AV} {sh : Shp} {I : IM} {R : RM} {x : Int} : ev S d 101 56 [a0, a1, .inl x, a3, a4, a5] st (sh, I, R) = ev S d 101 57 [a0, a1, .inl x, a3, a4, a5] (.inl x :: st) (sh, I, R) := (ev_eq f_101_56).trans rfl
theorem f_101_57 : fetch 101 57 = some (57, .iaload, 1, [], 0) := (fm_101 57).trans rfl
theorem u_101_57 {S : Scr} {d : Nat} {a0 a1 a2 a3 a4 a5 : AV} {st : List AV} {sh : Shp} {I : IM} {R : RM} {k : Nat} {i : Int} (h : tg sh k = 100) (h0 : 0 ≤ i) (h1 : i < ln sh k) : ev S d 101 57 [a0, a1, a2, a3, a4, a5] (.inl i :: .inr (.inl k) :: st) (sh, I, R) = ev S d 101 58 [a0, a1, a2, a3, a4, a5] (.inl (I k i) :: st) (sh, I, R) := (ev_eq f_101_57).trans (congrArg (fin S d 101) (if_pos ⟨h, h0, h1⟩))
theorem f_101_58 : fetch 101 58 = some (58, .istore 5, 2, [5], 0) := (fm_101 58).trans rfl
theorem u_101_58 {S : Scr} {d : Nat} {a0 a1 a2 a3 a4 a5 : AV} {st : List AV} {sh : Shp} {I : IM} {R : RM} {x : Int} : ev S d 101 58 [a0, a1, a2, a3, a4, a5] (.inl x :: st) (sh, I, R) = ev S d 101 60 [a0, a1, a2, a3, a4, .inl x] st (sh, I, R) := (ev_eq f_101_58).trans rfl
theorem f_101_60 : fetch 101 60 = some (60, .aload 4, 2, [4], 0) := (fm_101 60).trans rfl
theorem u_101_60 {S : Scr} {d : Nat} {a0 a1 a2 a3 a5 : AV} {st : List AV} {sh : Shp} {I : IM} {R : RM} {x : Nat} : ev S d 101 60 [a0, a1, a2, a3, .inr (.inl x), a5] st (sh, I, R) = ev S d 101 62 [a0, a1, a2, a3, .inr (.inl x), a5] (.inr (.inl x) :: st) (sh, I, R) := (ev_eq f_101_60).trans rfl
theorem u_101_60n {S : Scr} {d : Nat} {a0 a1 a2 a3 a5 : AV} {st : List AV} {sh : Shp} {I : IM} {R : RM} : ev S d 101 60 [a0, a1, a2, a3, .inr (.inr 0), a5] st (sh, I, R) = ev S d 101 62 [a0, a1, a2, a3, .inr (.inr 0), a5] (.inr (.inr 0) :: st) (sh, I, R) := (ev_eq f_101_60).trans rfl
theorem f_101_62 : fetch 101 62 = some (62, .getfield 197, 3, [5, 0, 1, 73], 0) := (fm_101 62).trans rfl
theorem u_101_62 {S : Scr} {d : Nat} {a0 a1 a2 a3 a4 a5 : AV} {st : List AV} {sh : Shp} {I : IM} {R : RM} {k : Nat} (h : tg sh k = 5) : ev S d 101 62 [a0, a1, a2, a3, a4, a5] (.inr (.inl k) :: st) (sh, I, R) = ev S d 101 65 [a0, a1, a2, a3, a4, a5] (rv (R k 0) :: st) (sh, I, R) := (ev_eq f_101_62).trans (congrArg (fin S d 101) (if_pos h))
theorem f_101_65 : fetch 101 65 = some (65, .iload_n 2, 1, [2], 0) := (fm_101 65).trans rfl
theorem u_101_65 {S : Scr} {d : Nat} {a0 a1 a3 a4 a5 : AV} {st : List AV} {sh : Shp} {I : IM} {R : RM} {x : Int} : ev S d 101 65 [a0, a1, .inl x, a3, a4, a5] st (sh, I, R) = ev S d 101 66 [a0, a1, .inl x, a3, a4, a5] (.inl x :: st) (sh, I, R) := (ev_eq f_101_65).trans rfl
theorem f_101_66 : fetch 101 66 = some (66, .iload_n 3, 1, [3], 0) := (fm_101 66).trans rfl
theorem u_101_66 {S : Scr} {d : Nat} {a0 a1 a2 a4 a5 : AV} {st : List AV} {sh : Shp} {I : IM} {R : RM} {x : Int} : ev S d 101 66 [a0, a1, a2, .inl x, a4, a5] st (sh, I, R) = ev S d 101 67 [a0, a1, a2, .inl x, a4, a5] (.inl x :: st) (sh, I, R) := (ev_eq f_101_66).trans rfl
theorem f_101_67 : fetch 101 67 = some (67, .iastore, 1, [], 0) := (fm_101 67).trans rfl
theorem u_101_67 {S : Scr} {d : Nat} {a0 a1 a2 a3 a4 a5 : AV} {st : List AV} {sh : Shp} {I : IM} {R : RM} {k : Nat} {i x : Int} (h : tg sh k = 100) (h0 : 0 ≤ i) (h1 : i < ln sh k) : ev S d 101 67 [a0, a1, a2, a3, a4, a5] (.inl x :: .inl i :: .inr (.inl k) :: st) (sh, I, R) = ev S d 101 68 [a0, a1, a2, a3, a4, a5] st (sh, up I k i x, R) := (ev_eq f_101_67).trans (congrArg (fin S d 101) (if_pos ⟨h, h0, h1⟩))
theorem f_101_68 : fetch 101 68 = some (68, .iload 5, 2, [5], 0) := (fm_101 68).trans rfl
theorem u_101_68 {S : Scr} {d : Nat} {a0 a1 a2 a3 a4 : AV} {st : List AV} {sh : Shp} {I : IM} {R : RM} {x : Int} : ev S d 101 68 [a0, a1, a2, a3, a4, .inl x] st (sh, I, R) = ev S d 101 70 [a0, a1, a2, a3, a4, .inl x] (.inl x :: st) (sh, I, R) := (ev_eq f_101_68).trans rfl
theorem f_101_70 : fetch 101 70 = some (70, .ireturn, 1, [0], 0) := (fm_101 70).trans rfl
theorem u_101_70 {S : Scr} {d : Nat} {a0 a1 a2 a3 a4 a5 : AV} {sh : Shp} {I : IM} {R : RM} {x : Int} : ev S d 101 70 [a0, a1, a2, a3, a4, a5] [.inl x] (sh, I, R) = some (some (.inl x), (sh, I, R)) := (ev_eq f_101_70).trans fin_iret0
theorem c_102 {d : Nat} {a0 a1 a2 : AV} {M : Mem} : cl (d + 1) 102 [a0, a1, a2] M = ev S0 d 102 0 [a0, a1, a2, .inr (.inr 1)] [] M := (cl_eq (as := [a0, a1, a2]) (show 3 ≤ maxOf 102 by decide +kernel)).trans rfl
theorem mt_102 : MT[102]? = some m_102 := rfl
theorem fm_102 (pc : Nat) : fetch 102 pc = lk m_102.2.2.2.2.2 pc := by
  unfold fetch
  rw [mt_102]
theorem f_102_0 : fetch 102 0 = some (0, .iload_n 1, 1, [1], 0) := (fm_102 0).trans rfl
theorem u_102_0 {S : Scr} {d : Nat} {a0 a2 a3 : AV} {st : List AV} {sh : Shp} {I : IM} {R : RM} {x : Int} : ev S d 102 0 [a0, .inl x, a2, a3] st (sh, I, R) = ev S d 102 1 [a0, .inl x, a2, a3] (.inl x :: st) (sh, I, R) := (ev_eq f_102_0).trans rfl
theorem f_102_1 : fetch 102 1 = some (1, .invokestatic 187, 3, [121, 1, 105], 0) := (fm_102 1).trans rfl
theorem u_102_1 {S : Scr} {d : Nat} {a0 a1 a2 a3 : AV} {st : List AV} {sh : Shp} {I : IM} {R : RM} {x0 : Int} (hr : st.length ≤ 8) : ev S d 102 1 [a0, a1, a2, a3] (.inl x0 :: st) (sh, I, R) = bnd (cl d 121 [.inl x0] (sh, I, R)) (fun v M => ev S d 102 4 [a0, a1, a2, a3] (psh v st) M) := (ev_eq f_102_1).trans (congrArg (fin S d 102) (if_pos ⟨rfl, hr⟩))
theorem f_102_4 : fetch 102 4 = some (4, .ifCond .ne 5, 3, [9], 0) := (fm_102 4).trans rfl
theorem u_102_4 {S : Scr} {d : Nat} {a0 a1 a2 a3 : AV} {st : List AV} {sh : Shp} {I : IM} {R : RM} {x : Int} : ev S d 102 4 [a0, a1, a2, a3] (.inl x :: st) (sh, I, R) = if ¬ x = 0 then ev S d 102 9 [a0, a1, a2, a3] st (sh, I, R) else ev S d 102 7 [a0, a1, a2, a3] st (sh, I, R) := (ev_eq f_102_4).trans fin_if_ne
theorem f_102_7 : fetch 102 7 = some (7, .iconst (-1), 1, [], (-1)) := (fm_102 7).trans rfl
theorem u_102_7 {S : Scr} {d : Nat} {a0 a1 a2 a3 : AV} {st : List AV} {sh : Shp} {I : IM} {R : RM} : ev S d 102 7 [a0, a1, a2, a3] st (sh, I, R) = ev S d 102 8 [a0, a1, a2, a3] (.inl (-1) :: st) (sh, I, R) := (ev_eq f_102_7).trans rfl
theorem f_102_8 : fetch 102 8 = some (8, .ireturn, 1, [0], 0) := (fm_102 8).trans rfl
theorem u_102_8 {S : Scr} {d : Nat} {a0 a1 a2 a3 : AV} {sh : Shp} {I : IM} {R : RM} {x : Int} : ev S d 102 8 [a0, a1, a2, a3] [.inl x] (sh, I, R) = some (some (.inl x), (sh, I, R)) := (ev_eq f_102_8).trans fin_iret0
theorem f_102_9 : fetch 102 9 = some (9, .aload_n 0, 1, [0], 0) := (fm_102 9).trans rfl
theorem u_102_9 {S : Scr} {d : Nat} {a1 a2 a3 : AV} {st : List AV} {sh : Shp} {I : IM} {R : RM} {x : Nat} : ev S d 102 9 [.inr (.inl x), a1, a2, a3] st (sh, I, R) = ev S d 102 10 [.inr (.inl x), a1, a2, a3] (.inr (.inl x) :: st) (sh, I, R) := (ev_eq f_102_9).trans rfl
theorem f_102_10 : fetch 102 10 = some (10, .getfield 44, 3, [8, 5, 1, 60], 0) := (fm_102 10).trans rfl
theorem u_102_10 {S : Scr} {d : Nat} {a0 a1 a2 a3 : AV} {st : List AV} {sh : Shp} {I : IM} {R : RM} {k : Nat} (h : tg sh k = 8) : ev S d 102 10 [a0, a1, a2, a3] (.inr (.inl k) :: st) (sh, I, R) = ev S d 102 13 [a0, a1, a2, a3] (rv (R k 5) :: st) (sh, I, R) := (ev_eq f_102_10).trans (congrArg (fin S d 102) (if_pos h))
theorem f_102_13 : fetch 102 13 = some (13, .iload_n 1, 1, [1], 0) := (fm_102 13).trans rfl
theorem u_102_13 {S : Scr} {d : Nat} {a0 a2 a3 : AV} {st : List AV} {sh : Shp} {I : IM} {R : RM} {x : Int} : ev S d 102 13 [a0, .inl x, a2, a3] st (sh, I, R) = ev S d 102 14 [a0, .inl x, a2, a3] (.inl x :: st) (sh, I, R) := (ev_eq f_102_13).trans rfl
theorem f_102_14 : fetch 102 14 = some (14, .aaload, 1, [], 0) := (fm_102 14).trans rfl
theorem u_102_14 {S : Scr} {d : Nat} {a0 a1 a2 a3 : AV} {st : List AV} {sh : Shp} {I : IM} {R : RM} {k : Nat} {i : Int} (h : 200 ≤ tg sh k ∧ tg sh k < 210) (h0 : 0 ≤ i) (h1 : i < ln sh k) : ev S d 102 14 [a0, a1, a2, a3] (.inl i :: .inr (.inl k) :: st) (sh, I, R) = ev S d 102 15 [a0, a1, a2, a3] (rv (R k i) :: st) (sh, I, R) := (ev_eq f_102_14).trans (congrArg (fin S d 102) (if_pos ⟨h.1, h.2, h0, h1⟩))
theorem f_102_15 : fetch 102 15 = some (15, .astore_n 3, 1, [3], 0) := (fm_102 15).trans rfl
theorem u_102_15 {S : Scr} {d : Nat} {a0 a1 a2 a3 : AV} {st : List AV} {sh : Shp} {I : IM} {R : RM} {x : Nat} : ev S d 102 15 [a0, a1, a2, a3] (.inr (.inl x) :: st) (sh, I, R) = ev S d 102 16 [a0, a1, a2, .inr (.inl x)] st (sh, I, R) := (ev_eq f_102_15).trans rfl
theorem u_102_15n {S : Scr} {d : Nat} {a0 a1 a2 a3 : AV} {st : List AV} {sh : Shp} {I : IM} {R : RM} : ev S d 102 15 [a0, a1, a2, a3] (.inr (.inr 0) :: st) (sh, I, R) = ev S d 102 16 [a0, a1, a2, .inr (.inr 0)] st (sh, I, R) := (ev_eq f_102_15).trans rfl
theorem f_102_16 : fetch 102 16 = some (16, .aload_n 3, 1, [3], 0) := (fm_102 16).trans rfl
theorem u_102_16 {S : Scr} {d : Nat} {a0 a1 a2 : AV} {st : List AV} {sh : Shp} {I : IM} {R : RM} {x : Nat} : ev S d 102 16 [a0, a1, a2, .inr (.inl x)] st (sh, I, R) = ev S d 102 17 [a0, a1, a2, .inr (.inl x)] (.inr (.inl x) :: st) (sh, I, R) := (ev_eq f_102_16).trans rfl
theorem u_102_16n {S : Scr} {d : Nat} {a0 a1 a2 : AV} {st : List AV} {sh : Shp} {I : IM} {R : RM} : ev S d 102 16 [a0, a1, a2, .inr (.inr 0)] st (sh, I, R) = ev S d 102 17 [a0, a1, a2, .inr (.inr 0)] (.inr (.inr 0) :: st) (sh, I, R) := (ev_eq f_102_16).trans rfl
theorem f_102_17 : fetch 102 17 = some (17, .invokevirtual 193, 3, [45, 0, 107], 0) := (fm_102 17).trans rfl
theorem u_102_17 {S : Scr} {d : Nat} {a0 a1 a2 a3 : AV} {st : List AV} {sh : Shp} {I : IM} {R : RM} {k : Nat} (h : tg sh k = 5) (hr : st.length ≤ 8) : ev S d 102 17 [a0, a1, a2, a3] (.inr (.inl k) :: st) (sh, I, R) = bnd (cl d 45 [.inr (.inl k)] (sh, I, R)) (fun v M => ev S d 102 20 [a0, a1, a2, a3] (psh v st) M) := (ev_eq f_102_17).trans (congrArg (fin S d 102) (if_pos ⟨h, rfl, hr⟩))
theorem f_102_20 : fetch 102 20 = some (20, .ifCond .eq 6, 3, [26], 0) := (fm_102 20).trans rfl
theorem u_102_20 {S : Scr} {d : Nat} {a0 a1 a2 a3 : AV} {st : List AV} {sh : Shp} {I : IM} {R : RM} {x : Int} : ev S d 102 20 [a0, a1, a2, a3] (.inl x :: st) (sh, I, R) = if x = 0 then ev S d 102 26 [a0, a1, a2, a3] st (sh, I, R) else ev S d 102 23 [a0, a1, a2, a3] st (sh, I, R) := (ev_eq f_102_20).trans fin_if_eq
theorem f_102_23 : fetch 102 23 = some (23, .bipush (-11), 2, [], (-11)) := (fm_102 23).trans rfl
theorem u_102_23 {S : Scr} {d : Nat} {a0 a1 a2 a3 : AV} {st : List AV} {sh : Shp} {I : IM} {R : RM} : ev S d 102 23 [a0, a1, a2, a3] st (sh, I, R) = ev S d 102 25 [a0, a1, a2, a3] (.inl (-11) :: st) (sh, I, R) := (ev_eq f_102_23).trans rfl
theorem f_102_25 : fetch 102 25 = some (25, .ireturn, 1, [0], 0) := (fm_102 25).trans rfl
theorem u_102_25 {S : Scr} {d : Nat} {a0 a1 a2 a3 : AV} {sh : Shp} {I : IM} {R : RM} {x : Int} : ev S d 102 25 [a0, a1, a2, a3] [.inl x] (sh, I, R) = some (some (.inl x), (sh, I, R)) := (ev_eq f_102_25).trans fin_iret0
theorem f_102_26 : fetch 102 26 = some (26, .iload_n 2, 1, [2], 0) := (fm_102 26).trans rfl
theorem u_102_26 {S : Scr} {d : Nat} {a0 a1 a3 : AV} {st : List AV} {sh : Shp} {I : IM} {R : RM} {x : Int} : ev S d 102 26 [a0, a1, .inl x, a3] st (sh, I, R) = ev S d 102 27 [a0, a1, .inl x, a3] (.inl x :: st) (sh, I, R) := (ev_eq f_102_26).trans rfl
theorem f_102_27 : fetch 102 27 = some (27, .iconst (-1), 1, [], (-1)) := (fm_102 27).trans rfl
theorem u_102_27 {S : Scr} {d : Nat} {a0 a1 a2 a3 : AV} {st : List AV} {sh : Shp} {I : IM} {R : RM} : ev S d 102 27 [a0, a1, a2, a3] st (sh, I, R) = ev S d 102 28 [a0, a1, a2, a3] (.inl (-1) :: st) (sh, I, R) := (ev_eq f_102_27).trans rfl
theorem f_102_28 : fetch 102 28 = some (28, .if_icmp .ne 8, 3, [36], 0) := (fm_102 28).trans rfl
theorem u_102_28 {S : Scr} {d : Nat} {a0 a1 a2 a3 : AV} {st : List AV} {sh : Shp} {I : IM} {R : RM} {x y : Int} : ev S d 102 28 [a0, a1, a2, a3] (.inl y :: .inl x :: st) (sh, I, R) = if ¬ x = y then ev S d 102 36 [a0, a1, a2, a3] st (sh, I, R) else ev S d 102 31 [a0, a1, a2, a3] st (sh, I, R) := (ev_eq f_102_28).trans fin_icmp_ne
theorem f_102_31 : fetch 102 31 = some (31, .aload_n 3, 1, [3], 0) := (fm_102 31).trans rfl
theorem u_102_31 {S : Scr} {d : Nat} {a0 a1 a2 : AV} {st : List AV} {sh : Shp} {I : IM} {R : RM} {x : Nat} : ev S d 102 31 [a0, a1, a2, .inr (.inl x)] st (sh, I, R) = ev S d 102 32 [a0, a1, a2, .inr (.inl x)] (.inr (.inl x) :: st) (sh, I, R) := (ev_eq f_102_31).trans rfl
theorem u_102_31n {S : Scr} {d : Nat} {a0 a1 a2 : AV} {st : List AV} {sh : Shp} {I : IM} {R : RM} : ev S d 102 31 [a0, a1, a2, .inr (.inr 0)] st (sh, I, R) = ev S d 102 32 [a0, a1, a2, .inr (.inr 0)] (.inr (.inr 0) :: st) (sh, I, R) := (ev_eq f_102_31).trans rfl
theorem f_102_32 : fetch 102 32 = some (32, .getfield 200, 3, [5, 1, 0, 74], 0) := (fm_102 32).trans rfl
theorem u_102_32 {S : Scr} {d : Nat} {a0 a1 a2 a3 : AV} {st : List AV} {sh : Shp} {I : IM} {R : RM} {k : Nat} (h : tg sh k = 5) : ev S d 102 32 [a0, a1, a2, a3] (.inr (.inl k) :: st) (sh, I, R) = ev S d 102 35 [a0, a1, a2, a3] (.inl (I k 1) :: st) (sh, I, R) := (ev_eq f_102_32).trans (congrArg (fin S d 102) (if_pos h))
theorem f_102_35 : fetch 102 35 = some (35, .ireturn, 1, [0], 0) := (fm_102 35).trans rfl
theorem u_102_35 {S : Scr} {d : Nat} {a0 a1 a2 a3 : AV} {sh : Shp} {I : IM} {R : RM} {x : Int} : ev S d 102 35 [a0, a1, a2, a3] [.inl x] (sh, I, R) = some (some (.inl x), (sh, I, R)) := (ev_eq f_102_35).trans fin_iret0
theorem f_102_36 : fetch 102 36 = some (36, .aload_n 3, 1, [3], 0) := (fm_102 36).trans rfl
theorem u_102_36 {S : Scr} {d : Nat} {a0 a1 a2 : AV} {st : List AV} {sh : Shp} {I : IM} {R : RM} {x : Nat} : ev S d 102 36 [a0, a1, a2, .inr (.inl x)] st (sh, I, R) = ev S d 102 37 [a0, a1, a2, .inr (.inl x)] (.inr (.inl x) :: st) (sh, I, R) := (ev_eq f_102_36).trans rfl
theorem u_102_36n {S : Scr} {d : Nat} {a0 a1 a2 : AV} {st : List AV} {sh : Shp} {I : IM} {R : RM} : ev S d 102 36 [a0, a1, a2, .inr (.inr 0)] st (sh, I, R) = ev S d 102 37 [a0, a1, a2, .inr (.inr 0)] (.inr (.inr 0) :: st) (sh, I, R) := (ev_eq f_102_36).trans rfl
theorem f_102_37 : fetch 102 37 = some (37, .iload_n 2, 1, [2], 0) := (fm_102 37).trans rfl
theorem u_102_37 {S : Scr} {d : Nat} {a0 a1 a3 : AV} {st : List AV} {sh : Shp} {I : IM} {R : RM} {x : Int} : ev S d 102 37 [a0, a1, .inl x, a3] st (sh, I, R) = ev S d 102 38 [a0, a1, .inl x, a3] (.inl x :: st) (sh, I, R) := (ev_eq f_102_37).trans rfl
theorem f_102_38 : fetch 102 38 = some (38, .invokevirtual 196, 3, [47, 1, 108], 0) := (fm_102 38).trans rfl
theorem u_102_38 {S : Scr} {d : Nat} {a0 a1 a2 a3 : AV} {st : List AV} {sh : Shp} {I : IM} {R : RM} {x0 : Int} {k : Nat} (h : tg sh k = 5) (hr : st.length ≤ 8) : ev S d 102 38 [a0, a1, a2, a3] (.inl x0 :: .inr (.inl k) :: st) (sh, I, R) = bnd (cl d 47 [.inr (.inl k), .inl x0] (sh, I, R)) (fun v M => ev S d 102 41 [a0, a1, a2, a3] (psh v st) M) := (ev_eq f_102_38).trans (congrArg (fin S d 102) (if_pos ⟨h, rfl, hr⟩))
theorem f_102_41 : fetch 102 41 = some (41, .ifCond .eq 12, 3, [53], 0) := (fm_102 41).trans rfl
theorem u_102_41 {S : Scr} {d : Nat} {a0 a1 a2 a3 : AV} {st : List AV} {sh : Shp} {I : IM} {R : RM} {x : Int} : ev S d 102 41 [a0, a1, a2, a3] (.inl x :: st) (sh, I, R) = if x = 0 then ev S d 102 53 [a0, a1, a2, a3] st (sh, I, R) else ev S d 102 44 [a0, a1, a2, a3] st (sh, I, R) := (ev_eq f_102_41).trans fin_if_eq
theorem f_102_44 : fetch 102 44 = some (44, .aload_n 3, 1, [3], 0) := (fm_102 44).trans rfl
theorem u_102_44 {S : Scr} {d : Nat} {a0 a1 a2 : AV} {st : List AV} {sh : Shp} {I : IM} {R : RM} {x : Nat} : ev S d 102 44 [a0, a1, a2, .inr (.inl x)] st (sh, I, R) = ev S d 102 45 [a0, a1, a2, .inr (.inl x)] (.inr (.inl x) :: st) (sh, I, R) := (ev_eq f_102_44).trans rfl
theorem u_102_44n {S : Scr} {d : Nat} {a0 a1 a2 : AV} {st : List AV} {sh : Shp} {I : IM} {R : RM} : ev S d 102 44 [a0, a1, a2, .inr (.inr 0)] st (sh, I, R) = ev S d 102 45 [a0, a1, a2, .inr (.inr 0)] (.inr (.inr 0) :: st) (sh, I, R) := (ev_eq f_102_44).trans rfl
theorem f_102_45 : fetch 102 45 = some (45, .getfield 197, 3, [5, 0, 1, 73], 0) := (fm_102 45).trans rfl
theorem u_102_45 {S : Scr} {d : Nat} {a0 a1 a2 a3 : AV} {st : List AV} {sh : Shp} {I : IM} {R : RM} {k : Nat} (h : tg sh k = 5) : ev S d 102 45 [a0, a1, a2, a3] (.inr (.inl k) :: st) (sh, I, R) = ev S d 102 48 [a0, a1, a2, a3] (rv (R k 0) :: st) (sh, I, R) := (ev_eq f_102_45).trans (congrArg (fin S d 102) (if_pos h))
theorem f_102_48 : fetch 102 48 = some (48, .iload_n 2, 1, [2], 0) := (fm_102 48).trans rfl
theorem u_102_48 {S : Scr} {d : Nat} {a0 a1 a3 : AV} {st : List AV} {sh : Shp} {I : IM} {R : RM} {x : Int} : ev S d 102 48 [a0, a1, .inl x, a3] st (sh, I, R) = ev S d 102 49 [a0, a1, .inl x, a3] (.inl x :: st) (sh, I, R) := (ev_eq f_102_48).trans rfl
theorem f_102_49 : fetch 102 49 = some (49, .iaload, 1, [], 0) := (fm_102 49).trans rfl
theorem u_102_49 {S : Scr} {d : Nat} {a0 a1 a2 a3 : AV} {st : List AV} {sh : Shp} {I : IM} {R : RM} {k : Nat} {i : Int} (h : tg sh k = 100) (h0 : 0 ≤ i) (h1 : i < ln sh k) : ev S d 102 49 [a0, a1, a2, a3] (.inl i :: .inr (.inl k) :: st) (sh, I, R) = ev S d 102 50 [a0, a1, a2, a3] (.inl (I k i) :: st) (sh, I, R) := (ev_eq f_102_49).trans (congrArg (fin S d 102) (if_pos ⟨h, h0, h1⟩))
theorem f_102_50 : fetch 102 50 = some (50, .goto 5, 3, [55], 0) := (fm_102 50).trans rfl
theorem u_102_50 {S : Scr} {d : Nat} {a0 a1 a2 a3 : AV} {st : List AV} {sh : Shp} {I : IM} {R : RM} : ev S d 102 50 [a0, a1, a2, a3] st (sh, I, R) = ev S d 102 55 [a0, a1, a2, a3] st (sh, I, R) := (ev_eq f_102_50).trans rfl
theorem f_102_53 : fetch 102 53 = some (53, .bipush (-13), 2, [], (-13)) := (fm_102 53).trans rfl
theorem u_102_53 {S : Scr} {d : Nat} {a0 a1 a2 a3 : AV} {st : List AV} {sh : Shp} {I : IM} {R : RM} : ev S d 102 53 [a0, a1, a2, a3] st (sh, I, R) = ev S d 102 55 [a0, a1, a2, a3] (.inl (-13) :: st) (sh, I, R) := (ev_eq f_102_53).trans rfl
theorem f_102_55 : fetch 102 55 = some (55, .ireturn, 1, [0], 0) := (fm_102 55).trans rfl
theorem u_102_55 {S : Scr} {d : Nat} {a0 a1 a2 a3 : AV} {sh : Shp} {I : IM} {R : RM} {x : Int} : ev S d 102 55 [a0, a1, a2, a3] [.inl x] (sh, I, R) = some (some (.inl x), (sh, I, R)) := (ev_eq f_102_55).trans fin_iret0
theorem c_103 {d : Nat} {a0 a1 a2 : AV} {M : Mem} : cl (d + 1) 103 [a0, a1, a2] M = ev S0 d 103 0 [a0, a1, a2] [] M := (cl_eq (as := [a0, a1, a2]) (show 3 ≤ maxOf 103 by decide +kernel)).trans rfl
theorem mt_103 : MT[103]? = some m_103 := rfl
theorem fm_103 (pc : Nat) : fetch 103 pc = lk m_103.2.2.2.2.2 pc := by
  unfold fetch
  rw [mt_103]
theorem f_103_0 : fetch 103 0 = some (0, .iload_n 1, 1, [1], 0) := (fm_103 0).trans rfl
theorem u_103_0 {S : Scr} {d : Nat} {a0 a2 : AV} {st : List AV} {sh : Shp} {I : IM} {R : RM} {x : Int} : ev S d 103 0 [a0, .inl x, a2] st (sh, I, R) = ev S d 103 1 [a0, .inl x, a2] (.inl x :: st) (sh, I, R) := (ev_eq f_103_0).trans rfl
theorem f_103_1 : fetch 103 1 = some (1, .invokestatic 187, 3, [121, 1, 105], 0) := (fm_103 1).trans rfl
theorem u_103_1 {S : Scr} {d : Nat} {a0 a1 a2 : AV} {st : List AV} {sh : Shp} {I : IM} {R : RM} {x0 : Int} (hr : st.length ≤ 8) : ev S d 103 1 [a0, a1, a2] (.inl x0 :: st) (sh, I, R) = bnd (cl d 121 [.inl x0] (sh, I, R)) (fun v M => ev S d 103 4 [a0, a1, a2] (psh v st) M) := (ev_eq f_103_1).trans (congrArg (fin S d 103) (if_pos ⟨rfl, hr⟩))
theorem f_103_4 : fetch 103 4 = some (4, .ifCond .eq 11, 3, [15], 0) := (fm_103 4).trans rfl
theorem u_103_4 {S : Scr} {d : Nat} {a0 a1 a2 : AV} {st : List AV} {sh : Shp} {I : IM} {R : RM} {x : Int} : ev S d 103 4 [a0, a1, a2] (.inl x :: st) (sh, I, R) = if x = 0 then ev S d 103 15 [a0, a1, a2] st (sh, I, R) else ev S d 103 7 [a0, a1, a2] st (sh, I, R) := (ev_eq f_103_4).trans fin_if_eq
theorem f_103_7 : fetch 103 7 = some (7, .aload_n 0, 1, [0], 0) := (fm_103 7).trans rfl
theorem u_103_7 {S : Scr} {d : Nat} {a1 a2 : AV} {st : List AV} {sh : Shp} {I : IM} {R : RM} {x : Nat} : ev S d 103 7 [.inr (.inl x), a1, a2] st (sh, I, R) = ev S d 103 8 [.inr (.inl x), a1, a2] (.inr (.inl x) :: st) (sh, I, R) := (ev_eq f_103_7).trans rfl
theorem f_103_8 : fetch 103 8 = some (8, .iload_n 2, 1, [2], 0) := (fm_103 8).trans rfl
theorem u_103_8 {S : Scr} {d : Nat} {a0 a1 : AV} {st : List AV} {sh : Shp} {I : IM} {R : RM} {x : Int} : ev S d 103 8 [a0, a1, .inl x] st (sh, I, R) = ev S d 103 9 [a0, a1, .inl x] (.inl x :: st) (sh, I, R) := (ev_eq f_103_8).trans rfl
theorem f_103_9 : fetch 103 9 = some (9, .invokevirtual 126, 3, [120, 1, 92], 0) := (fm_103 9).trans rfl
theorem u_103_9 {S : Scr} {d : Nat} {a0 a1 a2 : AV} {st : List AV} {sh : Shp} {I : IM} {R : RM} {x0 : Int} {k : Nat} (h : tg sh k = 8) (hr : st.length ≤ 8) : ev S d 103 9 [a0, a1, a2] (.inl x0 :: .inr (.inl k) :: st) (sh, I, R) = bnd (cl d 120 [.inr (.inl k), .inl x0] (sh, I, R)) (fun v M => ev S d 103 12 [a0, a1, a2] (psh v st) M) := (ev_eq f_103_9).trans (congrArg (fin S d 103) (if_pos ⟨h, rfl, hr⟩))
theorem f_103_12 : fetch 103 12 = some (12, .ifCond .ne 5, 3, [17], 0) := (fm_103 12).trans rfl
theorem u_103_12 {S : Scr} {d : Nat} {a0 a1 a2 : AV} {st : List AV} {sh : Shp} {I : IM} {R : RM} {x : Int} : ev S d 103 12 [a0, a1, a2] (.inl x :: st) (sh, I, R) = if ¬ x = 0 then ev S d 103 17 [a0, a1, a2] st (sh, I, R) else ev S d 103 15 [a0, a1, a2] st (sh, I, R) := (ev_eq f_103_12).trans fin_if_ne
theorem f_103_15 : fetch 103 15 = some (15, .iconst (-1), 1, [], (-1)) := (fm_103 15).trans rfl
theorem u_103_15 {S : Scr} {d : Nat} {a0 a1 a2 : AV} {st : List AV} {sh : Shp} {I : IM} {R : RM} : ev S d 103 15 [a0, a1, a2] st (sh, I, R) = ev S d 103 16 [a0, a1, a2] (.inl (-1) :: st) (sh, I, R) := (ev_eq f_103_15).trans rfl
theorem f_103_16 : fetch 103 16 = some (16, .ireturn, 1, [0], 0) := (fm_103 16).trans rfl
theorem u_103_16 {S : Scr} {d : Nat} {a0 a1 a2 : AV} {sh : Shp} {I : IM} {R : RM} {x : Int} : ev S d 103 16 [a0, a1, a2] [.inl x] (sh, I, R) = some (some (.inl x), (sh, I, R)) := (ev_eq f_103_16).trans fin_iret0
theorem f_103_17 : fetch 103 17 = some (17, .aload_n 0, 1, [0], 0) := (fm_103 17).trans rfl
theorem u_103_17 {S : Scr} {d : Nat} {a1 a2 : AV} {st : List AV} {sh : Shp} {I : IM} {R : RM} {x : Nat} : ev S d 103 17 [.inr (.inl x), a1, a2] st (sh, I, R) = ev S d 103 18 [.inr (.inl x), a1, a2] (.inr (.inl x) :: st) (sh, I, R) := (ev_eq f_103_17).trans rfl
theorem f_103_18 : fetch 103 18 = some (18, .getfield 24, 3, [8, 2, 1, 57], 0) := (fm_103 18).trans rfl
theorem u_103_18 {S : Scr} {d : Nat} {a0 a1 a2 : AV} {st : List AV} {sh : Shp} {I : IM} {R : RM} {k : Nat} (h : tg sh k = 8) : ev S d 103 18 [a0, a1, a2] (.inr (.inl k) :: st) (sh, I, R) = ev S d 103 21 [a0, a1, a2] (rv (R k 2) :: st) (sh, I, R) := (ev_eq f_103_18).trans (congrArg (fin S d 103) (if_pos h))
theorem f_103_21 : fetch 103 21 = some (21, .iload_n 2, 1, [2], 0) := (fm_103 21).trans rfl
theorem u_103_21 {S : Scr} {d : Nat} {a0 a1 : AV} {st : List AV} {sh : Shp} {I : IM} {R : RM} {x : Int} : ev S d 103 21 [a0, a1, .inl x] st (sh, I, R) = ev S d 103 22 [a0, a1, .inl x] (.inl x :: st) (sh, I, R) := (ev_eq f_103_21).trans rfl
theorem f_103_22 : fetch 103 22 = some (22, .invokevirtual 158, 3, [56, 1, 98], 0) := (fm_103 22).trans rfl
theorem u_103_22 {S : Scr} {d : Nat} {a0 a1 a2 : AV} {st : List AV} {sh : Shp} {I : IM} {R : RM} {x0 : Int} {k : Nat} (h : tg sh k = 6) (hr : st.length ≤ 8) : ev S d 103 22 [a0, a1, a2] (.inl x0 :: .inr (.inl k) :: st) (sh, I, R) = bnd (cl d 56 [.inr (.inl k), .inl x0] (sh, I, R)) (fun v M => ev S d 103 25 [a0, a1, a2] (psh v st) M) := (ev_eq f_103_22).trans (congrArg (fin S d 103) (if_pos ⟨h, rfl, hr⟩))
theorem f_103_25 : fetch 103 25 = some (25, .aload_n 0, 1, [0], 0) := (fm_103 25).trans rfl
theorem u_103_25 {S : Scr} {d : Nat} {a1 a2 : AV} {st : List AV} {sh : Shp} {I : IM} {R : RM} {x : Nat} : ev S d 103 25 [.inr (.inl x), a1, a2] st (sh, I, R) = ev S d 103 26 [.inr (.inl x), a1, a2] (.inr (.inl x) :: st) (sh, I, R) := (ev_eq f_103_25).trans rfl
theorem f_103_26 : fetch 103 26 = some (26, .getfield 24, 3, [8, 2, 1, 57], 0) := (fm_103 26).trans rfl
theorem u_103_26 {S : Scr} {d : Nat} {a0 a1 a2 : AV} {st : List AV} {sh : Shp} {I : IM} {R : RM} {k : Nat} (h : tg sh k = 8) : ev S d 103 26 [a0, a1, a2] (.inr (.inl k) :: st) (sh, I, R) = ev S d 103 29 [a0, a1, a2] (rv (R k 2) :: st) (sh, I, R) := (ev_eq f_103_26).trans (congrArg (fin S d 103) (if_pos h))
theorem f_103_29 : fetch 103 29 = some (29, .getfield 203, 3, [6, 1, 1, 75], 0) := (fm_103 29).trans rfl
theorem u_103_29 {S : Scr} {d : Nat} {a0 a1 a2 : AV} {st : List AV} {sh : Shp} {I : IM} {R : RM} {k : Nat} (h : tg sh k = 6) : ev S d 103 29 [a0, a1, a2] (.inr (.inl k) :: st) (sh, I, R) = ev S d 103 32 [a0, a1, a2] (rv (R k 1) :: st) (sh, I, R) := (ev_eq f_103_29).trans (congrArg (fin S d 103) (if_pos h))
theorem f_103_32 : fetch 103 32 = some (32, .invokevirtual 207, 3, [46, 0, 109], 0) := (fm_103 32).trans rfl
theorem u_103_32 {S : Scr} {d : Nat} {a0 a1 a2 : AV} {st : List AV} {sh : Shp} {I : IM} {R : RM} {k : Nat} (h : tg sh k = 5) (hr : st.length ≤ 8) : ev S d 103 32 [a0, a1, a2] (.inr (.inl k) :: st) (sh, I, R) = bnd (cl d 46 [.inr (.inl k)] (sh, I, R)) (fun v M => ev S d 103 35 [a0, a1, a2] (psh v st) M) := (ev_eq f_103_32).trans (congrArg (fin S d 103) (if_pos ⟨h, rfl, hr⟩))
theorem f_103_35 : fetch 103 35 = some (35, .ifCond .eq 6, 3, [41], 0) := (fm_103 35).trans rfl
theorem u_103_35 {S : Scr} {d : Nat} {a0 a1 a2 : AV} {st : List AV} {sh : Shp} {I : IM} {R : RM} {x : Int} : ev S d 103 35 [a0, a1, a2] (.inl x :: st) (sh, I, R) = if x = 0 then ev S d 103 41 [a0, a1, a2] st (sh, I, R) else ev S d 103 38 [a0, a1, a2] st (sh, I, R) := (ev_eq f_103_35).trans fin_if_eq
theorem f_103_38 : fetch 103 38 = some (38, .bipush (-3), 2, [], (-3)) := (fm_103 38).trans rfl
theorem u_103_38 {S : Scr} {d : Nat} {a0 a1 a2 : AV} {st : List AV} {sh : Shp} {I : IM} {R : RM} : ev S d 103 38 [a0, a1, a2] st (sh, I, R) = ev S d 103 40 [a0, a1, a2] (.inl (-3) :: st) (sh, I, R) := (ev_eq f_103_38).trans rfl
theorem f_103_40 : fetch 103 40 = some (40, .ireturn, 1, [0], 0) := (fm_103 40).trans rfl
theorem u_103_40 {S : Scr} {d : Nat} {a0 a1 a2 : AV} {sh : Shp} {I : IM} {R : RM} {x : Int} : ev S d 103 40 [a0, a1, a2] [.inl x] (sh, I, R) = some (some (.inl x), (sh, I, R)) := (ev_eq f_103_40).trans fin_iret0
theorem f_103_41 : fetch 103 41 = some (41, .aload_n 0, 1, [0], 0) := (fm_103 41).trans rfl
theorem u_103_41 {S : Scr} {d : Nat} {a1 a2 : AV} {st : List AV} {sh : Shp} {I : IM} {R : RM} {x : Nat} : ev S d 103 41 [.inr (.inl x), a1, a2] st (sh, I, R) = ev S d 103 42 [.inr (.inl x), a1, a2] (.inr (.inl x) :: st) (sh, I, R) := (ev_eq f_103_41).trans rfl
theorem f_103_42 : fetch 103 42 = some (42, .getfield 44, 3, [8, 5, 1, 60], 0) := (fm_103 42).trans rfl
theorem u_103_42 {S : Scr} {d : Nat} {a0 a1 a2 : AV} {st : List AV} {sh : Shp} {I : IM} {R : RM} {k : Nat} (h : tg sh k = 8) : ev S d 103 42 [a0, a1, a2] (.inr (.inl k) :: st) (sh, I, R) = ev S d 103 45 [a0, a1, a2] (rv (R k 5) :: st) (sh, I, R) := (ev_eq f_103_42).trans (congrArg (fin S d 103) (if_pos h))
theorem f_103_45 : fetch 103 45 = some (45, .iload_n 1, 1, [1], 0) := (fm_103 45).trans rfl
theorem u_103_45 {S : Scr} {d : Nat} {a0 a2 : AV} {st : List AV} {sh : Shp} {I : IM} {R : RM} {x : Int} : ev S d 103 45 [a0, .inl x, a2] st (sh, I, R) = ev S d 103 46 [a0, .inl x, a2] (.inl x :: st) (sh, I, R) := (ev_eq f_103_45).trans rfl
theorem f_103_46 : fetch 103 46 = some (46, .aaload, 1, [], 0) := (fm_103 46).trans rfl
theorem u_103_46 {S : Scr} {d : Nat} {a0 a1 a2 : AV} {st : List AV} {sh : Shp} {I : IM} {R : RM} {k : Nat} {i : Int} (h : 200 ≤ tg sh k ∧ tg sh k < 210) (h0 : 0 ≤ i) (h1 : i < ln sh k) : ev S d 103 46 [a0, a1, a2] (.inl i :: .inr (.inl k) :: st) (sh, I, R) = ev S d 103 47 [a0, a1, a2] (rv (R k i) :: st) (sh, I, R) := (ev_eq f_103_46).trans (congrArg (fin S d 103) (if_pos ⟨h.1, h.2, h0, h1⟩))
theorem f_103_47 : fetch 103 47 = some (47, .aload_n 0, 1, [0], 0) := (fm_103 47).trans rfl
theorem u_103_47 {S : Scr} {d : Nat} {a1 a2 : AV} {st : List AV} {sh : Shp} {I : IM} {R : RM} {x : Nat} : ev S d 103 47 [.inr (.inl x), a1, a2] st (sh, I, R) = ev S d 103 48 [.inr (.inl x), a1, a2] (.inr (.inl x) :: st) (sh, I, R) := (ev_eq f_103_47).trans rfl
theorem f_103_48 : fetch 103 48 = some (48, .getfield 24, 3, [8, 2, 1, 57], 0) := (fm_103 48).trans rfl
theorem u_103_48 {S : Scr} {d : Nat} {a0 a1 a2 : AV} {st : List AV} {sh : Shp} {I : IM} {R : RM} {k : Nat} (h : tg sh k = 8) : ev S d 103 48 [a0, a1, a2] (.inr (.inl k) :: st) (sh, I, R) = ev S d 103 51 [a0, a1, a2] (rv (R k 2) :: st) (sh, I, R) := (ev_eq f_103_48).trans (congrArg (fin S d 103) (if_pos h))
theorem f_103_51 : fetch 103 51 = some (51, .getfield 203, 3, [6, 1, 1, 75], 0) := (fm_103 51).trans rfl
theorem u_103_51 {S : Scr} {d : Nat} {a0 a1 a2 : AV} {st : List AV} {sh : Shp} {I : IM} {R : RM} {k : Nat} (h : tg sh k = 6) : ev S d 103 51 [a0, a1, a2] (.inr (.inl k) :: st) (sh, I, R) = ev S d 103 54 [a0, a1, a2] (rv (R k 1) :: st) (sh, I, R) := (ev_eq f_103_51).trans (congrArg (fin S d 103) (if_pos h))
theorem f_103_54 : fetch 103 54 = some (54, .invokevirtual 210, 3, [51, 1, 110], 0) := (fm_103 54).trans rfl
theorem u_103_54 {S : Scr} {d : Nat} {a0 a1 a2 : AV} {st : List AV} {sh : Shp} {I : IM} {R : RM} {x0 : Nat} {k : Nat} (h : tg sh k = 5) (hr : st.length ≤ 8) : ev S d 103 54 [a0, a1, a2] (.inr (.inl x0) :: .inr (.inl k) :: st) (sh, I, R) = bnd (cl d 51 [.inr (.inl k), .inr (.inl x0)] (sh, I, R)) (fun v M => ev S d 103 57 [a0, a1, a2] (psh v st) M) := (ev_eq f_103_54).trans (congrArg (fin S d 103) (if_pos ⟨h, rfl, hr⟩))
theorem u_103_54n {S : Scr} {d : Nat} {a0 a1 a2 : AV} {st : List AV} {sh : Shp} {I : IM} {R : RM} {k : Nat} (h : tg sh k = 5) (hr : st.length ≤ 8) : ev S d 103 54 [a0, a1, a2] (.inr (.inr 0) :: .inr (.inl k) :: st) (sh, I, R) = bnd (cl d 51 [.inr (.inl k), .inr (.inr 0)] (sh, I, R)) (fun v M => ev S d 103 57 [a0, a1, a2] (psh v st) M) := (ev_eq f_103_54).trans (congrArg (fin S d 103) (if_pos ⟨h, rfl, hr⟩))
theorem f_103_57 : fetch 103 57 = some (57, .aload_n 0, 1, [0], 0) := (fm_103 57).trans rfl
theorem u_103_57 {S : Scr} {d : Nat} {a1 a2 : AV} {st : List AV} {sh : Shp} {I : IM} {R : RM} {x : Nat} : ev S d 103 57 [.inr (.inl x), a1, a2] st (sh, I, R) = ev S d 103 58 [.inr (.inl x), a1, a2] (.inr (.inl x) :: st) (sh, I, R) := (ev_eq f_103_57).trans rfl
theorem f_103_58 : fetch 103 58 = some (58, .getfield 24, 3, [8, 2, 1, 57], 0) := (fm_103 58).trans rfl
theorem u_103_58 {S : Scr} {d : Nat} {a0 a1 a2 : AV} {st : List AV} {sh : Shp} {I : IM} {R : RM} {k : Nat} (h : tg sh k = 8) : ev S d 103 58 [a0, a1, a2] (.inr (.inl k) :: st) (sh, I, R) = ev S d 103 61 [a0, a1, a2] (rv (R k 2) :: st) (sh, I, R) := (ev_eq f_103_58).trans (congrArg (fin S d 103) (if_pos h))
theorem f_103_61 : fetch 103 61 = some (61, .getfield 203, 3, [6, 1, 1, 75], 0) := (fm_103 61).trans rfl
theorem u_103_61 {S : Scr} {d : Nat} {a0 a1 a2 : AV} {st : List AV} {sh : Shp} {I : IM} {R : RM} {k : Nat} (h : tg sh k = 6) : ev S d 103 61 [a0, a1, a2] (.inr (.inl k) :: st) (sh, I, R) = ev S d 103 64 [a0, a1, a2] (rv (R k 1) :: st) (sh, I, R) := (ev_eq f_103_61).trans (congrArg (fin S d 103) (if_pos h))
theorem f_103_64 : fetch 103 64 = some (64, .getfield 200, 3, [5, 1, 0, 74], 0) := (fm_103 64).trans rfl
theorem u_103_64 {S : Scr} {d : Nat} {a0 a1 a2 : AV} {st : List AV} {sh : Shp} {I : IM} {R : RM} {k : Nat} (h : tg sh k = 5) : ev S d 103 64 [a0, a1, a2] (.inr (.inl k) :: st) (sh, I, R) = ev S d 103 67 [a0, a1, a2] (.inl (I k 1) :: st) (sh, I, R) := (ev_eq f_103_64).trans (congrArg (fin S d 103) (if_pos h))
theorem f_103_67 : fetch 103 67 = some (67, .ireturn, 1, [0], 0) := (fm_103 67).trans rfl
theorem u_103_67 {S : Scr} {d : Nat} {a0 a1 a2 : AV} {sh : Shp} {I : IM} {R : RM} {x : Int} : ev S d 103 67 [a0, a1, a2] [.inl x] (sh, I, R) = some (some (.inl x), (sh, I, R)) := (ev_eq f_103_67).trans fin_iret0
theorem c_104 {d : Nat} {a0 a1 : AV} {M : Mem} : cl (d + 1) 104 [a0, a1] M = ev S0 d 104 0 [a0, a1, .inr (.inr 1)] [] M := (cl_eq (as := [a0, a1]) (show 2 ≤ maxOf 104 by decide +kernel)).trans rfl
theorem mt_104 : MT[104]? = some m_104 := rfl
theorem fm_104 (pc : Nat) : fetch 104 pc = lk m_104.2.2.2.2.2 pc := by
  unfold fetch
  rw [mt_104]
theorem f_104_0 : fetch 104 0 = some (0, .iload_n 1, 1, [1], 0) := (fm_104 0).trans rfl
theorem u_104_0 {S : Scr} {d : Nat} {a0 a2 : AV} {st : List AV} {sh : Shp} {I : IM} {R : RM} {x : Int} : ev S d 104 0 [a0, .inl x, a2] st (sh, I, R) = ev S d 104 1 [a0, .inl x, a2] (.inl x :: st) (sh, I, R) := (ev_eq f_104_0).trans rfl
theorem f_104_1 : fetch 104 1 = some (1, .invokestatic 187, 3, [121, 1, 105], 0) := (fm_104 1).trans rfl
theorem u_104_1 {S : Scr} {d : Nat} {a0 a1 a2 : AV} {st : List AV} {sh : Shp} {I : IM} {R : RM} {x0 : Int} (hr : st.length ≤ 8) : ev S d 104 1 [a0, a1, a2] (.inl x0 :: st) (sh, I, R) = bnd (cl d 121 [.inl x0] (sh, I, R)) (fun v M => ev S d 104 4 [a0, a1, a2] (psh v st) M) := (ev_eq f_104_1).trans (congrArg (fin S d 104) (if_pos ⟨rfl, hr⟩))
theorem f_104_4 : fetch 104 4 = some (4, .ifCond .ne 5, 3, [9], 0) := (fm_104 4).trans rfl
theorem u_104_4 {S : Scr} {d : Nat} {a0 a1 a2 : AV} {st : List AV} {sh : Shp} {I : IM} {R : RM} {x : Int} : ev S d 104 4 [a0, a1, a2] (.inl x :: st) (sh, I, R) = if ¬ x = 0 then ev S d 104 9 [a0, a1, a2] st (sh, I, R) else ev S d 104 7 [a0, a1, a2] st (sh, I, R) := (ev_eq f_104_4).trans fin_if_ne
theorem f_104_7 : fetch 104 7 = some (7, .iconst (-1), 1, [], (-1)) := (fm_104 7).trans rfl
theorem u_104_7 {S : Scr} {d : Nat} {a0 a1 a2 : AV} {st : List AV} {sh : Shp} {I : IM} {R : RM} : ev S d 104 7 [a0, a1, a2] st (sh, I, R) = ev S d 104 8 [a0, a1, a2] (.inl (-1) :: st) (sh, I, R) := (ev_eq f_104_7).trans rfl
theorem f_104_8 : fetch 104 8 = some (8, .ireturn, 1, [0], 0) := (fm_104 8).trans rfl
theorem u_104_8 {S : Scr} {d : Nat} {a0 a1 a2 : AV} {sh : Shp} {I : IM} {R : RM} {x : Int} : ev S d 104 8 [a0, a1, a2] [.inl x] (sh, I, R) = some (some (.inl x), (sh, I, R)) := (ev_eq f_104_8).trans fin_iret0
theorem f_104_9 : fetch 104 9 = some (9, .aload_n 0, 1, [0], 0) := (fm_104 9).trans rfl
theorem u_104_9 {S : Scr} {d : Nat} {a1 a2 : AV} {st : List AV} {sh : Shp} {I : IM} {R : RM} {x : Nat} : ev S d 104 9 [.inr (.inl x), a1, a2] st (sh, I, R) = ev S d 104 10 [.inr (.inl x), a1, a2] (.inr (.inl x) :: st) (sh, I, R) := (ev_eq f_104_9).trans rfl
theorem f_104_10 : fetch 104 10 = some (10, .getfield 44, 3, [8, 5, 1, 60], 0) := (fm_104 10).trans rfl
theorem u_104_10 {S : Scr} {d : Nat} {a0 a1 a2 : AV} {st : List AV} {sh : Shp} {I : IM} {R : RM} {k : Nat} (h : tg sh k = 8) : ev S d 104 10 [a0, a1, a2] (.inr (.inl k) :: st) (sh, I, R) = ev S d 104 13 [a0, a1, a2] (rv (R k 5) :: st) (sh, I, R) := (ev_eq f_104_10).trans (congrArg (fin S d 104) (if_pos h))
theorem f_104_13 : fetch 104 13 = some (13, .iload_n 1, 1, [1], 0) := (fm_104 13).trans rfl
theorem u_104_13 {S : Scr} {d : Nat} {a0 a2 : AV} {st : List AV} {sh : Shp} {I : IM} {R : RM} {x : Int} : ev S d 104 13 [a0, .inl x, a2] st (sh, I, R) = ev S d 104 14 [a0, .inl x, a2] (.inl x :: st) (sh, I, R) := (ev_eq f_104_13).trans rfl
theorem f_104_14 : fetch 104 14 = some (14, .aaload, 1, [], 0) := (fm_104 14).trans rfl
theorem u_104_14 {S : Scr} {d : Nat} {a0 a1 a2 : AV} {st : List AV} {sh : Shp} {I : IM} {R : RM} {k : Nat} {i : Int} (h : 200 ≤ tg sh k ∧ tg sh k < 210) (h0 : 0 ≤ i) (h1 : i < ln sh k) : ev S d 104 14 [a0, a1, a2] (.inl i :: .inr (.inl k) :: st) (sh, I, R) = ev S d 104 15 [a0, a1, a2] (rv (R k i) :: st) (sh, I, R) := (ev_eq f_104_14).trans (congrArg (fin S d 104) (if_pos ⟨h.1, h.2, h0, h1⟩))
theorem f_104_15 : fetch 104 15 = some (15, .invokevirtual 193, 3, [45, 0, 107], 0) := (fm_104 15).trans rfl
theorem u_104_15 {S : Scr} {d : Nat} {a0 a1 a2 : AV} {st : List AV} {sh : Shp} {I : IM} {R : RM} {k : Nat} (h : tg sh k = 5) (hr : st.length ≤ 8) : ev S d 104 15 [a0, a1, a2] (.inr (.inl k) :: st) (sh, I, R) = bnd (cl d 45 [.inr (.inl k)] (sh, I, R)) (fun v M => ev S d 104 18 [a0, a1, a2] (psh v st) M) := (ev_eq f_104_15).trans (congrArg (fin S d 104) (if_pos ⟨h, rfl, hr⟩))
theorem f_104_18 : fetch 104 18 = some (18, .ifCond .eq 6, 3, [24], 0) := (fm_104 18).trans rfl
theorem u_104_18 {S : Scr} {d : Nat} {a0 a1 a2 : AV} {st : List AV} {sh : Shp} {I : IM} {R : RM} {x : Int} : ev S d 104 18 [a0, a1, a2] (.inl x :: st) (sh, I, R) = if x = 0 then ev S d 104 24 [a0, a1, a2] st (sh, I, R) else ev S d 104 21 [a0, a1, a2] st (sh, I, R) := (ev_eq f_104_18).trans fin_if_eq
theorem f_104_21 : fetch 104 21 = some (21, .bipush (-11), 2, [], (-11)) := (fm_104 21).trans rfl
theorem u_104_21 {S : Scr} {d : Nat} {a0 a1 a2 : AV} {st : List AV} {sh : Shp} {I : IM} {R : RM} : ev S d 104 21 [a0, a1, a2] st (sh, I, R) = ev S d 104 23 [a0, a1, a2] (.inl (-11) :: st) (sh, I, R) := (ev_eq f_104_21).trans rfl
theorem f_104_23 : fetch 104 23 = some (23, .ireturn, 1, [0], 0) := (fm_104 23).trans rfl
theorem u_104_23 {S : Scr} {d : Nat} {a0 a1 a2 : AV} {sh : Shp} {I : IM} {R : RM} {x : Int} : ev S d 104 23 [a0, a1, a2] [.inl x] (sh, I, R) = some (some (.inl x), (sh, I, R)) := (ev_eq f_104_23).trans fin_iret0
theorem f_104_24 : fetch 104 24 = some (24, .aload_n 0, 1, [0], 0) := (fm_104 24).trans rfl
theorem u_104_24 {S : Scr} {d : Nat} {a1 a2 : AV} {st : List AV} {sh : Shp} {I : IM} {R : RM} {x : Nat} : ev S d 104 24 [.inr (.inl x), a1, a2] st (sh, I, R) = ev S d 104 25 [.inr (.inl x), a1, a2] (.inr (.inl x) :: st) (sh, I, R) := (ev_eq f_104_24).trans rfl
theorem f_104_25 : fetch 104 25 = some (25, .getfield 38, 3, [8, 4, 1, 59], 0) := (fm_104 25).trans rfl
theorem u_104_25 {S : Scr} {d : Nat} {a0 a1 a2 : AV} {st : List AV} {sh : Shp} {I : IM} {R : RM} {k : Nat} (h : tg sh k = 8) : ev S d 104 25 [a0, a1, a2] (.inr (.inl k) :: st) (sh, I, R) = ev S d 104 28 [a0, a1, a2] (rv (R k 4) :: st) (sh, I, R) := (ev_eq f_104_25).trans (congrArg (fin S d 104) (if_pos h))
theorem f_104_28 : fetch 104 28 = some (28, .aload_n 0, 1, [0], 0) := (fm_104 28).trans rfl
theorem u_104_28 {S : Scr} {d : Nat} {a1 a2 : AV} {st : List AV} {sh : Shp} {I : IM} {R : RM} {x : Nat} : ev S d 104 28 [.inr (.inl x), a1, a2] st (sh, I, R) = ev S d 104 29 [.inr (.inl x), a1, a2] (.inr (.inl x) :: st) (sh, I, R) := (ev_eq f_104_28).trans rfl
theorem f_104_29 : fetch 104 29 = some (29, .getfield 44, 3, [8, 5, 1, 60], 0) := (fm_104 29).trans rfl
theorem u_104_29 {S : Scr} {d : Nat} {a0 a1 a2 : AV} {st : List AV} {sh : Shp} {I : IM} {R : RM} {k : Nat} (h : tg sh k = 8) : ev S d 104 29 [a0, a1, a2] (.inr (.inl k) :: st) (sh, I, R) = ev S d 104 32 [a0, a1, a2] (rv (R k 5) :: st) (sh, I, R) := (ev_eq f_104_29).trans (congrArg (fin S d 104) (if_pos h))
theorem f_104_32 : fetch 104 32 = some (32, .iload_n 1, 1, [1], 0) := (fm_104 32).trans rfl
theorem u_104_32 {S : Scr} {d : Nat} {a0 a2 : AV} {st : List AV} {sh : Shp} {I : IM} {R : RM} {x : Int} : ev S d 104 32 [a0, .inl x, a2] st (sh, I, R) = ev S d 104 33 [a0, .inl x, a2] (.inl x :: st) (sh, I, R) := (ev_eq f_104_32).trans rfl
theorem f_104_33 : fetch 104 33 = some (33, .aaload, 1, [], 0) := (fm_104 33).trans rfl
theorem u_104_33 {S : Scr} {d : Nat} {a0 a1 a2 : AV} {st : List AV} {sh : Shp} {I : IM} {R : RM} {k : Nat} {i : Int} (h : 200 ≤ tg sh k ∧ tg sh k < 210) (h0 : 0 ≤ i) (h1 : i < ln sh k) : ev S d 104 33 [a0, a1, a2] (.inl i :: .inr (.inl k) :: st) (sh, I, R) = ev S d 104 34 [a0, a1, a2] (rv (R k i) :: st) (sh, I, R) := (ev_eq f_104_33).trans (congrArg (fin S d 104) (if_pos ⟨h.1, h.2, h0, h1⟩))
theorem f_104_34 : fetch 104 34 = some (34, .invokevirtual 214, 3, [18, 1, 111], 0) := (fm_104 34).trans rfl
theorem u_104_34 {S : Scr} {d : Nat} {a0 a1 a2 : AV} {st : List AV} {sh : Shp} {I : IM} {R : RM} {x0 : Nat} {k : Nat} (h : tg sh k = 2) (hr : st.length ≤ 8) : ev S d 104 34 [a0, a1, a2] (.inr (.inl x0) :: .inr (.inl k) :: st) (sh, I, R) = bnd (cl d 18 [.inr (.inl k), .inr (.inl x0)] (sh, I, R)) (fun v M => ev S d 104 37 [a0, a1, a2] (psh v st) M) := (ev_eq f_104_34).trans (congrArg (fin S d 104) (if_pos ⟨h, rfl, hr⟩))
theorem u_104_34n {S : Scr} {d : Nat} {a0 a1 a2 : AV} {st : List AV} {sh : Shp} {I : IM} {R : RM} {k : Nat} (h : tg sh k = 2) (hr : st.length ≤ 8) : ev S d 104 34 [a0, a1, a2] (.inr (.inr 0) :: .inr (.inl k) :: st) (sh, I, R) = bnd (cl d 18 [.inr (.inl k), .inr (.inr 0)] (sh, I, R)) (fun v M => ev S d 104 37 [a0, a1, a2] (psh v st) M) := (ev_eq f_104_34).trans (congrArg (fin S d 104) (if_pos ⟨h, rfl, hr⟩))
theorem f_104_37 : fetch 104 37 = some (37, .istore_n 2, 1, [2], 0) := (fm_104 37).trans rfl
theorem u_104_37 {S : Scr} {d : Nat} {a0 a1 a2 : AV} {st : List AV} {sh : Shp} {I : IM} {R : RM} {x : Int} : ev S d 104 37 [a0, a1, a2] (.inl x :: st) (sh, I, R) = ev S d 104 38 [a0, a1, .inl x] st (sh, I, R) := (ev_eq f_104_37).trans rfl
theorem f_104_38 : fetch 104 38 = some (38, .iload_n 2, 1, [2], 0) := (fm_104 38).trans rfl
theorem u_104_38 {S : Scr} {d : Nat} {a0 a1 : AV} {st : List AV} {sh : Shp} {I : IM} {R : RM} {x : Int} : ev S d 104 38 [a0, a1, .inl x] st (sh, I, R) = ev S d 104 39 [a0, a1, .inl x] (.inl x :: st) (sh, I, R) := (ev_eq f_104_38).trans rfl
theorem f_104_39 : fetch 104 39 = some (39, .ldc 218, 2, [4], (-1000000)) := (fm_104 39).trans rfl
theorem u_104_39 {S : Scr} {d : Nat} {a0 a1 a2 : AV} {st : List AV} {sh : Shp} {I : IM} {R : RM} : ev S d 104 39 [a0, a1, a2] st (sh, I, R) = ev S d 104 41 [a0, a1, a2] (.inl (-1000000) :: st) (sh, I, R) := (ev_eq f_104_39).trans rfl
theorem f_104_41 : fetch 104 41 = some (41, .if_icmp .ne 8, 3, [49], 0) := (fm_104 41).trans rfl
theorem u_104_41 {S : Scr} {d : Nat} {a0 a1 a2 : AV} {st : List AV} {sh : Shp} {I : IM} {R : RM} {x y : Int} : ev S d 104 41 [a0, a1, a2] (.inl y :: .inl x :: st) (sh, I, R) = if ¬ x = y then ev S d 104 49 [a0, a1, a2] st (sh, I, R) else ev S d 104 44 [a0, a1, a2] st (sh, I, R) := (ev_eq f_104_41).trans fin_icmp_ne
theorem f_104_44 : fetch 104 44 = some (44, .bipush (-5), 2, [], (-5)) := (fm_104 44).trans rfl
theorem u_104_44 {S : Scr} {d : Nat} {a0 a1 a2 : AV} {st : List AV} {sh : Shp} {I : IM} {R : RM} : ev S d 104 44 [a0, a1, a2] st (sh, I, R) = ev S d 104 46 [a0, a1, a2] (.inl (-5) :: st) (sh, I, R) := (ev_eq f_104_44).trans rfl
theorem f_104_46 : fetch 104 46 = some (46, .goto 7, 3, [53], 0) := (fm_104 46).trans rfl
theorem u_104_46 {S : Scr} {d : Nat} {a0 a1 a2 : AV} {st : List AV} {sh : Shp} {I : IM} {R : RM} : ev S d 104 46 [a0, a1, a2] st (sh, I, R) = ev S d 104 53 [a0, a1, a2] st (sh, I, R) := (ev_eq f_104_46).trans rfl
theorem f_104_49 : fetch 104 49 = some (49, .iload_n 2, 1, [2], 0) := (fm_104 49).trans rfl
theorem u_104_49 {S : Scr} {d : Nat} {a0 a1 : AV} {st : List AV} {sh : Shp} {I : IM} {R : RM} {x : Int} : ev S d 104 49 [a0, a1, .inl x] st (sh, I, R) = ev S d 104 50 [a0, a1, .inl x] (.inl x :: st) (sh, I, R) := (ev_eq f_104_49).trans rfl
theorem f_104_50 : fetch 104 50 = some (50, .invokestatic 139, 3, [127, 1, 95], 0) := (fm_104 50).trans rfl
theorem u_104_50 {S : Scr} {d : Nat} {a0 a1 a2 : AV} {st : List AV} {sh : Shp} {I : IM} {R : RM} {x0 : Int} (hr : st.length ≤ 8) : ev S d 104 50 [a0, a1, a2] (.inl x0 :: st) (sh, I, R) = bnd (cl d 127 [.inl x0] (sh, I, R)) (fun v M => ev S d 104 53 [a0, a1, a2] (psh v st) M) := (ev_eq f_104_50).trans (congrArg (fin S d 104) (if_pos ⟨rfl, hr⟩))
theorem f_104_53 : fetch 104 53 = some (53, .ireturn, 1, [0], 0) := (fm_104 53).trans rfl
theorem u_104_53 {S : Scr} {d : Nat} {a0 a1 a2 : AV} {sh : Shp} {I : IM} {R : RM} {x : Int} : ev S d 104 53 [a0, a1, a2] [.inl x] (sh, I, R) = some (some (.inl x), (sh, I, R)) := (ev_eq f_104_53).trans fin_iret0
theorem c_105 {d : Nat} {a0 a1 a2 : AV} {M : Mem} : cl (d + 1) 105 [a0, a1, a2] M = ev S0 d 105 0 [a0, a1, a2] [] M := (cl_eq (as := [a0, a1, a2]) (show 3 ≤ maxOf 105 by decide +kernel)).trans rfl
theorem mt_105 : MT[105]? = some m_105 := rfl
theorem fm_105 (pc : Nat) : fetch 105 pc = lk m_105.2.2.2.2.2 pc := by
  unfold fetch
  rw [mt_105]
theorem f_105_0 : fetch 105 0 = some (0, .iload_n 1, 1, [1], 0) := (fm_105 0).trans rfl
theorem u_105_0 {S : Scr} {d : Nat} {a0 a2 : AV} {st : List AV} {sh : Shp} {I : IM} {R : RM} {x : Int} : ev S d 105 0 [a0, .inl x, a2] st (sh, I, R) = ev S d 105 1 [a0, .inl x, a2] (.inl x :: st) (sh, I, R) := (ev_eq f_105_0).trans rfl
theorem f_105_1 : fetch 105 1 = some (1, .ifCond .lt 12, 3, [13], 0) := (fm_105 1).trans rfl
theorem u_105_1 {S : Scr} {d : Nat} {a0 a1 a2 : AV} {st : List AV} {sh : Shp} {I : IM} {R : RM} {x : Int} : ev S d 105 1 [a0, a1, a2] (.inl x :: st) (sh, I, R) = if x < 0 then ev S d 105 13 [a0, a1, a2] st (sh, I, R) else ev S d 105 4 [a0, a1, a2] st (sh, I, R) := (ev_eq f_105_1).trans fin_if_lt
theorem f_105_4 : fetch 105 4 = some (4, .iload_n 2, 1, [2], 0) := (fm_105 4).trans rfl
theorem u_105_4 {S : Scr} {d : Nat} {a0 a1 : AV} {st : List AV} {sh : Shp} {I : IM} {R : RM} {x : Int} : ev S d 105 4 [a0, a1, .inl x] st (sh, I, R) = ev S d 105 5 [a0, a1, .inl x] (.inl x :: st) (sh, I, R) := (ev_eq f_105_4).trans rfl
theorem f_105_5 : fetch 105 5 = some (5, .ifCond .lt 8, 3, [13], 0) := (fm_105 5).trans rfl
theorem u_105_5 {S : Scr} {d : Nat} {a0 a1 a2 : AV} {st : List AV} {sh : Shp} {I : IM} {R : RM} {x : Int} : ev S d 105 5 [a0, a1, a2] (.inl x :: st) (sh, I, R) = if x < 0 then ev S d 105 13 [a0, a1, a2] st (sh, I, R) else ev S d 105 8 [a0, a1, a2] st (sh, I, R) := (ev_eq f_105_5).trans fin_if_lt
theorem f_105_8 : fetch 105 8 = some (8, .iload_n 2, 1, [2], 0) := (fm_105 8).trans rfl
theorem u_105_8 {S : Scr} {d : Nat} {a0 a1 : AV} {st : List AV} {sh : Shp} {I : IM} {R : RM} {x : Int} : ev S d 105 8 [a0, a1, .inl x] st (sh, I, R) = ev S d 105 9 [a0, a1, .inl x] (.inl x :: st) (sh, I, R) := (ev_eq f_105_8).trans rfl
theorem f_105_9 : fetch 105 9 = some (9, .iconst 1, 1, [], 1) := (fm_105 9).trans rfl
theorem u_105_9 {S : Scr} {d : Nat} {a0 a1 a2 : AV} {st : List AV} {sh : Shp} {I : IM} {R : RM} : ev S d 105 9 [a0, a1, a2] st (sh, I, R) = ev S d 105 10 [a0, a1, a2] (.inl 1 :: st) (sh, I, R) := (ev_eq f_105_9).trans rfl
theorem f_105_10 : fetch 105 10 = some (10, .if_icmp .le 5, 3, [15], 0) := (fm_105 10).trans rfl
theorem u_105_10 {S : Scr} {d : Nat} {a0 a1 a2 : AV} {st : List AV} {sh : Shp} {I : IM} {R : RM} {x y : Int} : ev S d 105 10 [a0, a1, a2] (.inl y :: .inl x :: st) (sh, I, R) = if x ≤ y then ev S d 105 15 [a0, a1, a2] st (sh, I, R) else ev S d 105 13 [a0, a1, a2] st (sh, I, R) := (ev_eq f_105_10).trans fin_icmp_le
theorem f_105_13 : fetch 105 13 = some (13, .iconst (-1), 1, [], (-1)) := (fm_105 13).trans rfl
theorem u_105_13 {S : Scr} {d : Nat} {a0 a1 a2 : AV} {st : List AV} {sh : Shp} {I : IM} {R : RM} : ev S d 105 13 [a0, a1, a2] st (sh, I, R) = ev S d 105 14 [a0, a1, a2] (.inl (-1) :: st) (sh, I, R) := (ev_eq f_105_13).trans rfl
theorem f_105_14 : fetch 105 14 = some (14, .ireturn, 1, [0], 0) := (fm_105 14).trans rfl
theorem u_105_14 {S : Scr} {d : Nat} {a0 a1 a2 : AV} {sh : Shp} {I : IM} {R : RM} {x : Int} : ev S d 105 14 [a0, a1, a2] [.inl x] (sh, I, R) = some (some (.inl x), (sh, I, R)) := (ev_eq f_105_14).trans fin_iret0
theorem f_105_15 : fetch 105 15 = some (15, .aload_n 0, 1, [0], 0) := (fm_105 15).trans rfl
theorem u_105_15 {S : Scr} {d : Nat} {a1 a2 : AV} {st : List AV} {sh : Shp} {I : IM} {R : RM} {x : Nat} : ev S d 105 15 [.inr (.inl x), a1, a2] st (sh, I, R) = ev S d 105 16 [.inr (.inl x), a1, a2] (.inr (.inl x) :: st) (sh, I, R) := (ev_eq f_105_15).trans rfl
theorem f_105_16 : fetch 105 16 = some (16, .getfield 38, 3, [8, 4, 1, 59], 0) := (fm_105 16).trans rfl
theorem u_105_16 {S : Scr} {d : Nat} {a0 a1 a2 : AV} {st : List AV} {sh : Shp} {I : IM} {R : RM} {k : Nat} (h : tg sh k = 8) : ev S d 105 16 [a0, a1, a2] (.inr (.inl k) :: st) (sh, I, R) = ev S d 105 19 [a0, a1, a2] (rv (R k 4) :: st) (sh, I, R) := (ev_eq f_105_16).trans (congrArg (fin S d 105) (if_pos h))
theorem f_105_19 : fetch 105 19 = some (19, .getfield 219, 3, [2, 1, 1, 76], 0) := (fm_105 19).trans rfl
theorem u_105_19 {S : Scr} {d : Nat} {a0 a1 a2 : AV} {st : List AV} {sh : Shp} {I : IM} {R : RM} {k : Nat} (h : tg sh k = 2) : ev S d 105 19 [a0, a1, a2] (.inr (.inl k) :: st) (sh, I, R) = ev S d 105 22 [a0, a1, a2] (rv (R k 1) :: st) (sh, I, R) := (ev_eq f_105_19).trans (congrArg (fin S d 105) (if_pos h))
theorem f_105_22 : fetch 105 22 = some (22, .iload_n 1, 1, [1], 0) := (fm_105 22).trans rfl
theorem u_105_22 {S : Scr} {d : Nat} {a0 a2 : AV} {st : List AV} {sh : Shp} {I : IM} {R : RM} {x : Int} : ev S d 105 22 [a0, .inl x, a2] st (sh, I, R) = ev S d 105 23 [a0, .inl x, a2] (.inl x :: st) (sh, I, R) := (ev_eq f_105_22).trans rfl
theorem f_105_23 : fetch 105 23 = some (23, .iload_n 2, 1, [2], 0) := (fm_105 23).trans rfl
theorem u_105_23 {S : Scr} {d : Nat} {a0 a1 : AV} {st : List AV} {sh : Shp} {I : IM} {R : RM} {x : Int} : ev S d 105 23 [a0, a1, .inl x] st (sh, I, R) = ev S d 105 24 [a0, a1, .inl x] (.inl x :: st) (sh, I, R) := (ev_eq f_105_23).trans rfl
theorem f_105_24 : fetch 105 24 = some (24, .ifCond .ne 7, 3, [31], 0) := (fm_105 24).trans rfl
theorem u_105_24 {S : Scr} {d : Nat} {a0 a1 a2 : AV} {st : List AV} {sh : Shp} {I : IM} {R : RM} {x : Int} : ev S d 105 24 [a0, a1, a2] (.inl x :: st) (sh, I, R) = if ¬ x = 0 then ev S d 105 31 [a0, a1, a2] st (sh, I, R) else ev S d 105 27 [a0, a1, a2] st (sh, I, R) := (ev_eq f_105_24).trans fin_if_ne
theorem f_105_27 : fetch 105 27 = some (27, .iconst 1, 1, [], 1) := (fm_105 27).trans rfl
theorem u_105_27 {S : Scr} {d : Nat} {a0 a1 a2 : AV} {st : List AV} {sh : Shp} {I : IM} {R : RM} : ev S d 105 27 [a0, a1, a2] st (sh, I, R) = ev S d 105 28 [a0, a1, a2] (.inl 1 :: st) (sh, I, R) := (ev_eq f_105_27).trans rfl
theorem f_105_28 : fetch 105 28 = some (28, .goto 4, 3, [32], 0) := (fm_105 28).trans rfl
theorem u_105_28 {S : Scr} {d : Nat} {a0 a1 a2 : AV} {st : List AV} {sh : Shp} {I : IM} {R : RM} : ev S d 105 28 [a0, a1, a2] st (sh, I, R) = ev S d 105 32 [a0, a1, a2] st (sh, I, R) := (ev_eq f_105_28).trans rfl
theorem f_105_31 : fetch 105 31 = some (31, .iconst 0, 1, [], 0) := (fm_105 31).trans rfl
theorem u_105_31 {S : Scr} {d : Nat} {a0 a1 a2 : AV} {st : List AV} {sh : Shp} {I : IM} {R : RM} : ev S d 105 31 [a0, a1, a2] st (sh, I, R) = ev S d 105 32 [a0, a1, a2] (.inl 0 :: st) (sh, I, R) := (ev_eq f_105_31).trans rfl
theorem f_105_32 : fetch 105 32 = some (32, .invokevirtual 223, 3, [3, 2, 112], 0) := (fm_105 32).trans rfl
theorem u_105_32 {S : Scr} {d : Nat} {a0 a1 a2 : AV} {st : List AV} {sh : Shp} {I : IM} {R : RM} {x0 : Int} {x1 : Int} {k : Nat} (h : tg sh k = 0) (hr : st.length ≤ 8) : ev S d 105 32 [a0, a1, a2] (.inl x1 :: .inl x0 :: .inr (.inl k) :: st) (sh, I, R) = bnd (cl d 3 [.inr (.inl k), .inl x0, .inl x1] (sh, I, R)) (fun v M => ev S d 105 35 [a0, a1, a2] (psh v st) M) := (ev_eq f_105_32).trans (congrArg (fin S d 105) (if_pos ⟨h, rfl, hr⟩))
theorem f_105_35 : fetch 105 35 = some (35, .ireturn, 1, [0], 0) := (fm_105 35).trans rfl
theorem u_105_35 {S : Scr} {d : Nat} {a0 a1 a2 : AV} {sh : Shp} {I : IM} {R : RM} {x : Int} : ev S d 105 35 [a0, a1, a2] [.inl x] (sh, I, R) = some (some (.inl x), (sh, I, R)) := (ev_eq f_105_35).trans fin_iret0
theorem c_106 {d : Nat} {a0 a1 a2 : AV} {M : Mem} : cl (d + 1) 106 [a0, a1, a2] M = ev S0 d 106 0 [a0, a1, a2] [] M := (cl_eq (as := [a0, a1, a2]) (show 3 ≤ maxOf 106 by decide +kernel)).trans rfl
theorem mt_106 : MT[106]? = some m_106 := rfl
theorem fm_106 (pc : Nat) : fetch 106 pc = lk m_106.2.2.2.2.2 pc := by
  unfold fetch
  rw [mt_106]
theorem f_106_0 : fetch 106 0 = some (0, .iload_n 1, 1, [1], 0) := (fm_106 0).trans rfl
theorem u_106_0 {S : Scr} {d : Nat} {a0 a2 : AV} {st : List AV} {sh : Shp} {I : IM} {R : RM} {x : Int} : ev S d 106 0 [a0, .inl x, a2] st (sh, I, R) = ev S d 106 1 [a0, .inl x, a2] (.inl x :: st) (sh, I, R) := (ev_eq f_106_0).trans rfl
theorem f_106_1 : fetch 106 1 = some (1, .invokestatic 187, 3, [121, 1, 105], 0) := (fm_106 1).trans rfl
theorem u_106_1 {S : Scr} {d : Nat} {a0 a1 a2 : AV} {st : List AV} {sh : Shp} {I : IM} {R : RM} {x0 : Int} (hr : st.length ≤ 8) : ev S d 106 1 [a0, a1, a2] (.inl x0 :: st) (sh, I, R) = bnd (cl d 121 [.inl x0] (sh, I, R)) (fun v M => ev S d 106 4 [a0, a1, a2] (psh v st) M) := (ev_eq f_106_1).trans (congrArg (fin S d 106) (if_pos ⟨rfl, hr⟩))
theorem f_106_4 : fetch 106 4 = some (4, .ifCond .eq 11, 3, [15], 0) := (fm_106 4).trans rfl
theorem u_106_4 {S : Scr} {d : Nat} {a0 a1 a2 : AV} {st : List AV} {sh : Shp} {I : IM} {R : RM} {x : Int} : ev S d 106 4 [a0, a1, a2] (.inl x :: st) (sh, I, R) = if x = 0 then ev S d 106 15 [a0, a1, a2] st (sh, I, R) else ev S d 106 7 [a0, a1, a2] st (sh, I, R) := (ev_eq f_106_4).trans fin_if_eq
theorem f_106_7 : fetch 106 7 = some (7, .aload_n 0, 1, [0], 0) := (fm_106 7).trans rfl
theorem u_106_7 {S : Scr} {d : Nat} {a1 a2 : AV} {st : List AV} {sh : Shp} {I : IM} {R : RM} {x : Nat} : ev S d 106 7 [.inr (.inl x), a1, a2] st (sh, I, R) = ev S d 106 8 [.inr (.inl x), a1, a2] (.inr (.inl x) :: st) (sh, I, R) := (ev_eq f_106_7).trans rfl
theorem f_106_8 : fetch 106 8 = some (8, .iload_n 2, 1, [2], 0) := (fm_106 8).trans rfl
theorem u_106_8 {S : Scr} {d : Nat} {a0 a1 : AV} {st : List AV} {sh : Shp} {I : IM} {R : RM} {x : Int} : ev S d 106 8 [a0, a1, .inl x] st (sh, I, R) = ev S d 106 9 [a0, a1, .inl x] (.inl x :: st) (sh, I, R) := (ev_eq f_106_8).trans rfl
theorem f_106_9 : fetch 106 9 = some (9, .invokevirtual 126, 3, [120, 1, 92], 0) := (fm_106 9).trans rfl
theorem u_106_9 {S : Scr} {d : Nat} {a0 a1 a2 : AV} {st : List AV} {sh : Shp} {I : IM} {R : RM} {x0 : Int} {k : Nat} (h : tg sh k = 8) (hr : st.length ≤ 8) : ev S d 106 9 [a0, a1, a2] (.inl x0 :: .inr (.inl k) :: st) (sh, I, R) = bnd (cl d 120 [.inr (.inl k), .inl x0] (sh, I, R)) (fun v M => ev S d 106 12 [a0, a1, a2] (psh v st) M) := (ev_eq f_106_9).trans (congrArg (fin S d 106) (if_pos ⟨h, rfl, hr⟩))
theorem f_106_12 : fetch 106 12 = some (12, .ifCond .ne 5, 3, [17], 0) := (fm_106 12).trans rfl
theorem u_106_12 {S : Scr} {d : Nat} {a0 a1 a2 : AV} {st : List AV} {sh : Shp} {I : IM} {R : RM} {x : Int} : ev S d 106 12 [a0, a1, a2] (.inl x :: st) (sh, I, R) = if ¬ x = 0 then ev S d 106 17 [a0, a1, a2] st (sh, I, R) else ev S d 106 15 [a0, a1, a2] st (sh, I, R) := (ev_eq f_106_12).trans fin_if_ne
theorem f_106_15 : fetch 106 15 = some (15, .iconst (-1), 1, [], (-1)) := (fm_106 15).trans rfl
theorem u_106_15 {S : Scr} {d : Nat} {a0 a1 a2 : AV} {st : List AV} {sh : Shp} {I : IM} {R : RM} : ev S d 106 15 [a0, a1, a2] st (sh, I, R) = ev S d 106 16 [a0, a1, a2] (.inl (-1) :: st) (sh, I, R) := (ev_eq f_106_15).trans rfl
theorem f_106_16 : fetch 106 16 = some (16, .ireturn, 1, [0], 0) := (fm_106 16).trans rfl
theorem u_106_16 {S : Scr} {d : Nat} {a0 a1 a2 : AV} {sh : Shp} {I : IM} {R : RM} {x : Int} : ev S d 106 16 [a0, a1, a2] [.inl x] (sh, I, R) = some (some (.inl x), (sh, I, R)) := (ev_eq f_106_16).trans fin_iret0
theorem f_106_17 : fetch 106 17 = some (17, .aload_n 0, 1, [0], 0) := (fm_106 17).trans rfl
theorem u_106_17 {S : Scr} {d : Nat} {a1 a2 : AV} {st : List AV} {sh : Shp} {I : IM} {R : RM} {x : Nat} : ev S d 106 17 [.inr (.inl x), a1, a2] st (sh, I, R) = ev S d 106 18 [.inr (.inl x), a1, a2] (.inr (.inl x) :: st) (sh, I, R) := (ev_eq f_106_17).trans rfl
theorem f_106_18 : fetch 106 18 = some (18, .getfield 44, 3, [8, 5, 1, 60], 0) := (fm_106 18).trans rfl
theorem u_106_18 {S : Scr} {d : Nat} {a0 a1 a2 : AV} {st : List AV} {sh : Shp} {I : IM} {R : RM} {k : Nat} (h : tg sh k = 8) : ev S d 106 18 [a0, a1, a2] (.inr (.inl k) :: st) (sh, I, R) = ev S d 106 21 [a0, a1, a2] (rv (R k 5) :: st) (sh, I, R) := (ev_eq f_106_18).trans (congrArg (fin S d 106) (if_pos h))
theorem f_106_21 : fetch 106 21 = some (21, .iload_n 1, 1, [1], 0) := (fm_106 21).trans rfl
theorem u_106_21 {S : Scr} {d : Nat} {a0 a2 : AV} {st : List AV} {sh : Shp} {I : IM} {R : RM} {x : Int} : ev S d 106 21 [a0, .inl x, a2] st (sh, I, R) = ev S d 106 22 [a0, .inl x, a2] (.inl x :: st) (sh, I, R) := (ev_eq f_106_21).trans rfl
theorem f_106_22 : fetch 106 22 = some (22, .aaload, 1, [], 0) := (fm_106 22).trans rfl
theorem u_106_22 {S : Scr} {d : Nat} {a0 a1 a2 : AV} {st : List AV} {sh : Shp} {I : IM} {R : RM} {k : Nat} {i : Int} (h : 200 ≤ tg sh k ∧ tg sh k < 210) (h0 : 0 ≤ i) (h1 : i < ln sh k) : ev S d 106 22 [a0, a1, a2] (.inl i :: .inr (.inl k) :: st) (sh, I, R) = ev S d 106 23 [a0, a1, a2] (rv (R k i) :: st) (sh, I, R) := (ev_eq f_106_22).trans (congrArg (fin S d 106) (if_pos ⟨h.1, h.2, h0, h1⟩))
theorem f_106_23 : fetch 106 23 = some (23, .invokevirtual 193, 3, [45, 0, 107], 0) := (fm_106 23).trans rfl
theorem u_106_23 {S : Scr} {d : Nat} {a0 a1 a2 : AV} {st : List AV} {sh : Shp} {I : IM} {R : RM} {k : Nat} (h : tg sh k = 5) (hr : st.length ≤ 8) : ev S d 106 23 [a0, a1, a2] (.inr (.inl k) :: st) (sh, I, R) = bnd (cl d 45 [.inr (.inl k)] (sh, I, R)) (fun v M => ev S d 106 26 [a0, a1, a2] (psh v st) M) := (ev_eq f_106_23).trans (congrArg (fin S d 106) (if_pos ⟨h, rfl, hr⟩))
theorem f_106_26 : fetch 106 26 = some (26, .ifCond .eq 6, 3, [32], 0) := (fm_106 26).trans rfl
theorem u_106_26 {S : Scr} {d : Nat} {a0 a1 a2 : AV} {st : List AV} {sh : Shp} {I : IM} {R : RM} {x : Int} : ev S d 106 26 [a0, a1, a2] (.inl x :: st) (sh, I, R) = if x = 0 then ev S d 106 32 [a0, a1, a2] st (sh, I, R) else ev S d 106 29 [a0, a1, a2] st (sh, I, R) := (ev_eq f_106_26).trans fin_if_eq
theorem f_106_29 : fetch 106 29 = some (29, .bipush (-11), 2, [], (-11)) := (fm_106 29).trans rfl
theorem u_106_29 {S : Scr} {d : Nat} {a0 a1 a2 : AV} {st : List AV} {sh : Shp} {I : IM} {R : RM} : ev S d 106 29 [a0, a1, a2] st (sh, I, R) = ev S d 106 31 [a0, a1, a2] (.inl (-11) :: st) (sh, I, R) := (ev_eq f_106_29).trans rfl
theorem f_106_31 : fetch 106 31 = some (31, .ireturn, 1, [0], 0) := (fm_106 31).trans rfl
theorem u_106_31 {S : Scr} {d : Nat} {a0 a1 a2 : AV} {sh : Shp} {I : IM} {R : RM} {x : Int} : ev S d 106 31 [a0, a1, a2] [.inl x] (sh, I, R) = some (some (.inl x), (sh, I, R)) := (ev_eq f_106_31).trans fin_iret0
theorem f_106_32 : fetch 106 32 = some (32, .aload_n 0, 1, [0], 0) := (fm_106 32).trans rfl
theorem u_106_32 {S : Scr} {d : Nat} {a1 a2 : AV} {st : List AV} {sh : Shp} {I : IM} {R : RM} {x : Nat} : ev S d 106 32 [.inr (.inl x), a1, a2] st (sh, I, R) = ev S d 106 33 [.inr (.inl x), a1, a2] (.inr (.inl x) :: st) (sh, I, R) := (ev_eq f_106_32).trans rfl
theorem f_106_33 : fetch 106 33 = some (33, .getfield 24, 3, [8, 2, 1, 57], 0) := (fm_106 33).trans rfl
theorem u_106_33 {S : Scr} {d : Nat} {a0 a1 a2 : AV} {st : List AV} {sh : Shp} {I : IM} {R : RM} {k : Nat} (h : tg sh k = 8) : ev S d 106 33 [a0, a1, a2] (.inr (.inl k) :: st) (sh, I, R) = ev S d 106 36 [a0, a1, a2] (rv (R k 2) :: st) (sh, I, R) := (ev_eq f_106_33).trans (congrArg (fin S d 106) (if_pos h))
theorem f_106_36 : fetch 106 36 = some (36, .iload_n 2, 1, [2], 0) := (fm_106 36).trans rfl
theorem u_106_36 {S : Scr} {d : Nat} {a0 a1 : AV} {st : List AV} {sh : Shp} {I : IM} {R : RM} {x : Int} : ev S d 106 36 [a0, a1, .inl x] st (sh, I, R) = ev S d 106 37 [a0, a1, .inl x] (.inl x :: st) (sh, I, R) := (ev_eq f_106_36).trans rfl
theorem f_106_37 : fetch 106 37 = some (37, .invokevirtual 158, 3, [56, 1, 98], 0) := (fm_106 37).trans rfl
theorem u_106_37 {S : Scr} {d : Nat} {a0 a1 a2 : AV} {st : List AV} {sh : Shp} {I : IM} {R : RM} {x0 : Int} {k : Nat} (h : tg sh k = 6) (hr : st.length ≤ 8) : ev S d 106 37 [a0, a1, a2] (.inl x0 :: .inr (.inl k) :: st) (sh, I, R) = bnd (cl d 56 [.inr (.inl k), .inl x0] (sh, I, R)) (fun v M => ev S d 106 40 [a0, a1, a2] (psh v st) M) := (ev_eq f_106_37).trans (congrArg (fin S d 106) (if_pos ⟨h, rfl, hr⟩))
theorem f_106_40 : fetch 106 40 = some (40, .aload_n 0, 1, [0], 0) := (fm_106 40).trans rfl
theorem u_106_40 {S : Scr} {d : Nat} {a1 a2 : AV} {st : List AV} {sh : Shp} {I : IM} {R : RM} {x : Nat} : ev S d 106 40 [.inr (.inl x), a1, a2] st (sh, I, R) = ev S d 106 41 [.inr (.inl x), a1, a2] (.inr (.inl x) :: st) (sh, I, R) := (ev_eq f_106_40).trans rfl
theorem f_106_41 : fetch 106 41 = some (41, .getfield 24, 3, [8, 2, 1, 57], 0) := (fm_106 41).trans rfl
theorem u_106_41 {S : Scr} {d : Nat} {a0 a1 a2 : AV} {st : List AV} {sh : Shp} {I : IM} {R : RM} {k : Nat} (h : tg sh k = 8) : ev S d 106 41 [a0, a1, a2] (.inr (.inl k) :: st) (sh, I, R) = ev S d 106 44 [a0, a1, a2] (rv (R k 2) :: st) (sh, I, R) := (ev_eq f_106_41).trans (congrArg (fin S d 106) (if_pos h))
theorem f_106_44 : fetch 106 44 = some (44, .getfield 203, 3, [6, 1, 1, 75], 0) := (fm_106 44).trans rfl
theorem u_106_44 {S : Scr} {d : Nat} {a0 a1 a2 : AV} {st : List AV} {sh : Shp} {I : IM} {R : RM} {k : Nat} (h : tg sh k = 6) : ev S d 106 44 [a0, a1, a2] (.inr (.inl k) :: st) (sh, I, R) = ev S d 106 47 [a0, a1, a2] (rv (R k 1) :: st) (sh, I, R) := (ev_eq f_106_44).trans (congrArg (fin S d 106) (if_pos h))
theorem f_106_47 : fetch 106 47 = some (47, .invokevirtual 207, 3, [46, 0, 109], 0) := (fm_106 47).trans rfl
theorem u_106_47 {S : Scr} {d : Nat} {a0 a1 a2 : AV} {st : List AV} {sh : Shp} {I : IM} {R : RM} {k : Nat} (h : tg sh k = 5) (hr : st.length ≤ 8) : ev S d 106 47 [a0, a1, a2] (.inr (.inl k) :: st) (sh, I, R) = bnd (cl d 46 [.inr (.inl k)] (sh, I, R)) (fun v M => ev S d 106 50 [a0, a1, a2] (psh v st) M) := (ev_eq f_106_47).trans (congrArg (fin S d 106) (if_pos ⟨h, rfl, hr⟩))
theorem f_106_50 : fetch 106 50 = some (50, .ifCond .eq 8, 3, [58], 0) := (fm_106 50).trans rfl
theorem u_106_50 {S : Scr} {d : Nat} {a0 a1 a2 : AV} {st : List AV} {sh : Shp} {I : IM} {R : RM} {x : Int} : ev S d 106 50 [a0, a1, a2] (.inl x :: st) (sh, I, R) = if x = 0 then ev S d 106 58 [a0, a1, a2] st (sh, I, R) else ev S d 106 53 [a0, a1, a2] st (sh, I, R) := (ev_eq f_106_50).trans fin_if_eq
theorem f_106_53 : fetch 106 53 = some (53, .bipush (-3), 2, [], (-3)) := (fm_106 53).trans rfl
theorem u_106_53 {S : Scr} {d : Nat} {a0 a1 a2 : AV} {st : List AV} {sh : Shp} {I : IM} {R : RM} : ev S d 106 53 [a0, a1, a2] st (sh, I, R) = ev S d 106 55 [a0, a1, a2] (.inl (-3) :: st) (sh, I, R) := (ev_eq f_106_53).trans rfl
theorem f_106_55 : fetch 106 55 = some (55, .goto 19, 3, [74], 0) := (fm_106 55).trans rfl
theorem u_106_55 {S : Scr} {d : Nat} {a0 a1 a2 : AV} {st : List AV} {sh : Shp} {I : IM} {R : RM} : ev S d 106 55 [a0, a1, a2] st (sh, I, R) = ev S d 106 74 [a0, a1, a2] st (sh, I, R) := (ev_eq f_106_55).trans rfl
theorem f_106_58 : fetch 106 58 = some (58, .aload_n 0, 1, [0], 0) := (fm_106 58).trans rfl
theorem u_106_58 {S : Scr} {d : Nat} {a1 a2 : AV} {st : List AV} {sh : Shp} {I : IM} {R : RM} {x : Nat} : ev S d 106 58 [.inr (.inl x), a1, a2] st (sh, I, R) = ev S d 106 59 [.inr (.inl x), a1, a2] (.inr (.inl x) :: st) (sh, I, R) := (ev_eq f_106_58).trans rfl
theorem f_106_59 : fetch 106 59 = some (59, .getfield 44, 3, [8, 5, 1, 60], 0) := (fm_106 59).trans rfl
theorem u_106_59 {S : Scr} {d : Nat} {a0 a1 a2 : AV} {st : List AV} {sh : Shp} {I : IM} {R : RM} {k : Nat} (h : tg sh k = 8) : ev S d 106 59 [a0, a1, a2] (.inr (.inl k) :: st) (sh, I, R) = ev S d 106 62 [a0, a1, a2] (rv (R k 5) :: st) (sh, I, R) := (ev_eq f_106_59).trans (congrArg (fin S d 106) (if_pos h))
theorem f_106_62 : fetch 106 62 = some (62, .iload_n 1, 1, [1], 0) := (fm_106 62).trans rfl
theorem u_106_62 {S : Scr} {d : Nat} {a0 a2 : AV} {st : List AV} {sh : Shp} {I : IM} {R : RM} {x : Int} : ev S d 106 62 [a0, .inl x, a2] st (sh, I, R) = ev S d 106 63 [a0, .inl x, a2] (.inl x :: st) (sh, I, R) := (ev_eq f_106_62).trans rfl
theorem f_106_63 : fetch 106 63 = some (63, .aaload, 1, [], 0) := (fm_106 63).trans rfl
theorem u_106_63 {S : Scr} {d : Nat} {a0 a1 a2 : AV} {st : List AV} {sh : Shp} {I : IM} {R : RM} {k : Nat} {i : Int} (h : 200 ≤ tg sh k ∧ tg sh k < 210) (h0 : 0 ≤ i) (h1 : i < ln sh k) : ev S d 106 63 [a0, a1, a2] (.inl i :: .inr (.inl k) :: st) (sh, I, R) = ev S d 106 64 [a0, a1, a2] (rv (R k i) :: st) (sh, I, R) := (ev_eq f_106_63).trans (congrArg (fin S d 106) (if_pos ⟨h.1, h.2, h0, h1⟩))
theorem f_106_64 : fetch 106 64 = some (64, .aload_n 0, 1, [0], 0) := (fm_106 64).trans rfl
theorem u_106_64 {S : Scr} {d : Nat} {a1 a2 : AV} {st : List AV} {sh : Shp} {I : IM} {R : RM} {x : Nat} : ev S d 106 64 [.inr (.inl x), a1, a2] st (sh, I, R) = ev S d 106 65 [.inr (.inl x), a1, a2] (.inr (.inl x) :: st) (sh, I, R) := (ev_eq f_106_64).trans rfl
theorem f_106_65 : fetch 106 65 = some (65, .getfield 24, 3, [8, 2, 1, 57], 0) := (fm_106 65).trans rfl
theorem u_106_65 {S : Scr} {d : Nat} {a0 a1 a2 : AV} {st : List AV} {sh : Shp} {I : IM} {R : RM} {k : Nat} (h : tg sh k = 8) : ev S d 106 65 [a0, a1, a2] (.inr (.inl k) :: st) (sh, I, R) = ev S d 106 68 [a0, a1, a2] (rv (R k 2) :: st) (sh, I, R) := (ev_eq f_106_65).trans (congrArg (fin S d 106) (if_pos h))
theorem f_106_68 : fetch 106 68 = some (68, .getfield 203, 3, [6, 1, 1, 75], 0) := (fm_106 68).trans rfl
theorem u_106_68 {S : Scr} {d : Nat} {a0 a1 a2 : AV} {st : List AV} {sh : Shp} {I : IM} {R : RM} {k : Nat} (h : tg sh k = 6) : ev S d 106 68 [a0, a1, a2] (.inr (.inl k) :: st) (sh, I, R) = ev S d 106 71 [a0, a1, a2] (rv (R k 1) :: st) (sh, I, R) := (ev_eq f_106_68).trans (congrArg (fin S d 106) (if_pos h))
theorem f_106_71 : fetch 106 71 = some (71, .invokevirtual 229, 3, [52, 1, 113], 0) := (fm_106 71).trans rfl
theorem u_106_71 {S : Scr} {d : Nat} {a0 a1 a2 : AV} {st : List AV} {sh : Shp} {I : IM} {R : RM} {x0 : Nat} {k : Nat} (h : tg sh k = 5) (hr : st.length ≤ 8) : ev S d 106 71 [a0, a1, a2] (.inr (.inl x0) :: .inr (.inl k) :: st) (sh, I, R) = bnd (cl d 52 [.inr (.inl k), .inr (.inl x0)] (sh, I, R)) (fun v M => ev S d 106 74 [a0, a1, a2] (psh v st) M) := (ev_eq f_106_71).trans (congrArg (fin S d 106) (if_pos ⟨h, rfl, hr⟩))
theorem u_106_71n {S : Scr} {d : Nat} {a0 a1 a2 : AV} {st : List AV} {sh : Shp} {I : IM} {R : RM} {k : Nat} (h : tg sh k = 5) (hr : st.length ≤ 8) : ev S d 106 71 [a0, a1, a2] (.inr (.inr 0) :: .inr (.inl k) :: st) (sh, I, R) = bnd (cl d 52 [.inr (.inl k), .inr (.inr 0)] (sh, I, R)) (fun v M => ev S d 106 74 [a0, a1, a2] (psh v st) M) := (ev_eq f_106_71).trans (congrArg (fin S d 106) (if_pos ⟨h, rfl, hr⟩))
theorem f_106_74 : fetch 106 74 = some (74, .ireturn, 1, [0], 0) := (fm_106 74).trans rfl
theorem u_106_74 {S : Scr} {d : Nat} {a0 a1 a2 : AV} {sh : Shp} {I : IM} {R : RM} {x : Int} : ev S d 106 74 [a0, a1, a2] [.inl x] (sh, I, R) = some (some (.inl x), (sh, I, R)) := (ev_eq f_106_74).trans fin_iret0
theorem c_107 {d : Nat} {a0 a1 a2 : AV} {M : Mem} : cl (d + 1) 107 [a0, a1, a2] M = ev S0 d 107 0 [a0, a1, a2] [] M := (cl_eq (as := [a0, a1, a2]) (show 3 ≤ maxOf 107 by decide +kernel)).trans rfl
theorem mt_107 : MT[107]? = some m_107 := rfl
theorem fm_107 (pc : Nat) : fetch 107 pc = lk m_107.2.2.2.2.2 pc := by
  unfold fetch
  rw [mt_107]
theorem f_107_0 : fetch 107 0 = some (0, .aload_n 0, 1, [0], 0) := (fm_107 0).trans rfl
theorem u_107_0 {S : Scr} {d : Nat} {a1 a2 : AV} {st : List AV} {sh : Shp} {I : IM} {R : RM} {x : Nat} : ev S d 107 0 [.inr (.inl x), a1, a2] st (sh, I, R) = ev S d 107 1 [.inr (.inl x), a1, a2] (.inr (.inl x) :: st) (sh, I, R) := (ev_eq f_107_0).trans rfl
theorem f_107_1 : fetch 107 1 = some (1, .getfield 10, 3, [8, 0, 1, 55], 0) := (fm_107 1).trans rfl
theorem u_107_1 {S : Scr} {d : Nat} {a0 a1 a2 : AV} {st : List AV} {sh : Shp} {I : IM} {R : RM} {k : Nat} (h : tg sh k = 8) : ev S d 107 1 [a0, a1, a2] (.inr (.inl k) :: st) (sh, I, R) = ev S d 107 4 [a0, a1, a2] (rv (R k 0) :: st) (sh, I, R) := (ev_eq f_107_1).trans (congrArg (fin S d 107) (if_pos h))
theorem f_107_4 : fetch 107 4 = some (4, .iload_n 1, 1, [1], 0) := (fm_107 4).trans rfl
theorem u_107_4 {S : Scr} {d : Nat} {a0 a2 : AV} {st : List AV} {sh : Shp} {I : IM} {R : RM} {x : Int} : ev S d 107 4 [a0, .inl x, a2] st (sh, I, R) = ev S d 107 5 [a0, .inl x, a2] (.inl x :: st) (sh, I, R) := (ev_eq f_107_4).trans rfl
theorem f_107_5 : fetch 107 5 = some (5, .invokevirtual 102, 3, [68, 1, 88], 0) := (fm_107 5).trans rfl
theorem u_107_5 {S : Scr} {d : Nat} {a0 a1 a2 : AV} {st : List AV} {sh : Shp} {I : IM} {R : RM} {x0 : Int} {k : Nat} (h : tg sh k = 7) (hr : st.length ≤ 8) : ev S d 107 5 [a0, a1, a2] (.inl x0 :: .inr (.inl k) :: st) (sh, I, R) = bnd (cl d 68 [.inr (.inl k), .inl x0] (sh, I, R)) (fun v M => ev S d 107 8 [a0, a1, a2] (psh v st) M) := (ev_eq f_107_5).trans (congrArg (fin S d 107) (if_pos ⟨h, rfl, hr⟩))
theorem f_107_8 : fetch 107 8 = some (8, .ifnonnull 5, 3, [13], 0) := (fm_107 8).trans rfl
theorem u_107_8 {S : Scr} {d : Nat} {a0 a1 a2 : AV} {st : List AV} {sh : Shp} {I : IM} {R : RM} {x : Nat} : ev S d 107 8 [a0, a1, a2] (.inr (.inl x) :: st) (sh, I, R) = ev S d 107 13 [a0, a1, a2] st (sh, I, R) := (ev_eq f_107_8).trans rfl
theorem u_107_8n {S : Scr} {d : Nat} {a0 a1 a2 : AV} {st : List AV} {sh : Shp} {I : IM} {R : RM} : ev S d 107 8 [a0, a1, a2] (.inr (.inr 0) :: st) (sh, I, R) = ev S d 107 11 [a0, a1, a2] st (sh, I, R) := (ev_eq f_107_8).trans rfl
theorem f_107_11 : fetch 107 11 = some (11, .iconst (-1), 1, [], (-1)) := (fm_107 11).trans rfl
theorem u_107_11 {S : Scr} {d : Nat} {a0 a1 a2 : AV} {st : List AV} {sh : Shp} {I : IM} {R : RM} : ev S d 107 11 [a0, a1, a2] st (sh, I, R) = ev S d 107 12 [a0, a1, a2] (.inl (-1) :: st) (sh, I, R) := (ev_eq f_107_11).trans rfl
theorem f_107_12 : fetch 107 12 = some (12, .ireturn, 1, [0], 0) := (fm_107 12).trans rfl
theorem u_107_12 {S : Scr} {d : Nat} {a0 a1 a2 : AV} {sh : Shp} {I : IM} {R : RM} {x : Int} : ev S d 107 12 [a0, a1, a2] [.inl x] (sh, I, R) = some (some (.inl x), (sh, I, R)) := (ev_eq f_107_12).trans fin_iret0
theorem f_107_13 : fetch 107 13 = some (13, .aload_n 0, 1, [0], 0) := (fm_107 13).trans rfl
theorem u_107_13 {S : Scr} {d : Nat} {a1 a2 : AV} {st : List AV} {sh : Shp} {I : IM} {R : RM} {x : Nat} : ev S d 107 13 [.inr (.inl x), a1, a2] st (sh, I, R) = ev S d 107 14 [.inr (.inl x), a1, a2] (.inr (.inl x) :: st) (sh, I, R) := (ev_eq f_107_13).trans rfl
theorem f_107_14 : fetch 107 14 = some (14, .getfield 24, 3, [8, 2, 1, 57], 0) := (fm_107 14).trans rfl
theorem u_107_14 {S : Scr} {d : Nat} {a0 a1 a2 : AV} {st : List AV} {sh : Shp} {I : IM} {R : RM} {k : Nat} (h : tg sh k = 8) : ev S d 107 14 [a0, a1, a2] (.inr (.inl k) :: st) (sh, I, R) = ev S d 107 17 [a0, a1, a2] (rv (R k 2) :: st) (sh, I, R) := (ev_eq f_107_14).trans (congrArg (fin S d 107) (if_pos h))
theorem f_107_17 : fetch 107 17 = some (17, .iload_n 1, 1, [1], 0) := (fm_107 17).trans rfl
theorem u_107_17 {S : Scr} {d : Nat} {a0 a2 : AV} {st : List AV} {sh : Shp} {I : IM} {R : RM} {x : Int} : ev S d 107 17 [a0, .inl x, a2] st (sh, I, R) = ev S d 107 18 [a0, .inl x, a2] (.inl x :: st) (sh, I, R) := (ev_eq f_107_17).trans rfl
theorem f_107_18 : fetch 107 18 = some (18, .invokevirtual 158, 3, [56, 1, 98], 0) := (fm_107 18).trans rfl
theorem u_107_18 {S : Scr} {d : Nat} {a0 a1 a2 : AV} {st : List AV} {sh : Shp} {I : IM} {R : RM} {x0 : Int} {k : Nat} (h : tg sh k = 6) (hr : st.length ≤ 8) : ev S d 107 18 [a0, a1, a2] (.inl x0 :: .inr (.inl k) :: st) (sh, I, R) = bnd (cl d 56 [.inr (.inl k), .inl x0] (sh, I, R)) (fun v M => ev S d 107 21 [a0, a1, a2] (psh v st) M) := (ev_eq f_107_18).trans (congrArg (fin S d 107) (if_pos ⟨h, rfl, hr⟩))
theorem f_107_21 : fetch 107 21 = some (21, .iload_n 2, 1, [2], 0) := (fm_107 21).trans rfl
theorem u_107_21 {S : Scr} {d : Nat} {a0 a1 : AV} {st : List AV} {sh : Shp} {I : IM} {R : RM} {x : Int} : ev S d 107 21 [a0, a1, .inl x] st (sh, I, R) = ev S d 107 22 [a0, a1, .inl x] (.inl x :: st) (sh, I, R) := (ev_eq f_107_21).trans rfl
theorem f_107_22 : fetch 107 22 = some (22, .tableswitch 105 0 4 #[34, 42, 50, 68, 76], 34, [127, 0, 56, 1, 64, 2, 72, 3, 90, 4, 98], 0) := (fm_107 22).trans rfl
theorem u_107_22 {S : Scr} {d : Nat} {a0 a1 a2 : AV} {st : List AV} {sh : Shp} {I : IM} {R : RM} {x : Int} : ev S d 107 22 [a0, a1, a2] (.inl x :: st) (sh, I, R) = if x = 0 then ev S d 107 56 [a0, a1, a2] st (sh, I, R) else if x = 1 then ev S d 107 64 [a0, a1, a2] st (sh, I, R) else if x = 2 then ev S d 107 72 [a0, a1, a2] st (sh, I, R) else if x = 3 then ev S d 107 90 [a0, a1, a2] st (sh, I, R) else if x = 4 then ev S d 107 98 [a0, a1, a2] st (sh, I, R) else ev S d 107 127 [a0, a1, a2] st (sh, I, R) := by
  rw [ev_eq f_107_22]
  show ev S d 107 (swt 127 x [0, 56, 1, 64, 2, 72, 3, 90, 4, 98]) _ _ _ = _
  rw [ev_sw, ev_sw, ev_sw, ev_sw, ev_sw, ev_sw0]
  rfl
theorem f_107_56 : fetch 107 56 = some (56, .aload_n 0, 1, [0], 0) := (fm_107 56).trans rfl
theorem u_107_56 {S : Scr} {d : Nat} {a1 a2 : AV} {st : List AV} {sh : Shp} {I : IM} {R : RM} {x : Nat} : ev S d 107 56 [.inr (.inl x), a1, a2] st (sh, I, R) = ev S d 107 57 [.inr (.inl x), a1, a2] (.inr (.inl x) :: st) (sh, I, R) := (ev_eq f_107_56).trans rfl
theorem f_107_57 : fetch 107 57 = some (57, .getfield 24, 3, [8, 2, 1, 57], 0) := (fm_107 57).trans rfl
theorem u_107_57 {S : Scr} {d : Nat} {a0 a1 a2 : AV} {st : List AV} {sh : Shp} {I : IM} {R : RM} {k : Nat} (h : tg sh k = 8) : ev S d 107 57 [a0, a1, a2] (.inr (.inl k) :: st) (sh, I, R) = ev S d 107 60 [a0, a1, a2] (rv (R k 2) :: st) (sh, I, R) := (ev_eq f_107_57).trans (congrArg (fin S d 107) (if_pos h))
theorem f_107_60 : fetch 107 60 = some (60, .getfield 162, 3, [6, 5, 0, 71], 0) := (fm_107 60).trans rfl
theorem u_107_60 {S : Scr} {d : Nat} {a0 a1 a2 : AV} {st : List AV} {sh : Shp} {I : IM} {R : RM} {k : Nat} (h : tg sh k = 6) : ev S d 107 60 [a0, a1, a2] (.inr (.inl k) :: st) (sh, I, R) = ev S d 107 63 [a0, a1, a2] (.inl (I k 5) :: st) (sh, I, R) := (ev_eq f_107_60).trans (congrArg (fin S d 107) (if_pos h))
theorem f_107_63 : fetch 107 63 = some (63, .ireturn, 1, [0], 0) := (fm_107 63).trans rfl
theorem u_107_63 {S : Scr} {d : Nat} {a0 a1 a2 : AV} {sh : Shp} {I : IM} {R : RM} {x : Int} : ev S d 107 63 [a0, a1, a2] [.inl x] (sh, I, R) = some (some (.inl x), (sh, I, R)) := (ev_eq f_107_63).trans fin_iret0
theorem f_107_64 : fetch 107 64 = some (64, .aload_n 0, 1, [0], 0) := (fm_107 64).trans rfl
theorem u_107_64 {S : Scr} {d : Nat} {a1 a2 : AV} {st : List AV} {sh : Shp} {I : IM} {R : RM} {x : Nat} : ev S d 107 64 [.inr (.inl x), a1, a2] st (sh, I, R) = ev S d 107 65 [.inr (.inl x), a1, a2] (.inr (.inl x) :: st) (sh, I, R) := (ev_eq f_107_64).trans rfl
theorem f_107_65 : fetch 107 65 = some (65, .getfield 24, 3, [8, 2, 1, 57], 0) := (fm_107 65).trans rfl
theorem u_107_65 {S : Scr} {d : Nat} {a0 a1 a2 : AV} {st : List AV} {sh : Shp} {I : IM} {R : RM} {k : Nat} (h : tg sh k = 8) : ev S d 107 65 [a0, a1, a2] (.inr (.inl k) :: st) (sh, I, R) = ev S d 107 68 [a0, a1, a2] (rv (R k 2) :: st) (sh, I, R) := (ev_eq f_107_65).trans (congrArg (fin S d 107) (if_pos h))
theorem f_107_68 : fetch 107 68 = some (68, .invokevirtual 232, 3, [61, 0, 114], 0) := (fm_107 68).trans rfl
theorem u_107_68 {S : Scr} {d : Nat} {a0 a1 a2 : AV} {st : List AV} {sh : Shp} {I : IM} {R : RM} {k : Nat} (h : tg sh k = 6) (hr : st.length ≤ 8) : ev S d 107 68 [a0, a1, a2] (.inr (.inl k) :: st) (sh, I, R) = bnd (cl d 61 [.inr (.inl k)] (sh, I, R)) (fun v M => ev S d 107 71 [a0, a1, a2] (psh v st) M) := (ev_eq f_107_68).trans (congrArg (fin S d 107) (if_pos ⟨h, rfl, hr⟩))
theorem f_107_71 : fetch 107 71 = some (71, .ireturn, 1, [0], 0) := (fm_107 71).trans rfl
theorem u_107_71 {S : Scr} {d : Nat} {a0 a1 a2 : AV} {sh : Shp} {I : IM} {R : RM} {x : Int} : ev S d 107 71 [a0, a1, a2] [.inl x] (sh, I, R) = some (some (.inl x), (sh, I, R)) := (ev_eq f_107_71).trans fin_iret0
theorem f_107_72 : fetch 107 72 = some (72, .aload_n 0, 1, [0], 0) := (fm_107 72).trans rfl
theorem u_107_72 {S : Scr} {d : Nat} {a1 a2 : AV} {st : List AV} {sh : Shp} {I : IM} {R : RM} {x : Nat} : ev S d 107 72 [.inr (.inl x), a1, a2] st (sh, I, R) = ev S d 107 73 [.inr (.inl x), a1, a2] (.inr (.inl x) :: st) (sh, I, R) := (ev_eq f_107_72).trans rfl
theorem f_107_73 : fetch 107 73 = some (73, .getfield 24, 3, [8, 2, 1, 57], 0) := (fm_107 73).trans rfl
theorem u_107_73 {S : Scr} {d : Nat} {a0 a1 a2 : AV} {st : List AV} {sh : Shp} {I : IM} {R : RM} {k : Nat} (h : tg sh k = 8) : ev S d 107 73 [a0, a1, a2] (.inr (.inl k) :: st) (sh, I, R) = ev S d 107 76 [a0, a1, a2] (rv (R k 2) :: st) (sh, I, R) := (ev_eq f_107_73).trans (congrArg (fin S d 107) (if_pos h))
theorem f_107_76 : fetch 107 76 = some (76, .invokevirtual 235, 3, [64, 0, 115], 0) := (fm_107 76).trans rfl
theorem u_107_76 {S : Scr} {d : Nat} {a0 a1 a2 : AV} {st : List AV} {sh : Shp} {I : IM} {R : RM} {k : Nat} (h : tg sh k = 6) (hr : st.length ≤ 8) : ev S d 107 76 [a0, a1, a2] (.inr (.inl k) :: st) (sh, I, R) = bnd (cl d 64 [.inr (.inl k)] (sh, I, R)) (fun v M => ev S d 107 79 [a0, a1, a2] (psh v st) M) := (ev_eq f_107_76).trans (congrArg (fin S d 107) (if_pos ⟨h, rfl, hr⟩))
theorem f_107_79 : fetch 107 79 = some (79, .bipush (-2), 2, [], (-2)) := (fm_107 79).trans rfl
theorem u_107_79 {S : Scr} {d : Nat} {a0 a1 a2 : AV} {st : List AV} {sh : Shp} {I : IM} {R : RM} : ev S d 107 79 [a0, a1, a2] st (sh, I, R) = ev S d 107 81 [a0, a1, a2] (.inl (-2) :: st) (sh, I, R) := (ev_eq f_107_79).trans rfl
theorem f_107_81 : fetch 107 81 = some (81, .if_icmp .ne 7, 3, [88], 0) := (fm_107 81).trans rfl
theorem u_107_81 {S : Scr} {d : Nat} {a0 a1 a2 : AV} {st : List AV} {sh : Shp} {I : IM} {R : RM} {x y : Int} : ev S d 107 81 [a0, a1, a2] (.inl y :: .inl x :: st) (sh, I, R) = if ¬ x = y then ev S d 107 88 [a0, a1, a2] st (sh, I, R) else ev S d 107 84 [a0, a1, a2] st (sh, I, R) := (ev_eq f_107_81).trans fin_icmp_ne
theorem f_107_84 : fetch 107 84 = some (84, .iconst 1, 1, [], 1) := (fm_107 84).trans rfl
theorem u_107_84 {S : Scr} {d : Nat} {a0 a1 a2 : AV} {st : List AV} {sh : Shp} {I : IM} {R : RM} : ev S d 107 84 [a0, a1, a2] st (sh, I, R) = ev S d 107 85 [a0, a1, a2] (.inl 1 :: st) (sh, I, R) := (ev_eq f_107_84).trans rfl
theorem f_107_85 : fetch 107 85 = some (85, .goto 4, 3, [89], 0) := (fm_107 85).trans rfl
theorem u_107_85 {S : Scr} {d : Nat} {a0 a1 a2 : AV} {st : List AV} {sh : Shp} {I : IM} {R : RM} : ev S d 107 85 [a0, a1, a2] st (sh, I, R) = ev S d 107 89 [a0, a1, a2] st (sh, I, R) := (ev_eq f_107_85).trans rfl
theorem f_107_88 : fetch 107 88 = some (88, .iconst 0, 1, [], 0) := (fm_107 88).trans rfl
theorem u_107_88 {S : Scr} {d : Nat} {a0 a1 a2 : AV} {st : List AV} {sh : Shp} {I : IM} {R : RM} : ev S d 107 88 [a0, a1, a2] st (sh, I, R) = ev S d 107 89 [a0, a1, a2] (.inl 0 :: st) (sh, I, R) := (ev_eq f_107_88).trans rfl
theorem f_107_89 : fetch 107 89 = some (89, .ireturn, 1, [0], 0) := (fm_107 89).trans rfl
theorem u_107_89 {S : Scr} {d : Nat} {a0 a1 a2 : AV} {sh : Shp} {I : IM} {R : RM} {x : Int} : ev S d 107 89 [a0, a1, a2] [.inl x] (sh, I, R) = some (some (.inl x), (sh, I, R)) := (ev_eq f_107_89).trans fin_iret0
theorem f_107_90 : fetch 107 90 = some (90, .aload_n 0, 1, [0], 0) := (fm_107 90).trans rfl
theorem u_107_90 {S : Scr} {d : Nat} {a1 a2 : AV} {st : List AV} {sh : Shp} {I : IM} {R : RM} {x : Nat} : ev S d 107 90 [.inr (.inl x), a1, a2] st (sh, I, R) = ev S d 107 91 [.inr (.inl x), a1, a2] (.inr (.inl x) :: st) (sh, I, R) := (ev_eq f_107_90).trans rfl
theorem f_107_91 : fetch 107 91 = some (91, .getfield 24, 3, [8, 2, 1, 57], 0) := (fm_107 91).trans rfl
theorem u_107_91 {S : Scr} {d : Nat} {a0 a1 a2 : AV} {st : List AV} {sh : Shp} {I : IM} {R : RM} {k : Nat} (h : tg sh k = 8) : ev S d 107 91 [a0, a1, a2] (.inr (.inl k) :: st) (sh, I, R) = ev S d 107 94 [a0, a1, a2] (rv (R k 2) :: st) (sh, I, R) := (ev_eq f_107_91).trans (congrArg (fin S d 107) (if_pos h))
theorem f_107_94 : fetch 107 94 = some (94, .invokevirtual 235, 3, [64, 0, 115], 0) := (fm_107 94).trans rfl
theorem u_107_94 {S : Scr} {d : Nat} {a0 a1 a2 : AV} {st : List AV} {sh : Shp} {I : IM} {R : RM} {k : Nat} (h : tg sh k = 6) (hr : st.length ≤ 8) : ev S d 107 94 [a0, a1, a2] (.inr (.inl k) :: st) (sh, I, R) = bnd (cl d 64 [.inr (.inl k)] (sh, I, R)) (fun v M => ev S d 107 97 [a0, a1, a2] (psh v st) M) := (ev_eq f_107_94).trans (congrArg (fin S d 107) (if_pos ⟨h, rfl, hr⟩))
theorem f_107_97 : fetch 107 97 = some (97, .ireturn, 1, [0], 0) := (fm_107 97).trans rfl
theorem u_107_97 {S : Scr} {d : Nat} {a0 a1 a2 : AV} {sh : Shp} {I : IM} {R : RM} {x : Int} : ev S d 107 97 [a0, a1, a2] [.inl x] (sh, I, R) = some (some (.inl x), (sh, I, R)) := (ev_eq f_107_97).trans fin_iret0
theorem f_107_98 : fetch 107 98 = some (98, .aload_n 0, 1, [0], 0) := (fm_107 98).trans rfl
theorem u_107_98 {S : Scr} {d : Nat} {a1 a2 : AV} {st : List AV} {sh : Shp} {I : IM} {R : RM} {x : Nat} : ev S d 107 98 [.inr (.inl x), a1, a2] st (sh, I, R) = ev S d 107 99 [.inr (.inl x), a1, a2] (.inr (.inl x) :: st) (sh, I, R) := (ev_eq f_107_98).trans rfl
theorem f_107_99 : fetch 107 99 = some (99, .getfield 24, 3, [8, 2, 1, 57], 0) := (fm_107 99).trans rfl
theorem u_107_99 {S : Scr} {d : Nat} {a0 a1 a2 : AV} {st : List AV} {sh : Shp} {I : IM} {R : RM} {k : Nat} (h : tg sh k = 8) : ev S d 107 99 [a0, a1, a2] (.inr (.inl k) :: st) (sh, I, R) = ev S d 107 102 [a0, a1, a2] (rv (R k 2) :: st) (sh, I, R) := (ev_eq f_107_99).trans (congrArg (fin S d 107) (if_pos h))
theorem f_107_102 : fetch 107 102 = some (102, .getfield 203, 3, [6, 1, 1, 75], 0) := (fm_107 102).trans rfl
theorem u_107_102 {S : Scr} {d : Nat} {a0 a1 a2 : AV} {st : List AV} {sh : Shp} {I : IM} {R : RM} {k : Nat} (h : tg sh k = 6) : ev S d 107 102 [a0, a1, a2] (.inr (.inl k) :: st) (sh, I, R) = ev S d 107 105 [a0, a1, a2] (rv (R k 1) :: st) (sh, I, R) := (ev_eq f_107_102).trans (congrArg (fin S d 107) (if_pos h))
theorem f_107_105 : fetch 107 105 = some (105, .invokevirtual 207, 3, [46, 0, 109], 0) := (fm_107 105).trans rfl
theorem u_107_105 {S : Scr} {d : Nat} {a0 a1 a2 : AV} {st : List AV} {sh : Shp} {I : IM} {R : RM} {k : Nat} (h : tg sh k = 5) (hr : st.length ≤ 8) : ev S d 107 105 [a0, a1, a2] (.inr (.inl k) :: st) (sh, I, R) = bnd (cl d 46 [.inr (.inl k)] (sh, I, R)) (fun v M => ev S d 107 108 [a0, a1, a2] (psh v st) M) := (ev_eq f_107_105).trans (congrArg (fin S d 107) (if_pos ⟨h, rfl, hr⟩))
theorem f_107_108 : fetch 107 108 = some (108, .ifCond .eq 8, 3, [116], 0) := (fm_107 108).trans rfl
theorem u_107_108 {S : Scr} {d : Nat} {a0 a1 a2 : AV} {st : List AV} {sh : Shp} {I : IM} {R : RM} {x : Int} : ev S d 107 108 [a0, a1, a2] (.inl x :: st) (sh, I, R) = if x = 0 then ev S d 107 116 [a0, a1, a2] st (sh, I, R) else ev S d 107 111 [a0, a1, a2] st (sh, I, R) := (ev_eq f_107_108).trans fin_if_eq
theorem f_107_111 : fetch 107 111 = some (111, .bipush (-3), 2, [], (-3)) := (fm_107 111).trans rfl
theorem u_107_111 {S : Scr} {d : Nat} {a0 a1 a2 : AV} {st : List AV} {sh : Shp} {I : IM} {R : RM} : ev S d 107 111 [a0, a1, a2] st (sh, I, R) = ev S d 107 113 [a0, a1, a2] (.inl (-3) :: st) (sh, I, R) := (ev_eq f_107_111).trans rfl
theorem f_107_113 : fetch 107 113 = some (113, .goto 13, 3, [126], 0) := (fm_107 113).trans rfl
theorem u_107_113 {S : Scr} {d : Nat} {a0 a1 a2 : AV} {st : List AV} {sh : Shp} {I : IM} {R : RM} : ev S d 107 113 [a0, a1, a2] st (sh, I, R) = ev S d 107 126 [a0, a1, a2] st (sh, I, R) := (ev_eq f_107_113).trans rfl
theorem f_107_116 : fetch 107 116 = some (116, .aload_n 0, 1, [0], 0) := (fm_107 116).trans rfl
theorem u_107_116 {S : Scr} {d : Nat} {a1 a2 : AV} {st : List AV} {sh : Shp} {I : IM} {R : RM} {x : Nat} : ev S d 107 116 [.inr (.inl x), a1, a2] st (sh, I, R) = ev S d 107 117 [.inr (.inl x), a1, a2] (.inr (.inl x) :: st) (sh, I, R) := (ev_eq f_107_116).trans rfl
theorem f_107_117 : fetch 107 117 = some (117, .getfield 24, 3, [8, 2, 1, 57], 0) := (fm_107 117).trans rfl
theorem u_107_117 {S : Scr} {d : Nat} {a0 a1 a2 : AV} {st : List AV} {sh : Shp} {I : IM} {R : RM} {k : Nat} (h : tg sh k = 8) : ev S d 107 117 [a0, a1, a2] (.inr (.inl k) :: st) (sh, I, R) = ev S d 107 120 [a0, a1, a2] (rv (R k 2) :: st) (sh, I, R) := (ev_eq f_107_117).trans (congrArg (fin S d 107) (if_pos h))
theorem f_107_120 : fetch 107 120 = some (120, .getfield 203, 3, [6, 1, 1, 75], 0) := (fm_107 120).trans rfl
theorem u_107_120 {S : Scr} {d : Nat} {a0 a1 a2 : AV} {st : List AV} {sh : Shp} {I : IM} {R : RM} {k : Nat} (h : tg sh k = 6) : ev S d 107 120 [a0, a1, a2] (.inr (.inl k) :: st) (sh, I, R) = ev S d 107 123 [a0, a1, a2] (rv (R k 1) :: st) (sh, I, R) := (ev_eq f_107_120).trans (congrArg (fin S d 107) (if_pos h))
theorem f_107_123 : fetch 107 123 = some (123, .getfield 200, 3, [5, 1, 0, 74], 0) := (fm_107 123).trans rfl
theorem u_107_123 {S : Scr} {d : Nat} {a0 a1 a2 : AV} {st : List AV} {sh : Shp} {I : IM} {R : RM} {k : Nat} (h : tg sh k = 5) : ev S d 107 123 [a0, a1, a2] (.inr (.inl k) :: st) (sh, I, R) = ev S d 107 126 [a0, a1, a2] (.inl (I k 1) :: st) (sh, I, R) := (ev_eq f_107_123).trans (congrArg (fin S d 107) (if_pos h))
theorem f_107_126 : fetch 107 126 = some (126, .ireturn, 1, [0], 0) := (fm_107 126).trans rfl
theorem u_107_126 {S : Scr} {d : Nat} {a0 a1 a2 : AV} {sh : Shp} {I : IM} {R : RM} {x : Int} : ev S d 107 126 [a0, a1, a2] [.inl x] (sh, I, R) = some (some (.inl x), (sh, I, R)) := (ev_eq f_107_126).trans fin_iret0
theorem f_107_127 : fetch 107 127 = some (127, .iconst (-1), 1, [], (-1)) := (fm_107 127).trans rfl
theorem u_107_127 {S : Scr} {d : Nat} {a0 a1 a2 : AV} {st : List AV} {sh : Shp} {I : IM} {R : RM} : ev S d 107 127 [a0, a1, a2] st (sh, I, R) = ev S d 107 128 [a0, a1, a2] (.inl (-1) :: st) (sh, I, R) := (ev_eq f_107_127).trans rfl
theorem f_107_128 : fetch 107 128 = some (128, .ireturn, 1, [0], 0) := (fm_107 128).trans rfl
theorem u_107_128 {S : Scr} {d : Nat} {a0 a1 a2 : AV} {sh : Shp} {I : IM} {R : RM} {x : Int} : ev S d 107 128 [a0, a1, a2] [.inl x] (sh, I, R) = some (some (.inl x), (sh, I, R)) := (ev_eq f_107_128).trans fin_iret0
theorem c_108 {d : Nat} {a0 a1 a2 : AV} {M : Mem} : cl (d + 1) 108 [a0, a1, a2] M = ev S0 d 108 0 [a0, a1, a2] [] M := (cl_eq (as := [a0, a1, a2]) (show 3 ≤ maxOf 108 by decide +kernel)).trans rfl
theorem mt_108 : MT[108]? = some m_108 := rfl
theorem fm_108 (pc : Nat) : fetch 108 pc = lk m_108.2.2.2.2.2 pc := by
  unfold fetch
  rw [mt_108]
theorem f_108_0 : fetch 108 0 = some (0, .aload_n 0, 1, [0], 0) := (fm_108 0).trans rfl
theorem u_108_0 {S : Scr} {d : Nat} {a1 a2 : AV} {st : List AV} {sh : Shp} {I : IM} {R : RM} {x : Nat} : ev S d 108 0 [.inr (.inl x), a1, a2] st (sh, I, R) = ev S d 108 1 [.inr (.inl x), a1, a2] (.inr (.inl x) :: st) (sh, I, R) := (ev_eq f_108_0).trans rfl
theorem f_108_1 : fetch 108 1 = some (1, .getfield 10, 3, [8, 0, 1, 55], 0) := (fm_108 1).trans rfl
theorem u_108_1 {S : Scr} {d : Nat} {a0 a1 a2 : AV} {st : List AV} {sh : Shp} {I : IM} {R : RM} {k : Nat} (h : tg sh k = 8) : ev S d 108 1 [a0, a1, a2] (.inr (.inl k) :: st) (sh, I, R) = ev S d 108 4 [a0, a1, a2] (rv (R k 0) :: st) (sh, I, R) := (ev_eq f_108_1).trans (congrArg (fin S d 108) (if_pos h))
theorem f_108_4 : fetch 108 4 = some (4, .iload_n 1, 1, [1], 0) := (fm_108 4).trans rfl
theorem u_108_4 {S : Scr} {d : Nat} {a0 a2 : AV} {st : List AV} {sh : Shp} {I : IM} {R : RM} {x : Int} : ev S d 108 4 [a0, .inl x, a2] st (sh, I, R) = ev S d 108 5 [a0, .inl x, a2] (.inl x :: st) (sh, I, R) := (ev_eq f_108_4).trans rfl
theorem f_108_5 : fetch 108 5 = some (5, .invokevirtual 102, 3, [68, 1, 88], 0) := (fm_108 5).trans rfl
theorem u_108_5 {S : Scr} {d : Nat} {a0 a1 a2 : AV} {st : List AV} {sh : Shp} {I : IM} {R : RM} {x0 : Int} {k : Nat} (h : tg sh k = 7) (hr : st.length ≤ 8) : ev S d 108 5 [a0, a1, a2] (.inl x0 :: .inr (.inl k) :: st) (sh, I, R) = bnd (cl d 68 [.inr (.inl k), .inl x0] (sh, I, R)) (fun v M => ev S d 108 8 [a0, a1, a2] (psh v st) M) := (ev_eq f_108_5).trans (congrArg (fin S d 108) (if_pos ⟨h, rfl, hr⟩))
theorem f_108_8 : fetch 108 8 = some (8, .ifnull 14, 3, [22], 0) := (fm_108 8).trans rfl
theorem u_108_8 {S : Scr} {d : Nat} {a0 a1 a2 : AV} {st : List AV} {sh : Shp} {I : IM} {R : RM} {x : Nat} : ev S d 108 8 [a0, a1, a2] (.inr (.inl x) :: st) (sh, I, R) = ev S d 108 11 [a0, a1, a2] st (sh, I, R) := (ev_eq f_108_8).trans rfl
theorem u_108_8n {S : Scr} {d : Nat} {a0 a1 a2 : AV} {st : List AV} {sh : Shp} {I : IM} {R : RM} : ev S d 108 8 [a0, a1, a2] (.inr (.inr 0) :: st) (sh, I, R) = ev S d 108 22 [a0, a1, a2] st (sh, I, R) := (ev_eq f_108_8).trans rfl
theorem f_108_11 : fetch 108 11 = some (11, .aload_n 0, 1, [0], 0) := (fm_108 11).trans rfl
theorem u_108_11 {S : Scr} {d : Nat} {a1 a2 : AV} {st : List AV} {sh : Shp} {I : IM} {R : RM} {x : Nat} : ev S d 108 11 [.inr (.inl x), a1, a2] st (sh, I, R) = ev S d 108 12 [.inr (.inl x), a1, a2] (.inr (.inl x) :: st) (sh, I, R) := (ev_eq f_108_11).trans rfl
theorem f_108_12 : fetch 108 12 = some (12, .getfield 10, 3, [8, 0, 1, 55], 0) := (fm_108 12).trans rfl
theorem u_108_12 {S : Scr} {d : Nat} {a0 a1 a2 : AV} {st : List AV} {sh : Shp} {I : IM} {R : RM} {k : Nat} (h : tg sh k = 8) : ev S d 108 12 [a0, a1, a2] (.inr (.inl k) :: st) (sh, I, R) = ev S d 108 15 [a0, a1, a2] (rv (R k 0) :: st) (sh, I, R) := (ev_eq f_108_12).trans (congrArg (fin S d 108) (if_pos h))
theorem f_108_15 : fetch 108 15 = some (15, .iload_n 2, 1, [2], 0) := (fm_108 15).trans rfl
theorem u_108_15 {S : Scr} {d : Nat} {a0 a1 : AV} {st : List AV} {sh : Shp} {I : IM} {R : RM} {x : Int} : ev S d 108 15 [a0, a1, .inl x] st (sh, I, R) = ev S d 108 16 [a0, a1, .inl x] (.inl x :: st) (sh, I, R) := (ev_eq f_108_15).trans rfl
theorem f_108_16 : fetch 108 16 = some (16, .invokevirtual 102, 3, [68, 1, 88], 0) := (fm_108 16).trans rfl
theorem u_108_16 {S : Scr} {d : Nat} {a0 a1 a2 : AV} {st : List AV} {sh : Shp} {I : IM} {R : RM} {x0 : Int} {k : Nat} (h : tg sh k = 7) (hr : st.length ≤ 8) : ev S d 108 16 [a0, a1, a2] (.inl x0 :: .inr (.inl k) :: st) (sh, I, R) = bnd (cl d 68 [.inr (.inl k), .inl x0] (sh, I, R)) (fun v M => ev S d 108 19 [a0, a1, a2] (psh v st) M) := (ev_eq f_108_16).trans (congrArg (fin S d 108) (if_pos ⟨h, rfl, hr⟩))
theorem f_108_19 : fetch 108 19 = some (19, .ifnonnull 5, 3, [24], 0) := (fm_108 19).trans rfl
theorem u_108_19 {S : Scr} {d : Nat} {a0 a1 a2 : AV} {st : List AV} {sh : Shp} {I : IM} {R : RM} {x : Nat} : ev S d 108 19 [a0, a1, a2] (.inr (.inl x) :: st) (sh, I, R) = ev S d 108 24 [a0, a1, a2] st (sh, I, R) := (ev_eq f_108_19).trans rfl
theorem u_108_19n {S : Scr} {d : Nat} {a0 a1 a2 : AV} {st : List AV} {sh : Shp} {I : IM} {R : RM} : ev S d 108 19 [a0, a1, a2] (.inr (.inr 0) :: st) (sh, I, R) = ev S d 108 22 [a0, a1, a2] st (sh, I, R) := (ev_eq f_108_19).trans rfl
theorem f_108_22 : fetch 108 22 = some (22, .iconst (-1), 1, [], (-1)) := (fm_108 22).trans rfl
theorem u_108_22 {S : Scr} {d : Nat} {a0 a1 a2 : AV} {st : List AV} {sh : Shp} {I : IM} {R : RM} : ev S d 108 22 [a0, a1, a2] st (sh, I, R) = ev S d 108 23 [a0, a1, a2] (.inl (-1) :: st) (sh, I, R) := (ev_eq f_108_22).trans rfl
theorem f_108_23 : fetch 108 23 = some (23, .ireturn, 1, [0], 0) := (fm_108 23).trans rfl
theorem u_108_23 {S : Scr} {d : Nat} {a0 a1 a2 : AV} {sh : Shp} {I : IM} {R : RM} {x : Int} : ev S d 108 23 [a0, a1, a2] [.inl x] (sh, I, R) = some (some (.inl x), (sh, I, R)) := (ev_eq f_108_23).trans fin_iret0
theorem f_108_24 : fetch 108 24 = some (24, .aload_n 0, 1, [0], 0) := (fm_108 24).trans rfl
theorem u_108_24 {S : Scr} {d : Nat} {a1 a2 : AV} {st : List AV} {sh : Shp} {I : IM} {R : RM} {x : Nat} : ev S d 108 24 [.inr (.inl x), a1, a2] st (sh, I, R) = ev S d 108 25 [.inr (.inl x), a1, a2] (.inr (.inl x) :: st) (sh, I, R) := (ev_eq f_108_24).trans rfl
theorem f_108_25 : fetch 108 25 = some (25, .getfield 24, 3, [8, 2, 1, 57], 0) := (fm_108 25).trans rfl
theorem u_108_25 {S : Scr} {d : Nat} {a0 a1 a2 : AV} {st : List AV} {sh : Shp} {I : IM} {R : RM} {k : Nat} (h : tg sh k = 8) : ev S d 108 25 [a0, a1, a2] (.inr (.inl k) :: st) (sh, I, R) = ev S d 108 28 [a0, a1, a2] (rv (R k 2) :: st) (sh, I, R) := (ev_eq f_108_25).trans (congrArg (fin S d 108) (if_pos h))
theorem f_108_28 : fetch 108 28 = some (28, .iload_n 2, 1, [2], 0) := (fm_108 28).trans rfl
theorem u_108_28 {S : Scr} {d : Nat} {a0 a1 : AV} {st : List AV} {sh : Shp} {I : IM} {R : RM} {x : Int} : ev S d 108 28 [a0, a1, .inl x] st (sh, I, R) = ev S d 108 29 [a0, a1, .inl x] (.inl x :: st) (sh, I, R) := (ev_eq f_108_28).trans rfl
theorem f_108_29 : fetch 108 29 = some (29, .invokevirtual 158, 3, [56, 1, 98], 0) := (fm_108 29).trans rfl
theorem u_108_29 {S : Scr} {d : Nat} {a0 a1 a2 : AV} {st : List AV} {sh : Shp} {I : IM} {R : RM} {x0 : Int} {k : Nat} (h : tg sh k = 6) (hr : st.length ≤ 8) : ev S d 108 29 [a0, a1, a2] (.inl x0 :: .inr (.inl k) :: st) (sh, I, R) = bnd (cl d 56 [.inr (.inl k), .inl x0] (sh, I, R)) (fun v M => ev S d 108 32 [a0, a1, a2] (psh v st) M) := (ev_eq f_108_29).trans (congrArg (fin S d 108) (if_pos ⟨h, rfl, hr⟩))
theorem f_108_32 : fetch 108 32 = some (32, .aload_n 0, 1, [0], 0) := (fm_108 32).trans rfl
theorem u_108_32 {S : Scr} {d : Nat} {a1 a2 : AV} {st : List AV} {sh : Shp} {I : IM} {R : RM} {x : Nat} : ev S d 108 32 [.inr (.inl x), a1, a2] st (sh, I, R) = ev S d 108 33 [.inr (.inl x), a1, a2] (.inr (.inl x) :: st) (sh, I, R) := (ev_eq f_108_32).trans rfl
theorem f_108_33 : fetch 108 33 = some (33, .getfield 24, 3, [8, 2, 1, 57], 0) := (fm_108 33).trans rfl
theorem u_108_33 {S : Scr} {d : Nat} {a0 a1 a2 : AV} {st : List AV} {sh : Shp} {I : IM} {R : RM} {k : Nat} (h : tg sh k = 8) : ev S d 108 33 [a0, a1, a2] (.inr (.inl k) :: st) (sh, I, R) = ev S d 108 36 [a0, a1, a2] (rv (R k 2) :: st) (sh, I, R) := (ev_eq f_108_33).trans (congrArg (fin S d 108) (if_pos h))
theorem f_108_36 : fetch 108 36 = some (36, .iload_n 1, 1, [1], 0) := (fm_108 36).trans rfl
theorem u_108_36 {S : Scr} {d : Nat} {a0 a2 : AV} {st : List AV} {sh : Shp} {I : IM} {R : RM} {x : Int} : ev S d 108 36 [a0, .inl x, a2] st (sh, I, R) = ev S d 108 37 [a0, .inl x, a2] (.inl x :: st) (sh, I, R) := (ev_eq f_108_36).trans rfl
theorem f_108_37 : fetch 108 37 = some (37, .invokevirtual 181, 3, [57, 1, 103], 0) := (fm_108 37).trans rfl
theorem u_108_37 {S : Scr} {d : Nat} {a0 a1 a2 : AV} {st : List AV} {sh : Shp} {I : IM} {R : RM} {x0 : Int} {k : Nat} (h : tg sh k = 6) (hr : st.length ≤ 8) : ev S d 108 37 [a0, a1, a2] (.inl x0 :: .inr (.inl k) :: st) (sh, I, R) = bnd (cl d 57 [.inr (.inl k), .inl x0] (sh, I, R)) (fun v M => ev S d 108 40 [a0, a1, a2] (psh v st) M) := (ev_eq f_108_37).trans (congrArg (fin S d 108) (if_pos ⟨h, rfl, hr⟩))
theorem f_108_40 : fetch 108 40 = some (40, .ifCond .eq 7, 3, [47], 0) := (fm_108 40).trans rfl
theorem u_108_40 {S : Scr} {d : Nat} {a0 a1 a2 : AV} {st : List AV} {sh : Shp} {I : IM} {R : RM} {x : Int} : ev S d 108 40 [a0, a1, a2] (.inl x :: st) (sh, I, R) = if x = 0 then ev S d 108 47 [a0, a1, a2] st (sh, I, R) else ev S d 108 43 [a0, a1, a2] st (sh, I, R) := (ev_eq f_108_40).trans fin_if_eq
theorem f_108_43 : fetch 108 43 = some (43, .iconst 1, 1, [], 1) := (fm_108 43).trans rfl
theorem u_108_43 {S : Scr} {d : Nat} {a0 a1 a2 : AV} {st : List AV} {sh : Shp} {I : IM} {R : RM} : ev S d 108 43 [a0, a1, a2] st (sh, I, R) = ev S d 108 44 [a0, a1, a2] (.inl 1 :: st) (sh, I, R) := (ev_eq f_108_43).trans rfl
theorem f_108_44 : fetch 108 44 = some (44, .goto 4, 3, [48], 0) := (fm_108 44).trans rfl
theorem u_108_44 {S : Scr} {d : Nat} {a0 a1 a2 : AV} {st : List AV} {sh : Shp} {I : IM} {R : RM} : ev S d 108 44 [a0, a1, a2] st (sh, I, R) = ev S d 108 48 [a0, a1, a2] st (sh, I, R) := (ev_eq f_108_44).trans rfl
theorem f_108_47 : fetch 108 47 = some (47, .iconst 0, 1, [], 0) := (fm_108 47).trans rfl
theorem u_108_47 {S : Scr} {d : Nat} {a0 a1 a2 : AV} {st : List AV} {sh : Shp} {I : IM} {R : RM} : ev S d 108 47 [a0, a1, a2] st (sh, I, R) = ev S d 108 48 [a0, a1, a2] (.inl 0 :: st) (sh, I, R) := (ev_eq f_108_47).trans rfl
theorem f_108_48 : fetch 108 48 = some (48, .ireturn, 1, [0], 0) := (fm_108 48).trans rfl
theorem u_108_48 {S : Scr} {d : Nat} {a0 a1 a2 : AV} {sh : Shp} {I : IM} {R : RM} {x : Int} : ev S d 108 48 [a0, a1, a2] [.inl x] (sh, I, R) = some (some (.inl x), (sh, I, R)) := (ev_eq f_108_48).trans fin_iret0
theorem c_109 {d : Nat} {a0 a1 a2 : AV} {M : Mem} : cl (d + 1) 109 [a0, a1, a2] M = ev S0 d 109 0 [a0, a1, a2] [] M := (cl_eq (as := [a0, a1, a2]) (show 3 ≤ maxOf 109 by decide +kernel)).trans rfl
theorem mt_109 : MT[109]? = some m_109 := rfl
theorem fm_109 (pc : Nat) : fetch 109 pc = lk m_109.2.2.2.2.2 pc := by
  unfold fetch
  rw [mt_109]
theorem f_109_0 : fetch 109 0 = some (0, .aload_n 0, 1, [0], 0) := (fm_109 0).trans rfl
theorem u_109_0 {S : Scr} {d : Nat} {a1 a2 : AV} {st : List AV} {sh : Shp} {I : IM} {R : RM} {x : Nat} : ev S d 109 0 [.inr (.inl x), a1, a2] st (sh, I, R) = ev S d 109 1 [.inr (.inl x), a1, a2] (.inr (.inl x) :: st) (sh, I, R) := (ev_eq f_109_0).trans rfl
theorem f_109_1 : fetch 109 1 = some (1, .getfield 10, 3, [8, 0, 1, 55], 0) := (fm_109 1).trans rfl
theorem u_109_1 {S : Scr} {d : Nat} {a0 a1 a2 : AV} {st : List AV} {sh : Shp} {I : IM} {R : RM} {k : Nat} (h : tg sh k = 8) : ev S d 109 1 [a0, a1, a2] (.inr (.inl k) :: st) (sh, I, R) = ev S d 109 4 [a0, a1, a2] (rv (R k 0) :: st) (sh, I, R) := (ev_eq f_109_1).trans (congrArg (fin S d 109) (if_pos h))
theorem f_109_4 : fetch 109 4 = some (4, .iload_n 1, 1, [1], 0) := (fm_109 4).trans rfl
theorem u_109_4 {S : Scr} {d : Nat} {a0 a2 : AV} {st : List AV} {sh : Shp} {I : IM} {R : RM} {x : Int} : ev S d 109 4 [a0, .inl x, a2] st (sh, I, R) = ev S d 109 5 [a0, .inl x, a2] (.inl x :: st) (sh, I, R) := (ev_eq f_109_4).trans rfl
theorem f_109_5 : fetch 109 5 = some (5, .invokevirtual 102, 3, [68, 1, 88], 0) := (fm_109 5).trans rfl
theorem u_109_5 {S : Scr} {d : Nat} {a0 a1 a2 : AV} {st : List AV} {sh : Shp} {I : IM} {R : RM} {x0 : Int} {k : Nat} (h : tg sh k = 7) (hr : st.length ≤ 8) : ev S d 109 5 [a0, a1, a2] (.inl x0 :: .inr (.inl k) :: st) (sh, I, R) = bnd (cl d 68 [.inr (.inl k), .inl x0] (sh, I, R)) (fun v M => ev S d 109 8 [a0, a1, a2] (psh v st) M) := (ev_eq f_109_5).trans (congrArg (fin S d 109) (if_pos ⟨h, rfl, hr⟩))
theorem f_109_8 : fetch 109 8 = some (8, .ifnull 14, 3, [22], 0) := (fm_109 8).trans rfl
theorem u_109_8 {S : Scr} {d : Nat} {a0 a1 a2 : AV} {st : List AV} {sh : Shp} {I : IM} {R : RM} {x : Nat} : ev S d 109 8 [a0, a1, a2] (.inr (.inl x) :: st) (sh, I, R) = ev S d 109 11 [a0, a1, a2] st (sh, I, R) := (ev_eq f_109_8).trans rfl
theorem u_109_8n {S : Scr} {d : Nat} {a0 a1 a2 : AV} {st : List AV} {sh : Shp} {I : IM} {R : RM} : ev S d 109 8 [a0, a1, a2] (.inr (.inr 0) :: st) (sh, I, R) = ev S d 109 22 [a0, a1, a2] st (sh, I, R) := (ev_eq f_109_8).trans rfl
theorem f_109_11 : fetch 109 11 = some (11, .aload_n 0, 1, [0], 0) := (fm_109 11).trans rfl
theorem u_109_11 {S : Scr} {d : Nat} {a1 a2 : AV} {st : List AV} {sh : Shp} {I : IM} {R : RM} {x : Nat} : ev S d 109 11 [.inr (.inl x), a1, a2] st (sh, I, R) = ev S d 109 12 [.inr (.inl x), a1, a2] (.inr (.inl x) :: st) (sh, I, R) := (ev_eq f_109_11).trans rfl
theorem f_109_12 : fetch 109 12 = some (12, .getfield 10, 3, [8, 0, 1, 55], 0) := (fm_109 12).trans rfl
theorem u_109_12 {S : Scr} {d : Nat} {a0 a1 a2 : AV} {st : List AV} {sh : Shp} {I : IM} {R : RM} {k : Nat} (h : tg sh k = 8) : ev S d 109 12 [a0, a1, a2] (.inr (.inl k) :: st) (sh, I, R) = ev S d 109 15 [a0, a1, a2] (rv (R k 0) :: st) (sh, I, R) := (ev_eq f_109_12).trans (congrArg (fin S d 109) (if_pos h))
theorem f_109_15 : fetch 109 15 = some (15, .iload_n 2, 1, [2], 0) := (fm_109 15).trans rfl
theorem u_109_15 {S : Scr} {d : Nat} {a0 a1 : AV} {st : List AV} {sh : Shp} {I : IM} {R : RM} {x : Int} : ev S d 109 15 [a0, a1, .inl x] st (sh, I, R) = ev S d 109 16 [a0, a1, .inl x] (.inl x :: st) (sh, I, R) := (ev_eq f_109_15).trans rfl
theorem f_109_16 : fetch 109 16 = some (16, .invokevirtual 102, 3, [68, 1, 88], 0) := (fm_109 16).trans rfl
theorem u_109_16 {S : Scr} {d : Nat} {a0 a1 a2 : AV} {st : List AV} {sh : Shp} {I : IM} {R : RM} {x0 : Int} {k : Nat} (h : tg sh k = 7) (hr : st.length ≤ 8) : ev S d 109 16 [a0, a1, a2] (.inl x0 :: .inr (.inl k) :: st) (sh, I, R) = bnd (cl d 68 [.inr (.inl k), .inl x0] (sh, I, R)) (fun v M => ev S d 109 19 [a0, a1, a2] (psh v st) M) := (ev_eq f_109_16).trans (congrArg (fin S d 109) (if_pos ⟨h, rfl, hr⟩))
theorem f_109_19 : fetch 109 19 = some (19, .ifnonnull 5, 3, [24], 0) := (fm_109 19).trans rfl
theorem u_109_19 {S : Scr} {d : Nat} {a0 a1 a2 : AV} {st : List AV} {sh : Shp} {I : IM} {R : RM} {x : Nat} : ev S d 109 19 [a0, a1, a2] (.inr (.inl x) :: st) (sh, I, R) = ev S d 109 24 [a0, a1, a2] st (sh, I, R) := (ev_eq f_109_19).trans rfl
theorem u_109_19n {S : Scr} {d : Nat} {a0 a1 a2 : AV} {st : List AV} {sh : Shp} {I : IM} {R : RM} : ev S d 109 19 [a0, a1, a2] (.inr (.inr 0) :: st) (sh, I, R) = ev S d 109 22 [a0, a1, a2] st (sh, I, R) := (ev_eq f_109_19).trans rfl
theorem f_109_22 : fetch 109 22 = some (22, .iconst (-1), 1, [], (-1)) := (fm_109 22).trans rfl
theorem u_109_22 {S : Scr} {d : Nat} {a0 a1 a2 : AV} {st : List AV} {sh : Shp} {I : IM} {R : RM} : ev S d 109 22 [a0, a1, a2] st (sh, I, R) = ev S d 109 23 [a0, a1, a2] (.inl (-1) :: st) (sh, I, R) := (ev_eq f_109_22).trans rfl
theorem f_109_23 : fetch 109 23 = some (23, .ireturn, 1, [0], 0) := (fm_109 23).trans rfl
theorem u_109_23 {S : Scr} {d : Nat} {a0 a1 a2 : AV} {sh : Shp} {I : IM} {R : RM} {x : Int} : ev S d 109 23 [a0, a1, a2] [.inl x] (sh, I, R) = some (some (.inl x), (sh, I, R)) := (ev_eq f_109_23).trans fin_iret0
theorem f_109_24 : fetch 109 24 = some (24, .aload_n 0, 1, [0], 0) := (fm_109 24).trans rfl
theorem u_109_24 {S : Scr} {d : Nat} {a1 a2 : AV} {st : List AV} {sh : Shp} {I : IM} {R : RM} {x : Nat} : ev S d 109 24 [.inr (.inl x), a1, a2] st (sh, I, R) = ev S d 109 25 [.inr (.inl x), a1, a2] (.inr (.inl x) :: st) (sh, I, R) := (ev_eq f_109_24).trans rfl
theorem f_109_25 : fetch 109 25 = some (25, .getfield 31, 3, [8, 3, 1, 58], 0) := (fm_109 25).trans rfl
theorem u_109_25 {S : Scr} {d : Nat} {a0 a1 a2 : AV} {st : List AV} {sh : Shp} {I : IM} {R : RM} {k : Nat} (h : tg sh k = 8) : ev S d 109 25 [a0, a1, a2] (.inr (.inl k) :: st) (sh, I, R) = ev S d 109 28 [a0, a1, a2] (rv (R k 3) :: st) (sh, I, R) := (ev_eq f_109_25).trans (congrArg (fin S d 109) (if_pos h))
theorem f_109_28 : fetch 109 28 = some (28, .iload_n 1, 1, [1], 0) := (fm_109 28).trans rfl
theorem u_109_28 {S : Scr} {d : Nat} {a0 a2 : AV} {st : List AV} {sh : Shp} {I : IM} {R : RM} {x : Int} : ev S d 109 28 [a0, .inl x, a2] st (sh, I, R) = ev S d 109 29 [a0, .inl x, a2] (.inl x :: st) (sh, I, R) := (ev_eq f_109_28).trans rfl
theorem f_109_29 : fetch 109 29 = some (29, .iload_n 2, 1, [2], 0) := (fm_109 29).trans rfl
theorem u_109_29 {S : Scr} {d : Nat} {a0 a1 : AV} {st : List AV} {sh : Shp} {I : IM} {R : RM} {x : Int} : ev S d 109 29 [a0, a1, .inl x] st (sh, I, R) = ev S d 109 30 [a0, a1, .inl x] (.inl x :: st) (sh, I, R) := (ev_eq f_109_29).trans rfl
theorem f_109_30 : fetch 109 30 = some (30, .invokevirtual 238, 3, [41, 2, 116], 0) := (fm_109 30).trans rfl
theorem u_109_30 {S : Scr} {d : Nat} {a0 a1 a2 : AV} {st : List AV} {sh : Shp} {I : IM} {R : RM} {x0 : Int} {x1 : Int} {k : Nat} (h : tg sh k = 4) (hr : st.length ≤ 8) : ev S d 109 30 [a0, a1, a2] (.inl x1 :: .inl x0 :: .inr (.inl k) :: st) (sh, I, R) = bnd (cl d 41 [.inr (.inl k), .inl x0, .inl x1] (sh, I, R)) (fun v M => ev S d 109 33 [a0, a1, a2] (psh v st) M) := (ev_eq f_109_30).trans (congrArg (fin S d 109) (if_pos ⟨h, rfl, hr⟩))
theorem f_109_33 : fetch 109 33 = some (33, .ifCond .eq 7, 3, [40], 0) := (fm_109 33).trans rfl
theorem u_109_33 {S : Scr} {d : Nat} {a0 a1 a2 : AV} {st : List AV} {sh : Shp} {I : IM} {R : RM} {x : Int} : ev S d 109 33 [a0, a1, a2] (.inl x :: st) (sh, I, R) = if x = 0 then ev S d 109 40 [a0, a1, a2] st (sh, I, R) else ev S d 109 36 [a0, a1, a2] st (sh, I, R) := (ev_eq f_109_33).trans fin_if_eq
theorem f_109_36 : fetch 109 36 = some (36, .iconst 1, 1, [], 1) := (fm_109 36).trans rfl
theorem u_109_36 {S : Scr} {d : Nat} {a0 a1 a2 : AV} {st : List AV} {sh : Shp} {I : IM} {R : RM} : ev S d 109 36 [a0, a1, a2] st (sh, I, R) = ev S d 109 37 [a0, a1, a2] (.inl 1 :: st) (sh, I, R) := (ev_eq f_109_36).trans rfl
theorem f_109_37 : fetch 109 37 = some (37, .goto 4, 3, [41], 0) := (fm_109 37).trans rfl
theorem u_109_37 {S : Scr} {d : Nat} {a0 a1 a2 : AV} {st : List AV} {sh : Shp} {I : IM} {R : RM} : ev S d 109 37 [a0, a1, a2] st (sh, I, R) = ev S d 109 41 [a0, a1, a2] st (sh, I, R) := (ev_eq f_109_37).trans rfl
theorem f_109_40 : fetch 109 40 = some (40, .iconst 0, 1, [], 0) := (fm_109 40).trans rfl
theorem u_109_40 {S : Scr} {d : Nat} {a0 a1 a2 : AV} {st : List AV} {sh : Shp} {I : IM} {R : RM} : ev S d 109 40 [a0, a1, a2] st (sh, I, R) = ev S d 109 41 [a0, a1, a2] (.inl 0 :: st) (sh, I, R) := (ev_eq f_109_40).trans rfl
theorem f_109_41 : fetch 109 41 = some (41, .ireturn, 1, [0], 0) := (fm_109 41).trans rfl
theorem u_109_41 {S : Scr} {d : Nat} {a0 a1 a2 : AV} {sh : Shp} {I : IM} {R : RM} {x : Int} : ev S d 109 41 [a0, a1, a2] [.inl x] (sh, I, R) = some (some (.inl x), (sh, I, R)) := (ev_eq f_109_41).trans fin_iret0
theorem c_110 {d : Nat} {a0 a1 a2 : AV} {M : Mem} : cl (d + 1) 110 [a0, a1, a2] M = ev S0 d 110 0 [a0, a1, a2] [] M := (cl_eq (as := [a0, a1, a2]) (show 3 ≤ maxOf 110 by decide +kernel)).trans rfl
theorem mt_110 : MT[110]? = some m_110 := rfl
theorem fm_110 (pc : Nat) : fetch 110 pc = lk m_110.2.2.2.2.2 pc := by
  unfold fetch
  rw [mt_110]
theorem f_110_0 : fetch 110 0 = some (0, .aload_n 0, 1, [0], 0) := (fm_110 0).trans rfl
theorem u_110_0 {S : Scr} {d : Nat} {a1 a2 : AV} {st : List AV} {sh : Shp} {I : IM} {R : RM} {x : Nat} : ev S d 110 0 [.inr (.inl x), a1, a2] st (sh, I, R) = ev S d 110 1 [.inr (.inl x), a1, a2] (.inr (.inl x) :: st) (sh, I, R) := (ev_eq f_110_0).trans rfl
theorem f_110_1 : fetch 110 1 = some (1, .getfield 10, 3, [8, 0, 1, 55], 0) := (fm_110 1).trans rfl
theorem u_110_1 {S : Scr} {d : Nat} {a0 a1 a2 : AV} {st : List AV} {sh : Shp} {I : IM} {R : RM} {k : Nat} (h : tg sh k = 8) : ev S d 110 1 [a0, a1, a2] (.inr (.inl k) :: st) (sh, I, R) = ev S d 110 4 [a0, a1, a2] (rv (R k 0) :: st) (sh, I, R) := (ev_eq f_110_1).trans (congrArg (fin S d 110) (if_pos h))
theorem f_110_4 : fetch 110 4 = some (4, .iload_n 1, 1, [1], 0) := (fm_110 4).trans rfl
theorem u_110_4 {S : Scr} {d : Nat} {a0 a2 : AV} {st : List AV} {sh : Shp} {I : IM} {R : RM} {x : Int} : ev S d 110 4 [a0, .inl x, a2] st (sh, I, R) = ev S d 110 5 [a0, .inl x, a2] (.inl x :: st) (sh, I, R) := (ev_eq f_110_4).trans rfl
theorem f_110_5 : fetch 110 5 = some (5, .invokevirtual 102, 3, [68, 1, 88], 0) := (fm_110 5).trans rfl
theorem u_110_5 {S : Scr} {d : Nat} {a0 a1 a2 : AV} {st : List AV} {sh : Shp} {I : IM} {R : RM} {x0 : Int} {k : Nat} (h : tg sh k = 7) (hr : st.length ≤ 8) : ev S d 110 5 [a0, a1, a2] (.inl x0 :: .inr (.inl k) :: st) (sh, I, R) = bnd (cl d 68 [.inr (.inl k), .inl x0] (sh, I, R)) (fun v M => ev S d 110 8 [a0, a1, a2] (psh v st) M) := (ev_eq f_110_5).trans (congrArg (fin S d 110) (if_pos ⟨h, rfl, hr⟩))
theorem f_110_8 : fetch 110 8 = some (8, .ifnull 7, 3, [15], 0) := (fm_110 8).trans rfl
theorem u_110_8 {S : Scr} {d : Nat} {a0 a1 a2 : AV} {st : List AV} {sh : Shp} {I : IM} {R : RM} {x : Nat} : ev S d 110 8 [a0, a1, a2] (.inr (.inl x) :: st) (sh, I, R) = ev S d 110 11 [a0, a1, a2] st (sh, I, R) := (ev_eq f_110_8).trans rfl
theorem u_110_8n {S : Scr} {d : Nat} {a0 a1 a2 : AV} {st : List AV} {sh : Shp} {I : IM} {R : RM} : ev S d 110 8 [a0, a1, a2] (.inr (.inr 0) :: st) (sh, I, R) = ev S d 110 15 [a0, a1, a2] st (sh, I, R) := (ev_eq f_110_8).trans rfl
theorem f_110_11 : fetch 110 11 = some (11, .iload_n 2, 1, [2], 0) := (fm_110 11).trans rfl
theorem u_110_11 {S : Scr} {d : Nat} {a0 a1 : AV} {st : List AV} {sh : Shp} {I : IM} {R : RM} {x : Int} : ev S d 110 11 [a0, a1, .inl x] st (sh, I, R) = ev S d 110 12 [a0, a1, .inl x] (.inl x :: st) (sh, I, R) := (ev_eq f_110_11).trans rfl
theorem f_110_12 : fetch 110 12 = some (12, .ifCond .ge 5, 3, [17], 0) := (fm_110 12).trans rfl
theorem u_110_12 {S : Scr} {d : Nat} {a0 a1 a2 : AV} {st : List AV} {sh : Shp} {I : IM} {R : RM} {x : Int} : ev S d 110 12 [a0, a1, a2] (.inl x :: st) (sh, I, R) = if 0 ≤ x then ev S d 110 17 [a0, a1, a2] st (sh, I, R) else ev S d 110 15 [a0, a1, a2] st (sh, I, R) := (ev_eq f_110_12).trans fin_if_ge
theorem f_110_15 : fetch 110 15 = some (15, .iconst (-1), 1, [], (-1)) := (fm_110 15).trans rfl
theorem u_110_15 {S : Scr} {d : Nat} {a0 a1 a2 : AV} {st : List AV} {sh : Shp} {I : IM} {R : RM} : ev S d 110 15 [a0, a1, a2] st (sh, I, R) = ev S d 110 16 [a0, a1, a2] (.inl (-1) :: st) (sh, I, R) := (ev_eq f_110_15).trans rfl
theorem f_110_16 : fetch 110 16 = some (16, .ireturn, 1, [0], 0) := (fm_110 16).trans rfl
theorem u_110_16 {S : Scr} {d : Nat} {a0 a1 a2 : AV} {sh : Shp} {I : IM} {R : RM} {x : Int} : ev S d 110 16 [a0, a1, a2] [.inl x] (sh, I, R) = some (some (.inl x), (sh, I, R)) := (ev_eq f_110_16).trans fin_iret0
theorem f_110_17 : fetch 110 17 = some (17, .aload_n 0, 1, [0], 0) := (fm_110 17).trans rfl
theorem u_110_17 {S : Scr} {d : Nat} {a1 a2 : AV} {st : List AV} {sh : Shp} {I : IM} {R : RM} {x : Nat} : ev S d 110 17 [.inr (.inl x), a1, a2] st (sh, I, R) = ev S d 110 18 [.inr (.inl x), a1, a2] (.inr (.inl x) :: st) (sh, I, R) := (ev_eq f_110_17).trans rfl
theorem f_110_18 : fetch 110 18 = some (18, .getfield 24, 3, [8, 2, 1, 57], 0) := (fm_110 18).trans rfl
theorem u_110_18 {S : Scr} {d : Nat} {a0 a1 a2 : AV} {st : List AV} {sh : Shp} {I : IM} {R : RM} {k : Nat} (h : tg sh k = 8) : ev S d 110 18 [a0, a1, a2] (.inr (.inl k) :: st) (sh, I, R) = ev S d 110 21 [a0, a1, a2] (rv (R k 2) :: st) (sh, I, R) := (ev_eq f_110_18).trans (congrArg (fin S d 110) (if_pos h))
theorem f_110_21 : fetch 110 21 = some (21, .iload_n 1, 1, [1], 0) := (fm_110 21).trans rfl
theorem u_110_21 {S : Scr} {d : Nat} {a0 a2 : AV} {st : List AV} {sh : Shp} {I : IM} {R : RM} {x : Int} : ev S d 110 21 [a0, .inl x, a2] st (sh, I, R) = ev S d 110 22 [a0, .inl x, a2] (.inl x :: st) (sh, I, R) := (ev_eq f_110_21).trans rfl
theorem f_110_22 : fetch 110 22 = some (22, .invokevirtual 158, 3, [56, 1, 98], 0) := (fm_110 22).trans rfl
theorem u_110_22 {S : Scr} {d : Nat} {a0 a1 a2 : AV} {st : List AV} {sh : Shp} {I : IM} {R : RM} {x0 : Int} {k : Nat} (h : tg sh k = 6) (hr : st.length ≤ 8) : ev S d 110 22 [a0, a1, a2] (.inl x0 :: .inr (.inl k) :: st) (sh, I, R) = bnd (cl d 56 [.inr (.inl k), .inl x0] (sh, I, R)) (fun v M => ev S d 110 25 [a0, a1, a2] (psh v st) M) := (ev_eq f_110_22).trans (congrArg (fin S d 110) (if_pos ⟨h, rfl, hr⟩))
theorem f_110_25 : fetch 110 25 = some (25, .aload_n 0, 1, [0], 0) := (fm_110 25).trans rfl
theorem u_110_25 {S : Scr} {d : Nat} {a1 a2 : AV} {st : List AV} {sh : Shp} {I : IM} {R : RM} {x : Nat} : ev S d 110 25 [.inr (.inl x), a1, a2] st (sh, I, R) = ev S d 110 26 [.inr (.inl x), a1, a2] (.inr (.inl x) :: st) (sh, I, R) := (ev_eq f_110_25).trans rfl
theorem f_110_26 : fetch 110 26 = some (26, .getfield 24, 3, [8, 2, 1, 57], 0) := (fm_110 26).trans rfl
theorem u_110_26 {S : Scr} {d : Nat} {a0 a1 a2 : AV} {st : List AV} {sh : Shp} {I : IM} {R : RM} {k : Nat} (h : tg sh k = 8) : ev S d 110 26 [a0, a1, a2] (.inr (.inl k) :: st) (sh, I, R) = ev S d 110 29 [a0, a1, a2] (rv (R k 2) :: st) (sh, I, R) := (ev_eq f_110_26).trans (congrArg (fin S d 110) (if_pos h))
theorem f_110_29 : fetch 110 29 = some (29, .getfield 203, 3, [6, 1, 1, 75], 0) := (fm_110 29).trans rfl
theorem u_110_29 {S : Scr} {d : Nat} {a0 a1 a2 : AV} {st : List AV} {sh : Shp} {I : IM} {R : RM} {k : Nat} (h : tg sh k = 6) : ev S d 110 29 [a0, a1, a2] (.inr (.inl k) :: st) (sh, I, R) = ev S d 110 32 [a0, a1, a2] (rv (R k 1) :: st) (sh, I, R) := (ev_eq f_110_29).trans (congrArg (fin S d 110) (if_pos h))
theorem f_110_32 : fetch 110 32 = some (32, .invokevirtual 207, 3, [46, 0, 109], 0) := (fm_110 32).trans rfl
theorem u_110_32 {S : Scr} {d : Nat} {a0 a1 a2 : AV} {st : List AV} {sh : Shp} {I : IM} {R : RM} {k : Nat} (h : tg sh k = 5) (hr : st.length ≤ 8) : ev S d 110 32 [a0, a1, a2] (.inr (.inl k) :: st) (sh, I, R) = bnd (cl d 46 [.inr (.inl k)] (sh, I, R)) (fun v M => ev S d 110 35 [a0, a1, a2] (psh v st) M) := (ev_eq f_110_32).trans (congrArg (fin S d 110) (if_pos ⟨h, rfl, hr⟩))
theorem f_110_35 : fetch 110 35 = some (35, .ifCond .eq 6, 3, [41], 0) := (fm_110 35).trans rfl
theorem u_110_35 {S : Scr} {d : Nat} {a0 a1 a2 : AV} {st : List AV} {sh : Shp} {I : IM} {R : RM} {x : Int} : ev S d 110 35 [a0, a1, a2] (.inl x :: st) (sh, I, R) = if x = 0 then ev S d 110 41 [a0, a1, a2] st (sh, I, R) else ev S d 110 38 [a0, a1, a2] st (sh, I, R) := (ev_eq f_110_35).trans fin_if_eq
theorem f_110_38 : fetch 110 38 = some (38, .bipush (-3), 2, [], (-3)) := (fm_110 38).trans rfl
theorem u_110_38 {S : Scr} {d : Nat} {a0 a1 a2 : AV} {st : List AV} {sh : Shp} {I : IM} {R : RM} : ev S d 110 38 [a0, a1, a2] st (sh, I, R) = ev S d 110 40 [a0, a1, a2] (.inl (-3) :: st) (sh, I, R) := (ev_eq f_110_38).trans rfl
theorem f_110_40 : fetch 110 40 = some (40, .ireturn, 1, [0], 0) := (fm_110 40).trans rfl
theorem u_110_40 {S : Scr} {d : Nat} {a0 a1 a2 : AV} {sh : Shp} {I : IM} {R : RM} {x : Int} : ev S d 110 40 [a0, a1, a2] [.inl x] (sh, I, R) = some (some (.inl x), (sh, I, R)) := (ev_eq f_110_40).trans fin_iret0
theorem f_110_41 : fetch 110 41 = some (41, .aload_n 0, 1, [0], 0) := (fm_110 41).trans rfl
theorem u_110_41 {S : Scr} {d : Nat} {a1 a2 : AV} {st : List AV} {sh : Shp} {I : IM} {R : RM} {x : Nat} : ev S d 110 41 [.inr (.inl x), a1, a2] st (sh, I, R) = ev S d 110 42 [.inr (.inl x), a1, a2] (.inr (.inl x) :: st) (sh, I, R) := (ev_eq f_110_41).trans rfl
theorem f_110_42 : fetch 110 42 = some (42, .getfield 24, 3, [8, 2, 1, 57], 0) := (fm_110 42).trans rfl
theorem u_110_42 {S : Scr} {d : Nat} {a0 a1 a2 : AV} {st : List AV} {sh : Shp} {I : IM} {R : RM} {k : Nat} (h : tg sh k = 8) : ev S d 110 42 [a0, a1, a2] (.inr (.inl k) :: st) (sh, I, R) = ev S d 110 45 [a0, a1, a2] (rv (R k 2) :: st) (sh, I, R) := (ev_eq f_110_42).trans (congrArg (fin S d 110) (if_pos h))
theorem f_110_45 : fetch 110 45 = some (45, .getfield 203, 3, [6, 1, 1, 75], 0) := (fm_110 45).trans rfl
theorem u_110_45 {S : Scr} {d : Nat} {a0 a1 a2 : AV} {st : List AV} {sh : Shp} {I : IM} {R : RM} {k : Nat} (h : tg sh k = 6) : ev S d 110 45 [a0, a1, a2] (.inr (.inl k) :: st) (sh, I, R) = ev S d 110 48 [a0, a1, a2] (rv (R k 1) :: st) (sh, I, R) := (ev_eq f_110_45).trans (congrArg (fin S d 110) (if_pos h))
theorem f_110_48 : fetch 110 48 = some (48, .iload_n 2, 1, [2], 0) := (fm_110 48).trans rfl
theorem u_110_48 {S : Scr} {d : Nat} {a0 a1 : AV} {st : List AV} {sh : Shp} {I : IM} {R : RM} {x : Int} : ev S d 110 48 [a0, a1, .inl x] st (sh, I, R) = ev S d 110 49 [a0, a1, .inl x] (.inl x :: st) (sh, I, R) := (ev_eq f_110_48).trans rfl
theorem f_110_49 : fetch 110 49 = some (49, .invokevirtual 196, 3, [47, 1, 108], 0) := (fm_110 49).trans rfl
theorem u_110_49 {S : Scr} {d : Nat} {a0 a1 a2 : AV} {st : List AV} {sh : Shp} {I : IM} {R : RM} {x0 : Int} {k : Nat} (h : tg sh k = 5) (hr : st.length ≤ 8) : ev S d 110 49 [a0, a1, a2] (.inl x0 :: .inr (.inl k) :: st) (sh, I, R) = bnd (cl d 47 [.inr (.inl k), .inl x0] (sh, I, R)) (fun v M => ev S d 110 52 [a0, a1, a2] (psh v st) M) := (ev_eq f_110_49).trans (congrArg (fin S d 110) (if_pos ⟨h, rfl, hr⟩))
theorem f_110_52 : fetch 110 52 = some (52, .ifCond .eq 18, 3, [70], 0) := (fm_110 52).trans rfl
theorem u_110_52 {S : Scr} {d : Nat} {a0 a1 a2 : AV} {st : List AV} {sh : Shp} {I : IM} {R : RM} {x : Int} : ev S d 110 52 [a0, a1, a2] (.inl x :: st) (sh, I, R) = if x = 0 then ev S d 110 70 [a0, a1, a2] st (sh, I, R) else ev S d 110 55 [a0, a1, a2] st (sh, I, R) := (ev_eq f_110_52).trans fin_if_eq
theorem f_110_55 : fetch 110 55 = some (55, .aload_n 0, 1, [0], 0) := (fm_110 55).trans rfl
theorem u_110_55 {S : Scr} {d : Nat} {a1 a2 : AV} {st : List AV} {sh : Shp} {I : IM} {R : RM} {x : Nat} : ev S d 110 55 [.inr (.inl x), a1, a2] st (sh, I, R) = ev S d 110 56 [.inr (.inl x), a1, a2] (.inr (.inl x) :: st) (sh, I, R) := (ev_eq f_110_55).trans rfl
theorem f_110_56 : fetch 110 56 = some (56, .getfield 24, 3, [8, 2, 1, 57], 0) := (fm_110 56).trans rfl
theorem u_110_56 {S : Scr} {d : Nat} {a0 a1 a2 : AV} {st : List AV} {sh : Shp} {I : IM} {R : RM} {k : Nat} (h : tg sh k = 8) : ev S d 110 56 [a0, a1, a2] (.inr (.inl k) :: st) (sh, I, R) = ev S d 110 59 [a0, a1, a2] (rv (R k 2) :: st) (sh, I, R) := (ev_eq f_110_56).trans (congrArg (fin S d 110) (if_pos h))
theorem f_110_59 : fetch 110 59 = some (59, .getfield 203, 3, [6, 1, 1, 75], 0) := (fm_110 59).trans rfl
theorem u_110_59 {S : Scr} {d : Nat} {a0 a1 a2 : AV} {st : List AV} {sh : Shp} {I : IM} {R : RM} {k : Nat} (h : tg sh k = 6) : ev S d 110 59 [a0, a1, a2] (.inr (.inl k) :: st) (sh, I, R) = ev S d 110 62 [a0, a1, a2] (rv (R k 1) :: st) (sh, I, R) := (ev_eq f_110_59).trans (congrArg (fin S d 110) (if_pos h))
theorem f_110_62 : fetch 110 62 = some (62, .getfield 197, 3, [5, 0, 1, 73], 0) := (fm_110 62).trans rfl
theorem u_110_62 {S : Scr} {d : Nat} {a0 a1 a2 : AV} {st : List AV} {sh : Shp} {I : IM} {R : RM} {k : Nat} (h : tg sh k = 5) : ev S d 110 62 [a0, a1, a2] (.inr (.inl k) :: st) (sh, I, R) = ev S d 110 65 [a0, a1, a2] (rv (R k 0) :: st) (sh, I, R) := (ev_eq f_110_62).trans (congrArg (fin S d 110) (if_pos h))
theorem f_110_65 : fetch 110 65 = some (65, .iload_n 2, 1, [2], 0) := (fm_110 65).trans rfl
theorem u_110_65 {S : Scr} {d : Nat} {a0 a1 : AV} {st : List AV} {sh : Shp} {I : IM} {R : RM} {x : Int} : ev S d 110 65 [a0, a1, .inl x] st (sh, I, R) = ev S d 110 66 [a0, a1, .inl x] (.inl x :: st) (sh, I, R) := (ev_eq f_110_65).trans rfl
theorem f_110_66 : fetch 110 66 = some (66, .iaload, 1, [], 0) := (fm_110 66).trans rfl
theorem u_110_66 {S : Scr} {d : Nat} {a0 a1 a2 : AV} {st : List AV} {sh : Shp} {I : IM} {R : RM} {k : Nat} {i : Int} (h : tg sh k = 100) (h0 : 0 ≤ i) (h1 : i < ln sh k) : ev S d 110 66 [a0, a1, a2] (.inl i :: .inr (.inl k) :: st) (sh, I, R) = ev S d 110 67 [a0, a1, a2] (.inl (I k i) :: st) (sh, I, R) := (ev_eq f_110_66).trans (congrArg (fin S d 110) (if_pos ⟨h, h0, h1⟩))
theorem f_110_67 : fetch 110 67 = some (67, .goto 5, 3, [72], 0) := (fm_110 67).trans rfl
theorem u_110_67 {S : Scr} {d : Nat} {a0 a1 a2 : AV} {st : List AV} {sh : Shp} {I : IM} {R : RM} : ev S d 110 67 [a0, a1, a2] st (sh, I, R) = ev S d 110 72 [a0, a1, a2] st (sh, I, R) := (ev_eq f_110_67).trans rfl
theorem f_110_70 : fetch 110 70 = some (70, .bipush (-2), 2, [], (-2)) := (fm_110 70).trans rfl
theorem u_110_70 {S : Scr} {d : Nat} {a0 a1 a2 : AV} {st : List AV} {sh : Shp} {I : IM} {R : RM} : ev S d 110 70 [a0, a1, a2] st (sh, I, R) = ev S d 110 72 [a0, a1, a2] (.inl (-2) :: st) (sh, I, R) := (ev_eq f_110_70).trans rfl
theorem f_110_72 : fetch 110 72 = some (72, .ireturn, 1, [0], 0) := (fm_110 72).trans rfl
theorem u_110_72 {S : Scr} {d : Nat} {a0 a1 a2 : AV} {sh : Shp} {I : IM} {R : RM} {x : Int} : ev S d 110 72 [a0, a1, a2] [.inl x] (sh, I, R) = some (some (.inl x), (sh, I, R)) := (ev_eq f_110_72).trans fin_iret0
theorem c_111 {d : Nat} {a0 : AV} {M : Mem} : cl (d + 1) 111 [a0] M = ev S0 d 111 0 [a0] [] M := (cl_eq (as := [a0]) (show 1 ≤ maxOf 111 by decide +kernel)).trans rfl
theorem mt_111 : MT[111]? = some m_111 := rfl
theorem fm_111 (pc : Nat) : fetch 111 pc = lk m_111.2.2.2.2.2 pc := by
  unfold fetch
  rw [mt_111]
theorem f_111_0 : fetch 111 0 = some (0, .aload_n 0, 1, [0], 0) := (fm_111 0).trans rfl
theorem u_111_0 {S : Scr} {d : Nat} {st : List AV} {sh : Shp} {I : IM} {R : RM} {x : Nat} : ev S d 111 0 [.inr (.inl x)] st (sh, I, R) = ev S d 111 1 [.inr (.inl x)] (.inr (.inl x) :: st) (sh, I, R) := (ev_eq f_111_0).trans rfl
theorem f_111_1 : fetch 111 1 = some (1, .getfield 16, 3, [8, 1, 1, 56], 0) := (fm_111 1).trans rfl
theorem u_111_1 {S : Scr} {d : Nat} {a0 : AV} {st : List AV} {sh : Shp} {I : IM} {R : RM} {k : Nat} (h : tg sh k = 8) : ev S d 111 1 [a0] (.inr (.inl k) :: st) (sh, I, R) = ev S d 111 4 [a0] (rv (R k 1) :: st) (sh, I, R) := (ev_eq f_111_1).trans (congrArg (fin S d 111) (if_pos h))
theorem f_111_4 : fetch 111 4 = some (4, .aload_n 0, 1, [0], 0) := (fm_111 4).trans rfl
theorem u_111_4 {S : Scr} {d : Nat} {st : List AV} {sh : Shp} {I : IM} {R : RM} {x : Nat} : ev S d 111 4 [.inr (.inl x)] st (sh, I, R) = ev S d 111 5 [.inr (.inl x)] (.inr (.inl x) :: st) (sh, I, R) := (ev_eq f_111_4).trans rfl
theorem f_111_5 : fetch 111 5 = some (5, .getfield 10, 3, [8, 0, 1, 55], 0) := (fm_111 5).trans rfl
theorem u_111_5 {S : Scr} {d : Nat} {a0 : AV} {st : List AV} {sh : Shp} {I : IM} {R : RM} {k : Nat} (h : tg sh k = 8) : ev S d 111 5 [a0] (.inr (.inl k) :: st) (sh, I, R) = ev S d 111 8 [a0] (rv (R k 0) :: st) (sh, I, R) := (ev_eq f_111_5).trans (congrArg (fin S d 111) (if_pos h))
theorem f_111_8 : fetch 111 8 = some (8, .invokevirtual 241, 3, [83, 1, 117], 0) := (fm_111 8).trans rfl
theorem u_111_8 {S : Scr} {d : Nat} {a0 : AV} {st : List AV} {sh : Shp} {I : IM} {R : RM} {x0 : Nat} {k : Nat} (h : tg sh k = 7) (hr : st.length ≤ 8) : ev S d 111 8 [a0] (.inr (.inl x0) :: .inr (.inl k) :: st) (sh, I, R) = bnd (cl d 83 [.inr (.inl k), .inr (.inl x0)] (sh, I, R)) (fun v M => ev S d 111 11 [a0] (psh v st) M) := (ev_eq f_111_8).trans (congrArg (fin S d 111) (if_pos ⟨h, rfl, hr⟩))
theorem u_111_8n {S : Scr} {d : Nat} {a0 : AV} {st : List AV} {sh : Shp} {I : IM} {R : RM} {k : Nat} (h : tg sh k = 7) (hr : st.length ≤ 8) : ev S d 111 8 [a0] (.inr (.inr 0) :: .inr (.inl k) :: st) (sh, I, R) = bnd (cl d 83 [.inr (.inl k), .inr (.inr 0)] (sh, I, R)) (fun v M => ev S d 111 11 [a0] (psh v st) M) := (ev_eq f_111_8).trans (congrArg (fin S d 111) (if_pos ⟨h, rfl, hr⟩))
theorem f_111_11 : fetch 111 11 = some (11, .aload_n 0, 1, [0], 0) := (fm_111 11).trans rfl
theorem u_111_11 {S : Scr} {d : Nat} {st : List AV} {sh : Shp} {I : IM} {R : RM} {x : Nat} : ev S d 111 11 [.inr (.inl x)] st (sh, I, R) = ev S d 111 12 [.inr (.inl x)] (.inr (.inl x) :: st) (sh, I, R) := (ev_eq f_111_11).trans rfl
theorem f_111_12 : fetch 111 12 = some (12, .iconst 1, 1, [], 1) := (fm_111 12).trans rfl
theorem u_111_12 {S : Scr} {d : Nat} {a0 : AV} {st : List AV} {sh : Shp} {I : IM} {R : RM} : ev S d 111 12 [a0] st (sh, I, R) = ev S d 111 13 [a0] (.inl 1 :: st) (sh, I, R) := (ev_eq f_111_12).trans rfl
theorem f_111_13 : fetch 111 13 = some (13, .putfield 243, 3, [8, 8, 2, 77], 0) := (fm_111 13).trans rfl
theorem u_111_13 {S : Scr} {d : Nat} {a0 : AV} {st : List AV} {sh : Shp} {I : IM} {R : RM} {k : Nat} {x : Int} (h : tg sh k = 8) (h2 : x = 0 ∨ x = 1) : ev S d 111 13 [a0] (.inl x :: .inr (.inl k) :: st) (sh, I, R) = ev S d 111 16 [a0] st (sh, up I k 8 x, R) := (ev_eq f_111_13).trans (congrArg (fin S d 111) ((if_pos h).trans ((if_neg (by decide)).trans (if_neg (fun q => q.2 h2)))))
theorem f_111_16 : fetch 111 16 = some (16, .aload_n 0, 1, [0], 0) := (fm_111 16).trans rfl
theorem u_111_16 {S : Scr} {d : Nat} {st : List AV} {sh : Shp} {I : IM} {R : RM} {x : Nat} : ev S d 111 16 [.inr (.inl x)] st (sh, I, R) = ev S d 111 17 [.inr (.inl x)] (.inr (.inl x) :: st) (sh, I, R) := (ev_eq f_111_16).trans rfl
theorem f_111_17 : fetch 111 17 = some (17, .getfield 16, 3, [8, 1, 1, 56], 0) := (fm_111 17).trans rfl
theorem u_111_17 {S : Scr} {d : Nat} {a0 : AV} {st : List AV} {sh : Shp} {I : IM} {R : RM} {k : Nat} (h : tg sh k = 8) : ev S d 111 17 [a0] (.inr (.inl k) :: st) (sh, I, R) = ev S d 111 20 [a0] (rv (R k 1) :: st) (sh, I, R) := (ev_eq f_111_17).trans (congrArg (fin S d 111) (if_pos h))
theorem f_111_20 : fetch 111 20 = some (20, .invokevirtual 165, 3, [79, 0, 99], 0) := (fm_111 20).trans rfl
theorem u_111_20 {S : Scr} {d : Nat} {a0 : AV} {st : List AV} {sh : Shp} {I : IM} {R : RM} {k : Nat} (h : tg sh k = 7) (hr : st.length ≤ 8) : ev S d 111 20 [a0] (.inr (.inl k) :: st) (sh, I, R) = bnd (cl d 79 [.inr (.inl k)] (sh, I, R)) (fun v M => ev S d 111 23 [a0] (psh v st) M) := (ev_eq f_111_20).trans (congrArg (fin S d 111) (if_pos ⟨h, rfl, hr⟩))
theorem f_111_23 : fetch 111 23 = some (23, .ireturn, 1, [0], 0) := (fm_111 23).trans rfl
theorem u_111_23 {S : Scr} {d : Nat} {a0 : AV} {sh : Shp} {I : IM} {R : RM} {x : Int} : ev S d 111 23 [a0] [.inl x] (sh, I, R) = some (some (.inl x), (sh, I, R)) := (ev_eq f_111_23).trans fin_iret0
theorem c_112 {d : Nat} {a0 : AV} {M : Mem} : cl (d + 1) 112 [a0] M = ev S0 d 112 0 [a0, .inr (.inr 1)] [] M := (cl_eq (as := [a0]) (show 1 ≤ maxOf 112 by decide +kernel)).trans rfl
theorem mt_112 : MT[112]? = some m_112 := rfl
theorem fm_112 (pc : Nat) : fetch 112 pc = lk m_112.2.2.2.2.2 pc := by
  unfold fetch
  rw [mt_112]
theorem f_112_0 : fetch 112 0 = some (0, .aload_n 0, 1, [0], 0) := (fm_112 0).trans rfl
theorem u_112_0 {S : Scr} {d : Nat} {a1 : AV} {st : List AV} {sh : Shp} {I : IM} {R : RM} {x : Nat} : ev S d 112 0 [.inr (.inl x), a1] st (sh, I, R) = ev S d 112 1 [.inr (.inl x), a1] (.inr (.inl x) :: st) (sh, I, R) := (ev_eq f_112_0).trans rfl
theorem f_112_1 : fetch 112 1 = some (1, .getfield 243, 3, [8, 8, 2, 77], 0) := (fm_112 1).trans rfl
theorem u_112_1 {S : Scr} {d : Nat} {a0 a1 : AV} {st : List AV} {sh : Shp} {I : IM} {R : RM} {k : Nat} (h : tg sh k = 8) : ev S d 112 1 [a0, a1] (.inr (.inl k) :: st) (sh, I, R) = ev S d 112 4 [a0, a1] (.inl (I k 8) :: st) (sh, I, R) := (ev_eq f_112_1).trans (congrArg (fin S d 112) (if_pos h))
theorem f_112_4 : fetch 112 4 = some (4, .ifCond .ne 6, 3, [10], 0) := (fm_112 4).trans rfl
theorem u_112_4 {S : Scr} {d : Nat} {a0 a1 : AV} {st : List AV} {sh : Shp} {I : IM} {R : RM} {x : Int} : ev S d 112 4 [a0, a1] (.inl x :: st) (sh, I, R) = if ¬ x = 0 then ev S d 112 10 [a0, a1] st (sh, I, R) else ev S d 112 7 [a0, a1] st (sh, I, R) := (ev_eq f_112_4).trans fin_if_ne
theorem f_112_7 : fetch 112 7 = some (7, .bipush (-5), 2, [], (-5)) := (fm_112 7).trans rfl
theorem u_112_7 {S : Scr} {d : Nat} {a0 a1 : AV} {st : List AV} {sh : Shp} {I : IM} {R : RM} : ev S d 112 7 [a0, a1] st (sh, I, R) = ev S d 112 9 [a0, a1] (.inl (-5) :: st) (sh, I, R) := (ev_eq f_112_7).trans rfl
theorem f_112_9 : fetch 112 9 = some (9, .ireturn, 1, [0], 0) := (fm_112 9).trans rfl
theorem u_112_9 {S : Scr} {d : Nat} {a0 a1 : AV} {sh : Shp} {I : IM} {R : RM} {x : Int} : ev S d 112 9 [a0, a1] [.inl x] (sh, I, R) = some (some (.inl x), (sh, I, R)) := (ev_eq f_112_9).trans fin_iret0
theorem f_112_10 : fetch 112 10 = some (10, .aload_n 0, 1, [0], 0) := (fm_112 10).trans rfl
theorem u_112_10 {S : Scr} {d : Nat} {a1 : AV} {st : List AV} {sh : Shp} {I : IM} {R : RM} {x : Nat} : ev S d 112 10 [.inr (.inl x), a1] st (sh, I, R) = ev S d 112 11 [.inr (.inl x), a1] (.inr (.inl x) :: st) (sh, I, R) := (ev_eq f_112_10).trans rfl
theorem f_112_11 : fetch 112 11 = some (11, .getfield 10, 3, [8, 0, 1, 55], 0) := (fm_112 11).trans rfl
theorem u_112_11 {S : Scr} {d : Nat} {a0 a1 : AV} {st : List AV} {sh : Shp} {I : IM} {R : RM} {k : Nat} (h : tg sh k = 8) : ev S d 112 11 [a0, a1] (.inr (.inl k) :: st) (sh, I, R) = ev S d 112 14 [a0, a1] (rv (R k 0) :: st) (sh, I, R) := (ev_eq f_112_11).trans (congrArg (fin S d 112) (if_pos h))
theorem f_112_14 : fetch 112 14 = some (14, .aload_n 0, 1, [0], 0) := (fm_112 14).trans rfl
theorem u_112_14 {S : Scr} {d : Nat} {a1 : AV} {st : List AV} {sh : Shp} {I : IM} {R : RM} {x : Nat} : ev S d 112 14 [.inr (.inl x), a1] st (sh, I, R) = ev S d 112 15 [.inr (.inl x), a1] (.inr (.inl x) :: st) (sh, I, R) := (ev_eq f_112_14).trans rfl
theorem f_112_15 : fetch 112 15 = some (15, .getfield 16, 3, [8, 1, 1, 56], 0) := (fm_112 15).trans rfl
theorem u_112_15 {S : Scr} {d : Nat} {a0 a1 : AV} {st : List AV} {sh : Shp} {I : IM} {R : RM} {k : Nat} (h : tg sh k = 8) : ev S d 112 15 [a0, a1] (.inr (.inl k) :: st) (sh, I, R) = ev S d 112 18 [a0, a1] (rv (R k 1) :: st) (sh, I, R) := (ev_eq f_112_15).trans (congrArg (fin S d 112) (if_pos h))
theorem f_112_18 : fetch 112 18 = some (18, .invokevirtual 241, 3, [83, 1, 117], 0) := (fm_112 18).trans rfl
theorem u_112_18 {S : Scr} {d : Nat} {a0 a1 : AV} {st : List AV} {sh : Shp} {I : IM} {R : RM} {x0 : Nat} {k : Nat} (h : tg sh k = 7) (hr : st.length ≤ 8) : ev S d 112 18 [a0, a1] (.inr (.inl x0) :: .inr (.inl k) :: st) (sh, I, R) = bnd (cl d 83 [.inr (.inl k), .inr (.inl x0)] (sh, I, R)) (fun v M => ev S d 112 21 [a0, a1] (psh v st) M) := (ev_eq f_112_18).trans (congrArg (fin S d 112) (if_pos ⟨h, rfl, hr⟩))
theorem u_112_18n {S : Scr} {d : Nat} {a0 a1 : AV} {st : List AV} {sh : Shp} {I : IM} {R : RM} {k : Nat} (h : tg sh k = 7) (hr : st.length ≤ 8) : ev S d 112 18 [a0, a1] (.inr (.inr 0) :: .inr (.inl k) :: st) (sh, I, R) = bnd (cl d 83 [.inr (.inl k), .inr (.inr 0)] (sh, I, R)) (fun v M => ev S d 112 21 [a0, a1] (psh v st) M) := (ev_eq f_112_18).trans (congrArg (fin S d 112) (if_pos ⟨h, rfl, hr⟩))
theorem f_112_21 : fetch 112 21 = some (21, .iconst 0, 1, [], 0) := (fm_112 21).trans rfl
theorem u_112_21 {S : Scr} {d : Nat} {a0 a1 : AV} {st : List AV} {sh : Shp} {I : IM} {R : RM} : ev S d 112 21 [a0, a1] st (sh, I, R) = ev S d 112 22 [a0, a1] (.inl 0 :: st) (sh, I, R) := (ev_eq f_112_21).trans rfl
theorem f_112_22 : fetch 112 22 = some (22, .istore_n 1, 1, [1], 0) := (fm_112 22).trans rfl
theorem u_112_22 {S : Scr} {d : Nat} {a0 a1 : AV} {st : List AV} {sh : Shp} {I : IM} {R : RM} {x : Int} : ev S d 112 22 [a0, a1] (.inl x :: st) (sh, I, R) = ev S d 112 23 [a0, .inl x] st (sh, I, R) := (ev_eq f_112_22).trans rfl
theorem f_112_23 : fetch 112 23 = some (23, .iload_n 1, 1, [1], 0) := (fm_112 23).trans rfl
theorem u_112_23 {S : Scr} {d : Nat} {a0 : AV} {st : List AV} {sh : Shp} {I : IM} {R : RM} {x : Int} : ev S d 112 23 [a0, .inl x] st (sh, I, R) = ev S d 112 24 [a0, .inl x] (.inl x :: st) (sh, I, R) := (ev_eq f_112_23).trans rfl
theorem f_112_24 : fetch 112 24 = some (24, .bipush 8, 2, [], 8) := (fm_112 24).trans rfl
theorem u_112_24 {S : Scr} {d : Nat} {a0 a1 : AV} {st : List AV} {sh : Shp} {I : IM} {R : RM} : ev S d 112 24 [a0, a1] st (sh, I, R) = ev S d 112 26 [a0, a1] (.inl 8 :: st) (sh, I, R) := (ev_eq f_112_24).trans rfl
theorem f_112_26 : fetch 112 26 = some (26, .if_icmp .ge 32, 3, [58], 0) := (fm_112 26).trans rfl
theorem u_112_26 {S : Scr} {d : Nat} {a0 a1 : AV} {st : List AV} {sh : Shp} {I : IM} {R : RM} {x y : Int} : ev S d 112 26 [a0, a1] (.inl y :: .inl x :: st) (sh, I, R) = if y ≤ x then ev S d 112 58 [a0, a1] st (sh, I, R) else ev S d 112 29 [a0, a1] st (sh, I, R) := (ev_eq f_112_26).trans fin_icmp_ge
theorem f_112_29 : fetch 112 29 = some (29, .aload_n 0, 1, [0], 0) := (fm_112 29).trans rfl
theorem u_112_29 {S : Scr} {d : Nat} {a1 : AV} {st : List AV} {sh : Shp} {I : IM} {R : RM} {x : Nat} : ev S d 112 29 [.inr (.inl x), a1] st (sh, I, R) = ev S d 112 30 [.inr (.inl x), a1] (.inr (.inl x) :: st) (sh, I, R) := (ev_eq f_112_29).trans rfl
theorem f_112_30 : fetch 112 30 = some (30, .getfield 10, 3, [8, 0, 1, 55], 0) := (fm_112 30).trans rfl
theorem u_112_30 {S : Scr} {d : Nat} {a0 a1 : AV} {st : List AV} {sh : Shp} {I : IM} {R : RM} {k : Nat} (h : tg sh k = 8) : ev S d 112 30 [a0, a1] (.inr (.inl k) :: st) (sh, I, R) = ev S d 112 33 [a0, a1] (rv (R k 0) :: st) (sh, I, R) := (ev_eq f_112_30).trans (congrArg (fin S d 112) (if_pos h))
theorem f_112_33 : fetch 112 33 = some (33, .aload_n 0, 1, [0], 0) := (fm_112 33).trans rfl
theorem u_112_33 {S : Scr} {d : Nat} {a1 : AV} {st : List AV} {sh : Shp} {I : IM} {R : RM} {x : Nat} : ev S d 112 33 [.inr (.inl x), a1] st (sh, I, R) = ev S d 112 34 [.inr (.inl x), a1] (.inr (.inl x) :: st) (sh, I, R) := (ev_eq f_112_33).trans rfl
theorem f_112_34 : fetch 112 34 = some (34, .getfield 48, 3, [8, 6, 1, 61], 0) := (fm_112 34).trans rfl
theorem u_112_34 {S : Scr} {d : Nat} {a0 a1 : AV} {st : List AV} {sh : Shp} {I : IM} {R : RM} {k : Nat} (h : tg sh k = 8) : ev S d 112 34 [a0, a1] (.inr (.inl k) :: st) (sh, I, R) = ev S d 112 37 [a0, a1] (rv (R k 6) :: st) (sh, I, R) := (ev_eq f_112_34).trans (congrArg (fin S d 112) (if_pos h))
theorem f_112_37 : fetch 112 37 = some (37, .iload_n 1, 1, [1], 0) := (fm_112 37).trans rfl
theorem u_112_37 {S : Scr} {d : Nat} {a0 : AV} {st : List AV} {sh : Shp} {I : IM} {R : RM} {x : Int} : ev S d 112 37 [a0, .inl x] st (sh, I, R) = ev S d 112 38 [a0, .inl x] (.inl x :: st) (sh, I, R) := (ev_eq f_112_37).trans rfl
theorem f_112_38 : fetch 112 38 = some (38, .iaload, 1, [], 0) := (fm_112 38).trans rfl
theorem u_112_38 {S : Scr} {d : Nat} {a0 a1 : AV} {st : List AV} {sh : Shp} {I : IM} {R : RM} {k : Nat} {i : Int} (h : tg sh k = 100) (h0 : 0 ≤ i) (h1 : i < ln sh k) : ev S d 112 38 [a0, a1] (.inl i :: .inr (.inl k) :: st) (sh, I, R) = ev S d 112 39 [a0, a1] (.inl (I k i) :: st) (sh, I, R) := (ev_eq f_112_38).trans (congrArg (fin S d 112) (if_pos ⟨h, h0, h1⟩))
theorem f_112_39 : fetch 112 39 = some (39, .invokevirtual 102, 3, [68, 1, 88], 0) := (fm_112 39).trans rfl
theorem u_112_39 {S : Scr} {d : Nat} {a0 a1 : AV} {st : List AV} {sh : Shp} {I : IM} {R : RM} {x0 : Int} {k : Nat} (h : tg sh k = 7) (hr : st.length ≤ 8) : ev S d 112 39 [a0, a1] (.inl x0 :: .inr (.inl k) :: st) (sh, I, R) = bnd (cl d 68 [.inr (.inl k), .inl x0] (sh, I, R)) (fun v M => ev S d 112 42 [a0, a1] (psh v st) M) := (ev_eq f_112_39).trans (congrArg (fin S d 112) (if_pos ⟨h, rfl, hr⟩))
theorem f_112_42 : fetch 112 42 = some (42, .ifnonnull 10, 3, [52], 0) := (fm_112 42).trans rfl
theorem u_112_42 {S : Scr} {d : Nat} {a0 a1 : AV} {st : List AV} {sh : Shp} {I : IM} {R : RM} {x : Nat} : ev S d 112 42 [a0, a1] (.inr (.inl x) :: st) (sh, I, R) = ev S d 112 52 [a0, a1] st (sh, I, R) := (ev_eq f_112_42).trans rfl
theorem u_112_42n {S : Scr} {d : Nat} {a0 a1 : AV} {st : List AV} {sh : Shp} {I : IM} {R : RM} : ev S d 112 42 [a0, a1] (.inr (.inr 0) :: st) (sh, I, R) = ev S d 112 45 [a0, a1] st (sh, I, R) := (ev_eq f_112_42).trans rfl
theorem f_112_45 : fetch 112 45 = some (45, .aload_n 0, 1, [0], 0) := (fm_112 45).trans rfl
theorem u_112_45 {S : Scr} {d : Nat} {a1 : AV} {st : List AV} {sh : Shp} {I : IM} {R : RM} {x : Nat} : ev S d 112 45 [.inr (.inl x), a1] st (sh, I, R) = ev S d 112 46 [.inr (.inl x), a1] (.inr (.inl x) :: st) (sh, I, R) := (ev_eq f_112_45).trans rfl
theorem f_112_46 : fetch 112 46 = some (46, .getfield 48, 3, [8, 6, 1, 61], 0) := (fm_112 46).trans rfl
theorem u_112_46 {S : Scr} {d : Nat} {a0 a1 : AV} {st : List AV} {sh : Shp} {I : IM} {R : RM} {k : Nat} (h : tg sh k = 8) : ev S d 112 46 [a0, a1] (.inr (.inl k) :: st) (sh, I, R) = ev S d 112 49 [a0, a1] (rv (R k 6) :: st) (sh, I, R) := (ev_eq f_112_46).trans (congrArg (fin S d 112) (if_pos h))
theorem f_112_49 : fetch 112 49 = some (49, .iload_n 1, 1, [1], 0) := (fm_112 49).trans rfl
theorem u_112_49 {S : Scr} {d : Nat} {a0 : AV} {st : List AV} {sh : Shp} {I : IM} {R : RM} {x : Int} : ev S d 112 49 [a0, .inl x] st (sh, I, R) = ev S d 112 50 [a0, .inl x] (.inl x :: st) (sh, I, R) := (ev_eq f_112_49).trans rfl
theorem f_112_50 : fetch 112 50 = some (50, .iconst (-1), 1, [], (-1)) := (fm_112 50).trans rfl
theorem u_112_50 {S : Scr} {d : Nat} {a0 a1 : AV} {st : List AV} {sh : Shp} {I : IM} {R : RM} : ev S d 112 50 [a0, a1] st (sh, I, R) = ev S d 112 51 [a0, a1] (.inl (-1) :: st) (sh, I, R) := (ev_eq f_112_50).trans rfl
theorem f_112_51 : fetch 112 51 = some (51, .iastore, 1, [], 0) := (fm_112 51).trans rfl
theorem u_112_51 {S : Scr} {d : Nat} {a0 a1 : AV} {st : List AV} {sh : Shp} {I : IM} {R : RM} {k : Nat} {i x : Int} (h : tg sh k = 100) (h0 : 0 ≤ i) (h1 : i < ln sh k) : ev S d 112 51 [a0, a1] (.inl x :: .inl i :: .inr (.inl k) :: st) (sh, I, R) = ev S d 112 52 [a0, a1] st (sh, up I k i x, R) := (ev_eq f_112_51).trans (congrArg (fin S d 112) (if_pos ⟨h, h0, h1⟩))
theorem f_112_52 : fetch 112 52 = some (52, .iinc 1 1, 3, [1], 1) := (fm_112 52).trans rfl
theorem u_112_52 {S : Scr} {d : Nat} {a0 : AV} {st : List AV} {sh : Shp} {I : IM} {R : RM} {x : Int} : ev S d 112 52 [a0, .inl x] st (sh, I, R) = ev S d 112 55 [a0, .inl (wr (x + 1))] st (sh, I, R) := (ev_eq f_112_52).trans rfl
theorem f_112_55 : fetch 112 55 = some (55, .goto (-32), 3, [23], 0) := (fm_112 55).trans rfl
theorem u_112_55 {S : Scr} {d : Nat} {a0 a1 : AV} {st : List AV} {sh : Shp} {I : IM} {R : RM} : ev S d 112 55 [a0, a1] st (sh, I, R) = ev S d 112 23 [a0, a1] st (sh, I, R) := (ev_eq f_112_55).trans rfl
theorem f_112_58 : fetch 112 58 = some (58, .aload_n 0, 1, [0], 0) := (fm_112 58).trans rfl
theorem u_112_58 {S : Scr} {d : Nat} {a1 : AV} {st : List AV} {sh : Shp} {I : IM} {R : RM} {x : Nat} : ev S d 112 58 [.inr (.inl x), a1] st (sh, I, R) = ev S d 112 59 [.inr (.inl x), a1] (.inr (.inl x) :: st) (sh, I, R) := (ev_eq f_112_58).trans rfl
theorem f_112_59 : fetch 112 59 = some (59, .getfield 10, 3, [8, 0, 1, 55], 0) := (fm_112 59).trans rfl
theorem u_112_59 {S : Scr} {d : Nat} {a0 a1 : AV} {st : List AV} {sh : Shp} {I : IM} {R : RM} {k : Nat} (h : tg sh k = 8) : ev S d 112 59 [a0, a1] (.inr (.inl k) :: st) (sh, I, R) = ev S d 112 62 [a0, a1] (rv (R k 0) :: st) (sh, I, R) := (ev_eq f_112_59).trans (congrArg (fin S d 112) (if_pos h))
theorem f_112_62 : fetch 112 62 = some (62, .invokevirtual 165, 3, [79, 0, 99], 0) := (fm_112 62).trans rfl
theorem u_112_62 {S : Scr} {d : Nat} {a0 a1 : AV} {st : List AV} {sh : Shp} {I : IM} {R : RM} {k : Nat} (h : tg sh k = 7) (hr : st.length ≤ 8) : ev S d 112 62 [a0, a1] (.inr (.inl k) :: st) (sh, I, R) = bnd (cl d 79 [.inr (.inl k)] (sh, I, R)) (fun v M => ev S d 112 65 [a0, a1] (psh v st) M) := (ev_eq f_112_62).trans (congrArg (fin S d 112) (if_pos ⟨h, rfl, hr⟩))
theorem f_112_65 : fetch 112 65 = some (65, .ireturn, 1, [0], 0) := (fm_112 65).trans rfl
theorem u_112_65 {S : Scr} {d : Nat} {a0 a1 : AV} {sh : Shp} {I : IM} {R : RM} {x : Int} : ev S d 112 65 [a0, a1] [.inl x] (sh, I, R) = some (some (.inl x), (sh, I, R)) := (ev_eq f_112_65).trans fin_iret0
theorem c_113 {d : Nat} {a0 a1 a2 : AV} {M : Mem} : cl (d + 1) 113 [a0, a1, a2] M = ev S0 d 113 0 [a0, a1, a2] [] M := (cl_eq (as := [a0, a1, a2]) (show 3 ≤ maxOf 113 by decide +kernel)).trans rfl
theorem mt_113 : MT[113]? = some m_113 := rfl
theorem fm_113 (pc : Nat) : fetch 113 pc = lk m_113.2.2.2.2.2 pc := by
  unfold fetch
  rw [mt_113]
theorem f_113_0 : fetch 113 0 = some (0, .iload_n 1, 1, [1], 0) := (fm_113 0).trans rfl
theorem u_113_0 {S : Scr} {d : Nat} {a0 a2 : AV} {st : List AV} {sh : Shp} {I : IM} {R : RM} {x : Int} : ev S d 113 0 [a0, .inl x, a2] st (sh, I, R) = ev S d 113 1 [a0, .inl x, a2] (.inl x :: st) (sh, I, R) := (ev_eq f_113_0).trans rfl
theorem f_113_1 : fetch 113 1 = some (1, .invokestatic 247, 3, [122, 1, 118], 0) := (fm_113 1).trans rfl
theorem u_113_1 {S : Scr} {d : Nat} {a0 a1 a2 : AV} {st : List AV} {sh : Shp} {I : IM} {R : RM} {x0 : Int} (hr : st.length ≤ 8) : ev S d 113 1 [a0, a1, a2] (.inl x0 :: st) (sh, I, R) = bnd (cl d 122 [.inl x0] (sh, I, R)) (fun v M => ev S d 113 4 [a0, a1, a2] (psh v st) M) := (ev_eq f_113_1).trans (congrArg (fin S d 113) (if_pos ⟨rfl, hr⟩))
theorem f_113_4 : fetch 113 4 = some (4, .ifCond .eq 11, 3, [15], 0) := (fm_113 4).trans rfl
theorem u_113_4 {S : Scr} {d : Nat} {a0 a1 a2 : AV} {st : List AV} {sh : Shp} {I : IM} {R : RM} {x : Int} : ev S d 113 4 [a0, a1, a2] (.inl x :: st) (sh, I, R) = if x = 0 then ev S d 113 15 [a0, a1, a2] st (sh, I, R) else ev S d 113 7 [a0, a1, a2] st (sh, I, R) := (ev_eq f_113_4).trans fin_if_eq
theorem f_113_7 : fetch 113 7 = some (7, .aload_n 0, 1, [0], 0) := (fm_113 7).trans rfl
theorem u_113_7 {S : Scr} {d : Nat} {a1 a2 : AV} {st : List AV} {sh : Shp} {I : IM} {R : RM} {x : Nat} : ev S d 113 7 [.inr (.inl x), a1, a2] st (sh, I, R) = ev S d 113 8 [.inr (.inl x), a1, a2] (.inr (.inl x) :: st) (sh, I, R) := (ev_eq f_113_7).trans rfl
theorem f_113_8 : fetch 113 8 = some (8, .iload_n 2, 1, [2], 0) := (fm_113 8).trans rfl
theorem u_113_8 {S : Scr} {d : Nat} {a0 a1 : AV} {st : List AV} {sh : Shp} {I : IM} {R : RM} {x : Int} : ev S d 113 8 [a0, a1, .inl x] st (sh, I, R) = ev S d 113 9 [a0, a1, .inl x] (.inl x :: st) (sh, I, R) := (ev_eq f_113_8).trans rfl
theorem f_113_9 : fetch 113 9 = some (9, .invokevirtual 126, 3, [120, 1, 92], 0) := (fm_113 9).trans rfl
theorem u_113_9 {S : Scr} {d : Nat} {a0 a1 a2 : AV} {st : List AV} {sh : Shp} {I : IM} {R : RM} {x0 : Int} {k : Nat} (h : tg sh k = 8) (hr : st.length ≤ 8) : ev S d 113 9 [a0, a1, a2] (.inl x0 :: .inr (.inl k) :: st) (sh, I, R) = bnd (cl d 120 [.inr (.inl k), .inl x0] (sh, I, R)) (fun v M => ev S d 113 12 [a0, a1, a2] (psh v st) M) := (ev_eq f_113_9).trans (congrArg (fin S d 113) (if_pos ⟨h, rfl, hr⟩))
theorem f_113_12 : fetch 113 12 = some (12, .ifCond .ne 5, 3, [17], 0) := (fm_113 12).trans rfl
theorem u_113_12 {S : Scr} {d : Nat} {a0 a1 a2 : AV} {st : List AV} {sh : Shp} {I : IM} {R : RM} {x : Int} : ev S d 113 12 [a0, a1, a2] (.inl x :: st) (sh, I, R) = if ¬ x = 0 then ev S d 113 17 [a0, a1, a2] st (sh, I, R) else ev S d 113 15 [a0, a1, a2] st (sh, I, R) := (ev_eq f_113_12).trans fin_if_ne
theorem f_113_15 : fetch 113 15 = some (15, .iconst (-1), 1, [], (-1)) := (fm_113 15).trans rfl
theorem u_113_15 {S : Scr} {d : Nat} {a0 a1 a2 : AV} {st : List AV} {sh : Shp} {I : IM} {R : RM} : ev S d 113 15 [a0, a1, a2] st (sh, I, R) = ev S d 113 16 [a0, a1, a2] (.inl (-1) :: st) (sh, I, R) := (ev_eq f_113_15).trans rfl
theorem f_113_16 : fetch 113 16 = some (16, .ireturn, 1, [0], 0) := (fm_113 16).trans rfl
theorem u_113_16 {S : Scr} {d : Nat} {a0 a1 a2 : AV} {sh : Shp} {I : IM} {R : RM} {x : Int} : ev S d 113 16 [a0, a1, a2] [.inl x] (sh, I, R) = some (some (.inl x), (sh, I, R)) := (ev_eq f_113_16).trans fin_iret0
theorem f_113_17 : fetch 113 17 = some (17, .aload_n 0, 1, [0], 0) := (fm_113 17).trans rfl
theorem u_113_17 {S : Scr} {d : Nat} {a1 a2 : AV} {st : List AV} {sh : Shp} {I : IM} {R : RM} {x : Nat} : ev S d 113 17 [.inr (.inl x), a1, a2] st (sh, I, R) = ev S d 113 18 [.inr (.inl x), a1, a2] (.inr (.inl x) :: st) (sh, I, R) := (ev_eq f_113_17).trans rfl
theorem f_113_18 : fetch 113 18 = some (18, .getfield 48, 3, [8, 6, 1, 61], 0) := (fm_113 18).trans rfl
theorem u_113_18 {S : Scr} {d : Nat} {a0 a1 a2 : AV} {st : List AV} {sh : Shp} {I : IM} {R : RM} {k : Nat} (h : tg sh k = 8) : ev S d 113 18 [a0, a1, a2] (.inr (.inl k) :: st) (sh, I, R) = ev S d 113 21 [a0, a1, a2] (rv (R k 6) :: st) (sh, I, R) := (ev_eq f_113_18).trans (congrArg (fin S d 113) (if_pos h))
theorem f_113_21 : fetch 113 21 = some (21, .iload_n 1, 1, [1], 0) := (fm_113 21).trans rfl
theorem u_113_21 {S : Scr} {d : Nat} {a0 a2 : AV} {st : List AV} {sh : Shp} {I : IM} {R : RM} {x : Int} : ev S d 113 21 [a0, .inl x, a2] st (sh, I, R) = ev S d 113 22 [a0, .inl x, a2] (.inl x :: st) (sh, I, R) := (ev_eq f_113_21).trans rfl
theorem f_113_22 : fetch 113 22 = some (22, .iload_n 2, 1, [2], 0) := (fm_113 22).trans rfl
theorem u_113_22 {S : Scr} {d : Nat} {a0 a1 : AV} {st : List AV} {sh : Shp} {I : IM} {R : RM} {x : Int} : ev S d 113 22 [a0, a1, .inl x] st (sh, I, R) = ev S d 113 23 [a0, a1, .inl x] (.inl x :: st) (sh, I, R) := (ev_eq f_113_22).trans rfl
theorem f_113_23 : fetch 113 23 = some (23, .iastore, 1, [], 0) := (fm_113 23).trans rfl
theorem u_113_23 {S : Scr} {d : Nat} {a0 a1 a2 : AV} {st : List AV} {sh : Shp} {I : IM} {R : RM} {k : Nat} {i x : Int} (h : tg sh k = 100) (h0 : 0 ≤ i) (h1 : i < ln sh k) : ev S d 113 23 [a0, a1, a2] (.inl x :: .inl i :: .inr (.inl k) :: st) (sh, I, R) = ev S d 113 24 [a0, a1, a2] st (sh, up I k i x, R) := (ev_eq f_113_23).trans (congrArg (fin S d 113) (if_pos ⟨h, h0, h1⟩))
theorem f_113_24 : fetch 113 24 = some (24, .iconst 1, 1, [], 1) := (fm_113 24).trans rfl
theorem u_113_24 {S : Scr} {d : Nat} {a0 a1 a2 : AV} {st : List AV} {sh : Shp} {I : IM} {R : RM} : ev S d 113 24 [a0, a1, a2] st (sh, I, R) = ev S d 113 25 [a0, a1, a2] (.inl 1 :: st) (sh, I, R) := (ev_eq f_113_24).trans rfl
theorem f_113_25 : fetch 113 25 = some (25, .ireturn, 1, [0], 0) := (fm_113 25).trans rfl
theorem u_113_25 {S : Scr} {d : Nat} {a0 a1 a2 : AV} {sh : Shp} {I : IM} {R : RM} {x : Int} : ev S d 113 25 [a0, a1, a2] [.inl x] (sh, I, R) = some (some (.inl x), (sh, I, R)) := (ev_eq f_113_25).trans fin_iret0
theorem c_114 {d : Nat} {a0 a1 : AV} {M : Mem} : cl (d + 1) 114 [a0, a1] M = ev S0 d 114 0 [a0, a1] [] M := (cl_eq (as := [a0, a1]) (show 2 ≤ maxOf 114 by decide +kernel)).trans rfl
theorem mt_114 : MT[114]? = some m_114 := rfl
theorem fm_114 (pc : Nat) : fetch 114 pc = lk m_114.2.2.2.2.2 pc := by
  unfold fetch
  rw [mt_114]
theorem f_114_0 : fetch 114 0 = some (0, .iload_n 1, 1, [1], 0) := (fm_114 0).trans rfl
theorem u_114_0 {S : Scr} {d : Nat} {a0 : AV} {st : List AV} {sh : Shp} {I : IM} {R : RM} {x : Int} : ev S d 114 0 [a0, .inl x] st (sh, I, R) = ev S d 114 1 [a0, .inl x] (.inl x :: st) (sh, I, R) := (ev_eq f_114_0).trans rfl
theorem f_114_1 : fetch 114 1 = some (1, .invokestatic 247, 3, [122, 1, 118], 0) := (fm_114 1).trans rfl
theorem u_114_1 {S : Scr} {d : Nat} {a0 a1 : AV} {st : List AV} {sh : Shp} {I : IM} {R : RM} {x0 : Int} (hr : st.length ≤ 8) : ev S d 114 1 [a0, a1] (.inl x0 :: st) (sh, I, R) = bnd (cl d 122 [.inl x0] (sh, I, R)) (fun v M => ev S d 114 4 [a0, a1] (psh v st) M) := (ev_eq f_114_1).trans (congrArg (fin S d 114) (if_pos ⟨rfl, hr⟩))
theorem f_114_4 : fetch 114 4 = some (4, .ifCond .eq 15, 3, [19], 0) := (fm_114 4).trans rfl
theorem u_114_4 {S : Scr} {d : Nat} {a0 a1 : AV} {st : List AV} {sh : Shp} {I : IM} {R : RM} {x : Int} : ev S d 114 4 [a0, a1] (.inl x :: st) (sh, I, R) = if x = 0 then ev S d 114 19 [a0, a1] st (sh, I, R) else ev S d 114 7 [a0, a1] st (sh, I, R) := (ev_eq f_114_4).trans fin_if_eq
theorem f_114_7 : fetch 114 7 = some (7, .aload_n 0, 1, [0], 0) := (fm_114 7).trans rfl
theorem u_114_7 {S : Scr} {d : Nat} {a1 : AV} {st : List AV} {sh : Shp} {I : IM} {R : RM} {x : Nat} : ev S d 114 7 [.inr (.inl x), a1] st (sh, I, R) = ev S d 114 8 [.inr (.inl x), a1] (.inr (.inl x) :: st) (sh, I, R) := (ev_eq f_114_7).trans rfl
theorem f_114_8 : fetch 114 8 = some (8, .getfield 48, 3, [8, 6, 1, 61], 0) := (fm_114 8).trans rfl
theorem u_114_8 {S : Scr} {d : Nat} {a0 a1 : AV} {st : List AV} {sh : Shp} {I : IM} {R : RM} {k : Nat} (h : tg sh k = 8) : ev S d 114 8 [a0, a1] (.inr (.inl k) :: st) (sh, I, R) = ev S d 114 11 [a0, a1] (rv (R k 6) :: st) (sh, I, R) := (ev_eq f_114_8).trans (congrArg (fin S d 114) (if_pos h))
theorem f_114_11 : fetch 114 11 = some (11, .iload_n 1, 1, [1], 0) := (fm_114 11).trans rfl
theorem u_114_11 {S : Scr} {d : Nat} {a0 : AV} {st : List AV} {sh : Shp} {I : IM} {R : RM} {x : Int} : ev S d 114 11 [a0, .inl x] st (sh, I, R) = ev S d 114 12 [a0, .inl x] (.inl x :: st) (sh, I, R) := (ev_eq f_114_11).trans rfl
theorem f_114_12 : fetch 114 12 = some (12, .iaload, 1, [], 0) := (fm_114 12).trans rfl
theorem u_114_12 {S : Scr} {d : Nat} {a0 a1 : AV} {st : List AV} {sh : Shp} {I : IM} {R : RM} {k : Nat} {i : Int} (h : tg sh k = 100) (h0 : 0 ≤ i) (h1 : i < ln sh k) : ev S d 114 12 [a0, a1] (.inl i :: .inr (.inl k) :: st) (sh, I, R) = ev S d 114 13 [a0, a1] (.inl (I k i) :: st) (sh, I, R) := (ev_eq f_114_12).trans (congrArg (fin S d 114) (if_pos ⟨h, h0, h1⟩))
theorem f_114_13 : fetch 114 13 = some (13, .invokestatic 139, 3, [127, 1, 95], 0) := (fm_114 13).trans rfl
theorem u_114_13 {S : Scr} {d : Nat} {a0 a1 : AV} {st : List AV} {sh : Shp} {I : IM} {R : RM} {x0 : Int} (hr : st.length ≤ 8) : ev S d 114 13 [a0, a1] (.inl x0 :: st) (sh, I, R) = bnd (cl d 127 [.inl x0] (sh, I, R)) (fun v M => ev S d 114 16 [a0, a1] (psh v st) M) := (ev_eq f_114_13).trans (congrArg (fin S d 114) (if_pos ⟨rfl, hr⟩))
theorem f_114_16 : fetch 114 16 = some (16, .goto 4, 3, [20], 0) := (fm_114 16).trans rfl
theorem u_114_16 {S : Scr} {d : Nat} {a0 a1 : AV} {st : List AV} {sh : Shp} {I : IM} {R : RM} : ev S d 114 16 [a0, a1] st (sh, I, R) = ev S d 114 20 [a0, a1] st (sh, I, R) := (ev_eq f_114_16).trans rfl
theorem f_114_19 : fetch 114 19 = some (19, .iconst (-1), 1, [], (-1)) := (fm_114 19).trans rfl
theorem u_114_19 {S : Scr} {d : Nat} {a0 a1 : AV} {st : List AV} {sh : Shp} {I : IM} {R : RM} : ev S d 114 19 [a0, a1] st (sh, I, R) = ev S d 114 20 [a0, a1] (.inl (-1) :: st) (sh, I, R) := (ev_eq f_114_19).trans rfl
theorem f_114_20 : fetch 114 20 = some (20, .ireturn, 1, [0], 0) := (fm_114 20).trans rfl
theorem u_114_20 {S : Scr} {d : Nat} {a0 a1 : AV} {sh : Shp} {I : IM} {R : RM} {x : Int} : ev S d 114 20 [a0, a1] [.inl x] (sh, I, R) = some (some (.inl x), (sh, I, R)) := (ev_eq f_114_20).trans fin_iret0
theorem c_115 {d : Nat} {a0 a1 a2 : AV} {M : Mem} : cl (d + 1) 115 [a0, a1, a2] M = ev S0 d 115 0 [a0, a1, a2, .inr (.inr 1)] [] M := (cl_eq (as := [a0, a1, a2]) (show 3 ≤ maxOf 115 by decide +kernel)).trans rfl
theorem mt_115 : MT[115]? = some m_115 := rfl
theorem fm_115 (pc : Nat) : fetch 115 pc = lk m_115.2.2.2.2.2 pc := by
  unfold fetch
  rw [mt_115]
theorem f_115_0 : fetch 115 0 = some (0, .iload_n 1, 1, [1], 0) := (fm_115 0).trans rfl
theorem u_115_0 {S : Scr} {d : Nat} {a0 a2 a3 : AV} {st : List AV} {sh : Shp} {I : IM} {R : RM} {x : Int} : ev S d 115 0 [a0, .inl x, a2, a3] st (sh, I, R) = ev S d 115 1 [a0, .inl x, a2, a3] (.inl x :: st) (sh, I, R) := (ev_eq f_115_0).trans rfl
theorem f_115_1 : fetch 115 1 = some (1, .invokestatic 247, 3, [122, 1, 118], 0) := (fm_115 1).trans rfl
theorem u_115_1 {S : Scr} {d : Nat} {a0 a1 a2 a3 : AV} {st : List AV} {sh : Shp} {I : IM} {R : RM} {x0 : Int} (hr : st.length ≤ 8) : ev S d 115 1 [a0, a1, a2, a3] (.inl x0 :: st) (sh, I, R) = bnd (cl d 122 [.inl x0] (sh, I, R)) (fun v M => ev S d 115 4 [a0, a1, a2, a3] (psh v st) M) := (ev_eq f_115_1).trans (congrArg (fin S d 115) (if_pos ⟨rfl, hr⟩))
theorem f_115_4 : fetch 115 4 = some (4, .ifCond .eq 12, 3, [16], 0) := (fm_115 4).trans rfl
theorem u_115_4 {S : Scr} {d : Nat} {a0 a1 a2 a3 : AV} {st : List AV} {sh : Shp} {I : IM} {R : RM} {x : Int} : ev S d 115 4 [a0, a1, a2, a3] (.inl x :: st) (sh, I, R) = if x = 0 then ev S d 115 16 [a0, a1, a2, a3] st (sh, I, R) else ev S d 115 7 [a0, a1, a2, a3] st (sh, I, R) := (ev_eq f_115_4).trans fin_if_eq
theorem f_115_7 : fetch 115 7 = some (7, .iload_n 2, 1, [2], 0) := (fm_115 7).trans rfl
theorem u_115_7 {S : Scr} {d : Nat} {a0 a1 a3 : AV} {st : List AV} {sh : Shp} {I : IM} {R : RM} {x : Int} : ev S d 115 7 [a0, a1, .inl x, a3] st (sh, I, R) = ev S d 115 8 [a0, a1, .inl x, a3] (.inl x :: st) (sh, I, R) := (ev_eq f_115_7).trans rfl
theorem f_115_8 : fetch 115 8 = some (8, .ifCond .lt 8, 3, [16], 0) := (fm_115 8).trans rfl
theorem u_115_8 {S : Scr} {d : Nat} {a0 a1 a2 a3 : AV} {st : List AV} {sh : Shp} {I : IM} {R : RM} {x : Int} : ev S d 115 8 [a0, a1, a2, a3] (.inl x :: st) (sh, I, R) = if x < 0 then ev S d 115 16 [a0, a1, a2, a3] st (sh, I, R) else ev S d 115 11 [a0, a1, a2, a3] st (sh, I, R) := (ev_eq f_115_8).trans fin_if_lt
theorem f_115_11 : fetch 115 11 = some (11, .iload_n 2, 1, [2], 0) := (fm_115 11).trans rfl
theorem u_115_11 {S : Scr} {d : Nat} {a0 a1 a3 : AV} {st : List AV} {sh : Shp} {I : IM} {R : RM} {x : Int} : ev S d 115 11 [a0, a1, .inl x, a3] st (sh, I, R) = ev S d 115 12 [a0, a1, .inl x, a3] (.inl x :: st) (sh, I, R) := (ev_eq f_115_11).trans rfl
theorem f_115_12 : fetch 115 12 = some (12, .iconst 4, 1, [], 4) := (fm_115 12).trans rfl
theorem u_115_12 {S : Scr} {d : Nat} {a0 a1 a2 a3 : AV} {st : List AV} {sh : Shp} {I : IM} {R : RM} : ev S d 115 12 [a0, a1, a2, a3] st (sh, I, R) = ev S d 115 13 [a0, a1, a2, a3] (.inl 4 :: st) (sh, I, R) := (ev_eq f_115_12).trans rfl
theorem f_115_13 : fetch 115 13 = some (13, .if_icmp .le 5, 3, [18], 0) := (fm_115 13).trans rfl
theorem u_115_13 {S : Scr} {d : Nat} {a0 a1 a2 a3 : AV} {st : List AV} {sh : Shp} {I : IM} {R : RM} {x y : Int} : ev S d 115 13 [a0, a1, a2, a3] (.inl y :: .inl x :: st) (sh, I, R) = if x ≤ y then ev S d 115 18 [a0, a1, a2, a3] st (sh, I, R) else ev S d 115 16 [a0, a1, a2, a3] st (sh, I, R) := (ev_eq f_115_13).trans fin_icmp_le
theorem f_115_16 : fetch 115 16 = some (16, .iconst (-1), 1, [], (-1)) := (fm_115 16).trans rfl
theorem u_115_16 {S : Scr} {d : Nat} {a0 a1 a2 a3 : AV} {st : List AV} {sh : Shp} {I : IM} {R : RM} : ev S d 115 16 [a0, a1, a2, a3] st (sh, I, R) = ev S d 115 17 [a0, a1, a2, a3] (.inl (-1) :: st) (sh, I, R) := (ev_eq f_115_16).trans rfl
theorem f_115_17 : fetch 115 17 = some (17, .ireturn, 1, [0], 0) := (fm_115 17).trans rfl
theorem u_115_17 {S : Scr} {d : Nat} {a0 a1 a2 a3 : AV} {sh : Shp} {I : IM} {R : RM} {x : Int} : ev S d 115 17 [a0, a1, a2, a3] [.inl x] (sh, I, R) = some (some (.inl x), (sh, I, R)) := (ev_eq f_115_17).trans fin_iret0
theorem f_115_18 : fetch 115 18 = some (18, .aload_n 0, 1, [0], 0) := (fm_115 18).trans rfl
theorem u_115_18 {S : Scr} {d : Nat} {a1 a2 a3 : AV} {st : List AV} {sh : Shp} {I : IM} {R : RM} {x : Nat} : ev S d 115 18 [.inr (.inl x), a1, a2, a3] st (sh, I, R) = ev S d 115 19 [.inr (.inl x), a1, a2, a3] (.inr (.inl x) :: st) (sh, I, R) := (ev_eq f_115_18).trans rfl
theorem f_115_19 : fetch 115 19 = some (19, .getfield 10, 3, [8, 0, 1, 55], 0) := (fm_115 19).trans rfl
theorem u_115_19 {S : Scr} {d : Nat} {a0 a1 a2 a3 : AV} {st : List AV} {sh : Shp} {I : IM} {R : RM} {k : Nat} (h : tg sh k = 8) : ev S d 115 19 [a0, a1, a2, a3] (.inr (.inl k) :: st) (sh, I, R) = ev S d 115 22 [a0, a1, a2, a3] (rv (R k 0) :: st) (sh, I, R) := (ev_eq f_115_19).trans (congrArg (fin S d 115) (if_pos h))
theorem f_115_22 : fetch 115 22 = some (22, .aload_n 0, 1, [0], 0) := (fm_115 22).trans rfl
theorem u_115_22 {S : Scr} {d : Nat} {a1 a2 a3 : AV} {st : List AV} {sh : Shp} {I : IM} {R : RM} {x : Nat} : ev S d 115 22 [.inr (.inl x), a1, a2, a3] st (sh, I, R) = ev S d 115 23 [.inr (.inl x), a1, a2, a3] (.inr (.inl x) :: st) (sh, I, R) := (ev_eq f_115_22).trans rfl
theorem f_115_23 : fetch 115 23 = some (23, .getfield 48, 3, [8, 6, 1, 61], 0) := (fm_115 23).trans rfl
theorem u_115_23 {S : Scr} {d : Nat} {a0 a1 a2 a3 : AV} {st : List AV} {sh : Shp} {I : IM} {R : RM} {k : Nat} (h : tg sh k = 8) : ev S d 115 23 [a0, a1, a2, a3] (.inr (.inl k) :: st) (sh, I, R) = ev S d 115 26 [a0, a1, a2, a3] (rv (R k 6) :: st) (sh, I, R) := (ev_eq f_115_23).trans (congrArg (fin S d 115) (if_pos h))
theorem f_115_26 : fetch 115 26 = some (26, .iload_n 1, 1, [1], 0) := (fm_115 26).trans rfl
theorem u_115_26 {S : Scr} {d : Nat} {a0 a2 a3 : AV} {st : List AV} {sh : Shp} {I : IM} {R : RM} {x : Int} : ev S d 115 26 [a0, .inl x, a2, a3] st (sh, I, R) = ev S d 115 27 [a0, .inl x, a2, a3] (.inl x :: st) (sh, I, R) := (ev_eq f_115_26).trans rfl
theorem f_115_27 : fetch 115 27 = some (27, .iaload, 1, [], 0) := (fm_115 27).trans rfl
theorem u_115_27 {S : Scr} {d : Nat} {a0 a1 a2 a3 : AV} {st : List AV} {sh : Shp} {I : IM} {R : RM} {k : Nat} {i : Int} (h : tg sh k = 100) (h0 : 0 ≤ i) (h1 : i < ln sh k) : ev S d 115 27 [a0, a1, a2, a3] (.inl i :: .inr (.inl k) :: st) (sh, I, R) = ev S d 115 28 [a0, a1, a2, a3] (.inl (I k i) :: st) (sh, I, R) := (ev_eq f_115_27).trans (congrArg (fin S d 115) (if_pos ⟨h, h0, h1⟩))
theorem f_115_28 : fetch 115 28 = some (28, .invokevirtual 102, 3, [68, 1, 88], 0) := (fm_115 28).trans rfl
theorem u_115_28 {S : Scr} {d : Nat} {a0 a1 a2 a3 : AV} {st : List AV} {sh : Shp} {I : IM} {R : RM} {x0 : Int} {k : Nat} (h : tg sh k = 7) (hr : st.length ≤ 8) : ev S d 115 28 [a0, a1, a2, a3] (.inl x0 :: .inr (.inl k) :: st) (sh, I, R) = bnd (cl d 68 [.inr (.inl k), .inl x0] (sh, I, R)) (fun v M => ev S d 115 31 [a0, a1, a2, a3] (psh v st) M) := (ev_eq f_115_28).trans (congrArg (fin S d 115) (if_pos ⟨h, rfl, hr⟩))
theorem f_115_31 : fetch 115 31 = some (31, .astore_n 3, 1, [3], 0) := (fm_115 31).trans rfl
theorem u_115_31 {S : Scr} {d : Nat} {a0 a1 a2 a3 : AV} {st : List AV} {sh : Shp} {I : IM} {R : RM} {x : Nat} : ev S d 115 31 [a0, a1, a2, a3] (.inr (.inl x) :: st) (sh, I, R) = ev S d 115 32 [a0, a1, a2, .inr (.inl x)] st (sh, I, R) := (ev_eq f_115_31).trans rfl
theorem u_115_31n {S : Scr} {d : Nat} {a0 a1 a2 a3 : AV} {st : List AV} {sh : Shp} {I : IM} {R : RM} : ev S d 115 31 [a0, a1, a2, a3] (.inr (.inr 0) :: st) (sh, I, R) = ev S d 115 32 [a0, a1, a2, .inr (.inr 0)] st (sh, I, R) := (ev_eq f_115_31).trans rfl
theorem f_115_32 : fetch 115 32 = some (32, .aload_n 3, 1, [3], 0) := (fm_115 32).trans rfl
theorem u_115_32 {S : Scr} {d : Nat} {a0 a1 a2 : AV} {st : List AV} {sh : Shp} {I : IM} {R : RM} {x : Nat} : ev S d 115 32 [a0, a1, a2, .inr (.inl x)] st (sh, I, R) = ev S d 115 33 [a0, a1, a2, .inr (.inl x)] (.inr (.inl x) :: st) (sh, I, R) := (ev_eq f_115_32).trans rfl
theorem u_115_32n {S : Scr} {d : Nat} {a0 a1 a2 : AV} {st : List AV} {sh : Shp} {I : IM} {R : RM} : ev S d 115 32 [a0, a1, a2, .inr (.inr 0)] st (sh, I, R) = ev S d 115 33 [a0, a1, a2, .inr (.inr 0)] (.inr (.inr 0) :: st) (sh, I, R) := (ev_eq f_115_32).trans rfl
theorem f_115_33 : fetch 115 33 = some (33, .ifnonnull 6, 3, [39], 0) := (fm_115 33).trans rfl
theorem u_115_33 {S : Scr} {d : Nat} {a0 a1 a2 a3 : AV} {st : List AV} {sh : Shp} {I : IM} {R : RM} {x : Nat} : ev S d 115 33 [a0, a1, a2, a3] (.inr (.inl x) :: st) (sh, I, R) = ev S d 115 39 [a0, a1, a2, a3] st (sh, I, R) := (ev_eq f_115_33).trans rfl
theorem u_115_33n {S : Scr} {d : Nat} {a0 a1 a2 a3 : AV} {st : List AV} {sh : Shp} {I : IM} {R : RM} : ev S d 115 33 [a0, a1, a2, a3] (.inr (.inr 0) :: st) (sh, I, R) = ev S d 115 36 [a0, a1, a2, a3] st (sh, I, R) := (ev_eq f_115_33).trans rfl
theorem f_115_36 : fetch 115 36 = some (36, .bipush (-11), 2, [], (-11)) := (fm_115 36).trans rfl
theorem u_115_36 {S : Scr} {d : Nat} {a0 a1 a2 a3 : AV} {st : List AV} {sh : Shp} {I : IM} {R : RM} : ev S d 115 36 [a0, a1, a2, a3] st (sh, I, R) = ev S d 115 38 [a0, a1, a2, a3] (.inl (-11) :: st) (sh, I, R) := (ev_eq f_115_36).trans rfl
theorem f_115_38 : fetch 115 38 = some (38, .ireturn, 1, [0], 0) := (fm_115 38).trans rfl
theorem u_115_38 {S : Scr} {d : Nat} {a0 a1 a2 a3 : AV} {sh : Shp} {I : IM} {R : RM} {x : Int} : ev S d 115 38 [a0, a1, a2, a3] [.inl x] (sh, I, R) = some (some (.inl x), (sh, I, R)) := (ev_eq f_115_38).trans fin_iret0
theorem f_115_39 : fetch 115 39 = some (39, .iload_n 2, 1, [2], 0) := (fm_115 39).trans rfl
theorem u_115_39 {S : Scr} {d : Nat} {a0 a1 a3 : AV} {st : List AV} {sh : Shp} {I : IM} {R : RM} {x : Int} : ev S d 115 39 [a0, a1, .inl x, a3] st (sh, I, R) = ev S d 115 40 [a0, a1, .inl x, a3] (.inl x :: st) (sh, I, R) := (ev_eq f_115_39).trans rfl
theorem f_115_40 : fetch 115 40 = some (40, .tableswitch 133 1 4 #[32, 53, 84, 107], 32, [173, 1, 72, 2, 93, 3, 124, 4, 147], 0) := (fm_115 40).trans rfl
theorem u_115_40 {S : Scr} {d : Nat} {a0 a1 a2 a3 : AV} {st : List AV} {sh : Shp} {I : IM} {R : RM} {x : Int} : ev S d 115 40 [a0, a1, a2, a3] (.inl x :: st) (sh, I, R) = if x = 1 then ev S d 115 72 [a0, a1, a2, a3] st (sh, I, R) else if x = 2 then ev S d 115 93 [a0, a1, a2, a3] st (sh, I, R) else if x = 3 then ev S d 115 124 [a0, a1, a2, a3] st (sh, I, R) else if x = 4 then ev S d 115 147 [a0, a1, a2, a3] st (sh, I, R) else ev S d 115 173 [a0, a1, a2, a3] st (sh, I, R) := by
  rw [ev_eq f_115_40]
  show ev S d 115 (swt 173 x [1, 72, 2, 93, 3, 124, 4, 147]) _ _ _ = _
  rw [ev_sw, ev_sw, ev_sw, ev_sw, ev_sw0]
  rfl
theorem f_115_72 : fetch 115 72 = some (72, .aload_n 3, 1, [3], 0) := (fm_115 72).trans rfl
theorem u_115_72 {S : Scr} {d : Nat} {a0 a1 a2 : AV} {st : List AV} {sh : Shp} {I : IM} {R : RM} {x : Nat} : ev S d 115 72 [a0, a1, a2, .inr (.inl x)] st (sh, I, R) = ev S d 115 73 [a0, a1, a2, .inr (.inl x)] (.inr (.inl x) :: st) (sh, I, R) := (ev_eq f_115_72).trans rfl
theorem u_115_72n {S : Scr} {d : Nat} {a0 a1 a2 : AV} {st : List AV} {sh : Shp} {I : IM} {R : RM} : ev S d 115 72 [a0, a1, a2, .inr (.inr 0)] st (sh, I, R) = ev S d 115 73 [a0, a1, a2, .inr (.inr 0)] (.inr (.inr 0) :: st) (sh, I, R) := (ev_eq f_115_72).trans rfl
theorem f_115_73 : fetch 115 73 = some (73, .getfield 110, 3, [3, 2, 0, 65], 0) := (fm_115 73).trans rfl
theorem u_115_73 {S : Scr} {d : Nat} {a0 a1 a2 a3 : AV} {st : List AV} {sh : Shp} {I : IM} {R : RM} {k : Nat} (h : tg sh k = 3) : ev S d 115 73 [a0, a1, a2, a3] (.inr (.inl k) :: st) (sh, I, R) = ev S d 115 76 [a0, a1, a2, a3] (.inl (I k 2) :: st) (sh, I, R) := (ev_eq f_115_73).trans (congrArg (fin S d 115) (if_pos h))
theorem f_115_76 : fetch 115 76 = some (76, .iconst 1, 1, [], 1) := (fm_115 76).trans rfl
theorem u_115_76 {S : Scr} {d : Nat} {a0 a1 a2 a3 : AV} {st : List AV} {sh : Shp} {I : IM} {R : RM} : ev S d 115 76 [a0, a1, a2, a3] st (sh, I, R) = ev S d 115 77 [a0, a1, a2, a3] (.inl 1 :: st) (sh, I, R) := (ev_eq f_115_76).trans rfl
theorem f_115_77 : fetch 115 77 = some (77, .if_icmp .ne 13, 3, [90], 0) := (fm_115 77).trans rfl
theorem u_115_77 {S : Scr} {d : Nat} {a0 a1 a2 a3 : AV} {st : List AV} {sh : Shp} {I : IM} {R : RM} {x y : Int} : ev S d 115 77 [a0, a1, a2, a3] (.inl y :: .inl x :: st) (sh, I, R) = if ¬ x = y then ev S d 115 90 [a0, a1, a2, a3] st (sh, I, R) else ev S d 115 80 [a0, a1, a2, a3] st (sh, I, R) := (ev_eq f_115_77).trans fin_icmp_ne
theorem f_115_80 : fetch 115 80 = some (80, .aload_n 3, 1, [3], 0) := (fm_115 80).trans rfl
theorem u_115_80 {S : Scr} {d : Nat} {a0 a1 a2 : AV} {st : List AV} {sh : Shp} {I : IM} {R : RM} {x : Nat} : ev S d 115 80 [a0, a1, a2, .inr (.inl x)] st (sh, I, R) = ev S d 115 81 [a0, a1, a2, .inr (.inl x)] (.inr (.inl x) :: st) (sh, I, R) := (ev_eq f_115_80).trans rfl
theorem u_115_80n {S : Scr} {d : Nat} {a0 a1 a2 : AV} {st : List AV} {sh : Shp} {I : IM} {R : RM} : ev S d 115 80 [a0, a1, a2, .inr (.inr 0)] st (sh, I, R) = ev S d 115 81 [a0, a1, a2, .inr (.inr 0)] (.inr (.inr 0) :: st) (sh, I, R) := (ev_eq f_115_80).trans rfl
theorem f_115_81 : fetch 115 81 = some (81, .getfield 115, 3, [3, 0, 1, 66], 0) := (fm_115 81).trans rfl
theorem u_115_81 {S : Scr} {d : Nat} {a0 a1 a2 a3 : AV} {st : List AV} {sh : Shp} {I : IM} {R : RM} {k : Nat} (h : tg sh k = 3) : ev S d 115 81 [a0, a1, a2, a3] (.inr (.inl k) :: st) (sh, I, R) = ev S d 115 84 [a0, a1, a2, a3] (rv (R k 0) :: st) (sh, I, R) := (ev_eq f_115_81).trans (congrArg (fin S d 115) (if_pos h))
theorem f_115_84 : fetch 115 84 = some (84, .getfield 76, 3, [1, 3, 0, 63], 0) := (fm_115 84).trans rfl
theorem u_115_84 {S : Scr} {d : Nat} {a0 a1 a2 a3 : AV} {st : List AV} {sh : Shp} {I : IM} {R : RM} {k : Nat} (h : tg sh k = 1) : ev S d 115 84 [a0, a1, a2, a3] (.inr (.inl k) :: st) (sh, I, R) = ev S d 115 87 [a0, a1, a2, a3] (.inl (I k 3) :: st) (sh, I, R) := (ev_eq f_115_84).trans (congrArg (fin S d 115) (if_pos h))
theorem f_115_87 : fetch 115 87 = some (87, .goto 5, 3, [92], 0) := (fm_115 87).trans rfl
theorem u_115_87 {S : Scr} {d : Nat} {a0 a1 a2 a3 : AV} {st : List AV} {sh : Shp} {I : IM} {R : RM} : ev S d 115 87 [a0, a1, a2, a3] st (sh, I, R) = ev S d 115 92 [a0, a1, a2, a3] st (sh, I, R) := (ev_eq f_115_87).trans rfl
theorem f_115_90 : fetch 115 90 = some (90, .bipush (-12), 2, [], (-12)) := (fm_115 90).trans rfl
theorem u_115_90 {S : Scr} {d : Nat} {a0 a1 a2 a3 : AV} {st : List AV} {sh : Shp} {I : IM} {R : RM} : ev S d 115 90 [a0, a1, a2, a3] st (sh, I, R) = ev S d 115 92 [a0, a1, a2, a3] (.inl (-12) :: st) (sh, I, R) := (ev_eq f_115_90).trans rfl
theorem f_115_92 : fetch 115 92 = some (92, .ireturn, 1, [0], 0) := (fm_115 92).trans rfl
theorem u_115_92 {S : Scr} {d : Nat} {a0 a1 a2 a3 : AV} {sh : Shp} {I : IM} {R : RM} {x : Int} : ev S d 115 92 [a0, a1, a2, a3] [.inl x] (sh, I, R) = some (some (.inl x), (sh, I, R)) := (ev_eq f_115_92).trans fin_iret0
theorem f_115_93 : fetch 115 93 = some (93, .aload_n 3, 1, [3], 0) := (fm_115 93).trans rfl
theorem u_115_93 {S : Scr} {d : Nat} {a0 a1 a2 : AV} {st : List AV} {sh : Shp} {I : IM} {R : RM} {x : Nat} : ev S d 115 93 [a0, a1, a2, .inr (.inl x)] st (sh, I, R) = ev S d 115 94 [a0, a1, a2, .inr (.inl x)] (.inr (.inl x) :: st) (sh, I, R) := (ev_eq f_115_93).trans rfl
theorem u_115_93n {S : Scr} {d : Nat} {a0 a1 a2 : AV} {st : List AV} {sh : Shp} {I : IM} {R : RM} : ev S d 115 93 [a0, a1, a2, .inr (.inr 0)] st (sh, I, R) = ev S d 115 94 [a0, a1, a2, .inr (.inr 0)] (.inr (.inr 0) :: st) (sh, I, R) := (ev_eq f_115_93).trans rfl
theorem f_115_94 : fetch 115 94 = some (94, .getfield 110, 3, [3, 2, 0, 65], 0) := (fm_115 94).trans rfl
theorem u_115_94 {S : Scr} {d : Nat} {a0 a1 a2 a3 : AV} {st : List AV} {sh : Shp} {I : IM} {R : RM} {k : Nat} (h : tg sh k = 3) : ev S d 115 94 [a0, a1, a2, a3] (.inr (.inl k) :: st) (sh, I, R) = ev S d 115 97 [a0, a1, a2, a3] (.inl (I k 2) :: st) (sh, I, R) := (ev_eq f_115_94).trans (congrArg (fin S d 115) (if_pos h))
theorem f_115_97 : fetch 115 97 = some (97, .iconst 2, 1, [], 2) := (fm_115 97).trans rfl
theorem u_115_97 {S : Scr} {d : Nat} {a0 a1 a2 a3 : AV} {st : List AV} {sh : Shp} {I : IM} {R : RM} : ev S d 115 97 [a0, a1, a2, a3] st (sh, I, R) = ev S d 115 98 [a0, a1, a2, a3] (.inl 2 :: st) (sh, I, R) := (ev_eq f_115_97).trans rfl
theorem f_115_98 : fetch 115 98 = some (98, .if_icmp .eq 11, 3, [109], 0) := (fm_115 98).trans rfl
theorem u_115_98 {S : Scr} {d : Nat} {a0 a1 a2 a3 : AV} {st : List AV} {sh : Shp} {I : IM} {R : RM} {x y : Int} : ev S d 115 98 [a0, a1, a2, a3] (.inl y :: .inl x :: st) (sh, I, R) = if x = y then ev S d 115 109 [a0, a1, a2, a3] st (sh, I, R) else ev S d 115 101 [a0, a1, a2, a3] st (sh, I, R) := (ev_eq f_115_98).trans fin_icmp_eq
theorem f_115_101 : fetch 115 101 = some (101, .aload_n 3, 1, [3], 0) := (fm_115 101).trans rfl
theorem u_115_101 {S : Scr} {d : Nat} {a0 a1 a2 : AV} {st : List AV} {sh : Shp} {I : IM} {R : RM} {x : Nat} : ev S d 115 101 [a0, a1, a2, .inr (.inl x)] st (sh, I, R) = ev S d 115 102 [a0, a1, a2, .inr (.inl x)] (.inr (.inl x) :: st) (sh, I, R) := (ev_eq f_115_101).trans rfl
theorem u_115_101n {S : Scr} {d : Nat} {a0 a1 a2 : AV} {st : List AV} {sh : Shp} {I : IM} {R : RM} : ev S d 115 101 [a0, a1, a2, .inr (.inr 0)] st (sh, I, R) = ev S d 115 102 [a0, a1, a2, .inr (.inr 0)] (.inr (.inr 0) :: st) (sh, I, R) := (ev_eq f_115_101).trans rfl
theorem f_115_102 : fetch 115 102 = some (102, .getfield 110, 3, [3, 2, 0, 65], 0) := (fm_115 102).trans rfl
theorem u_115_102 {S : Scr} {d : Nat} {a0 a1 a2 a3 : AV} {st : List AV} {sh : Shp} {I : IM} {R : RM} {k : Nat} (h : tg sh k = 3) : ev S d 115 102 [a0, a1, a2, a3] (.inr (.inl k) :: st) (sh, I, R) = ev S d 115 105 [a0, a1, a2, a3] (.inl (I k 2) :: st) (sh, I, R) := (ev_eq f_115_102).trans (congrArg (fin S d 115) (if_pos h))
theorem f_115_105 : fetch 115 105 = some (105, .iconst 3, 1, [], 3) := (fm_115 105).trans rfl
theorem u_115_105 {S : Scr} {d : Nat} {a0 a1 a2 a3 : AV} {st : List AV} {sh : Shp} {I : IM} {R : RM} : ev S d 115 105 [a0, a1, a2, a3] st (sh, I, R) = ev S d 115 106 [a0, a1, a2, a3] (.inl 3 :: st) (sh, I, R) := (ev_eq f_115_105).trans rfl
theorem f_115_106 : fetch 115 106 = some (106, .if_icmp .ne 15, 3, [121], 0) := (fm_115 106).trans rfl
theorem u_115_106 {S : Scr} {d : Nat} {a0 a1 a2 a3 : AV} {st : List AV} {sh : Shp} {I : IM} {R : RM} {x y : Int} : ev S d 115 106 [a0, a1, a2, a3] (.inl y :: .inl x :: st) (sh, I, R) = if ¬ x = y then ev S d 115 121 [a0, a1, a2, a3] st (sh, I, R) else ev S d 115 109 [a0, a1, a2, a3] st (sh, I, R) := (ev_eq f_115_106).trans fin_icmp_ne
theorem f_115_109 : fetch 115 109 = some (109, .aload_n 3, 1, [3], 0) := (fm_115 109).trans rfl
theorem u_115_109 {S : Scr} {d : Nat} {a0 a1 a2 : AV} {st : List AV} {sh : Shp} {I : IM} {R : RM} {x : Nat} : ev S d 115 109 [a0, a1, a2, .inr (.inl x)] st (sh, I, R) = ev S d 115 110 [a0, a1, a2, .inr (.inl x)] (.inr (.inl x) :: st) (sh, I, R) := (ev_eq f_115_109).trans rfl
theorem u_115_109n {S : Scr} {d : Nat} {a0 a1 a2 : AV} {st : List AV} {sh : Shp} {I : IM} {R : RM} : ev S d 115 109 [a0, a1, a2, .inr (.inr 0)] st (sh, I, R) = ev S d 115 110 [a0, a1, a2, .inr (.inr 0)] (.inr (.inr 0) :: st) (sh, I, R) := (ev_eq f_115_109).trans rfl
theorem f_115_110 : fetch 115 110 = some (110, .getfield 136, 3, [3, 1, 1, 67], 0) := (fm_115 110).trans rfl
theorem u_115_110 {S : Scr} {d : Nat} {a0 a1 a2 a3 : AV} {st : List AV} {sh : Shp} {I : IM} {R : RM} {k : Nat} (h : tg sh k = 3) : ev S d 115 110 [a0, a1, a2, a3] (.inr (.inl k) :: st) (sh, I, R) = ev S d 115 113 [a0, a1, a2, a3] (rv (R k 1) :: st) (sh, I, R) := (ev_eq f_115_110).trans (congrArg (fin S d 115) (if_pos h))
theorem f_115_113 : fetch 115 113 = some (113, .iconst 0, 1, [], 0) := (fm_115 113).trans rfl
theorem u_115_113 {S : Scr} {d : Nat} {a0 a1 a2 a3 : AV} {st : List AV} {sh : Shp} {I : IM} {R : RM} : ev S d 115 113 [a0, a1, a2, a3] st (sh, I, R) = ev S d 115 114 [a0, a1, a2, a3] (.inl 0 :: st) (sh, I, R) := (ev_eq f_115_113).trans rfl
theorem f_115_114 : fetch 115 114 = some (114, .iaload, 1, [], 0) := (fm_115 114).trans rfl
theorem u_115_114 {S : Scr} {d : Nat} {a0 a1 a2 a3 : AV} {st : List AV} {sh : Shp} {I : IM} {R : RM} {k : Nat} {i : Int} (h : tg sh k = 100) (h0 : 0 ≤ i) (h1 : i < ln sh k) : ev S d 115 114 [a0, a1, a2, a3] (.inl i :: .inr (.inl k) :: st) (sh, I, R) = ev S d 115 115 [a0, a1, a2, a3] (.inl (I k i) :: st) (sh, I, R) := (ev_eq f_115_114).trans (congrArg (fin S d 115) (if_pos ⟨h, h0, h1⟩))
theorem f_115_115 : fetch 115 115 = some (115, .invokestatic 139, 3, [127, 1, 95], 0) := (fm_115 115).trans rfl
theorem u_115_115 {S : Scr} {d : Nat} {a0 a1 a2 a3 : AV} {st : List AV} {sh : Shp} {I : IM} {R : RM} {x0 : Int} (hr : st.length ≤ 8) : ev S d 115 115 [a0, a1, a2, a3] (.inl x0 :: st) (sh, I, R) = bnd (cl d 127 [.inl x0] (sh, I, R)) (fun v M => ev S d 115 118 [a0, a1, a2, a3] (psh v st) M) := (ev_eq f_115_115).trans (congrArg (fin S d 115) (if_pos ⟨rfl, hr⟩))
theorem f_115_118 : fetch 115 118 = some (118, .goto 5, 3, [123], 0) := (fm_115 118).trans rfl
theorem u_115_118 {S : Scr} {d : Nat} {a0 a1 a2 a3 : AV} {st : List AV} {sh : Shp} {I : IM} {R : RM} : ev S d 115 118 [a0, a1, a2, a3] st (sh, I, R) = ev S d 115 123 [a0, a1, a2, a3] st (sh, I, R) := (ev_eq f_115_118).trans rfl
theorem f_115_121 : fetch 115 121 = some (121, .bipush (-12), 2, [], (-12)) := (fm_115 121).trans rfl
theorem u_115_121 {S : Scr} {d : Nat} {a0 a1 a2 a3 : AV} {st : List AV} {sh : Shp} {I : IM} {R : RM} : ev S d 115 121 [a0, a1, a2, a3] st (sh, I, R) = ev S d 115 123 [a0, a1, a2, a3] (.inl (-12) :: st) (sh, I, R) := (ev_eq f_115_121).trans rfl
theorem f_115_123 : fetch 115 123 = some (123, .ireturn, 1, [0], 0) := (fm_115 123).trans rfl
theorem u_115_123 {S : Scr} {d : Nat} {a0 a1 a2 a3 : AV} {sh : Shp} {I : IM} {R : RM} {x : Int} : ev S d 115 123 [a0, a1, a2, a3] [.inl x] (sh, I, R) = some (some (.inl x), (sh, I, R)) := (ev_eq f_115_123).trans fin_iret0
theorem f_115_124 : fetch 115 124 = some (124, .aload_n 3, 1, [3], 0) := (fm_115 124).trans rfl
theorem u_115_124 {S : Scr} {d : Nat} {a0 a1 a2 : AV} {st : List AV} {sh : Shp} {I : IM} {R : RM} {x : Nat} : ev S d 115 124 [a0, a1, a2, .inr (.inl x)] st (sh, I, R) = ev S d 115 125 [a0, a1, a2, .inr (.inl x)] (.inr (.inl x) :: st) (sh, I, R) := (ev_eq f_115_124).trans rfl
theorem u_115_124n {S : Scr} {d : Nat} {a0 a1 a2 : AV} {st : List AV} {sh : Shp} {I : IM} {R : RM} : ev S d 115 124 [a0, a1, a2, .inr (.inr 0)] st (sh, I, R) = ev S d 115 125 [a0, a1, a2, .inr (.inr 0)] (.inr (.inr 0) :: st) (sh, I, R) := (ev_eq f_115_124).trans rfl
theorem f_115_125 : fetch 115 125 = some (125, .getfield 110, 3, [3, 2, 0, 65], 0) := (fm_115 125).trans rfl
theorem u_115_125 {S : Scr} {d : Nat} {a0 a1 a2 a3 : AV} {st : List AV} {sh : Shp} {I : IM} {R : RM} {k : Nat} (h : tg sh k = 3) : ev S d 115 125 [a0, a1, a2, a3] (.inr (.inl k) :: st) (sh, I, R) = ev S d 115 128 [a0, a1, a2, a3] (.inl (I k 2) :: st) (sh, I, R) := (ev_eq f_115_125).trans (congrArg (fin S d 115) (if_pos h))
theorem f_115_128 : fetch 115 128 = some (128, .iconst 3, 1, [], 3) := (fm_115 128).trans rfl
theorem u_115_128 {S : Scr} {d : Nat} {a0 a1 a2 a3 : AV} {st : List AV} {sh : Shp} {I : IM} {R : RM} : ev S d 115 128 [a0, a1, a2, a3] st (sh, I, R) = ev S d 115 129 [a0, a1, a2, a3] (.inl 3 :: st) (sh, I, R) := (ev_eq f_115_128).trans rfl
theorem f_115_129 : fetch 115 129 = some (129, .if_icmp .ne 15, 3, [144], 0) := (fm_115 129).trans rfl
theorem u_115_129 {S : Scr} {d : Nat} {a0 a1 a2 a3 : AV} {st : List AV} {sh : Shp} {I : IM} {R : RM} {x y : Int} : ev S d 115 129 [a0, a1, a2, a3] (.inl y :: .inl x :: st) (sh, I, R) = if ¬ x = y then ev S d 115 144 [a0, a1, a2, a3] st (sh, I, R) else ev S d 115 132 [a0, a1, a2, a3] st (sh, I, R) := (ev_eq f_115_129).trans fin_icmp_ne
theorem f_115_132 : fetch 115 132 = some (132, .aload_n 3, 1, [3], 0) := (fm_115 132).trans rfl
theorem u_115_132 {S : Scr} {d : Nat} {a0 a1 a2 : AV} {st : List AV} {sh : Shp} {I : IM} {R : RM} {x : Nat} : ev S d 115 132 [a0, a1, a2, .inr (.inl x)] st (sh, I, R) = ev S d 115 133 [a0, a1, a2, .inr (.inl x)] (.inr (.inl x) :: st) (sh, I, R) := (ev_eq f_115_132).trans rfl
theorem u_115_132n {S : Scr} {d : Nat} {a0 a1 a2 : AV} {st : List AV} {sh : Shp} {I : IM} {R : RM} : ev S d 115 132 [a0, a1, a2, .inr (.inr 0)] st (sh, I, R) = ev S d 115 133 [a0, a1, a2, .inr (.inr 0)] (.inr (.inr 0) :: st) (sh, I, R) := (ev_eq f_115_132).trans rfl
theorem f_115_133 : fetch 115 133 = some (133, .getfield 136, 3, [3, 1, 1, 67], 0) := (fm_115 133).trans rfl
theorem u_115_133 {S : Scr} {d : Nat} {a0 a1 a2 a3 : AV} {st : List AV} {sh : Shp} {I : IM} {R : RM} {k : Nat} (h : tg sh k = 3) : ev S d 115 133 [a0, a1, a2, a3] (.inr (.inl k) :: st) (sh, I, R) = ev S d 115 136 [a0, a1, a2, a3] (rv (R k 1) :: st) (sh, I, R) := (ev_eq f_115_133).trans (congrArg (fin S d 115) (if_pos h))
theorem f_115_136 : fetch 115 136 = some (136, .iconst 2, 1, [], 2) := (fm_115 136).trans rfl
theorem u_115_136 {S : Scr} {d : Nat} {a0 a1 a2 a3 : AV} {st : List AV} {sh : Shp} {I : IM} {R : RM} : ev S d 115 136 [a0, a1, a2, a3] st (sh, I, R) = ev S d 115 137 [a0, a1, a2, a3] (.inl 2 :: st) (sh, I, R) := (ev_eq f_115_136).trans rfl
theorem f_115_137 : fetch 115 137 = some (137, .iaload, 1, [], 0) := (fm_115 137).trans rfl
theorem u_115_137 {S : Scr} {d : Nat} {a0 a1 a2 a3 : AV} {st : List AV} {sh : Shp} {I : IM} {R : RM} {k : Nat} {i : Int} (h : tg sh k = 100) (h0 : 0 ≤ i) (h1 : i < ln sh k) : ev S d 115 137 [a0, a1, a2, a3] (.inl i :: .inr (.inl k) :: st) (sh, I, R) = ev S d 115 138 [a0, a1, a2, a3] (.inl (I k i) :: st) (sh, I, R) := (ev_eq f_115_137).trans (congrArg (fin S d 115) (if_pos ⟨h, h0, h1⟩))
theorem f_115_138 : fetch 115 138 = some (138, .invokestatic 139, 3, [127, 1, 95], 0) := (fm_115 138).trans rfl
theorem u_115_138 {S : Scr} {d : Nat} {a0 a1 a2 a3 : AV} {st : List AV} {sh : Shp} {I : IM} {R : RM} {x0 : Int} (hr : st.length ≤ 8) : ev S d 115 138 [a0, a1, a2, a3] (.inl x0 :: st) (sh, I, R) = bnd (cl d 127 [.inl x0] (sh, I, R)) (fun v M => ev S d 115 141 [a0, a1, a2, a3] (psh v st) M) := (ev_eq f_115_138).trans (congrArg (fin S d 115) (if_pos ⟨rfl, hr⟩))
theorem f_115_141 : fetch 115 141 = some (141, .goto 5, 3, [146], 0) := (fm_115 141).trans rfl
theorem u_115_141 {S : Scr} {d : Nat} {a0 a1 a2 a3 : AV} {st : List AV} {sh : Shp} {I : IM} {R : RM} : ev S d 115 141 [a0, a1, a2, a3] st (sh, I, R) = ev S d 115 146 [a0, a1, a2, a3] st (sh, I, R) := (ev_eq f_115_141).trans rfl
theorem f_115_144 : fetch 115 144 = some (144, .bipush (-12), 2, [], (-12)) := (fm_115 144).trans rfl
theorem u_115_144 {S : Scr} {d : Nat} {a0 a1 a2 a3 : AV} {st : List AV} {sh : Shp} {I : IM} {R : RM} : ev S d 115 144 [a0, a1, a2, a3] st (sh, I, R) = ev S d 115 146 [a0, a1, a2, a3] (.inl (-12) :: st) (sh, I, R) := (ev_eq f_115_144).trans rfl
theorem f_115_146 : fetch 115 146 = some (146, .ireturn, 1, [0], 0) := (fm_115 146).trans rfl
theorem u_115_146 {S : Scr} {d : Nat} {a0 a1 a2 a3 : AV} {sh : Shp} {I : IM} {R : RM} {x : Int} : ev S d 115 146 [a0, a1, a2, a3] [.inl x] (sh, I, R) = some (some (.inl x), (sh, I, R)) := (ev_eq f_115_146).trans fin_iret0
theorem f_115_147 : fetch 115 147 = some (147, .aload_n 3, 1, [3], 0) := (fm_115 147).trans rfl
theorem u_115_147 {S : Scr} {d : Nat} {a0 a1 a2 : AV} {st : List AV} {sh : Shp} {I : IM} {R : RM} {x : Nat} : ev S d 115 147 [a0, a1, a2, .inr (.inl x)] st (sh, I, R) = ev S d 115 148 [a0, a1, a2, .inr (.inl x)] (.inr (.inl x) :: st) (sh, I, R) := (ev_eq f_115_147).trans rfl
theorem u_115_147n {S : Scr} {d : Nat} {a0 a1 a2 : AV} {st : List AV} {sh : Shp} {I : IM} {R : RM} : ev S d 115 147 [a0, a1, a2, .inr (.inr 0)] st (sh, I, R) = ev S d 115 148 [a0, a1, a2, .inr (.inr 0)] (.inr (.inr 0) :: st) (sh, I, R) := (ev_eq f_115_147).trans rfl
theorem f_115_148 : fetch 115 148 = some (148, .getfield 110, 3, [3, 2, 0, 65], 0) := (fm_115 148).trans rfl
theorem u_115_148 {S : Scr} {d : Nat} {a0 a1 a2 a3 : AV} {st : List AV} {sh : Shp} {I : IM} {R : RM} {k : Nat} (h : tg sh k = 3) : ev S d 115 148 [a0, a1, a2, a3] (.inr (.inl k) :: st) (sh, I, R) = ev S d 115 151 [a0, a1, a2, a3] (.inl (I k 2) :: st) (sh, I, R) := (ev_eq f_115_148).trans (congrArg (fin S d 115) (if_pos h))
theorem f_115_151 : fetch 115 151 = some (151, .iconst 4, 1, [], 4) := (fm_115 151).trans rfl
theorem u_115_151 {S : Scr} {d : Nat} {a0 a1 a2 a3 : AV} {st : List AV} {sh : Shp} {I : IM} {R : RM} : ev S d 115 151 [a0, a1, a2, a3] st (sh, I, R) = ev S d 115 152 [a0, a1, a2, a3] (.inl 4 :: st) (sh, I, R) := (ev_eq f_115_151).trans rfl
theorem f_115_152 : fetch 115 152 = some (152, .if_icmp .ne 18, 3, [170], 0) := (fm_115 152).trans rfl
theorem u_115_152 {S : Scr} {d : Nat} {a0 a1 a2 a3 : AV} {st : List AV} {sh : Shp} {I : IM} {R : RM} {x y : Int} : ev S d 115 152 [a0, a1, a2, a3] (.inl y :: .inl x :: st) (sh, I, R) = if ¬ x = y then ev S d 115 170 [a0, a1, a2, a3] st (sh, I, R) else ev S d 115 155 [a0, a1, a2, a3] st (sh, I, R) := (ev_eq f_115_152).trans fin_icmp_ne
theorem f_115_155 : fetch 115 155 = some (155, .bipush 10, 2, [], 10) := (fm_115 155).trans rfl
theorem u_115_155 {S : Scr} {d : Nat} {a0 a1 a2 a3 : AV} {st : List AV} {sh : Shp} {I : IM} {R : RM} : ev S d 115 155 [a0, a1, a2, a3] st (sh, I, R) = ev S d 115 157 [a0, a1, a2, a3] (.inl 10 :: st) (sh, I, R) := (ev_eq f_115_155).trans rfl
theorem f_115_157 : fetch 115 157 = some (157, .aload_n 3, 1, [3], 0) := (fm_115 157).trans rfl
theorem u_115_157 {S : Scr} {d : Nat} {a0 a1 a2 : AV} {st : List AV} {sh : Shp} {I : IM} {R : RM} {x : Nat} : ev S d 115 157 [a0, a1, a2, .inr (.inl x)] st (sh, I, R) = ev S d 115 158 [a0, a1, a2, .inr (.inl x)] (.inr (.inl x) :: st) (sh, I, R) := (ev_eq f_115_157).trans rfl
theorem u_115_157n {S : Scr} {d : Nat} {a0 a1 a2 : AV} {st : List AV} {sh : Shp} {I : IM} {R : RM} : ev S d 115 157 [a0, a1, a2, .inr (.inr 0)] st (sh, I, R) = ev S d 115 158 [a0, a1, a2, .inr (.inr 0)] (.inr (.inr 0) :: st) (sh, I, R) := (ev_eq f_115_157).trans rfl
theorem f_115_158 : fetch 115 158 = some (158, .getfield 149, 3, [3, 3, 0, 69], 0) := (fm_115 158).trans rfl
theorem u_115_158 {S : Scr} {d : Nat} {a0 a1 a2 a3 : AV} {st : List AV} {sh : Shp} {I : IM} {R : RM} {k : Nat} (h : tg sh k = 3) : ev S d 115 158 [a0, a1, a2, a3] (.inr (.inl k) :: st) (sh, I, R) = ev S d 115 161 [a0, a1, a2, a3] (.inl (I k 3) :: st) (sh, I, R) := (ev_eq f_115_158).trans (congrArg (fin S d 115) (if_pos h))
theorem f_115_161 : fetch 115 161 = some (161, .imul, 1, [], 0) := (fm_115 161).trans rfl
theorem u_115_161 {S : Scr} {d : Nat} {a0 a1 a2 a3 : AV} {st : List AV} {sh : Shp} {I : IM} {R : RM} {x y : Int} : ev S d 115 161 [a0, a1, a2, a3] (.inl y :: .inl x :: st) (sh, I, R) = ev S d 115 162 [a0, a1, a2, a3] (.inl (wr (x * y)) :: st) (sh, I, R) := (ev_eq f_115_161).trans rfl
theorem f_115_162 : fetch 115 162 = some (162, .aload_n 3, 1, [3], 0) := (fm_115 162).trans rfl
theorem u_115_162 {S : Scr} {d : Nat} {a0 a1 a2 : AV} {st : List AV} {sh : Shp} {I : IM} {R : RM} {x : Nat} : ev S d 115 162 [a0, a1, a2, .inr (.inl x)] st (sh, I, R) = ev S d 115 163 [a0, a1, a2, .inr (.inl x)] (.inr (.inl x) :: st) (sh, I, R) := (ev_eq f_115_162).trans rfl
theorem u_115_162n {S : Scr} {d : Nat} {a0 a1 a2 : AV} {st : List AV} {sh : Shp} {I : IM} {R : RM} : ev S d 115 162 [a0, a1, a2, .inr (.inr 0)] st (sh, I, R) = ev S d 115 163 [a0, a1, a2, .inr (.inr 0)] (.inr (.inr 0) :: st) (sh, I, R) := (ev_eq f_115_162).trans rfl
theorem f_115_163 : fetch 115 163 = some (163, .getfield 142, 3, [3, 4, 0, 68], 0) := (fm_115 163).trans rfl
theorem u_115_163 {S : Scr} {d : Nat} {a0 a1 a2 a3 : AV} {st : List AV} {sh : Shp} {I : IM} {R : RM} {k : Nat} (h : tg sh k = 3) : ev S d 115 163 [a0, a1, a2, a3] (.inr (.inl k) :: st) (sh, I, R) = ev S d 115 166 [a0, a1, a2, a3] (.inl (I k 4) :: st) (sh, I, R) := (ev_eq f_115_163).trans (congrArg (fin S d 115) (if_pos h))
theorem f_115_166 : fetch 115 166 = some (166, .iadd, 1, [], 0) := (fm_115 166).trans rfl
theorem u_115_166 {S : Scr} {d : Nat} {a0 a1 a2 a3 : AV} {st : List AV} {sh : Shp} {I : IM} {R : RM} {x y : Int} : ev S d 115 166 [a0, a1, a2, a3] (.inl y :: .inl x :: st) (sh, I, R) = ev S d 115 167 [a0, a1, a2, a3] (.inl (wr (x + y)) :: st) (sh, I, R) := (ev_eq f_115_166).trans rfl
theorem f_115_167 : fetch 115 167 = some (167, .goto 5, 3, [172], 0) := (fm_115 167).trans rfl
theorem u_115_167 {S : Scr} {d : Nat} {a0 a1 a2 a3 : AV} {st : List AV} {sh : Shp} {I : IM} {R : RM} : ev S d 115 167 [a0, a1, a2, a3] st (sh, I, R) = ev S d 115 172 [a0, a1, a2, a3] st (sh, I, R) := (ev_eq f_115_167).trans rfl
theorem f_115_170 : fetch 115 170 = some (170, .bipush (-12), 2, [], (-12)) := (fm_115 170).trans rfl
theorem u_115_170 {S : Scr} {d : Nat} {a0 a1 a2 a3 : AV} {st : List AV} {sh : Shp} {I : IM} {R : RM} : ev S d 115 170 [a0, a1, a2, a3] st (sh, I, R) = ev S d 115 172 [a0, a1, a2, a3] (.inl (-12) :: st) (sh, I, R) := (ev_eq f_115_170).trans rfl
theorem f_115_172 : fetch 115 172 = some (172, .ireturn, 1, [0], 0) := (fm_115 172).trans rfl
theorem u_115_172 {S : Scr} {d : Nat} {a0 a1 a2 a3 : AV} {sh : Shp} {I : IM} {R : RM} {x : Int} : ev S d 115 172 [a0, a1, a2, a3] [.inl x] (sh, I, R) = some (some (.inl x), (sh, I, R)) := (ev_eq f_115_172).trans fin_iret0
theorem f_115_173 : fetch 115 173 = some (173, .aload_n 3, 1, [3], 0) := (fm_115 173).trans rfl
theorem u_115_173 {S : Scr} {d : Nat} {a0 a1 a2 : AV} {st : List AV} {sh : Shp} {I : IM} {R : RM} {x : Nat} : ev S d 115 173 [a0, a1, a2, .inr (.inl x)] st (sh, I, R) = ev S d 115 174 [a0, a1, a2, .inr (.inl x)] (.inr (.inl x) :: st) (sh, I, R) := (ev_eq f_115_173).trans rfl
theorem u_115_173n {S : Scr} {d : Nat} {a0 a1 a2 : AV} {st : List AV} {sh : Shp} {I : IM} {R : RM} : ev S d 115 173 [a0, a1, a2, .inr (.inr 0)] st (sh, I, R) = ev S d 115 174 [a0, a1, a2, .inr (.inr 0)] (.inr (.inr 0) :: st) (sh, I, R) := (ev_eq f_115_173).trans rfl
theorem f_115_174 : fetch 115 174 = some (174, .getfield 110, 3, [3, 2, 0, 65], 0) := (fm_115 174).trans rfl
theorem u_115_174 {S : Scr} {d : Nat} {a0 a1 a2 a3 : AV} {st : List AV} {sh : Shp} {I : IM} {R : RM} {k : Nat} (h : tg sh k = 3) : ev S d 115 174 [a0, a1, a2, a3] (.inr (.inl k) :: st) (sh, I, R) = ev S d 115 177 [a0, a1, a2, a3] (.inl (I k 2) :: st) (sh, I, R) := (ev_eq f_115_174).trans (congrArg (fin S d 115) (if_pos h))
theorem f_115_177 : fetch 115 177 = some (177, .ireturn, 1, [0], 0) := (fm_115 177).trans rfl
theorem u_115_177 {S : Scr} {d : Nat} {a0 a1 a2 a3 : AV} {sh : Shp} {I : IM} {R : RM} {x : Int} : ev S d 115 177 [a0, a1, a2, a3] [.inl x] (sh, I, R) = some (some (.inl x), (sh, I, R)) := (ev_eq f_115_177).trans fin_iret0
theorem c_116 {d : Nat} {a0 a1 : AV} {M : Mem} : cl (d + 1) 116 [a0, a1] M = ev S0 d 116 0 [a0, a1] [] M := (cl_eq (as := [a0, a1]) (show 2 ≤ maxOf 116 by decide +kernel)).trans rfl
theorem mt_116 : MT[116]? = some m_116 := rfl
theorem fm_116 (pc : Nat) : fetch 116 pc = lk m_116.2.2.2.2.2 pc := by
  unfold fetch
  rw [mt_116]
theorem f_116_0 : fetch 116 0 = some (0, .iload_n 1, 1, [1], 0) := (fm_116 0).trans rfl
theorem u_116_0 {S : Scr} {d : Nat} {a0 : AV} {st : List AV} {sh : Shp} {I : IM} {R : RM} {x : Int} : ev S d 116 0 [a0, .inl x] st (sh, I, R) = ev S d 116 1 [a0, .inl x] (.inl x :: st) (sh, I, R) := (ev_eq f_116_0).trans rfl
theorem f_116_1 : fetch 116 1 = some (1, .tableswitch 129 0 8 #[51, 59, 68, 86, 95, 103, 111, 119, 124], 51, [130, 0, 52, 1, 60, 2, 69, 3, 87, 4, 96, 5, 104, 6, 112, 7, 120, 8, 125], 0) := (fm_116 1).trans rfl
theorem u_116_1 {S : Scr} {d : Nat} {a0 a1 : AV} {st : List AV} {sh : Shp} {I : IM} {R : RM} {x : Int} : ev S d 116 1 [a0, a1] (.inl x :: st) (sh, I, R) = if x = 0 then ev S d 116 52 [a0, a1] st (sh, I, R) else if x = 1 then ev S d 116 60 [a0, a1] st (sh, I, R) else if x = 2 then ev S d 116 69 [a0, a1] st (sh, I, R) else if x = 3 then ev S d 116 87 [a0, a1] st (sh, I, R) else if x = 4 then ev S d 116 96 [a0, a1] st (sh, I, R) else if x = 5 then ev S d 116 104 [a0, a1] st (sh, I, R) else if x = 6 then ev S d 116 112 [a0, a1] st (sh, I, R) else if x = 7 then ev S d 116 120 [a0, a1] st (sh, I, R) else if x = 8 then ev S d 116 125 [a0, a1] st (sh, I, R) else ev S d 116 130 [a0, a1] st (sh, I, R) := by
  rw [ev_eq f_116_1]
  show ev S d 116 (swt 130 x [0, 52, 1, 60, 2, 69, 3, 87, 4, 96, 5, 104, 6, 112, 7, 120, 8, 125]) _ _ _ = _
  rw [ev_sw, ev_sw, ev_sw, ev_sw, ev_sw, ev_sw, ev_sw, ev_sw, ev_sw, ev_sw0]
  rfl
theorem f_116_52 : fetch 116 52 = some (52, .aload_n 0, 1, [0], 0) := (fm_116 52).trans rfl
theorem u_116_52 {S : Scr} {d : Nat} {a1 : AV} {st : List AV} {sh : Shp} {I : IM} {R : RM} {x : Nat} : ev S d 116 52 [.inr (.inl x), a1] st (sh, I, R) = ev S d 116 53 [.inr (.inl x), a1] (.inr (.inl x) :: st) (sh, I, R) := (ev_eq f_116_52).trans rfl
theorem f_116_53 : fetch 116 53 = some (53, .getfield 10, 3, [8, 0, 1, 55], 0) := (fm_116 53).trans rfl
theorem u_116_53 {S : Scr} {d : Nat} {a0 a1 : AV} {st : List AV} {sh : Shp} {I : IM} {R : RM} {k : Nat} (h : tg sh k = 8) : ev S d 116 53 [a0, a1] (.inr (.inl k) :: st) (sh, I, R) = ev S d 116 56 [a0, a1] (rv (R k 0) :: st) (sh, I, R) := (ev_eq f_116_53).trans (congrArg (fin S d 116) (if_pos h))
theorem f_116_56 : fetch 116 56 = some (56, .invokevirtual 165, 3, [79, 0, 99], 0) := (fm_116 56).trans rfl
theorem u_116_56 {S : Scr} {d : Nat} {a0 a1 : AV} {st : List AV} {sh : Shp} {I : IM} {R : RM} {k : Nat} (h : tg sh k = 7) (hr : st.length ≤ 8) : ev S d 116 56 [a0, a1] (.inr (.inl k) :: st) (sh, I, R) = bnd (cl d 79 [.inr (.inl k)] (sh, I, R)) (fun v M => ev S d 116 59 [a0, a1] (psh v st) M) := (ev_eq f_116_56).trans (congrArg (fin S d 116) (if_pos ⟨h, rfl, hr⟩))
theorem f_116_59 : fetch 116 59 = some (59, .ireturn, 1, [0], 0) := (fm_116 59).trans rfl
theorem u_116_59 {S : Scr} {d : Nat} {a0 a1 : AV} {sh : Shp} {I : IM} {R : RM} {x : Int} : ev S d 116 59 [a0, a1] [.inl x] (sh, I, R) = some (some (.inl x), (sh, I, R)) := (ev_eq f_116_59).trans fin_iret0
theorem f_116_60 : fetch 116 60 = some (60, .aload_n 0, 1, [0], 0) := (fm_116 60).trans rfl
theorem u_116_60 {S : Scr} {d : Nat} {a1 : AV} {st : List AV} {sh : Shp} {I : IM} {R : RM} {x : Nat} : ev S d 116 60 [.inr (.inl x), a1] st (sh, I, R) = ev S d 116 61 [.inr (.inl x), a1] (.inr (.inl x) :: st) (sh, I, R) := (ev_eq f_116_60).trans rfl
theorem f_116_61 : fetch 116 61 = some (61, .getfield 10, 3, [8, 0, 1, 55], 0) := (fm_116 61).trans rfl
theorem u_116_61 {S : Scr} {d : Nat} {a0 a1 : AV} {st : List AV} {sh : Shp} {I : IM} {R : RM} {k : Nat} (h : tg sh k = 8) : ev S d 116 61 [a0, a1] (.inr (.inl k) :: st) (sh, I, R) = ev S d 116 64 [a0, a1] (rv (R k 0) :: st) (sh, I, R) := (ev_eq f_116_61).trans (congrArg (fin S d 116) (if_pos h))
theorem f_116_64 : fetch 116 64 = some (64, .iconst 1, 1, [], 1) := (fm_116 64).trans rfl
theorem u_116_64 {S : Scr} {d : Nat} {a0 a1 : AV} {st : List AV} {sh : Shp} {I : IM} {R : RM} : ev S d 116 64 [a0, a1] st (sh, I, R) = ev S d 116 65 [a0, a1] (.inl 1 :: st) (sh, I, R) := (ev_eq f_116_64).trans rfl
theorem f_116_65 : fetch 116 65 = some (65, .invokevirtual 250, 3, [78, 1, 119], 0) := (fm_116 65).trans rfl
theorem u_116_65 {S : Scr} {d : Nat} {a0 a1 : AV} {st : List AV} {sh : Shp} {I : IM} {R : RM} {x0 : Int} {k : Nat} (h : tg sh k = 7) (hr : st.length ≤ 8) : ev S d 116 65 [a0, a1] (.inl x0 :: .inr (.inl k) :: st) (sh, I, R) = bnd (cl d 78 [.inr (.inl k), .inl x0] (sh, I, R)) (fun v M => ev S d 116 68 [a0, a1] (psh v st) M) := (ev_eq f_116_65).trans (congrArg (fin S d 116) (if_pos ⟨h, rfl, hr⟩))
theorem f_116_68 : fetch 116 68 = some (68, .ireturn, 1, [0], 0) := (fm_116 68).trans rfl
theorem u_116_68 {S : Scr} {d : Nat} {a0 a1 : AV} {sh : Shp} {I : IM} {R : RM} {x : Int} : ev S d 116 68 [a0, a1] [.inl x] (sh, I, R) = some (some (.inl x), (sh, I, R)) := (ev_eq f_116_68).trans fin_iret0
theorem f_116_69 : fetch 116 69 = some (69, .aload_n 0, 1, [0], 0) := (fm_116 69).trans rfl
theorem u_116_69 {S : Scr} {d : Nat} {a1 : AV} {st : List AV} {sh : Shp} {I : IM} {R : RM} {x : Nat} : ev S d 116 69 [.inr (.inl x), a1] st (sh, I, R) = ev S d 116 70 [.inr (.inl x), a1] (.inr (.inl x) :: st) (sh, I, R) := (ev_eq f_116_69).trans rfl
theorem f_116_70 : fetch 116 70 = some (70, .getfield 10, 3, [8, 0, 1, 55], 0) := (fm_116 70).trans rfl
theorem u_116_70 {S : Scr} {d : Nat} {a0 a1 : AV} {st : List AV} {sh : Shp} {I : IM} {R : RM} {k : Nat} (h : tg sh k = 8) : ev S d 116 70 [a0, a1] (.inr (.inl k) :: st) (sh, I, R) = ev S d 116 73 [a0, a1] (rv (R k 0) :: st) (sh, I, R) := (ev_eq f_116_70).trans (congrArg (fin S d 116) (if_pos h))
theorem f_116_73 : fetch 116 73 = some (73, .iconst 2, 1, [], 2) := (fm_116 73).trans rfl
theorem u_116_73 {S : Scr} {d : Nat} {a0 a1 : AV} {st : List AV} {sh : Shp} {I : IM} {R : RM} : ev S d 116 73 [a0, a1] st (sh, I, R) = ev S d 116 74 [a0, a1] (.inl 2 :: st) (sh, I, R) := (ev_eq f_116_73).trans rfl
theorem f_116_74 : fetch 116 74 = some (74, .invokevirtual 250, 3, [78, 1, 119], 0) := (fm_116 74).trans rfl
theorem u_116_74 {S : Scr} {d : Nat} {a0 a1 : AV} {st : List AV} {sh : Shp} {I : IM} {R : RM} {x0 : Int} {k : Nat} (h : tg sh k = 7) (hr : st.length ≤ 8) : ev S d 116 74 [a0, a1] (.inl x0 :: .inr (.inl k) :: st) (sh, I, R) = bnd (cl d 78 [.inr (.inl k), .inl x0] (sh, I, R)) (fun v M => ev S d 116 77 [a0, a1] (psh v st) M) := (ev_eq f_116_74).trans (congrArg (fin S d 116) (if_pos ⟨h, rfl, hr⟩))
theorem f_116_77 : fetch 116 77 = some (77, .aload_n 0, 1, [0], 0) := (fm_116 77).trans rfl
theorem u_116_77 {S : Scr} {d : Nat} {a1 : AV} {st : List AV} {sh : Shp} {I : IM} {R : RM} {x : Nat} : ev S d 116 77 [.inr (.inl x), a1] st (sh, I, R) = ev S d 116 78 [.inr (.inl x), a1] (.inr (.inl x) :: st) (sh, I, R) := (ev_eq f_116_77).trans rfl
theorem f_116_78 : fetch 116 78 = some (78, .getfield 10, 3, [8, 0, 1, 55], 0) := (fm_116 78).trans rfl
theorem u_116_78 {S : Scr} {d : Nat} {a0 a1 : AV} {st : List AV} {sh : Shp} {I : IM} {R : RM} {k : Nat} (h : tg sh k = 8) : ev S d 116 78 [a0, a1] (.inr (.inl k) :: st) (sh, I, R) = ev S d 116 81 [a0, a1] (rv (R k 0) :: st) (sh, I, R) := (ev_eq f_116_78).trans (congrArg (fin S d 116) (if_pos h))
theorem f_116_81 : fetch 116 81 = some (81, .iconst 3, 1, [], 3) := (fm_116 81).trans rfl
theorem u_116_81 {S : Scr} {d : Nat} {a0 a1 : AV} {st : List AV} {sh : Shp} {I : IM} {R : RM} : ev S d 116 81 [a0, a1] st (sh, I, R) = ev S d 116 82 [a0, a1] (.inl 3 :: st) (sh, I, R) := (ev_eq f_116_81).trans rfl
theorem f_116_82 : fetch 116 82 = some (82, .invokevirtual 250, 3, [78, 1, 119], 0) := (fm_116 82).trans rfl
theorem u_116_82 {S : Scr} {d : Nat} {a0 a1 : AV} {st : List AV} {sh : Shp} {I : IM} {R : RM} {x0 : Int} {k : Nat} (h : tg sh k = 7) (hr : st.length ≤ 8) : ev S d 116 82 [a0, a1] (.inl x0 :: .inr (.inl k) :: st) (sh, I, R) = bnd (cl d 78 [.inr (.inl k), .inl x0] (sh, I, R)) (fun v M => ev S d 116 85 [a0, a1] (psh v st) M) := (ev_eq f_116_82).trans (congrArg (fin S d 116) (if_pos ⟨h, rfl, hr⟩))
theorem f_116_85 : fetch 116 85 = some (85, .iadd, 1, [], 0) := (fm_116 85).trans rfl
theorem u_116_85 {S : Scr} {d : Nat} {a0 a1 : AV} {st : List AV} {sh : Shp} {I : IM} {R : RM} {x y : Int} : ev S d 116 85 [a0, a1] (.inl y :: .inl x :: st) (sh, I, R) = ev S d 116 86 [a0, a1] (.inl (wr (x + y)) :: st) (sh, I, R) := (ev_eq f_116_85).trans rfl
theorem f_116_86 : fetch 116 86 = some (86, .ireturn, 1, [0], 0) := (fm_116 86).trans rfl
theorem u_116_86 {S : Scr} {d : Nat} {a0 a1 : AV} {sh : Shp} {I : IM} {R : RM} {x : Int} : ev S d 116 86 [a0, a1] [.inl x] (sh, I, R) = some (some (.inl x), (sh, I, R)) := (ev_eq f_116_86).trans fin_iret0
theorem f_116_87 : fetch 116 87 = some (87, .aload_n 0, 1, [0], 0) := (fm_116 87).trans rfl
theorem u_116_87 {S : Scr} {d : Nat} {a1 : AV} {st : List AV} {sh : Shp} {I : IM} {R : RM} {x : Nat} : ev S d 116 87 [.inr (.inl x), a1] st (sh, I, R) = ev S d 116 88 [.inr (.inl x), a1] (.inr (.inl x) :: st) (sh, I, R) := (ev_eq f_116_87).trans rfl
theorem f_116_88 : fetch 116 88 = some (88, .getfield 10, 3, [8, 0, 1, 55], 0) := (fm_116 88).trans rfl
theorem u_116_88 {S : Scr} {d : Nat} {a0 a1 : AV} {st : List AV} {sh : Shp} {I : IM} {R : RM} {k : Nat} (h : tg sh k = 8) : ev S d 116 88 [a0, a1] (.inr (.inl k) :: st) (sh, I, R) = ev S d 116 91 [a0, a1] (rv (R k 0) :: st) (sh, I, R) := (ev_eq f_116_88).trans (congrArg (fin S d 116) (if_pos h))
theorem f_116_91 : fetch 116 91 = some (91, .iconst 4, 1, [], 4) := (fm_116 91).trans rfl
theorem u_116_91 {S : Scr} {d : Nat} {a0 a1 : AV} {st : List AV} {sh : Shp} {I : IM} {R : RM} : ev S d 116 91 [a0, a1] st (sh, I, R) = ev S d 116 92 [a0, a1] (.inl 4 :: st) (sh, I, R) := (ev_eq f_116_91).trans rfl
theorem f_116_92 : fetch 116 92 = some (92, .invokevirtual 250, 3, [78, 1, 119], 0) := (fm_116 92).trans rfl
theorem u_116_92 {S : Scr} {d : Nat} {a0 a1 : AV} {st : List AV} {sh : Shp} {I : IM} {R : RM} {x0 : Int} {k : Nat} (h : tg sh k = 7) (hr : st.length ≤ 8) : ev S d 116 92 [a0, a1] (.inl x0 :: .inr (.inl k) :: st) (sh, I, R) = bnd (cl d 78 [.inr (.inl k), .inl x0] (sh, I, R)) (fun v M => ev S d 116 95 [a0, a1] (psh v st) M) := (ev_eq f_116_92).trans (congrArg (fin S d 116) (if_pos ⟨h, rfl, hr⟩))
theorem f_116_95 : fetch 116 95 = some (95, .ireturn, 1, [0], 0) := (fm_116 95).trans rfl
theorem u_116_95 {S : Scr} {d : Nat} {a0 a1 : AV} {sh : Shp} {I : IM} {R : RM} {x : Int} : ev S d 116 95 [a0, a1] [.inl x] (sh, I, R) = some (some (.inl x), (sh, I, R)) := (ev_eq f_116_95).trans fin_iret0
theorem f_116_96 : fetch 116 96 = some (96, .aload_n 0, 1, [0], 0) := (fm_116 96).trans rfl
theorem u_116_96 {S : Scr} {d : Nat} {a1 : AV} {st : List AV} {sh : Shp} {I : IM} {R : RM} {x : Nat} : ev S d 116 96 [.inr (.inl x), a1] st (sh, I, R) = ev S d 116 97 [.inr (.inl x), a1] (.inr (.inl x) :: st) (sh, I, R) := (ev_eq f_116_96).trans rfl
theorem f_116_97 : fetch 116 97 = some (97, .getfield 10, 3, [8, 0, 1, 55], 0) := (fm_116 97).trans rfl
theorem u_116_97 {S : Scr} {d : Nat} {a0 a1 : AV} {st : List AV} {sh : Shp} {I : IM} {R : RM} {k : Nat} (h : tg sh k = 8) : ev S d 116 97 [a0, a1] (.inr (.inl k) :: st) (sh, I, R) = ev S d 116 100 [a0, a1] (rv (R k 0) :: st) (sh, I, R) := (ev_eq f_116_97).trans (congrArg (fin S d 116) (if_pos h))
theorem f_116_100 : fetch 116 100 = some (100, .invokevirtual 253, 3, [80, 0, 120], 0) := (fm_116 100).trans rfl
theorem u_116_100 {S : Scr} {d : Nat} {a0 a1 : AV} {st : List AV} {sh : Shp} {I : IM} {R : RM} {k : Nat} (h : tg sh k = 7) (hr : st.length ≤ 8) : ev S d 116 100 [a0, a1] (.inr (.inl k) :: st) (sh, I, R) = bnd (cl d 80 [.inr (.inl k)] (sh, I, R)) (fun v M => ev S d 116 103 [a0, a1] (psh v st) M) := (ev_eq f_116_100).trans (congrArg (fin S d 116) (if_pos ⟨h, rfl, hr⟩))
theorem f_116_103 : fetch 116 103 = some (103, .ireturn, 1, [0], 0) := (fm_116 103).trans rfl
theorem u_116_103 {S : Scr} {d : Nat} {a0 a1 : AV} {sh : Shp} {I : IM} {R : RM} {x : Int} : ev S d 116 103 [a0, a1] [.inl x] (sh, I, R) = some (some (.inl x), (sh, I, R)) := (ev_eq f_116_103).trans fin_iret0
theorem f_116_104 : fetch 116 104 = some (104, .aload_n 0, 1, [0], 0) := (fm_116 104).trans rfl
theorem u_116_104 {S : Scr} {d : Nat} {a1 : AV} {st : List AV} {sh : Shp} {I : IM} {R : RM} {x : Nat} : ev S d 116 104 [.inr (.inl x), a1] st (sh, I, R) = ev S d 116 105 [.inr (.inl x), a1] (.inr (.inl x) :: st) (sh, I, R) := (ev_eq f_116_104).trans rfl
theorem f_116_105 : fetch 116 105 = some (105, .getfield 10, 3, [8, 0, 1, 55], 0) := (fm_116 105).trans rfl
theorem u_116_105 {S : Scr} {d : Nat} {a0 a1 : AV} {st : List AV} {sh : Shp} {I : IM} {R : RM} {k : Nat} (h : tg sh k = 8) : ev S d 116 105 [a0, a1] (.inr (.inl k) :: st) (sh, I, R) = ev S d 116 108 [a0, a1] (rv (R k 0) :: st) (sh, I, R) := (ev_eq f_116_105).trans (congrArg (fin S d 116) (if_pos h))
theorem f_116_108 : fetch 116 108 = some (108, .invokevirtual 256, 3, [81, 0, 121], 0) := (fm_116 108).trans rfl
theorem u_116_108 {S : Scr} {d : Nat} {a0 a1 : AV} {st : List AV} {sh : Shp} {I : IM} {R : RM} {k : Nat} (h : tg sh k = 7) (hr : st.length ≤ 8) : ev S d 116 108 [a0, a1] (.inr (.inl k) :: st) (sh, I, R) = bnd (cl d 81 [.inr (.inl k)] (sh, I, R)) (fun v M => ev S d 116 111 [a0, a1] (psh v st) M) := (ev_eq f_116_108).trans (congrArg (fin S d 116) (if_pos ⟨h, rfl, hr⟩))
theorem f_116_111 : fetch 116 111 = some (111, .ireturn, 1, [0], 0) := (fm_116 111).trans rfl
theorem u_116_111 {S : Scr} {d : Nat} {a0 a1 : AV} {sh : Shp} {I : IM} {R : RM} {x : Int} : ev S d 116 111 [a0, a1] [.inl x] (sh, I, R) = some (some (.inl x), (sh, I, R)) := (ev_eq f_116_111).trans fin_iret0
theorem f_116_112 : fetch 116 112 = some (112, .aload_n 0, 1, [0], 0) := (fm_116 112).trans rfl
theorem u_116_112 {S : Scr} {d : Nat} {a1 : AV} {st : List AV} {sh : Shp} {I : IM} {R : RM} {x : Nat} : ev S d 116 112 [.inr (.inl x), a1] st (sh, I, R) = ev S d 116 113 [.inr (.inl x), a1] (.inr (.inl x) :: st) (sh, I, R) := (ev_eq f_116_112).trans rfl
theorem f_116_113 : fetch 116 113 = some (113, .getfield 10, 3, [8, 0, 1, 55], 0) := (fm_116 113).trans rfl
theorem u_116_113 {S : Scr} {d : Nat} {a0 a1 : AV} {st : List AV} {sh : Shp} {I : IM} {R : RM} {k : Nat} (h : tg sh k = 8) : ev S d 116 113 [a0, a1] (.inr (.inl k) :: st) (sh, I, R) = ev S d 116 116 [a0, a1] (rv (R k 0) :: st) (sh, I, R) := (ev_eq f_116_113).trans (congrArg (fin S d 116) (if_pos h))
theorem f_116_116 : fetch 116 116 = some (116, .invokevirtual 259, 3, [82, 0, 122], 0) := (fm_116 116).trans rfl
theorem u_116_116 {S : Scr} {d : Nat} {a0 a1 : AV} {st : List AV} {sh : Shp} {I : IM} {R : RM} {k : Nat} (h : tg sh k = 7) (hr : st.length ≤ 8) : ev S d 116 116 [a0, a1] (.inr (.inl k) :: st) (sh, I, R) = bnd (cl d 82 [.inr (.inl k)] (sh, I, R)) (fun v M => ev S d 116 119 [a0, a1] (psh v st) M) := (ev_eq f_116_116).trans (congrArg (fin S d 116) (if_pos ⟨h, rfl, hr⟩))
theorem f_116_119 : fetch 116 119 = some (119, .ireturn, 1, [0], 0) := (fm_116 119).trans rfl
theorem u_116_119 {S : Scr} {d : Nat} {a0 a1 : AV} {sh : Shp} {I : IM} {R : RM} {x : Int} : ev S d 116 119 [a0, a1] [.inl x] (sh, I, R) = some (some (.inl x), (sh, I, R)) := (ev_eq f_116_119).trans fin_iret0
theorem f_116_120 : fetch 116 120 = some (120, .aload_n 0, 1, [0], 0) := (fm_116 120).trans rfl
theorem u_116_120 {S : Scr} {d : Nat} {a1 : AV} {st : List AV} {sh : Shp} {I : IM} {R : RM} {x : Nat} : ev S d 116 120 [.inr (.inl x), a1] st (sh, I, R) = ev S d 116 121 [.inr (.inl x), a1] (.inr (.inl x) :: st) (sh, I, R) := (ev_eq f_116_120).trans rfl
theorem f_116_121 : fetch 116 121 = some (121, .invokevirtual 262, 3, [117, 0, 123], 0) := (fm_116 121).trans rfl
theorem u_116_121 {S : Scr} {d : Nat} {a0 a1 : AV} {st : List AV} {sh : Shp} {I : IM} {R : RM} {k : Nat} (h : tg sh k = 8) (hr : st.length ≤ 8) : ev S d 116 121 [a0, a1] (.inr (.inl k) :: st) (sh, I, R) = bnd (cl d 117 [.inr (.inl k)] (sh, I, R)) (fun v M => ev S d 116 124 [a0, a1] (psh v st) M) := (ev_eq f_116_121).trans (congrArg (fin S d 116) (if_pos ⟨h, rfl, hr⟩))
theorem f_116_124 : fetch 116 124 = some (124, .ireturn, 1, [0], 0) := (fm_116 124).trans rfl
theorem u_116_124 {S : Scr} {d : Nat} {a0 a1 : AV} {sh : Shp} {I : IM} {R : RM} {x : Int} : ev S d 116 124 [a0, a1] [.inl x] (sh, I, R) = some (some (.inl x), (sh, I, R)) := (ev_eq f_116_124).trans fin_iret0
theorem f_116_125 : fetch 116 125 = some (125, .aload_n 0, 1, [0], 0) := (fm_116 125).trans rfl
theorem u_116_125 {S : Scr} {d : Nat} {a1 : AV} {st : List AV} {sh : Shp} {I : IM} {R : RM} {x : Nat} : ev S d 116 125 [.inr (.inl x), a1] st (sh, I, R) = ev S d 116 126 [.inr (.inl x), a1] (.inr (.inl x) :: st) (sh, I, R) := (ev_eq f_116_125).trans rfl
theorem f_116_126 : fetch 116 126 = some (126, .invokevirtual 265, 3, [118, 0, 124], 0) := (fm_116 126).trans rfl
theorem u_116_126 {S : Scr} {d : Nat} {a0 a1 : AV} {st : List AV} {sh : Shp} {I : IM} {R : RM} {k : Nat} (h : tg sh k = 8) (hr : st.length ≤ 8) : ev S d 116 126 [a0, a1] (.inr (.inl k) :: st) (sh, I, R) = bnd (cl d 118 [.inr (.inl k)] (sh, I, R)) (fun v M => ev S d 116 129 [a0, a1] (psh v st) M) := (ev_eq f_116_126).trans (congrArg (fin S d 116) (if_pos ⟨h, rfl, hr⟩))
theorem f_116_129 : fetch 116 129 = some (129, .ireturn, 1, [0], 0) := (fm_116 129).trans rfl
theorem u_116_129 {S : Scr} {d : Nat} {a0 a1 : AV} {sh : Shp} {I : IM} {R : RM} {x : Int} : ev S d 116 129 [a0, a1] [.inl x] (sh, I, R) = some (some (.inl x), (sh, I, R)) := (ev_eq f_116_129).trans fin_iret0
theorem f_116_130 : fetch 116 130 = some (130, .iconst (-1), 1, [], (-1)) := (fm_116 130).trans rfl
theorem u_116_130 {S : Scr} {d : Nat} {a0 a1 : AV} {st : List AV} {sh : Shp} {I : IM} {R : RM} : ev S d 116 130 [a0, a1] st (sh, I, R) = ev S d 116 131 [a0, a1] (.inl (-1) :: st) (sh, I, R) := (ev_eq f_116_130).trans rfl
theorem f_116_131 : fetch 116 131 = some (131, .ireturn, 1, [0], 0) := (fm_116 131).trans rfl
theorem u_116_131 {S : Scr} {d : Nat} {a0 a1 : AV} {sh : Shp} {I : IM} {R : RM} {x : Int} : ev S d 116 131 [a0, a1] [.inl x] (sh, I, R) = some (some (.inl x), (sh, I, R)) := (ev_eq f_116_131).trans fin_iret0
theorem c_117 {d : Nat} {a0 : AV} {M : Mem} : cl (d + 1) 117 [a0] M = ev S0 d 117 0 [a0, .inr (.inr 1), .inr (.inr 1)] [] M := (cl_eq (as := [a0]) (show 1 ≤ maxOf 117 by decide +kernel)).trans rfl
theorem mt_117 : MT[117]? = some m_117 := rfl
theorem fm_117 (pc : Nat) : fetch 117 pc = lk m_117.2.2.2.2.2 pc := by
  unfold fetch
  rw [mt_117]
theorem f_117_0 : fetch 117 0 = some (0, .iconst 0, 1, [], 0) := (fm_117 0).trans rfl
theorem u_117_0 {S : Scr} {d : Nat} {a0 a1 a2 : AV} {st : List AV} {sh : Shp} {I : IM} {R : RM} : ev S d 117 0 [a0, a1, a2] st (sh, I, R) = ev S d 117 1 [a0, a1, a2] (.inl 0 :: st) (sh, I, R) := (ev_eq f_117_0).trans rfl
theorem f_117_1 : fetch 117 1 = some (1, .istore_n 1, 1, [1], 0) := (fm_117 1).trans rfl
theorem u_117_1 {S : Scr} {d : Nat} {a0 a1 a2 : AV} {st : List AV} {sh : Shp} {I : IM} {R : RM} {x : Int} : ev S d 117 1 [a0, a1, a2] (.inl x :: st) (sh, I, R) = ev S d 117 2 [a0, .inl x, a2] st (sh, I, R) := (ev_eq f_117_1).trans rfl
theorem f_117_2 : fetch 117 2 = some (2, .iconst 0, 1, [], 0) := (fm_117 2).trans rfl
theorem u_117_2 {S : Scr} {d : Nat} {a0 a1 a2 : AV} {st : List AV} {sh : Shp} {I : IM} {R : RM} : ev S d 117 2 [a0, a1, a2] st (sh, I, R) = ev S d 117 3 [a0, a1, a2] (.inl 0 :: st) (sh, I, R) := (ev_eq f_117_2).trans rfl
theorem f_117_3 : fetch 117 3 = some (3, .istore_n 2, 1, [2], 0) := (fm_117 3).trans rfl
theorem u_117_3 {S : Scr} {d : Nat} {a0 a1 a2 : AV} {st : List AV} {sh : Shp} {I : IM} {R : RM} {x : Int} : ev S d 117 3 [a0, a1, a2] (.inl x :: st) (sh, I, R) = ev S d 117 4 [a0, a1, .inl x] st (sh, I, R) := (ev_eq f_117_3).trans rfl
theorem f_117_4 : fetch 117 4 = some (4, .iload_n 2, 1, [2], 0) := (fm_117 4).trans rfl
theorem u_117_4 {S : Scr} {d : Nat} {a0 a1 : AV} {st : List AV} {sh : Shp} {I : IM} {R : RM} {x : Int} : ev S d 117 4 [a0, a1, .inl x] st (sh, I, R) = ev S d 117 5 [a0, a1, .inl x] (.inl x :: st) (sh, I, R) := (ev_eq f_117_4).trans rfl
theorem f_117_5 : fetch 117 5 = some (5, .bipush 8, 2, [], 8) := (fm_117 5).trans rfl
theorem u_117_5 {S : Scr} {d : Nat} {a0 a1 a2 : AV} {st : List AV} {sh : Shp} {I : IM} {R : RM} : ev S d 117 5 [a0, a1, a2] st (sh, I, R) = ev S d 117 7 [a0, a1, a2] (.inl 8 :: st) (sh, I, R) := (ev_eq f_117_5).trans rfl
theorem f_117_7 : fetch 117 7 = some (7, .if_icmp .ge 27, 3, [34], 0) := (fm_117 7).trans rfl
theorem u_117_7 {S : Scr} {d : Nat} {a0 a1 a2 : AV} {st : List AV} {sh : Shp} {I : IM} {R : RM} {x y : Int} : ev S d 117 7 [a0, a1, a2] (.inl y :: .inl x :: st) (sh, I, R) = if y ≤ x then ev S d 117 34 [a0, a1, a2] st (sh, I, R) else ev S d 117 10 [a0, a1, a2] st (sh, I, R) := (ev_eq f_117_7).trans fin_icmp_ge
theorem f_117_10 : fetch 117 10 = some (10, .iload_n 1, 1, [1], 0) := (fm_117 10).trans rfl
theorem u_117_10 {S : Scr} {d : Nat} {a0 a2 : AV} {st : List AV} {sh : Shp} {I : IM} {R : RM} {x : Int} : ev S d 117 10 [a0, .inl x, a2] st (sh, I, R) = ev S d 117 11 [a0, .inl x, a2] (.inl x :: st) (sh, I, R) := (ev_eq f_117_10).trans rfl
theorem f_117_11 : fetch 117 11 = some (11, .aload_n 0, 1, [0], 0) := (fm_117 11).trans rfl
theorem u_117_11 {S : Scr} {d : Nat} {a1 a2 : AV} {st : List AV} {sh : Shp} {I : IM} {R : RM} {x : Nat} : ev S d 117 11 [.inr (.inl x), a1, a2] st (sh, I, R) = ev S d 117 12 [.inr (.inl x), a1, a2] (.inr (.inl x) :: st) (sh, I, R) := (ev_eq f_117_11).trans rfl
theorem f_117_12 : fetch 117 12 = some (12, .getfield 48, 3, [8, 6, 1, 61], 0) := (fm_117 12).trans rfl
theorem u_117_12 {S : Scr} {d : Nat} {a0 a1 a2 : AV} {st : List AV} {sh : Shp} {I : IM} {R : RM} {k : Nat} (h : tg sh k = 8) : ev S d 117 12 [a0, a1, a2] (.inr (.inl k) :: st) (sh, I, R) = ev S d 117 15 [a0, a1, a2] (rv (R k 6) :: st) (sh, I, R) := (ev_eq f_117_12).trans (congrArg (fin S d 117) (if_pos h))
theorem f_117_15 : fetch 117 15 = some (15, .iload_n 2, 1, [2], 0) := (fm_117 15).trans rfl
theorem u_117_15 {S : Scr} {d : Nat} {a0 a1 : AV} {st : List AV} {sh : Shp} {I : IM} {R : RM} {x : Int} : ev S d 117 15 [a0, a1, .inl x] st (sh, I, R) = ev S d 117 16 [a0, a1, .inl x] (.inl x :: st) (sh, I, R) := (ev_eq f_117_15).trans rfl
theorem f_117_16 : fetch 117 16 = some (16, .iaload, 1, [], 0) := (fm_117 16).trans rfl
theorem u_117_16 {S : Scr} {d : Nat} {a0 a1 a2 : AV} {st : List AV} {sh : Shp} {I : IM} {R : RM} {k : Nat} {i : Int} (h : tg sh k = 100) (h0 : 0 ≤ i) (h1 : i < ln sh k) : ev S d 117 16 [a0, a1, a2] (.inl i :: .inr (.inl k) :: st) (sh, I, R) = ev S d 117 17 [a0, a1, a2] (.inl (I k i) :: st) (sh, I, R) := (ev_eq f_117_16).trans (congrArg (fin S d 117) (if_pos ⟨h, h0, h1⟩))
theorem f_117_17 : fetch 117 17 = some (17, .iconst (-1), 1, [], (-1)) := (fm_117 17).trans rfl
theorem u_117_17 {S : Scr} {d : Nat} {a0 a1 a2 : AV} {st : List AV} {sh : Shp} {I : IM} {R : RM} : ev S d 117 17 [a0, a1, a2] st (sh, I, R) = ev S d 117 18 [a0, a1, a2] (.inl (-1) :: st) (sh, I, R) := (ev_eq f_117_17).trans rfl
theorem f_117_18 : fetch 117 18 = some (18, .if_icmp .ne 7, 3, [25], 0) := (fm_117 18).trans rfl
theorem u_117_18 {S : Scr} {d : Nat} {a0 a1 a2 : AV} {st : List AV} {sh : Shp} {I : IM} {R : RM} {x y : Int} : ev S d 117 18 [a0, a1, a2] (.inl y :: .inl x :: st) (sh, I, R) = if ¬ x = y then ev S d 117 25 [a0, a1, a2] st (sh, I, R) else ev S d 117 21 [a0, a1, a2] st (sh, I, R) := (ev_eq f_117_18).trans fin_icmp_ne
theorem f_117_21 : fetch 117 21 = some (21, .iconst 0, 1, [], 0) := (fm_117 21).trans rfl
theorem u_117_21 {S : Scr} {d : Nat} {a0 a1 a2 : AV} {st : List AV} {sh : Shp} {I : IM} {R : RM} : ev S d 117 21 [a0, a1, a2] st (sh, I, R) = ev S d 117 22 [a0, a1, a2] (.inl 0 :: st) (sh, I, R) := (ev_eq f_117_21).trans rfl
theorem f_117_22 : fetch 117 22 = some (22, .goto 4, 3, [26], 0) := (fm_117 22).trans rfl
theorem u_117_22 {S : Scr} {d : Nat} {a0 a1 a2 : AV} {st : List AV} {sh : Shp} {I : IM} {R : RM} : ev S d 117 22 [a0, a1, a2] st (sh, I, R) = ev S d 117 26 [a0, a1, a2] st (sh, I, R) := (ev_eq f_117_22).trans rfl
theorem f_117_25 : fetch 117 25 = some (25, .iconst 1, 1, [], 1) := (fm_117 25).trans rfl
theorem u_117_25 {S : Scr} {d : Nat} {a0 a1 a2 : AV} {st : List AV} {sh : Shp} {I : IM} {R : RM} : ev S d 117 25 [a0, a1, a2] st (sh, I, R) = ev S d 117 26 [a0, a1, a2] (.inl 1 :: st) (sh, I, R) := (ev_eq f_117_25).trans rfl
theorem f_117_26 : fetch 117 26 = some (26, .iadd, 1, [], 0) := (fm_117 26).trans rfl
theorem u_117_26 {S : Scr} {d : Nat} {a0 a1 a2 : AV} {st : List AV} {sh : Shp} {I : IM} {R : RM} {x y : Int} : ev S d 117 26 [a0, a1, a2] (.inl y :: .inl x :: st) (sh, I, R) = ev S d 117 27 [a0, a1, a2] (.inl (wr (x + y)) :: st) (sh, I, R) := (ev_eq f_117_26).trans rfl
theorem f_117_27 : fetch 117 27 = some (27, .istore_n 1, 1, [1], 0) := (fm_117 27).trans rfl
theorem u_117_27 {S : Scr} {d : Nat} {a0 a1 a2 : AV} {st : List AV} {sh : Shp} {I : IM} {R : RM} {x : Int} : ev S d 117 27 [a0, a1, a2] (.inl x :: st) (sh, I, R) = ev S d 117 28 [a0, .inl x, a2] st (sh, I, R) := (ev_eq f_117_27).trans rfl
theorem f_117_28 : fetch 117 28 = some (28, .iinc 2 1, 3, [2], 1) := (fm_117 28).trans rfl
theorem u_117_28 {S : Scr} {d : Nat} {a0 a1 : AV} {st : List AV} {sh : Shp} {I : IM} {R : RM} {x : Int} : ev S d 117 28 [a0, a1, .inl x] st (sh, I, R) = ev S d 117 31 [a0, a1, .inl (wr (x + 1))] st (sh, I, R) := (ev_eq f_117_28).trans rfl
theorem f_117_31 : fetch 117 31 = some (31, .goto (-27), 3, [4], 0) := (fm_117 31).trans rfl
theorem u_117_31 {S : Scr} {d : Nat} {a0 a1 a2 : AV} {st : List AV} {sh : Shp} {I : IM} {R : RM} : ev S d 117 31 [a0, a1, a2] st (sh, I, R) = ev S d 117 4 [a0, a1, a2] st (sh, I, R) := (ev_eq f_117_31).trans rfl
theorem f_117_34 : fetch 117 34 = some (34, .iload_n 1, 1, [1], 0) := (fm_117 34).trans rfl
theorem u_117_34 {S : Scr} {d : Nat} {a0 a2 : AV} {st : List AV} {sh : Shp} {I : IM} {R : RM} {x : Int} : ev S d 117 34 [a0, .inl x, a2] st (sh, I, R) = ev S d 117 35 [a0, .inl x, a2] (.inl x :: st) (sh, I, R) := (ev_eq f_117_34).trans rfl
theorem f_117_35 : fetch 117 35 = some (35, .ireturn, 1, [0], 0) := (fm_117 35).trans rfl
theorem u_117_35 {S : Scr} {d : Nat} {a0 a1 a2 : AV} {sh : Shp} {I : IM} {R : RM} {x : Int} : ev S d 117 35 [a0, a1, a2] [.inl x] (sh, I, R) = some (some (.inl x), (sh, I, R)) := (ev_eq f_117_35).trans fin_iret0
theorem c_118 {d : Nat} {a0 : AV} {M : Mem} : cl (d + 1) 118 [a0] M = ev S0 d 118 0 [a0, .inr (.inr 1), .inr (.inr 1)] [] M := (cl_eq (as := [a0]) (show 1 ≤ maxOf 118 by decide +kernel)).trans rfl
theorem mt_118 : MT[118]? = some m_118 := rfl
theorem fm_118 (pc : Nat) : fetch 118 pc = lk m_118.2.2.2.2.2 pc := by
  unfold fetch
  rw [mt_118]
theorem f_118_0 : fetch 118 0 = some (0, .iconst 0, 1, [], 0) := (fm_118 0).trans rfl
theorem u_118_0 {S : Scr} {d : Nat} {a0 a1 a2 : AV} {st : List AV} {sh : Shp} {I : IM} {R : RM} : ev S d 118 0 [a0, a1, a2] st (sh, I, R) = ev S d 118 1 [a0, a1, a2] (.inl 0 :: st) (sh, I, R) := (ev_eq f_118_0).trans rfl
theorem f_118_1 : fetch 118 1 = some (1, .istore_n 1, 1, [1], 0) := (fm_118 1).trans rfl
theorem u_118_1 {S : Scr} {d : Nat} {a0 a1 a2 : AV} {st : List AV} {sh : Shp} {I : IM} {R : RM} {x : Int} : ev S d 118 1 [a0, a1, a2] (.inl x :: st) (sh, I, R) = ev S d 118 2 [a0, .inl x, a2] st (sh, I, R) := (ev_eq f_118_1).trans rfl
theorem f_118_2 : fetch 118 2 = some (2, .iconst 0, 1, [], 0) := (fm_118 2).trans rfl
theorem u_118_2 {S : Scr} {d : Nat} {a0 a1 a2 : AV} {st : List AV} {sh : Shp} {I : IM} {R : RM} : ev S d 118 2 [a0, a1, a2] st (sh, I, R) = ev S d 118 3 [a0, a1, a2] (.inl 0 :: st) (sh, I, R) := (ev_eq f_118_2).trans rfl
theorem f_118_3 : fetch 118 3 = some (3, .istore_n 2, 1, [2], 0) := (fm_118 3).trans rfl
theorem u_118_3 {S : Scr} {d : Nat} {a0 a1 a2 : AV} {st : List AV} {sh : Shp} {I : IM} {R : RM} {x : Int} : ev S d 118 3 [a0, a1, a2] (.inl x :: st) (sh, I, R) = ev S d 118 4 [a0, a1, .inl x] st (sh, I, R) := (ev_eq f_118_3).trans rfl
theorem f_118_4 : fetch 118 4 = some (4, .iload_n 2, 1, [2], 0) := (fm_118 4).trans rfl
theorem u_118_4 {S : Scr} {d : Nat} {a0 a1 : AV} {st : List AV} {sh : Shp} {I : IM} {R : RM} {x : Int} : ev S d 118 4 [a0, a1, .inl x] st (sh, I, R) = ev S d 118 5 [a0, a1, .inl x] (.inl x :: st) (sh, I, R) := (ev_eq f_118_4).trans rfl
theorem f_118_5 : fetch 118 5 = some (5, .iconst 4, 1, [], 4) := (fm_118 5).trans rfl
theorem u_118_5 {S : Scr} {d : Nat} {a0 a1 a2 : AV} {st : List AV} {sh : Shp} {I : IM} {R : RM} : ev S d 118 5 [a0, a1, a2] st (sh, I, R) = ev S d 118 6 [a0, a1, a2] (.inl 4 :: st) (sh, I, R) := (ev_eq f_118_5).trans rfl
theorem f_118_6 : fetch 118 6 = some (6, .if_icmp .ge 29, 3, [35], 0) := (fm_118 6).trans rfl
theorem u_118_6 {S : Scr} {d : Nat} {a0 a1 a2 : AV} {st : List AV} {sh : Shp} {I : IM} {R : RM} {x y : Int} : ev S d 118 6 [a0, a1, a2] (.inl y :: .inl x :: st) (sh, I, R) = if y ≤ x then ev S d 118 35 [a0, a1, a2] st (sh, I, R) else ev S d 118 9 [a0, a1, a2] st (sh, I, R) := (ev_eq f_118_6).trans fin_icmp_ge
theorem f_118_9 : fetch 118 9 = some (9, .iload_n 1, 1, [1], 0) := (fm_118 9).trans rfl
theorem u_118_9 {S : Scr} {d : Nat} {a0 a2 : AV} {st : List AV} {sh : Shp} {I : IM} {R : RM} {x : Int} : ev S d 118 9 [a0, .inl x, a2] st (sh, I, R) = ev S d 118 10 [a0, .inl x, a2] (.inl x :: st) (sh, I, R) := (ev_eq f_118_9).trans rfl
theorem f_118_10 : fetch 118 10 = some (10, .aload_n 0, 1, [0], 0) := (fm_118 10).trans rfl
theorem u_118_10 {S : Scr} {d : Nat} {a1 a2 : AV} {st : List AV} {sh : Shp} {I : IM} {R : RM} {x : Nat} : ev S d 118 10 [.inr (.inl x), a1, a2] st (sh, I, R) = ev S d 118 11 [.inr (.inl x), a1, a2] (.inr (.inl x) :: st) (sh, I, R) := (ev_eq f_118_10).trans rfl
theorem f_118_11 : fetch 118 11 = some (11, .getfield 44, 3, [8, 5, 1, 60], 0) := (fm_118 11).trans rfl
theorem u_118_11 {S : Scr} {d : Nat} {a0 a1 a2 : AV} {st : List AV} {sh : Shp} {I : IM} {R : RM} {k : Nat} (h : tg sh k = 8) : ev S d 118 11 [a0, a1, a2] (.inr (.inl k) :: st) (sh, I, R) = ev S d 118 14 [a0, a1, a2] (rv (R k 5) :: st) (sh, I, R) := (ev_eq f_118_11).trans (congrArg (fin S d 118) (if_pos h))
theorem f_118_14 : fetch 118 14 = some (14, .iload_n 2, 1, [2], 0) := (fm_118 14).trans rfl
theorem u_118_14 {S : Scr} {d : Nat} {a0 a1 : AV} {st : List AV} {sh : Shp} {I : IM} {R : RM} {x : Int} : ev S d 118 14 [a0, a1, .inl x] st (sh, I, R) = ev S d 118 15 [a0, a1, .inl x] (.inl x :: st) (sh, I, R) := (ev_eq f_118_14).trans rfl
theorem f_118_15 : fetch 118 15 = some (15, .aaload, 1, [], 0) := (fm_118 15).trans rfl
theorem u_118_15 {S : Scr} {d : Nat} {a0 a1 a2 : AV} {st : List AV} {sh : Shp} {I : IM} {R : RM} {k : Nat} {i : Int} (h : 200 ≤ tg sh k ∧ tg sh k < 210) (h0 : 0 ≤ i) (h1 : i < ln sh k) : ev S d 118 15 [a0, a1, a2] (.inl i :: .inr (.inl k) :: st) (sh, I, R) = ev S d 118 16 [a0, a1, a2] (rv (R k i) :: st) (sh, I, R) := (ev_eq f_118_15).trans (congrArg (fin S d 118) (if_pos ⟨h.1, h.2, h0, h1⟩))
theorem f_118_16 : fetch 118 16 = some (16, .invokevirtual 193, 3, [45, 0, 107], 0) := (fm_118 16).trans rfl
theorem u_118_16 {S : Scr} {d : Nat} {a0 a1 a2 : AV} {st : List AV} {sh : Shp} {I : IM} {R : RM} {k : Nat} (h : tg sh k = 5) (hr : st.length ≤ 8) : ev S d 118 16 [a0, a1, a2] (.inr (.inl k) :: st) (sh, I, R) = bnd (cl d 45 [.inr (.inl k)] (sh, I, R)) (fun v M => ev S d 118 19 [a0, a1, a2] (psh v st) M) := (ev_eq f_118_16).trans (congrArg (fin S d 118) (if_pos ⟨h, rfl, hr⟩))
theorem f_118_19 : fetch 118 19 = some (19, .ifCond .eq 7, 3, [26], 0) := (fm_118 19).trans rfl
theorem u_118_19 {S : Scr} {d : Nat} {a0 a1 a2 : AV} {st : List AV} {sh : Shp} {I : IM} {R : RM} {x : Int} : ev S d 118 19 [a0, a1, a2] (.inl x :: st) (sh, I, R) = if x = 0 then ev S d 118 26 [a0, a1, a2] st (sh, I, R) else ev S d 118 22 [a0, a1, a2] st (sh, I, R) := (ev_eq f_118_19).trans fin_if_eq
theorem f_118_22 : fetch 118 22 = some (22, .iconst 0, 1, [], 0) := (fm_118 22).trans rfl
theorem u_118_22 {S : Scr} {d : Nat} {a0 a1 a2 : AV} {st : List AV} {sh : Shp} {I : IM} {R : RM} : ev S d 118 22 [a0, a1, a2] st (sh, I, R) = ev S d 118 23 [a0, a1, a2] (.inl 0 :: st) (sh, I, R) := (ev_eq f_118_22).trans rfl
theorem f_118_23 : fetch 118 23 = some (23, .goto 4, 3, [27], 0) := (fm_118 23).trans rfl
theorem u_118_23 {S : Scr} {d : Nat} {a0 a1 a2 : AV} {st : List AV} {sh : Shp} {I : IM} {R : RM} : ev S d 118 23 [a0, a1, a2] st (sh, I, R) = ev S d 118 27 [a0, a1, a2] st (sh, I, R) := (ev_eq f_118_23).trans rfl
theorem f_118_26 : fetch 118 26 = some (26, .iconst 1, 1, [], 1) := (fm_118 26).trans rfl
theorem u_118_26 {S : Scr} {d : Nat} {a0 a1 a2 : AV} {st : List AV} {sh : Shp} {I : IM} {R : RM} : ev S d 118 26 [a0, a1, a2] st (sh, I, R) = ev S d 118 27 [a0, a1, a2] (.inl 1 :: st) (sh, I, R) := (ev_eq f_118_26).trans rfl
theorem f_118_27 : fetch 118 27 = some (27, .iadd, 1, [], 0) := (fm_118 27).trans rfl
theorem u_118_27 {S : Scr} {d : Nat} {a0 a1 a2 : AV} {st : List AV} {sh : Shp} {I : IM} {R : RM} {x y : Int} : ev S d 118 27 [a0, a1, a2] (.inl y :: .inl x :: st) (sh, I, R) = ev S d 118 28 [a0, a1, a2] (.inl (wr (x + y)) :: st) (sh, I, R) := (ev_eq f_118_27).trans rfl
theorem f_118_28 : fetch 118 28 = some (28, .istore_n 1, 1, [1], 0) := (fm_118 28).trans rfl
theorem u_118_28 {S : Scr} {d : Nat} {a0 a1 a2 : AV} {st : List AV} {sh : Shp} {I : IM} {R : RM} {x : Int} : ev S d 118 28 [a0, a1, a2] (.inl x :: st) (sh, I, R) = ev S d 118 29 [a0, .inl x, a2] st (sh, I, R) := (ev_eq f_118_28).trans rfl
theorem f_118_29 : fetch 118 29 = some (29, .iinc 2 1, 3, [2], 1) := (fm_118 29).trans rfl
theorem u_118_29 {S : Scr} {d : Nat} {a0 a1 : AV} {st : List AV} {sh : Shp} {I : IM} {R : RM} {x : Int} : ev S d 118 29 [a0, a1, .inl x] st (sh, I, R) = ev S d 118 32 [a0, a1, .inl (wr (x + 1))] st (sh, I, R) := (ev_eq f_118_29).trans rfl
theorem f_118_32 : fetch 118 32 = some (32, .goto (-28), 3, [4], 0) := (fm_118 32).trans rfl
theorem u_118_32 {S : Scr} {d : Nat} {a0 a1 a2 : AV} {st : List AV} {sh : Shp} {I : IM} {R : RM} : ev S d 118 32 [a0, a1, a2] st (sh, I, R) = ev S d 118 4 [a0, a1, a2] st (sh, I, R) := (ev_eq f_118_32).trans rfl
theorem f_118_35 : fetch 118 35 = some (35, .iload_n 1, 1, [1], 0) := (fm_118 35).trans rfl
theorem u_118_35 {S : Scr} {d : Nat} {a0 a2 : AV} {st : List AV} {sh : Shp} {I : IM} {R : RM} {x : Int} : ev S d 118 35 [a0, .inl x, a2] st (sh, I, R) = ev S d 118 36 [a0, .inl x, a2] (.inl x :: st) (sh, I, R) := (ev_eq f_118_35).trans rfl
theorem f_118_36 : fetch 118 36 = some (36, .ireturn, 1, [0], 0) := (fm_118 36).trans rfl
theorem u_118_36 {S : Scr} {d : Nat} {a0 a1 a2 : AV} {sh : Shp} {I : IM} {R : RM} {x : Int} : ev S d 118 36 [a0, a1, a2] [.inl x] (sh, I, R) = some (some (.inl x), (sh, I, R)) := (ev_eq f_118_36).trans fin_iret0
theorem c_119 {d : Nat} {a0 a1 : AV} {M : Mem} : cl (d + 1) 119 [a0, a1] M = ev S0 d 119 0 [a0, a1, .inr (.inr 1)] [] M := (cl_eq (as := [a0, a1]) (show 2 ≤ maxOf 119 by decide +kernel)).trans rfl
theorem mt_119 : MT[119]? = some m_119 := rfl
theorem fm_119 (pc : Nat) : fetch 119 pc = lk m_119.2.2.2.2.2 pc := by
  unfold fetch
  rw [mt_119]
theorem f_119_0 : fetch 119 0 = some (0, .aload_n 1, 1, [1], 0) := (fm_119 0).trans rfl
theorem u_119_0 {S : Scr} {d : Nat} {a0 a2 : AV} {st : List AV} {sh : Shp} {I : IM} {R : RM} {x : Nat} : ev S d 119 0 [a0, .inr (.inl x), a2] st (sh, I, R) = ev S d 119 1 [a0, .inr (.inl x), a2] (.inr (.inl x) :: st) (sh, I, R) := (ev_eq f_119_0).trans rfl
theorem u_119_0n {S : Scr} {d : Nat} {a0 a2 : AV} {st : List AV} {sh : Shp} {I : IM} {R : RM} : ev S d 119 0 [a0, .inr (.inr 0), a2] st (sh, I, R) = ev S d 119 1 [a0, .inr (.inr 0), a2] (.inr (.inr 0) :: st) (sh, I, R) := (ev_eq f_119_0).trans rfl
theorem f_119_1 : fetch 119 1 = some (1, .ifnonnull 4, 3, [5], 0) := (fm_119 1).trans rfl
theorem u_119_1 {S : Scr} {d : Nat} {a0 a1 a2 : AV} {st : List AV} {sh : Shp} {I : IM} {R : RM} {x : Nat} : ev S d 119 1 [a0, a1, a2] (.inr (.inl x) :: st) (sh, I, R) = ev S d 119 5 [a0, a1, a2] st (sh, I, R) := (ev_eq f_119_1).trans rfl
theorem u_119_1n {S : Scr} {d : Nat} {a0 a1 a2 : AV} {st : List AV} {sh : Shp} {I : IM} {R : RM} : ev S d 119 1 [a0, a1, a2] (.inr (.inr 0) :: st) (sh, I, R) = ev S d 119 4 [a0, a1, a2] st (sh, I, R) := (ev_eq f_119_1).trans rfl
theorem f_119_4 : fetch 119 4 = some (4, .return_, 1, [], 0) := (fm_119 4).trans rfl
theorem u_119_4 {S : Scr} {d : Nat} {a0 a1 a2 : AV} {sh : Shp} {I : IM} {R : RM} : ev S d 119 4 [a0, a1, a2] [] (sh, I, R) = some (none, (sh, I, R)) := (ev_eq f_119_4).trans rfl
theorem f_119_5 : fetch 119 5 = some (5, .iconst 0, 1, [], 0) := (fm_119 5).trans rfl
theorem u_119_5 {S : Scr} {d : Nat} {a0 a1 a2 : AV} {st : List AV} {sh : Shp} {I : IM} {R : RM} : ev S d 119 5 [a0, a1, a2] st (sh, I, R) = ev S d 119 6 [a0, a1, a2] (.inl 0 :: st) (sh, I, R) := (ev_eq f_119_5).trans rfl
theorem f_119_6 : fetch 119 6 = some (6, .istore_n 2, 1, [2], 0) := (fm_119 6).trans rfl
theorem u_119_6 {S : Scr} {d : Nat} {a0 a1 a2 : AV} {st : List AV} {sh : Shp} {I : IM} {R : RM} {x : Int} : ev S d 119 6 [a0, a1, a2] (.inl x :: st) (sh, I, R) = ev S d 119 7 [a0, a1, .inl x] st (sh, I, R) := (ev_eq f_119_6).trans rfl
theorem f_119_7 : fetch 119 7 = some (7, .iload_n 2, 1, [2], 0) := (fm_119 7).trans rfl
theorem u_119_7 {S : Scr} {d : Nat} {a0 a1 : AV} {st : List AV} {sh : Shp} {I : IM} {R : RM} {x : Int} : ev S d 119 7 [a0, a1, .inl x] st (sh, I, R) = ev S d 119 8 [a0, a1, .inl x] (.inl x :: st) (sh, I, R) := (ev_eq f_119_7).trans rfl
theorem f_119_8 : fetch 119 8 = some (8, .aload_n 1, 1, [1], 0) := (fm_119 8).trans rfl
theorem u_119_8 {S : Scr} {d : Nat} {a0 a2 : AV} {st : List AV} {sh : Shp} {I : IM} {R : RM} {x : Nat} : ev S d 119 8 [a0, .inr (.inl x), a2] st (sh, I, R) = ev S d 119 9 [a0, .inr (.inl x), a2] (.inr (.inl x) :: st) (sh, I, R) := (ev_eq f_119_8).trans rfl
theorem u_119_8n {S : Scr} {d : Nat} {a0 a2 : AV} {st : List AV} {sh : Shp} {I : IM} {R : RM} : ev S d 119 8 [a0, .inr (.inr 0), a2] st (sh, I, R) = ev S d 119 9 [a0, .inr (.inr 0), a2] (.inr (.inr 0) :: st) (sh, I, R) := (ev_eq f_119_8).trans rfl
theorem f_119_9 : fetch 119 9 = some (9, .getfield 142, 3, [3, 4, 0, 68], 0) := (fm_119 9).trans rfl
theorem u_119_9 {S : Scr} {d : Nat} {a0 a1 a2 : AV} {st : List AV} {sh : Shp} {I : IM} {R : RM} {k : Nat} (h : tg sh k = 3) : ev S d 119 9 [a0, a1, a2] (.inr (.inl k) :: st) (sh, I, R) = ev S d 119 12 [a0, a1, a2] (.inl (I k 4) :: st) (sh, I, R) := (ev_eq f_119_9).trans (congrArg (fin S d 119) (if_pos h))
theorem f_119_12 : fetch 119 12 = some (12, .if_icmp .ge 50, 3, [62], 0) := (fm_119 12).trans rfl
theorem u_119_12 {S : Scr} {d : Nat} {a0 a1 a2 : AV} {st : List AV} {sh : Shp} {I : IM} {R : RM} {x y : Int} : ev S d 119 12 [a0, a1, a2] (.inl y :: .inl x :: st) (sh, I, R) = if y ≤ x then ev S d 119 62 [a0, a1, a2] st (sh, I, R) else ev S d 119 15 [a0, a1, a2] st (sh, I, R) := (ev_eq f_119_12).trans fin_icmp_ge
theorem f_119_15 : fetch 119 15 = some (15, .aload_n 0, 1, [0], 0) := (fm_119 15).trans rfl
theorem u_119_15 {S : Scr} {d : Nat} {a1 a2 : AV} {st : List AV} {sh : Shp} {I : IM} {R : RM} {x : Nat} : ev S d 119 15 [.inr (.inl x), a1, a2] st (sh, I, R) = ev S d 119 16 [.inr (.inl x), a1, a2] (.inr (.inl x) :: st) (sh, I, R) := (ev_eq f_119_15).trans rfl
theorem f_119_16 : fetch 119 16 = some (16, .getfield 24, 3, [8, 2, 1, 57], 0) := (fm_119 16).trans rfl
theorem u_119_16 {S : Scr} {d : Nat} {a0 a1 a2 : AV} {st : List AV} {sh : Shp} {I : IM} {R : RM} {k : Nat} (h : tg sh k = 8) : ev S d 119 16 [a0, a1, a2] (.inr (.inl k) :: st) (sh, I, R) = ev S d 119 19 [a0, a1, a2] (rv (R k 2) :: st) (sh, I, R) := (ev_eq f_119_16).trans (congrArg (fin S d 119) (if_pos h))
theorem f_119_19 : fetch 119 19 = some (19, .aload_n 1, 1, [1], 0) := (fm_119 19).trans rfl
theorem u_119_19 {S : Scr} {d : Nat} {a0 a2 : AV} {st : List AV} {sh : Shp} {I : IM} {R : RM} {x : Nat} : ev S d 119 19 [a0, .inr (.inl x), a2] st (sh, I, R) = ev S d 119 20 [a0, .inr (.inl x), a2] (.inr (.inl x) :: st) (sh, I, R) := (ev_eq f_119_19).trans rfl
theorem u_119_19n {S : Scr} {d : Nat} {a0 a2 : AV} {st : List AV} {sh : Shp} {I : IM} {R : RM} : ev S d 119 19 [a0, .inr (.inr 0), a2] st (sh, I, R) = ev S d 119 20 [a0, .inr (.inr 0), a2] (.inr (.inr 0) :: st) (sh, I, R) := (ev_eq f_119_19).trans rfl
theorem f_119_20 : fetch 119 20 = some (20, .getfield 136, 3, [3, 1, 1, 67], 0) := (fm_119 20).trans rfl
theorem u_119_20 {S : Scr} {d : Nat} {a0 a1 a2 : AV} {st : List AV} {sh : Shp} {I : IM} {R : RM} {k : Nat} (h : tg sh k = 3) : ev S d 119 20 [a0, a1, a2] (.inr (.inl k) :: st) (sh, I, R) = ev S d 119 23 [a0, a1, a2] (rv (R k 1) :: st) (sh, I, R) := (ev_eq f_119_20).trans (congrArg (fin S d 119) (if_pos h))
theorem f_119_23 : fetch 119 23 = some (23, .iload_n 2, 1, [2], 0) := (fm_119 23).trans rfl
theorem u_119_23 {S : Scr} {d : Nat} {a0 a1 : AV} {st : List AV} {sh : Shp} {I : IM} {R : RM} {x : Int} : ev S d 119 23 [a0, a1, .inl x] st (sh, I, R) = ev S d 119 24 [a0, a1, .inl x] (.inl x :: st) (sh, I, R) := (ev_eq f_119_23).trans rfl
theorem f_119_24 : fetch 119 24 = some (24, .iaload, 1, [], 0) := (fm_119 24).trans rfl
theorem u_119_24 {S : Scr} {d : Nat} {a0 a1 a2 : AV} {st : List AV} {sh : Shp} {I : IM} {R : RM} {k : Nat} {i : Int} (h : tg sh k = 100) (h0 : 0 ≤ i) (h1 : i < ln sh k) : ev S d 119 24 [a0, a1, a2] (.inl i :: .inr (.inl k) :: st) (sh, I, R) = ev S d 119 25 [a0, a1, a2] (.inl (I k i) :: st) (sh, I, R) := (ev_eq f_119_24).trans (congrArg (fin S d 119) (if_pos ⟨h, h0, h1⟩))
theorem f_119_25 : fetch 119 25 = some (25, .invokevirtual 181, 3, [57, 1, 103], 0) := (fm_119 25).trans rfl
theorem u_119_25 {S : Scr} {d : Nat} {a0 a1 a2 : AV} {st : List AV} {sh : Shp} {I : IM} {R : RM} {x0 : Int} {k : Nat} (h : tg sh k = 6) (hr : st.length ≤ 8) : ev S d 119 25 [a0, a1, a2] (.inl x0 :: .inr (.inl k) :: st) (sh, I, R) = bnd (cl d 57 [.inr (.inl k), .inl x0] (sh, I, R)) (fun v M => ev S d 119 28 [a0, a1, a2] (psh v st) M) := (ev_eq f_119_25).trans (congrArg (fin S d 119) (if_pos ⟨h, rfl, hr⟩))
theorem f_119_28 : fetch 119 28 = some (28, .ifCond .eq 28, 3, [56], 0) := (fm_119 28).trans rfl
theorem u_119_28 {S : Scr} {d : Nat} {a0 a1 a2 : AV} {st : List AV} {sh : Shp} {I : IM} {R : RM} {x : Int} : ev S d 119 28 [a0, a1, a2] (.inl x :: st) (sh, I, R) = if x = 0 then ev S d 119 56 [a0, a1, a2] st (sh, I, R) else ev S d 119 31 [a0, a1, a2] st (sh, I, R) := (ev_eq f_119_28).trans fin_if_eq
theorem f_119_31 : fetch 119 31 = some (31, .aload_n 1, 1, [1], 0) := (fm_119 31).trans rfl
theorem u_119_31 {S : Scr} {d : Nat} {a0 a2 : AV} {st : List AV} {sh : Shp} {I : IM} {R : RM} {x : Nat} : ev S d 119 31 [a0, .inr (.inl x), a2] st (sh, I, R) = ev S d 119 32 [a0, .inr (.inl x), a2] (.inr (.inl x) :: st) (sh, I, R) := (ev_eq f_119_31).trans rfl
theorem u_119_31n {S : Scr} {d : Nat} {a0 a2 : AV} {st : List AV} {sh : Shp} {I : IM} {R : RM} : ev S d 119 31 [a0, .inr (.inr 0), a2] st (sh, I, R) = ev S d 119 32 [a0, .inr (.inr 0), a2] (.inr (.inr 0) :: st) (sh, I, R) := (ev_eq f_119_31).trans rfl
theorem f_119_32 : fetch 119 32 = some (32, .getfield 136, 3, [3, 1, 1, 67], 0) := (fm_119 32).trans rfl
theorem u_119_32 {S : Scr} {d : Nat} {a0 a1 a2 : AV} {st : List AV} {sh : Shp} {I : IM} {R : RM} {k : Nat} (h : tg sh k = 3) : ev S d 119 32 [a0, a1, a2] (.inr (.inl k) :: st) (sh, I, R) = ev S d 119 35 [a0, a1, a2] (rv (R k 1) :: st) (sh, I, R) := (ev_eq f_119_32).trans (congrArg (fin S d 119) (if_pos h))
theorem f_119_35 : fetch 119 35 = some (35, .iload_n 2, 1, [2], 0) := (fm_119 35).trans rfl
theorem u_119_35 {S : Scr} {d : Nat} {a0 a1 : AV} {st : List AV} {sh : Shp} {I : IM} {R : RM} {x : Int} : ev S d 119 35 [a0, a1, .inl x] st (sh, I, R) = ev S d 119 36 [a0, a1, .inl x] (.inl x :: st) (sh, I, R) := (ev_eq f_119_35).trans rfl
theorem f_119_36 : fetch 119 36 = some (36, .aload_n 0, 1, [0], 0) := (fm_119 36).trans rfl
theorem u_119_36 {S : Scr} {d : Nat} {a1 a2 : AV} {st : List AV} {sh : Shp} {I : IM} {R : RM} {x : Nat} : ev S d 119 36 [.inr (.inl x), a1, a2] st (sh, I, R) = ev S d 119 37 [.inr (.inl x), a1, a2] (.inr (.inl x) :: st) (sh, I, R) := (ev_eq f_119_36).trans rfl
theorem f_119_37 : fetch 119 37 = some (37, .getfield 52, 3, [8, 7, 1, 62], 0) := (fm_119 37).trans rfl
theorem u_119_37 {S : Scr} {d : Nat} {a0 a1 a2 : AV} {st : List AV} {sh : Shp} {I : IM} {R : RM} {k : Nat} (h : tg sh k = 8) : ev S d 119 37 [a0, a1, a2] (.inr (.inl k) :: st) (sh, I, R) = ev S d 119 40 [a0, a1, a2] (rv (R k 7) :: st) (sh, I, R) := (ev_eq f_119_37).trans (congrArg (fin S d 119) (if_pos h))
theorem f_119_40 : fetch 119 40 = some (40, .aload_n 0, 1, [0], 0) := (fm_119 40).trans rfl
theorem u_119_40 {S : Scr} {d : Nat} {a1 a2 : AV} {st : List AV} {sh : Shp} {I : IM} {R : RM} {x : Nat} : ev S d 119 40 [.inr (.inl x), a1, a2] st (sh, I, R) = ev S d 119 41 [.inr (.inl x), a1, a2] (.inr (.inl x) :: st) (sh, I, R) := (ev_eq f_119_40).trans rfl
theorem f_119_41 : fetch 119 41 = some (41, .getfield 24, 3, [8, 2, 1, 57], 0) := (fm_119 41).trans rfl
theorem u_119_41 {S : Scr} {d : Nat} {a0 a1 a2 : AV} {st : List AV} {sh : Shp} {I : IM} {R : RM} {k : Nat} (h : tg sh k = 8) : ev S d 119 41 [a0, a1, a2] (.inr (.inl k) :: st) (sh, I, R) = ev S d 119 44 [a0, a1, a2] (rv (R k 2) :: st) (sh, I, R) := (ev_eq f_119_41).trans (congrArg (fin S d 119) (if_pos h))
theorem f_119_44 : fetch 119 44 = some (44, .getfield 268, 3, [6, 2, 1, 78], 0) := (fm_119 44).trans rfl
theorem u_119_44 {S : Scr} {d : Nat} {a0 a1 a2 : AV} {st : List AV} {sh : Shp} {I : IM} {R : RM} {k : Nat} (h : tg sh k = 6) : ev S d 119 44 [a0, a1, a2] (.inr (.inl k) :: st) (sh, I, R) = ev S d 119 47 [a0, a1, a2] (rv (R k 2) :: st) (sh, I, R) := (ev_eq f_119_44).trans (congrArg (fin S d 119) (if_pos h))
theorem f_119_47 : fetch 119 47 = some (47, .aload_n 1, 1, [1], 0) := (fm_119 47).trans rfl
theorem u_119_47 {S : Scr} {d : Nat} {a0 a2 : AV} {st : List AV} {sh : Shp} {I : IM} {R : RM} {x : Nat} : ev S d 119 47 [a0, .inr (.inl x), a2] st (sh, I, R) = ev S d 119 48 [a0, .inr (.inl x), a2] (.inr (.inl x) :: st) (sh, I, R) := (ev_eq f_119_47).trans rfl
theorem u_119_47n {S : Scr} {d : Nat} {a0 a2 : AV} {st : List AV} {sh : Shp} {I : IM} {R : RM} : ev S d 119 47 [a0, .inr (.inr 0), a2] st (sh, I, R) = ev S d 119 48 [a0, .inr (.inr 0), a2] (.inr (.inr 0) :: st) (sh, I, R) := (ev_eq f_119_47).trans rfl
theorem f_119_48 : fetch 119 48 = some (48, .getfield 136, 3, [3, 1, 1, 67], 0) := (fm_119 48).trans rfl
theorem u_119_48 {S : Scr} {d : Nat} {a0 a1 a2 : AV} {st : List AV} {sh : Shp} {I : IM} {R : RM} {k : Nat} (h : tg sh k = 3) : ev S d 119 48 [a0, a1, a2] (.inr (.inl k) :: st) (sh, I, R) = ev S d 119 51 [a0, a1, a2] (rv (R k 1) :: st) (sh, I, R) := (ev_eq f_119_48).trans (congrArg (fin S d 119) (if_pos h))
theorem f_119_51 : fetch 119 51 = some (51, .iload_n 2, 1, [2], 0) := (fm_119 51).trans rfl
theorem u_119_51 {S : Scr} {d : Nat} {a0 a1 : AV} {st : List AV} {sh : Shp} {I : IM} {R : RM} {x : Int} : ev S d 119 51 [a0, a1, .inl x] st (sh, I, R) = ev S d 119 52 [a0, a1, .inl x] (.inl x :: st) (sh, I, R) := (ev_eq f_119_51).trans rfl
theorem f_119_52 : fetch 119 52 = some (52, .iaload, 1, [], 0) := (fm_119 52).trans rfl
theorem u_119_52 {S : Scr} {d : Nat} {a0 a1 a2 : AV} {st : List AV} {sh : Shp} {I : IM} {R : RM} {k : Nat} {i : Int} (h : tg sh k = 100) (h0 : 0 ≤ i) (h1 : i < ln sh k) : ev S d 119 52 [a0, a1, a2] (.inl i :: .inr (.inl k) :: st) (sh, I, R) = ev S d 119 53 [a0, a1, a2] (.inl (I k i) :: st) (sh, I, R) := (ev_eq f_119_52).trans (congrArg (fin S d 119) (if_pos ⟨h, h0, h1⟩))
theorem f_119_53 : fetch 119 53 = some (53, .iaload, 1, [], 0) := (fm_119 53).trans rfl
theorem u_119_53 {S : Scr} {d : Nat} {a0 a1 a2 : AV} {st : List AV} {sh : Shp} {I : IM} {R : RM} {k : Nat} {i : Int} (h : tg sh k = 100) (h0 : 0 ≤ i) (h1 : i < ln sh k) : ev S d 119 53 [a0, a1, a2] (.inl i :: .inr (.inl k) :: st) (sh, I, R) = ev S d 119 54 [a0, a1, a2] (.inl (I k i) :: st) (sh, I, R) := (ev_eq f_119_53).trans (congrArg (fin S d 119) (if_pos ⟨h, h0, h1⟩))
theorem f_119_54 : fetch 119 54 = some (54, .iaload, 1, [], 0) := (fm_119 54).trans rfl
theorem u_119_54 {S : Scr} {d : Nat} {a0 a1 a2 : AV} {st : List AV} {sh : Shp} {I : IM} {R : RM} {k : Nat} {i : Int} (h : tg sh k = 100) (h0 : 0 ≤ i) (h1 : i < ln sh k) : ev S d 119 54 [a0, a1, a2] (.inl i :: .inr (.inl k) :: st) (sh, I, R) = ev S d 119 55 [a0, a1, a2] (.inl (I k i) :: st) (sh, I, R) := (ev_eq f_119_54).trans (congrArg (fin S d 119) (if_pos ⟨h, h0, h1⟩))
theorem f_119_55 : fetch 119 55 = some (55, .iastore, 1, [], 0) := (fm_119 55).trans rfl
theorem u_119_55 {S : Scr} {d : Nat} {a0 a1 a2 : AV} {st : List AV} {sh : Shp} {I : IM} {R : RM} {k : Nat} {i x : Int} (h : tg sh k = 100) (h0 : 0 ≤ i) (h1 : i < ln sh k) : ev S d 119 55 [a0, a1, a2] (.inl x :: .inl i :: .inr (.inl k) :: st) (sh, I, R) = ev S d 119 56 [a0, a1, a2] st (sh, up I k i x, R) := (ev_eq f_119_55).trans (congrArg (fin S d 119) (if_pos ⟨h, h0, h1⟩))
theorem f_119_56 : fetch 119 56 = some (56, .iinc 2 1, 3, [2], 1) := (fm_119 56).trans rfl
theorem u_119_56 {S : Scr} {d : Nat} {a0 a1 : AV} {st : List AV} {sh : Shp} {I : IM} {R : RM} {x : Int} : ev S d 119 56 [a0, a1, .inl x] st (sh, I, R) = ev S d 119 59 [a0, a1, .inl (wr (x + 1))] st (sh, I, R) := (ev_eq f_119_56).trans rfl
theorem f_119_59 : fetch 119 59 = some (59, .goto (-52), 3, [7], 0) := (fm_119 59).trans rfl
theorem u_119_59 {S : Scr} {d : Nat} {a0 a1 a2 : AV} {st : List AV} {sh : Shp} {I : IM} {R : RM} : ev S d 119 59 [a0, a1, a2] st (sh, I, R) = ev S d 119 7 [a0, a1, a2] st (sh, I, R) := (ev_eq f_119_59).trans rfl
theorem f_119_62 : fetch 119 62 = some (62, .return_, 1, [], 0) := (fm_119 62).trans rfl
theorem u_119_62 {S : Scr} {d : Nat} {a0 a1 a2 : AV} {sh : Shp} {I : IM} {R : RM} : ev S d 119 62 [a0, a1, a2] [] (sh, I, R) = some (none, (sh, I, R)) := (ev_eq f_119_62).trans rfl
theorem c_120 {d : Nat} {a0 a1 : AV} {M : Mem} : cl (d + 1) 120 [a0, a1] M = ev S0 d 120 0 [a0, a1] [] M := (cl_eq (as := [a0, a1]) (show 2 ≤ maxOf 120 by decide +kernel)).trans rfl
theorem mt_120 : MT[120]? = some m_120 := rfl
theorem fm_120 (pc : Nat) : fetch 120 pc = lk m_120.2.2.2.2.2 pc := by
  unfold fetch
  rw [mt_120]
theorem f_120_0 : fetch 120 0 = some (0, .iload_n 1, 1, [1], 0) := (fm_120 0).trans rfl
theorem u_120_0 {S : Scr} {d : Nat} {a0 : AV} {st : List AV} {sh : Shp} {I : IM} {R : RM} {x : Int} : ev S d 120 0 [a0, .inl x] st (sh, I, R) = ev S d 120 1 [a0, .inl x] (.inl x :: st) (sh, I, R) := (ev_eq f_120_0).trans rfl
theorem f_120_1 : fetch 120 1 = some (1, .iconst (-1), 1, [], (-1)) := (fm_120 1).trans rfl
theorem u_120_1 {S : Scr} {d : Nat} {a0 a1 : AV} {st : List AV} {sh : Shp} {I : IM} {R : RM} : ev S d 120 1 [a0, a1] st (sh, I, R) = ev S d 120 2 [a0, a1] (.inl (-1) :: st) (sh, I, R) := (ev_eq f_120_1).trans rfl
theorem f_120_2 : fetch 120 2 = some (2, .if_icmp .eq 14, 3, [16], 0) := (fm_120 2).trans rfl
theorem u_120_2 {S : Scr} {d : Nat} {a0 a1 : AV} {st : List AV} {sh : Shp} {I : IM} {R : RM} {x y : Int} : ev S d 120 2 [a0, a1] (.inl y :: .inl x :: st) (sh, I, R) = if x = y then ev S d 120 16 [a0, a1] st (sh, I, R) else ev S d 120 5 [a0, a1] st (sh, I, R) := (ev_eq f_120_2).trans fin_icmp_eq
theorem f_120_5 : fetch 120 5 = some (5, .aload_n 0, 1, [0], 0) := (fm_120 5).trans rfl
theorem u_120_5 {S : Scr} {d : Nat} {a1 : AV} {st : List AV} {sh : Shp} {I : IM} {R : RM} {x : Nat} : ev S d 120 5 [.inr (.inl x), a1] st (sh, I, R) = ev S d 120 6 [.inr (.inl x), a1] (.inr (.inl x) :: st) (sh, I, R) := (ev_eq f_120_5).trans rfl
theorem f_120_6 : fetch 120 6 = some (6, .getfield 10, 3, [8, 0, 1, 55], 0) := (fm_120 6).trans rfl
theorem u_120_6 {S : Scr} {d : Nat} {a0 a1 : AV} {st : List AV} {sh : Shp} {I : IM} {R : RM} {k : Nat} (h : tg sh k = 8) : ev S d 120 6 [a0, a1] (.inr (.inl k) :: st) (sh, I, R) = ev S d 120 9 [a0, a1] (rv (R k 0) :: st) (sh, I, R) := (ev_eq f_120_6).trans (congrArg (fin S d 120) (if_pos h))
theorem f_120_9 : fetch 120 9 = some (9, .iload_n 1, 1, [1], 0) := (fm_120 9).trans rfl
theorem u_120_9 {S : Scr} {d : Nat} {a0 : AV} {st : List AV} {sh : Shp} {I : IM} {R : RM} {x : Int} : ev S d 120 9 [a0, .inl x] st (sh, I, R) = ev S d 120 10 [a0, .inl x] (.inl x :: st) (sh, I, R) := (ev_eq f_120_9).trans rfl
theorem f_120_10 : fetch 120 10 = some (10, .invokevirtual 102, 3, [68, 1, 88], 0) := (fm_120 10).trans rfl
theorem u_120_10 {S : Scr} {d : Nat} {a0 a1 : AV} {st : List AV} {sh : Shp} {I : IM} {R : RM} {x0 : Int} {k : Nat} (h : tg sh k = 7) (hr : st.length ≤ 8) : ev S d 120 10 [a0, a1] (.inl x0 :: .inr (.inl k) :: st) (sh, I, R) = bnd (cl d 68 [.inr (.inl k), .inl x0] (sh, I, R)) (fun v M => ev S d 120 13 [a0, a1] (psh v st) M) := (ev_eq f_120_10).trans (congrArg (fin S d 120) (if_pos ⟨h, rfl, hr⟩))
theorem f_120_13 : fetch 120 13 = some (13, .ifnull 7, 3, [20], 0) := (fm_120 13).trans rfl
theorem u_120_13 {S : Scr} {d : Nat} {a0 a1 : AV} {st : List AV} {sh : Shp} {I : IM} {R : RM} {x : Nat} : ev S d 120 13 [a0, a1] (.inr (.inl x) :: st) (sh, I, R) = ev S d 120 16 [a0, a1] st (sh, I, R) := (ev_eq f_120_13).trans rfl
theorem u_120_13n {S : Scr} {d : Nat} {a0 a1 : AV} {st : List AV} {sh : Shp} {I : IM} {R : RM} : ev S d 120 13 [a0, a1] (.inr (.inr 0) :: st) (sh, I, R) = ev S d 120 20 [a0, a1] st (sh, I, R) := (ev_eq f_120_13).trans rfl
theorem f_120_16 : fetch 120 16 = some (16, .iconst 1, 1, [], 1) := (fm_120 16).trans rfl
theorem u_120_16 {S : Scr} {d : Nat} {a0 a1 : AV} {st : List AV} {sh : Shp} {I : IM} {R : RM} : ev S d 120 16 [a0, a1] st (sh, I, R) = ev S d 120 17 [a0, a1] (.inl 1 :: st) (sh, I, R) := (ev_eq f_120_16).trans rfl
theorem f_120_17 : fetch 120 17 = some (17, .goto 4, 3, [21], 0) := (fm_120 17).trans rfl
theorem u_120_17 {S : Scr} {d : Nat} {a0 a1 : AV} {st : List AV} {sh : Shp} {I : IM} {R : RM} : ev S d 120 17 [a0, a1] st (sh, I, R) = ev S d 120 21 [a0, a1] st (sh, I, R) := (ev_eq f_120_17).trans rfl
theorem f_120_20 : fetch 120 20 = some (20, .iconst 0, 1, [], 0) := (fm_120 20).trans rfl
theorem u_120_20 {S : Scr} {d : Nat} {a0 a1 : AV} {st : List AV} {sh : Shp} {I : IM} {R : RM} : ev S d 120 20 [a0, a1] st (sh, I, R) = ev S d 120 21 [a0, a1] (.inl 0 :: st) (sh, I, R) := (ev_eq f_120_20).trans rfl
theorem f_120_21 : fetch 120 21 = some (21, .ireturn, 1, [1], 0) := (fm_120 21).trans rfl
theorem u_120_21 {S : Scr} {d : Nat} {a0 a1 : AV} {sh : Shp} {I : IM} {R : RM} {x : Int} (h : x = 0 ∨ x = 1) : ev S d 120 21 [a0, a1] [.inl x] (sh, I, R) = some (some (.inl x), (sh, I, R)) := (ev_eq f_120_21).trans (fin_iret1 h)
theorem c_121 {d : Nat} {a0 : AV} {M : Mem} : cl (d + 1) 121 [a0] M = ev S0 d 121 0 [a0] [] M := (cl_eq (as := [a0]) (show 1 ≤ maxOf 121 by decide +kernel)).trans rfl
theorem mt_121 : MT[121]? = some m_121 := rfl
theorem fm_121 (pc : Nat) : fetch 121 pc = lk m_121.2.2.2.2.2 pc := by
  unfold fetch
  rw [mt_121]
theorem f_121_0 : fetch 121 0 = some (0, .iload_n 0, 1, [0], 0) := (fm_121 0).trans rfl
theorem u_121_0 {S : Scr} {d : Nat} {st : List AV} {sh : Shp} {I : IM} {R : RM} {x : Int} : ev S d 121 0 [.inl x] st (sh, I, R) = ev S d 121 1 [.inl x] (.inl x :: st) (sh, I, R) := (ev_eq f_121_0).trans rfl
theorem f_121_1 : fetch 121 1 = some (1, .ifCond .lt 12, 3, [13], 0) := (fm_121 1).trans rfl
theorem u_121_1 {S : Scr} {d : Nat} {a0 : AV} {st : List AV} {sh : Shp} {I : IM} {R : RM} {x : Int} : ev S d 121 1 [a0] (.inl x :: st) (sh, I, R) = if x < 0 then ev S d 121 13 [a0] st (sh, I, R) else ev S d 121 4 [a0] st (sh, I, R) := (ev_eq f_121_1).trans fin_if_lt
theorem f_121_4 : fetch 121 4 = some (4, .iload_n 0, 1, [0], 0) := (fm_121 4).trans rfl
theorem u_121_4 {S : Scr} {d : Nat} {st : List AV} {sh : Shp} {I : IM} {R : RM} {x : Int} : ev S d 121 4 [.inl x] st (sh, I, R) = ev S d 121 5 [.inl x] (.inl x :: st) (sh, I, R) := (ev_eq f_121_4).trans rfl
theorem f_121_5 : fetch 121 5 = some (5, .iconst 4, 1, [], 4) := (fm_121 5).trans rfl
theorem u_121_5 {S : Scr} {d : Nat} {a0 : AV} {st : List AV} {sh : Shp} {I : IM} {R : RM} : ev S d 121 5 [a0] st (sh, I, R) = ev S d 121 6 [a0] (.inl 4 :: st) (sh, I, R) := (ev_eq f_121_5).trans rfl
theorem f_121_6 : fetch 121 6 = some (6, .if_icmp .ge 7, 3, [13], 0) := (fm_121 6).trans rfl
theorem u_121_6 {S : Scr} {d : Nat} {a0 : AV} {st : List AV} {sh : Shp} {I : IM} {R : RM} {x y : Int} : ev S d 121 6 [a0] (.inl y :: .inl x :: st) (sh, I, R) = if y ≤ x then ev S d 121 13 [a0] st (sh, I, R) else ev S d 121 9 [a0] st (sh, I, R) := (ev_eq f_121_6).trans fin_icmp_ge
theorem f_121_9 : fetch 121 9 = some (9, .iconst 1, 1, [], 1) := (fm_121 9).trans rfl
theorem u_121_9 {S : Scr} {d : Nat} {a0 : AV} {st : List AV} {sh : Shp} {I : IM} {R : RM} : ev S d 121 9 [a0] st (sh, I, R) = ev S d 121 10 [a0] (.inl 1 :: st) (sh, I, R) := (ev_eq f_121_9).trans rfl
theorem f_121_10 : fetch 121 10 = some (10, .goto 4, 3, [14], 0) := (fm_121 10).trans rfl
theorem u_121_10 {S : Scr} {d : Nat} {a0 : AV} {st : List AV} {sh : Shp} {I : IM} {R : RM} : ev S d 121 10 [a0] st (sh, I, R) = ev S d 121 14 [a0] st (sh, I, R) := (ev_eq f_121_10).trans rfl
theorem f_121_13 : fetch 121 13 = some (13, .iconst 0, 1, [], 0) := (fm_121 13).trans rfl
theorem u_121_13 {S : Scr} {d : Nat} {a0 : AV} {st : List AV} {sh : Shp} {I : IM} {R : RM} : ev S d 121 13 [a0] st (sh, I, R) = ev S d 121 14 [a0] (.inl 0 :: st) (sh, I, R) := (ev_eq f_121_13).trans rfl
theorem f_121_14 : fetch 121 14 = some (14, .ireturn, 1, [1], 0) := (fm_121 14).trans rfl
theorem u_121_14 {S : Scr} {d : Nat} {a0 : AV} {sh : Shp} {I : IM} {R : RM} {x : Int} (h : x = 0 ∨ x = 1) : ev S d 121 14 [a0] [.inl x] (sh, I, R) = some (some (.inl x), (sh, I, R)) := (ev_eq f_121_14).trans (fin_iret1 h)
theorem c_122 {d : Nat} {a0 : AV} {M : Mem} : cl (d + 1) 122 [a0] M = ev S0 d 122 0 [a0] [] M := (cl_eq (as := [a0]) (show 1 ≤ maxOf 122 by decide +kernel)).trans rfl
theorem mt_122 : MT[122]? = some m_122 := rfl
theorem fm_122 (pc : Nat) : fetch 122 pc = lk m_122.2.2.2.2.2 pc := by
  unfold fetch
  rw [mt_122]
theorem f_122_0 : fetch 122 0 = some (0, .iload_n 0, 1, [0], 0) := (fm_122 0).trans rfl
theorem u_122_0 {S : Scr} {d : Nat} {st : List AV} {sh : Shp} {I : IM} {R : RM} {x : Int} : ev S d 122 0 [.inl x] st (sh, I, R) = ev S d 122 1 [.inl x] (.inl x :: st) (sh, I, R) := (ev_eq f_122_0).trans rfl
theorem f_122_1 : fetch 122 1 = some (1, .ifCond .lt 13, 3, [14], 0) := (fm_122 1).trans rfl
theorem u_122_1 {S : Scr} {d : Nat} {a0 : AV} {st : List AV} {sh : Shp} {I : IM} {R : RM} {x : Int} : ev S d 122 1 [a0] (.inl x :: st) (sh, I, R) = if x < 0 then ev S d 122 14 [a0] st (sh, I, R) else ev S d 122 4 [a0] st (sh, I, R) := (ev_eq f_122_1).trans fin_if_lt
theorem f_122_4 : fetch 122 4 = some (4, .iload_n 0, 1, [0], 0) := (fm_122 4).trans rfl
theorem u_122_4 {S : Scr} {d : Nat} {st : List AV} {sh : Shp} {I : IM} {R : RM} {x : Int} : ev S d 122 4 [.inl x] st (sh, I, R) = ev S d 122 5 [.inl x] (.inl x :: st) (sh, I, R) := (ev_eq f_122_4).trans rfl
theorem f_122_5 : fetch 122 5 = some (5, .bipush 8, 2, [], 8) := (fm_122 5).trans rfl
theorem u_122_5 {S : Scr} {d : Nat} {a0 : AV} {st : List AV} {sh : Shp} {I : IM} {R : RM} : ev S d 122 5 [a0] st (sh, I, R) = ev S d 122 7 [a0] (.inl 8 :: st) (sh, I, R) := (ev_eq f_122_5).trans rfl
theorem f_122_7 : fetch 122 7 = some (7, .if_icmp .ge 7, 3, [14], 0) := (fm_122 7).trans rfl
theorem u_122_7 {S : Scr} {d : Nat} {a0 : AV} {st : List AV} {sh : Shp} {I : IM} {R : RM} {x y : Int} : ev S d 122 7 [a0] (.inl y :: .inl x :: st) (sh, I, R) = if y ≤ x then ev S d 122 14 [a0] st (sh, I, R) else ev S d 122 10 [a0] st (sh, I, R) := (ev_eq f_122_7).trans fin_icmp_ge
theorem f_122_10 : fetch 122 10 = some (10, .iconst 1, 1, [], 1) := (fm_122 10).trans rfl
theorem u_122_10 {S : Scr} {d : Nat} {a0 : AV} {st : List AV} {sh : Shp} {I : IM} {R : RM} : ev S d 122 10 [a0] st (sh, I, R) = ev S d 122 11 [a0] (.inl 1 :: st) (sh, I, R) := (ev_eq f_122_10).trans rfl
theorem f_122_11 : fetch 122 11 = some (11, .goto 4, 3, [15], 0) := (fm_122 11).trans rfl
theorem u_122_11 {S : Scr} {d : Nat} {a0 : AV} {st : List AV} {sh : Shp} {I : IM} {R : RM} : ev S d 122 11 [a0] st (sh, I, R) = ev S d 122 15 [a0] st (sh, I, R) := (ev_eq f_122_11).trans rfl
theorem f_122_14 : fetch 122 14 = some (14, .iconst 0, 1, [], 0) := (fm_122 14).trans rfl
theorem u_122_14 {S : Scr} {d : Nat} {a0 : AV} {st : List AV} {sh : Shp} {I : IM} {R : RM} : ev S d 122 14 [a0] st (sh, I, R) = ev S d 122 15 [a0] (.inl 0 :: st) (sh, I, R) := (ev_eq f_122_14).trans rfl
theorem f_122_15 : fetch 122 15 = some (15, .ireturn, 1, [1], 0) := (fm_122 15).trans rfl
theorem u_122_15 {S : Scr} {d : Nat} {a0 : AV} {sh : Shp} {I : IM} {R : RM} {x : Int} (h : x = 0 ∨ x = 1) : ev S d 122 15 [a0] [.inl x] (sh, I, R) = some (some (.inl x), (sh, I, R)) := (ev_eq f_122_15).trans (fin_iret1 h)
theorem c_123 {d : Nat} {a0 : AV} {M : Mem} : cl (d + 1) 123 [a0] M = ev S0 d 123 0 [a0] [] M := (cl_eq (as := [a0]) (show 1 ≤ maxOf 123 by decide +kernel)).trans rfl
theorem mt_123 : MT[123]? = some m_123 := rfl
theorem fm_123 (pc : Nat) : fetch 123 pc = lk m_123.2.2.2.2.2 pc := by
  unfold fetch
  rw [mt_123]
theorem f_123_0 : fetch 123 0 = some (0, .iload_n 0, 1, [0], 0) := (fm_123 0).trans rfl
theorem u_123_0 {S : Scr} {d : Nat} {st : List AV} {sh : Shp} {I : IM} {R : RM} {x : Int} : ev S d 123 0 [.inl x] st (sh, I, R) = ev S d 123 1 [.inl x] (.inl x :: st) (sh, I, R) := (ev_eq f_123_0).trans rfl
theorem f_123_1 : fetch 123 1 = some (1, .bipush 97, 2, [], 97) := (fm_123 1).trans rfl
theorem u_123_1 {S : Scr} {d : Nat} {a0 : AV} {st : List AV} {sh : Shp} {I : IM} {R : RM} : ev S d 123 1 [a0] st (sh, I, R) = ev S d 123 3 [a0] (.inl 97 :: st) (sh, I, R) := (ev_eq f_123_1).trans rfl
theorem f_123_3 : fetch 123 3 = some (3, .if_icmp .lt 13, 3, [16], 0) := (fm_123 3).trans rfl
theorem u_123_3 {S : Scr} {d : Nat} {a0 : AV} {st : List AV} {sh : Shp} {I : IM} {R : RM} {x y : Int} : ev S d 123 3 [a0] (.inl y :: .inl x :: st) (sh, I, R) = if x < y then ev S d 123 16 [a0] st (sh, I, R) else ev S d 123 6 [a0] st (sh, I, R) := (ev_eq f_123_3).trans fin_icmp_lt
theorem f_123_6 : fetch 123 6 = some (6, .iload_n 0, 1, [0], 0) := (fm_123 6).trans rfl
theorem u_123_6 {S : Scr} {d : Nat} {st : List AV} {sh : Shp} {I : IM} {R : RM} {x : Int} : ev S d 123 6 [.inl x] st (sh, I, R) = ev S d 123 7 [.inl x] (.inl x :: st) (sh, I, R) := (ev_eq f_123_6).trans rfl
theorem f_123_7 : fetch 123 7 = some (7, .bipush 104, 2, [], 104) := (fm_123 7).trans rfl
theorem u_123_7 {S : Scr} {d : Nat} {a0 : AV} {st : List AV} {sh : Shp} {I : IM} {R : RM} : ev S d 123 7 [a0] st (sh, I, R) = ev S d 123 9 [a0] (.inl 104 :: st) (sh, I, R) := (ev_eq f_123_7).trans rfl
theorem f_123_9 : fetch 123 9 = some (9, .if_icmp .gt 7, 3, [16], 0) := (fm_123 9).trans rfl
theorem u_123_9 {S : Scr} {d : Nat} {a0 : AV} {st : List AV} {sh : Shp} {I : IM} {R : RM} {x y : Int} : ev S d 123 9 [a0] (.inl y :: .inl x :: st) (sh, I, R) = if y < x then ev S d 123 16 [a0] st (sh, I, R) else ev S d 123 12 [a0] st (sh, I, R) := (ev_eq f_123_9).trans fin_icmp_gt
theorem f_123_12 : fetch 123 12 = some (12, .iconst 1, 1, [], 1) := (fm_123 12).trans rfl
theorem u_123_12 {S : Scr} {d : Nat} {a0 : AV} {st : List AV} {sh : Shp} {I : IM} {R : RM} : ev S d 123 12 [a0] st (sh, I, R) = ev S d 123 13 [a0] (.inl 1 :: st) (sh, I, R) := (ev_eq f_123_12).trans rfl
theorem f_123_13 : fetch 123 13 = some (13, .goto 4, 3, [17], 0) := (fm_123 13).trans rfl
theorem u_123_13 {S : Scr} {d : Nat} {a0 : AV} {st : List AV} {sh : Shp} {I : IM} {R : RM} : ev S d 123 13 [a0] st (sh, I, R) = ev S d 123 17 [a0] st (sh, I, R) := (ev_eq f_123_13).trans rfl
theorem f_123_16 : fetch 123 16 = some (16, .iconst 0, 1, [], 0) := (fm_123 16).trans rfl
theorem u_123_16 {S : Scr} {d : Nat} {a0 : AV} {st : List AV} {sh : Shp} {I : IM} {R : RM} : ev S d 123 16 [a0] st (sh, I, R) = ev S d 123 17 [a0] (.inl 0 :: st) (sh, I, R) := (ev_eq f_123_16).trans rfl
theorem f_123_17 : fetch 123 17 = some (17, .ireturn, 1, [1], 0) := (fm_123 17).trans rfl
theorem u_123_17 {S : Scr} {d : Nat} {a0 : AV} {sh : Shp} {I : IM} {R : RM} {x : Int} (h : x = 0 ∨ x = 1) : ev S d 123 17 [a0] [.inl x] (sh, I, R) = some (some (.inl x), (sh, I, R)) := (ev_eq f_123_17).trans (fin_iret1 h)
theorem c_124 {d : Nat} {a0 : AV} {M : Mem} : cl (d + 1) 124 [a0] M = ev S0 d 124 0 [a0] [] M := (cl_eq (as := [a0]) (show 1 ≤ maxOf 124 by decide +kernel)).trans rfl
theorem mt_124 : MT[124]? = some m_124 := rfl
theorem fm_124 (pc : Nat) : fetch 124 pc = lk m_124.2.2.2.2.2 pc := by
  unfold fetch
  rw [mt_124]
theorem f_124_0 : fetch 124 0 = some (0, .iload_n 0, 1, [0], 0) := (fm_124 0).trans rfl
theorem u_124_0 {S : Scr} {d : Nat} {st : List AV} {sh : Shp} {I : IM} {R : RM} {x : Int} : ev S d 124 0 [.inl x] st (sh, I, R) = ev S d 124 1 [.inl x] (.inl x :: st) (sh, I, R) := (ev_eq f_124_0).trans rfl
theorem f_124_1 : fetch 124 1 = some (1, .bipush (-99), 2, [], (-99)) := (fm_124 1).trans rfl
theorem u_124_1 {S : Scr} {d : Nat} {a0 : AV} {st : List AV} {sh : Shp} {I : IM} {R : RM} : ev S d 124 1 [a0] st (sh, I, R) = ev S d 124 3 [a0] (.inl (-99) :: st) (sh, I, R) := (ev_eq f_124_1).trans rfl
theorem f_124_3 : fetch 124 3 = some (3, .if_icmp .lt 13, 3, [16], 0) := (fm_124 3).trans rfl
theorem u_124_3 {S : Scr} {d : Nat} {a0 : AV} {st : List AV} {sh : Shp} {I : IM} {R : RM} {x y : Int} : ev S d 124 3 [a0] (.inl y :: .inl x :: st) (sh, I, R) = if x < y then ev S d 124 16 [a0] st (sh, I, R) else ev S d 124 6 [a0] st (sh, I, R) := (ev_eq f_124_3).trans fin_icmp_lt
theorem f_124_6 : fetch 124 6 = some (6, .iload_n 0, 1, [0], 0) := (fm_124 6).trans rfl
theorem u_124_6 {S : Scr} {d : Nat} {st : List AV} {sh : Shp} {I : IM} {R : RM} {x : Int} : ev S d 124 6 [.inl x] st (sh, I, R) = ev S d 124 7 [.inl x] (.inl x :: st) (sh, I, R) := (ev_eq f_124_6).trans rfl
theorem f_124_7 : fetch 124 7 = some (7, .bipush 99, 2, [], 99) := (fm_124 7).trans rfl
theorem u_124_7 {S : Scr} {d : Nat} {a0 : AV} {st : List AV} {sh : Shp} {I : IM} {R : RM} : ev S d 124 7 [a0] st (sh, I, R) = ev S d 124 9 [a0] (.inl 99 :: st) (sh, I, R) := (ev_eq f_124_7).trans rfl
theorem f_124_9 : fetch 124 9 = some (9, .if_icmp .gt 7, 3, [16], 0) := (fm_124 9).trans rfl
theorem u_124_9 {S : Scr} {d : Nat} {a0 : AV} {st : List AV} {sh : Shp} {I : IM} {R : RM} {x y : Int} : ev S d 124 9 [a0] (.inl y :: .inl x :: st) (sh, I, R) = if y < x then ev S d 124 16 [a0] st (sh, I, R) else ev S d 124 12 [a0] st (sh, I, R) := (ev_eq f_124_9).trans fin_icmp_gt
theorem f_124_12 : fetch 124 12 = some (12, .iconst 1, 1, [], 1) := (fm_124 12).trans rfl
theorem u_124_12 {S : Scr} {d : Nat} {a0 : AV} {st : List AV} {sh : Shp} {I : IM} {R : RM} : ev S d 124 12 [a0] st (sh, I, R) = ev S d 124 13 [a0] (.inl 1 :: st) (sh, I, R) := (ev_eq f_124_12).trans rfl
theorem f_124_13 : fetch 124 13 = some (13, .goto 4, 3, [17], 0) := (fm_124 13).trans rfl
theorem u_124_13 {S : Scr} {d : Nat} {a0 : AV} {st : List AV} {sh : Shp} {I : IM} {R : RM} : ev S d 124 13 [a0] st (sh, I, R) = ev S d 124 17 [a0] st (sh, I, R) := (ev_eq f_124_13).trans rfl
theorem f_124_16 : fetch 124 16 = some (16, .iconst 0, 1, [], 0) := (fm_124 16).trans rfl
theorem u_124_16 {S : Scr} {d : Nat} {a0 : AV} {st : List AV} {sh : Shp} {I : IM} {R : RM} : ev S d 124 16 [a0] st (sh, I, R) = ev S d 124 17 [a0] (.inl 0 :: st) (sh, I, R) := (ev_eq f_124_16).trans rfl
theorem f_124_17 : fetch 124 17 = some (17, .ireturn, 1, [1], 0) := (fm_124 17).trans rfl
theorem u_124_17 {S : Scr} {d : Nat} {a0 : AV} {sh : Shp} {I : IM} {R : RM} {x : Int} (h : x = 0 ∨ x = 1) : ev S d 124 17 [a0] [.inl x] (sh, I, R) = some (some (.inl x), (sh, I, R)) := (ev_eq f_124_17).trans (fin_iret1 h)
theorem c_125 {d : Nat} {a0 : AV} {M : Mem} : cl (d + 1) 125 [a0] M = ev S0 d 125 0 [a0] [] M := (cl_eq (as := [a0]) (show 1 ≤ maxOf 125 by decide +kernel)).trans rfl
theorem mt_125 : MT[125]? = some m_125 := rfl
theorem fm_125 (pc : Nat) : fetch 125 pc = lk m_125.2.2.2.2.2 pc := by
  unfold fetch
  rw [mt_125]
theorem f_125_0 : fetch 125 0 = some (0, .iload_n 0, 1, [0], 0) := (fm_125 0).trans rfl
theorem u_125_0 {S : Scr} {d : Nat} {st : List AV} {sh : Shp} {I : IM} {R : RM} {x : Int} : ev S d 125 0 [.inl x] st (sh, I, R) = ev S d 125 1 [.inl x] (.inl x :: st) (sh, I, R) := (ev_eq f_125_0).trans rfl
theorem f_125_1 : fetch 125 1 = some (1, .iconst 1, 1, [], 1) := (fm_125 1).trans rfl
theorem u_125_1 {S : Scr} {d : Nat} {a0 : AV} {st : List AV} {sh : Shp} {I : IM} {R : RM} : ev S d 125 1 [a0] st (sh, I, R) = ev S d 125 2 [a0] (.inl 1 :: st) (sh, I, R) := (ev_eq f_125_1).trans rfl
theorem f_125_2 : fetch 125 2 = some (2, .if_icmp .lt 12, 3, [14], 0) := (fm_125 2).trans rfl
theorem u_125_2 {S : Scr} {d : Nat} {a0 : AV} {st : List AV} {sh : Shp} {I : IM} {R : RM} {x y : Int} : ev S d 125 2 [a0] (.inl y :: .inl x :: st) (sh, I, R) = if x < y then ev S d 125 14 [a0] st (sh, I, R) else ev S d 125 5 [a0] st (sh, I, R) := (ev_eq f_125_2).trans fin_icmp_lt
theorem f_125_5 : fetch 125 5 = some (5, .iload_n 0, 1, [0], 0) := (fm_125 5).trans rfl
theorem u_125_5 {S : Scr} {d : Nat} {st : List AV} {sh : Shp} {I : IM} {R : RM} {x : Int} : ev S d 125 5 [.inl x] st (sh, I, R) = ev S d 125 6 [.inl x] (.inl x :: st) (sh, I, R) := (ev_eq f_125_5).trans rfl
theorem f_125_6 : fetch 125 6 = some (6, .iconst 3, 1, [], 3) := (fm_125 6).trans rfl
theorem u_125_6 {S : Scr} {d : Nat} {a0 : AV} {st : List AV} {sh : Shp} {I : IM} {R : RM} : ev S d 125 6 [a0] st (sh, I, R) = ev S d 125 7 [a0] (.inl 3 :: st) (sh, I, R) := (ev_eq f_125_6).trans rfl
theorem f_125_7 : fetch 125 7 = some (7, .if_icmp .gt 7, 3, [14], 0) := (fm_125 7).trans rfl
theorem u_125_7 {S : Scr} {d : Nat} {a0 : AV} {st : List AV} {sh : Shp} {I : IM} {R : RM} {x y : Int} : ev S d 125 7 [a0] (.inl y :: .inl x :: st) (sh, I, R) = if y < x then ev S d 125 14 [a0] st (sh, I, R) else ev S d 125 10 [a0] st (sh, I, R) := (ev_eq f_125_7).trans fin_icmp_gt
theorem f_125_10 : fetch 125 10 = some (10, .iconst 1, 1, [], 1) := (fm_125 10).trans rfl
theorem u_125_10 {S : Scr} {d : Nat} {a0 : AV} {st : List AV} {sh : Shp} {I : IM} {R : RM} : ev S d 125 10 [a0] st (sh, I, R) = ev S d 125 11 [a0] (.inl 1 :: st) (sh, I, R) := (ev_eq f_125_10).trans rfl
theorem f_125_11 : fetch 125 11 = some (11, .goto 4, 3, [15], 0) := (fm_125 11).trans rfl
theorem u_125_11 {S : Scr} {d : Nat} {a0 : AV} {st : List AV} {sh : Shp} {I : IM} {R : RM} : ev S d 125 11 [a0] st (sh, I, R) = ev S d 125 15 [a0] st (sh, I, R) := (ev_eq f_125_11).trans rfl
theorem f_125_14 : fetch 125 14 = some (14, .iconst 0, 1, [], 0) := (fm_125 14).trans rfl
theorem u_125_14 {S : Scr} {d : Nat} {a0 : AV} {st : List AV} {sh : Shp} {I : IM} {R : RM} : ev S d 125 14 [a0] st (sh, I, R) = ev S d 125 15 [a0] (.inl 0 :: st) (sh, I, R) := (ev_eq f_125_14).trans rfl
theorem f_125_15 : fetch 125 15 = some (15, .ireturn, 1, [1], 0) := (fm_125 15).trans rfl
theorem u_125_15 {S : Scr} {d : Nat} {a0 : AV} {sh : Shp} {I : IM} {R : RM} {x : Int} (h : x = 0 ∨ x = 1) : ev S d 125 15 [a0] [.inl x] (sh, I, R) = some (some (.inl x), (sh, I, R)) := (ev_eq f_125_15).trans (fin_iret1 h)
theorem c_126 {d : Nat} {a0 : AV} {M : Mem} : cl (d + 1) 126 [a0] M = ev S0 d 126 0 [a0] [] M := (cl_eq (as := [a0]) (show 1 ≤ maxOf 126 by decide +kernel)).trans rfl
theorem mt_126 : MT[126]? = some m_126 := rfl
theorem fm_126 (pc : Nat) : fetch 126 pc = lk m_126.2.2.2.2.2 pc := by
  unfold fetch
  rw [mt_126]
theorem f_126_0 : fetch 126 0 = some (0, .iload_n 0, 1, [0], 0) := (fm_126 0).trans rfl
theorem u_126_0 {S : Scr} {d : Nat} {st : List AV} {sh : Shp} {I : IM} {R : RM} {x : Int} : ev S d 126 0 [.inl x] st (sh, I, R) = ev S d 126 1 [.inl x] (.inl x :: st) (sh, I, R) := (ev_eq f_126_0).trans rfl
theorem f_126_1 : fetch 126 1 = some (1, .iconst 1, 1, [], 1) := (fm_126 1).trans rfl
theorem u_126_1 {S : Scr} {d : Nat} {a0 : AV} {st : List AV} {sh : Shp} {I : IM} {R : RM} : ev S d 126 1 [a0] st (sh, I, R) = ev S d 126 2 [a0] (.inl 1 :: st) (sh, I, R) := (ev_eq f_126_1).trans rfl
theorem f_126_2 : fetch 126 2 = some (2, .if_icmp .ne 7, 3, [9], 0) := (fm_126 2).trans rfl
theorem u_126_2 {S : Scr} {d : Nat} {a0 : AV} {st : List AV} {sh : Shp} {I : IM} {R : RM} {x y : Int} : ev S d 126 2 [a0] (.inl y :: .inl x :: st) (sh, I, R) = if ¬ x = y then ev S d 126 9 [a0] st (sh, I, R) else ev S d 126 5 [a0] st (sh, I, R) := (ev_eq f_126_2).trans fin_icmp_ne
theorem f_126_5 : fetch 126 5 = some (5, .iconst 0, 1, [], 0) := (fm_126 5).trans rfl
theorem u_126_5 {S : Scr} {d : Nat} {a0 : AV} {st : List AV} {sh : Shp} {I : IM} {R : RM} : ev S d 126 5 [a0] st (sh, I, R) = ev S d 126 6 [a0] (.inl 0 :: st) (sh, I, R) := (ev_eq f_126_5).trans rfl
theorem f_126_6 : fetch 126 6 = some (6, .goto 4, 3, [10], 0) := (fm_126 6).trans rfl
theorem u_126_6 {S : Scr} {d : Nat} {a0 : AV} {st : List AV} {sh : Shp} {I : IM} {R : RM} : ev S d 126 6 [a0] st (sh, I, R) = ev S d 126 10 [a0] st (sh, I, R) := (ev_eq f_126_6).trans rfl
theorem f_126_9 : fetch 126 9 = some (9, .iload_n 0, 1, [0], 0) := (fm_126 9).trans rfl
theorem u_126_9 {S : Scr} {d : Nat} {st : List AV} {sh : Shp} {I : IM} {R : RM} {x : Int} : ev S d 126 9 [.inl x] st (sh, I, R) = ev S d 126 10 [.inl x] (.inl x :: st) (sh, I, R) := (ev_eq f_126_9).trans rfl
theorem f_126_10 : fetch 126 10 = some (10, .ireturn, 1, [0], 0) := (fm_126 10).trans rfl
theorem u_126_10 {S : Scr} {d : Nat} {a0 : AV} {sh : Shp} {I : IM} {R : RM} {x : Int} : ev S d 126 10 [a0] [.inl x] (sh, I, R) = some (some (.inl x), (sh, I, R)) := (ev_eq f_126_10).trans fin_iret0
theorem c_127 {d : Nat} {a0 : AV} {M : Mem} : cl (d + 1) 127 [a0] M = ev S0 d 127 0 [a0] [] M := (cl_eq (as := [a0]) (show 1 ≤ maxOf 127 by decide +kernel)).trans rfl
theorem mt_127 : MT[127]? = some m_127 := rfl
theorem fm_127 (pc : Nat) : fetch 127 pc = lk m_127.2.2.2.2.2 pc := by
  unfold fetch
  rw [mt_127]
theorem f_127_0 : fetch 127 0 = some (0, .iload_n 0, 1, [0], 0) := (fm_127 0).trans rfl
theorem u_127_0 {S : Scr} {d : Nat} {st : List AV} {sh : Shp} {I : IM} {R : RM} {x : Int} : ev S d 127 0 [.inl x] st (sh, I, R) = ev S d 127 1 [.inl x] (.inl x :: st) (sh, I, R) := (ev_eq f_127_0).trans rfl
theorem f_127_1 : fetch 127 1 = some (1, .iconst (-1), 1, [], (-1)) := (fm_127 1).trans rfl
theorem u_127_1 {S : Scr} {d : Nat} {a0 : AV} {st : List AV} {sh : Shp} {I : IM} {R : RM} : ev S d 127 1 [a0] st (sh, I, R) = ev S d 127 2 [a0] (.inl (-1) :: st) (sh, I, R) := (ev_eq f_127_1).trans rfl
theorem f_127_2 : fetch 127 2 = some (2, .if_icmp .ne 8, 3, [10], 0) := (fm_127 2).trans rfl
theorem u_127_2 {S : Scr} {d : Nat} {a0 : AV} {st : List AV} {sh : Shp} {I : IM} {R : RM} {x y : Int} : ev S d 127 2 [a0] (.inl y :: .inl x :: st) (sh, I, R) = if ¬ x = y then ev S d 127 10 [a0] st (sh, I, R) else ev S d 127 5 [a0] st (sh, I, R) := (ev_eq f_127_2).trans fin_icmp_ne
theorem f_127_5 : fetch 127 5 = some (5, .bipush (-2), 2, [], (-2)) := (fm_127 5).trans rfl
theorem u_127_5 {S : Scr} {d : Nat} {a0 : AV} {st : List AV} {sh : Shp} {I : IM} {R : RM} : ev S d 127 5 [a0] st (sh, I, R) = ev S d 127 7 [a0] (.inl (-2) :: st) (sh, I, R) := (ev_eq f_127_5).trans rfl
theorem f_127_7 : fetch 127 7 = some (7, .goto 4, 3, [11], 0) := (fm_127 7).trans rfl
theorem u_127_7 {S : Scr} {d : Nat} {a0 : AV} {st : List AV} {sh : Shp} {I : IM} {R : RM} : ev S d 127 7 [a0] st (sh, I, R) = ev S d 127 11 [a0] st (sh, I, R) := (ev_eq f_127_7).trans rfl
theorem f_127_10 : fetch 127 10 = some (10, .iload_n 0, 1, [0], 0) := (fm_127 10).trans rfl
theorem u_127_10 {S : Scr} {d : Nat} {st : List AV} {sh : Shp} {I : IM} {R : RM} {x : Int} : ev S d 127 10 [.inl x] st (sh, I, R) = ev S d 127 11 [.inl x] (.inl x :: st) (sh, I, R) := (ev_eq f_127_10).trans rfl
theorem f_127_11 : fetch 127 11 = some (11, .ireturn, 1, [0], 0) := (fm_127 11).trans rfl
theorem u_127_11 {S : Scr} {d : Nat} {a0 : AV} {sh : Shp} {I : IM} {R : RM} {x : Int} : ev S d 127 11 [a0] [.inl x] (sh, I, R) = some (some (.inl x), (sh, I, R)) := (ev_eq f_127_11).trans fin_iret0
