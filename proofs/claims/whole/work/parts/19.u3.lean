/-! one step each (by program): 128 GraphSaverModel.<init>, 129 GraphSaverModel.in, 130 GraphSaverModel.lays, 131 GraphSaverModel.isName, 132 GraphSaverModel.isNumber, 133 GraphSaverModel.isObject, 134 GraphSaverModel.isObjectOrNothing, 135 GraphSaverModel.refOf, 136 GraphSaverModel.told, 137 GraphSaverModel.many, 138 GraphSaverModel.free, 139 GraphSaverModel.makes, 140 GraphSaverModel.fieldOf, 141 GraphSaverModel.adds, 142 GraphSaverModel.schemaOf, 143 GraphSaverModel.currentOf, 144 GraphSaverModel.knownIn, 145 GraphSaverModel.givesDefaults, 146 GraphSaverModel.holds, 147 GraphSaverModel.isSchema, 148 GraphSaverModel.schema, 149 GraphSaverModel.version, 150 GraphSaverModel.byDefault, 151 GraphSaverModel.refsOf, 152 GraphSaverModel.object, 153 GraphSaverModel.row, 154 GraphSaverModel.hasFields, 155 GraphSaverModel.write, 156 GraphSaverModel.read, 157 GraphSaverModel.forget, 158 GraphSaverModel.graft, 159 GraphSaverModel.ref, 160 GraphSaverModel.unknown, 161 GraphSaverModel.of, 162 GraphSaverModel.name, 163 GraphSaverModel.copy, 164 GraphSaverModel.meetsNone, 165 GraphSaverModel.meets, 166 GraphSaverModel.meetsAll, 167 GraphSaverModel.graph, 168 GraphSaverModel.sweep -/
theorem c_128 {d : Nat} {a0 : AV} {M : Mem} : cl (d + 1) 128 [a0] M = ev S0 d 128 0 [a0, .inr (.inr 1)] [] M := (cl_eq (as := [a0]) (show 1 ≤ maxOf 128 by decide +kernel)).trans rfl
theorem mt_128 : MT[128]? = some m_128 := rfl
theorem fm_128 (pc : Nat) : fetch 128 pc = lk m_128.2.2.2.2.2 pc := by
  unfold fetch
  rw [mt_128]
theorem f_128_0 : fetch 128 0 = some (0, .aload_n 0, 1, [0], 0) := (fm_128 0).trans rfl
theorem u_128_0 {S : Scr} {d : Nat} {a1 : AV} {st : List AV} {sh : Shp} {I : IM} {R : RM} {x : Nat} : ev S d 128 0 [.inr (.inl x), a1] st (sh, I, R) = ev S d 128 1 [.inr (.inl x), a1] (.inr (.inl x) :: st) (sh, I, R) := (ev_eq f_128_0).trans rfl
theorem f_128_1 : fetch 128 1 = some (1, .invokespecial 3, 3, [9], 0) := (fm_128 1).trans rfl
theorem u_128_1 {S : Scr} {d : Nat} {a0 a1 : AV} {st : List AV} {sh : Shp} {I : IM} {R : RM} {k : Nat} (hr : st.length ≤ 8) : ev S d 128 1 [a0, a1] (.inr (.inl k) :: st) (sh, I, R) = ev S d 128 4 [a0, a1] st (sh, I, R) := (ev_eq f_128_1).trans (congrArg (fin S d 128) (if_pos hr))
theorem f_128_4 : fetch 128 4 = some (4, .aload_n 0, 1, [0], 0) := (fm_128 4).trans rfl
theorem u_128_4 {S : Scr} {d : Nat} {a1 : AV} {st : List AV} {sh : Shp} {I : IM} {R : RM} {x : Nat} : ev S d 128 4 [.inr (.inl x), a1] st (sh, I, R) = ev S d 128 5 [.inr (.inl x), a1] (.inr (.inl x) :: st) (sh, I, R) := (ev_eq f_128_4).trans rfl
theorem f_128_5 : fetch 128 5 = some (5, .sipush 744, 3, [], 744) := (fm_128 5).trans rfl
theorem u_128_5 {S : Scr} {d : Nat} {a0 a1 : AV} {st : List AV} {sh : Shp} {I : IM} {R : RM} : ev S d 128 5 [a0, a1] st (sh, I, R) = ev S d 128 8 [a0, a1] (.inl 744 :: st) (sh, I, R) := (ev_eq f_128_5).trans rfl
theorem f_128_8 : fetch 128 8 = some (8, .newarray .int, 2, [], 0) := (fm_128 8).trans rfl
theorem f_128_10 : fetch 128 10 = some (10, .putfield 9, 3, [9, 0, 1, 79], 0) := (fm_128 10).trans rfl
theorem u_128_10 {S : Scr} {d : Nat} {a0 a1 : AV} {st : List AV} {sh : Shp} {I : IM} {R : RM} {k v : Nat} (h : tg sh k = 9) : ev S d 128 10 [a0, a1] (.inr (.inl v) :: .inr (.inl k) :: st) (sh, I, R) = ev S d 128 13 [a0, a1] st (sh, I, up R k 0 (some v)) := (ev_eq f_128_10).trans (congrArg (fin S d 128) (if_pos h))
theorem f_128_13 : fetch 128 13 = some (13, .aload_n 0, 1, [0], 0) := (fm_128 13).trans rfl
theorem u_128_13 {S : Scr} {d : Nat} {a1 : AV} {st : List AV} {sh : Shp} {I : IM} {R : RM} {x : Nat} : ev S d 128 13 [.inr (.inl x), a1] st (sh, I, R) = ev S d 128 14 [.inr (.inl x), a1] (.inr (.inl x) :: st) (sh, I, R) := (ev_eq f_128_13).trans rfl
theorem f_128_14 : fetch 128 14 = some (14, .sipush 744, 3, [], 744) := (fm_128 14).trans rfl
theorem u_128_14 {S : Scr} {d : Nat} {a0 a1 : AV} {st : List AV} {sh : Shp} {I : IM} {R : RM} : ev S d 128 14 [a0, a1] st (sh, I, R) = ev S d 128 17 [a0, a1] (.inl 744 :: st) (sh, I, R) := (ev_eq f_128_14).trans rfl
theorem f_128_17 : fetch 128 17 = some (17, .newarray .int, 2, [], 0) := (fm_128 17).trans rfl
theorem f_128_19 : fetch 128 19 = some (19, .putfield 13, 3, [9, 1, 1, 80], 0) := (fm_128 19).trans rfl
theorem u_128_19 {S : Scr} {d : Nat} {a0 a1 : AV} {st : List AV} {sh : Shp} {I : IM} {R : RM} {k v : Nat} (h : tg sh k = 9) : ev S d 128 19 [a0, a1] (.inr (.inl v) :: .inr (.inl k) :: st) (sh, I, R) = ev S d 128 22 [a0, a1] st (sh, I, up R k 1 (some v)) := (ev_eq f_128_19).trans (congrArg (fin S d 128) (if_pos h))
theorem f_128_22 : fetch 128 22 = some (22, .aload_n 0, 1, [0], 0) := (fm_128 22).trans rfl
theorem u_128_22 {S : Scr} {d : Nat} {a1 : AV} {st : List AV} {sh : Shp} {I : IM} {R : RM} {x : Nat} : ev S d 128 22 [.inr (.inl x), a1] st (sh, I, R) = ev S d 128 23 [.inr (.inl x), a1] (.inr (.inl x) :: st) (sh, I, R) := (ev_eq f_128_22).trans rfl
theorem f_128_23 : fetch 128 23 = some (23, .sipush 744, 3, [], 744) := (fm_128 23).trans rfl
theorem u_128_23 {S : Scr} {d : Nat} {a0 a1 : AV} {st : List AV} {sh : Shp} {I : IM} {R : RM} : ev S d 128 23 [a0, a1] st (sh, I, R) = ev S d 128 26 [a0, a1] (.inl 744 :: st) (sh, I, R) := (ev_eq f_128_23).trans rfl
theorem f_128_26 : fetch 128 26 = some (26, .newarray .int, 2, [], 0) := (fm_128 26).trans rfl
theorem f_128_28 : fetch 128 28 = some (28, .putfield 16, 3, [9, 2, 1, 81], 0) := (fm_128 28).trans rfl
theorem u_128_28 {S : Scr} {d : Nat} {a0 a1 : AV} {st : List AV} {sh : Shp} {I : IM} {R : RM} {k v : Nat} (h : tg sh k = 9) : ev S d 128 28 [a0, a1] (.inr (.inl v) :: .inr (.inl k) :: st) (sh, I, R) = ev S d 128 31 [a0, a1] st (sh, I, up R k 2 (some v)) := (ev_eq f_128_28).trans (congrArg (fin S d 128) (if_pos h))
theorem f_128_31 : fetch 128 31 = some (31, .aload_n 0, 1, [0], 0) := (fm_128 31).trans rfl
theorem u_128_31 {S : Scr} {d : Nat} {a1 : AV} {st : List AV} {sh : Shp} {I : IM} {R : RM} {x : Nat} : ev S d 128 31 [.inr (.inl x), a1] st (sh, I, R) = ev S d 128 32 [.inr (.inl x), a1] (.inr (.inl x) :: st) (sh, I, R) := (ev_eq f_128_31).trans rfl
theorem f_128_32 : fetch 128 32 = some (32, .bipush 8, 2, [], 8) := (fm_128 32).trans rfl
theorem u_128_32 {S : Scr} {d : Nat} {a0 a1 : AV} {st : List AV} {sh : Shp} {I : IM} {R : RM} : ev S d 128 32 [a0, a1] st (sh, I, R) = ev S d 128 34 [a0, a1] (.inl 8 :: st) (sh, I, R) := (ev_eq f_128_32).trans rfl
theorem f_128_34 : fetch 128 34 = some (34, .newarray .int, 2, [], 0) := (fm_128 34).trans rfl
theorem f_128_36 : fetch 128 36 = some (36, .putfield 19, 3, [9, 4, 1, 82], 0) := (fm_128 36).trans rfl
theorem u_128_36 {S : Scr} {d : Nat} {a0 a1 : AV} {st : List AV} {sh : Shp} {I : IM} {R : RM} {k v : Nat} (h : tg sh k = 9) : ev S d 128 36 [a0, a1] (.inr (.inl v) :: .inr (.inl k) :: st) (sh, I, R) = ev S d 128 39 [a0, a1] st (sh, I, up R k 4 (some v)) := (ev_eq f_128_36).trans (congrArg (fin S d 128) (if_pos h))
theorem f_128_39 : fetch 128 39 = some (39, .aload_n 0, 1, [0], 0) := (fm_128 39).trans rfl
theorem u_128_39 {S : Scr} {d : Nat} {a1 : AV} {st : List AV} {sh : Shp} {I : IM} {R : RM} {x : Nat} : ev S d 128 39 [.inr (.inl x), a1] st (sh, I, R) = ev S d 128 40 [.inr (.inl x), a1] (.inr (.inl x) :: st) (sh, I, R) := (ev_eq f_128_39).trans rfl
theorem f_128_40 : fetch 128 40 = some (40, .iconst 4, 1, [], 4) := (fm_128 40).trans rfl
theorem u_128_40 {S : Scr} {d : Nat} {a0 a1 : AV} {st : List AV} {sh : Shp} {I : IM} {R : RM} : ev S d 128 40 [a0, a1] st (sh, I, R) = ev S d 128 41 [a0, a1] (.inl 4 :: st) (sh, I, R) := (ev_eq f_128_40).trans rfl
theorem f_128_41 : fetch 128 41 = some (41, .newarray .int, 2, [], 0) := (fm_128 41).trans rfl
theorem f_128_43 : fetch 128 43 = some (43, .putfield 22, 3, [9, 5, 1, 83], 0) := (fm_128 43).trans rfl
theorem u_128_43 {S : Scr} {d : Nat} {a0 a1 : AV} {st : List AV} {sh : Shp} {I : IM} {R : RM} {k v : Nat} (h : tg sh k = 9) : ev S d 128 43 [a0, a1] (.inr (.inl v) :: .inr (.inl k) :: st) (sh, I, R) = ev S d 128 46 [a0, a1] st (sh, I, up R k 5 (some v)) := (ev_eq f_128_43).trans (congrArg (fin S d 128) (if_pos h))
theorem f_128_46 : fetch 128 46 = some (46, .aload_n 0, 1, [0], 0) := (fm_128 46).trans rfl
theorem u_128_46 {S : Scr} {d : Nat} {a1 : AV} {st : List AV} {sh : Shp} {I : IM} {R : RM} {x : Nat} : ev S d 128 46 [.inr (.inl x), a1] st (sh, I, R) = ev S d 128 47 [.inr (.inl x), a1] (.inr (.inl x) :: st) (sh, I, R) := (ev_eq f_128_46).trans rfl
theorem f_128_47 : fetch 128 47 = some (47, .sipush 800, 3, [], 800) := (fm_128 47).trans rfl
theorem u_128_47 {S : Scr} {d : Nat} {a0 a1 : AV} {st : List AV} {sh : Shp} {I : IM} {R : RM} : ev S d 128 47 [a0, a1] st (sh, I, R) = ev S d 128 50 [a0, a1] (.inl 800 :: st) (sh, I, R) := (ev_eq f_128_47).trans rfl
theorem f_128_50 : fetch 128 50 = some (50, .newarray .int, 2, [], 0) := (fm_128 50).trans rfl
theorem f_128_52 : fetch 128 52 = some (52, .putfield 25, 3, [9, 6, 1, 84], 0) := (fm_128 52).trans rfl
theorem u_128_52 {S : Scr} {d : Nat} {a0 a1 : AV} {st : List AV} {sh : Shp} {I : IM} {R : RM} {k v : Nat} (h : tg sh k = 9) : ev S d 128 52 [a0, a1] (.inr (.inl v) :: .inr (.inl k) :: st) (sh, I, R) = ev S d 128 55 [a0, a1] st (sh, I, up R k 6 (some v)) := (ev_eq f_128_52).trans (congrArg (fin S d 128) (if_pos h))
theorem f_128_55 : fetch 128 55 = some (55, .aload_n 0, 1, [0], 0) := (fm_128 55).trans rfl
theorem u_128_55 {S : Scr} {d : Nat} {a1 : AV} {st : List AV} {sh : Shp} {I : IM} {R : RM} {x : Nat} : ev S d 128 55 [.inr (.inl x), a1] st (sh, I, R) = ev S d 128 56 [.inr (.inl x), a1] (.inr (.inl x) :: st) (sh, I, R) := (ev_eq f_128_55).trans rfl
theorem f_128_56 : fetch 128 56 = some (56, .bipush 30, 2, [], 30) := (fm_128 56).trans rfl
theorem u_128_56 {S : Scr} {d : Nat} {a0 a1 : AV} {st : List AV} {sh : Shp} {I : IM} {R : RM} : ev S d 128 56 [a0, a1] st (sh, I, R) = ev S d 128 58 [a0, a1] (.inl 30 :: st) (sh, I, R) := (ev_eq f_128_56).trans rfl
theorem f_128_58 : fetch 128 58 = some (58, .newarray .int, 2, [], 0) := (fm_128 58).trans rfl
theorem f_128_60 : fetch 128 60 = some (60, .putfield 28, 3, [9, 7, 1, 85], 0) := (fm_128 60).trans rfl
theorem u_128_60 {S : Scr} {d : Nat} {a0 a1 : AV} {st : List AV} {sh : Shp} {I : IM} {R : RM} {k v : Nat} (h : tg sh k = 9) : ev S d 128 60 [a0, a1] (.inr (.inl v) :: .inr (.inl k) :: st) (sh, I, R) = ev S d 128 63 [a0, a1] st (sh, I, up R k 7 (some v)) := (ev_eq f_128_60).trans (congrArg (fin S d 128) (if_pos h))
theorem f_128_63 : fetch 128 63 = some (63, .aload_n 0, 1, [0], 0) := (fm_128 63).trans rfl
theorem u_128_63 {S : Scr} {d : Nat} {a1 : AV} {st : List AV} {sh : Shp} {I : IM} {R : RM} {x : Nat} : ev S d 128 63 [.inr (.inl x), a1] st (sh, I, R) = ev S d 128 64 [.inr (.inl x), a1] (.inr (.inl x) :: st) (sh, I, R) := (ev_eq f_128_63).trans rfl
theorem f_128_64 : fetch 128 64 = some (64, .bipush 30, 2, [], 30) := (fm_128 64).trans rfl
theorem u_128_64 {S : Scr} {d : Nat} {a0 a1 : AV} {st : List AV} {sh : Shp} {I : IM} {R : RM} : ev S d 128 64 [a0, a1] st (sh, I, R) = ev S d 128 66 [a0, a1] (.inl 30 :: st) (sh, I, R) := (ev_eq f_128_64).trans rfl
theorem f_128_66 : fetch 128 66 = some (66, .newarray .int, 2, [], 0) := (fm_128 66).trans rfl
theorem f_128_68 : fetch 128 68 = some (68, .putfield 31, 3, [9, 8, 1, 86], 0) := (fm_128 68).trans rfl
theorem u_128_68 {S : Scr} {d : Nat} {a0 a1 : AV} {st : List AV} {sh : Shp} {I : IM} {R : RM} {k v : Nat} (h : tg sh k = 9) : ev S d 128 68 [a0, a1] (.inr (.inl v) :: .inr (.inl k) :: st) (sh, I, R) = ev S d 128 71 [a0, a1] st (sh, I, up R k 8 (some v)) := (ev_eq f_128_68).trans (congrArg (fin S d 128) (if_pos h))
theorem f_128_71 : fetch 128 71 = some (71, .aload_n 0, 1, [0], 0) := (fm_128 71).trans rfl
theorem u_128_71 {S : Scr} {d : Nat} {a1 : AV} {st : List AV} {sh : Shp} {I : IM} {R : RM} {x : Nat} : ev S d 128 71 [.inr (.inl x), a1] st (sh, I, R) = ev S d 128 72 [.inr (.inl x), a1] (.inr (.inl x) :: st) (sh, I, R) := (ev_eq f_128_71).trans rfl
theorem f_128_72 : fetch 128 72 = some (72, .bipush 30, 2, [], 30) := (fm_128 72).trans rfl
theorem u_128_72 {S : Scr} {d : Nat} {a0 a1 : AV} {st : List AV} {sh : Shp} {I : IM} {R : RM} : ev S d 128 72 [a0, a1] st (sh, I, R) = ev S d 128 74 [a0, a1] (.inl 30 :: st) (sh, I, R) := (ev_eq f_128_72).trans rfl
theorem f_128_74 : fetch 128 74 = some (74, .newarray .int, 2, [], 0) := (fm_128 74).trans rfl
theorem f_128_76 : fetch 128 76 = some (76, .putfield 34, 3, [9, 9, 1, 87], 0) := (fm_128 76).trans rfl
theorem u_128_76 {S : Scr} {d : Nat} {a0 a1 : AV} {st : List AV} {sh : Shp} {I : IM} {R : RM} {k v : Nat} (h : tg sh k = 9) : ev S d 128 76 [a0, a1] (.inr (.inl v) :: .inr (.inl k) :: st) (sh, I, R) = ev S d 128 79 [a0, a1] st (sh, I, up R k 9 (some v)) := (ev_eq f_128_76).trans (congrArg (fin S d 128) (if_pos h))
theorem f_128_79 : fetch 128 79 = some (79, .aload_n 0, 1, [0], 0) := (fm_128 79).trans rfl
theorem u_128_79 {S : Scr} {d : Nat} {a1 : AV} {st : List AV} {sh : Shp} {I : IM} {R : RM} {x : Nat} : ev S d 128 79 [.inr (.inl x), a1] st (sh, I, R) = ev S d 128 80 [.inr (.inl x), a1] (.inr (.inl x) :: st) (sh, I, R) := (ev_eq f_128_79).trans rfl
theorem f_128_80 : fetch 128 80 = some (80, .sipush 200, 3, [], 200) := (fm_128 80).trans rfl
theorem u_128_80 {S : Scr} {d : Nat} {a0 a1 : AV} {st : List AV} {sh : Shp} {I : IM} {R : RM} : ev S d 128 80 [a0, a1] st (sh, I, R) = ev S d 128 83 [a0, a1] (.inl 200 :: st) (sh, I, R) := (ev_eq f_128_80).trans rfl
theorem f_128_83 : fetch 128 83 = some (83, .newarray .int, 2, [], 0) := (fm_128 83).trans rfl
theorem f_128_85 : fetch 128 85 = some (85, .putfield 37, 3, [9, 11, 1, 88], 0) := (fm_128 85).trans rfl
theorem u_128_85 {S : Scr} {d : Nat} {a0 a1 : AV} {st : List AV} {sh : Shp} {I : IM} {R : RM} {k v : Nat} (h : tg sh k = 9) : ev S d 128 85 [a0, a1] (.inr (.inl v) :: .inr (.inl k) :: st) (sh, I, R) = ev S d 128 88 [a0, a1] st (sh, I, up R k 11 (some v)) := (ev_eq f_128_85).trans (congrArg (fin S d 128) (if_pos h))
theorem f_128_88 : fetch 128 88 = some (88, .aload_n 0, 1, [0], 0) := (fm_128 88).trans rfl
theorem u_128_88 {S : Scr} {d : Nat} {a1 : AV} {st : List AV} {sh : Shp} {I : IM} {R : RM} {x : Nat} : ev S d 128 88 [.inr (.inl x), a1] st (sh, I, R) = ev S d 128 89 [.inr (.inl x), a1] (.inr (.inl x) :: st) (sh, I, R) := (ev_eq f_128_88).trans rfl
theorem f_128_89 : fetch 128 89 = some (89, .bipush 16, 2, [], 16) := (fm_128 89).trans rfl
theorem u_128_89 {S : Scr} {d : Nat} {a0 a1 : AV} {st : List AV} {sh : Shp} {I : IM} {R : RM} : ev S d 128 89 [a0, a1] st (sh, I, R) = ev S d 128 91 [a0, a1] (.inl 16 :: st) (sh, I, R) := (ev_eq f_128_89).trans rfl
theorem f_128_91 : fetch 128 91 = some (91, .newarray .int, 2, [], 0) := (fm_128 91).trans rfl
theorem f_128_93 : fetch 128 93 = some (93, .putfield 40, 3, [9, 13, 1, 89], 0) := (fm_128 93).trans rfl
theorem u_128_93 {S : Scr} {d : Nat} {a0 a1 : AV} {st : List AV} {sh : Shp} {I : IM} {R : RM} {k v : Nat} (h : tg sh k = 9) : ev S d 128 93 [a0, a1] (.inr (.inl v) :: .inr (.inl k) :: st) (sh, I, R) = ev S d 128 96 [a0, a1] st (sh, I, up R k 13 (some v)) := (ev_eq f_128_93).trans (congrArg (fin S d 128) (if_pos h))
theorem f_128_96 : fetch 128 96 = some (96, .aload_n 0, 1, [0], 0) := (fm_128 96).trans rfl
theorem u_128_96 {S : Scr} {d : Nat} {a1 : AV} {st : List AV} {sh : Shp} {I : IM} {R : RM} {x : Nat} : ev S d 128 96 [.inr (.inl x), a1] st (sh, I, R) = ev S d 128 97 [.inr (.inl x), a1] (.inr (.inl x) :: st) (sh, I, R) := (ev_eq f_128_96).trans rfl
theorem f_128_97 : fetch 128 97 = some (97, .bipush 16, 2, [], 16) := (fm_128 97).trans rfl
theorem u_128_97 {S : Scr} {d : Nat} {a0 a1 : AV} {st : List AV} {sh : Shp} {I : IM} {R : RM} : ev S d 128 97 [a0, a1] st (sh, I, R) = ev S d 128 99 [a0, a1] (.inl 16 :: st) (sh, I, R) := (ev_eq f_128_97).trans rfl
theorem f_128_99 : fetch 128 99 = some (99, .newarray .int, 2, [], 0) := (fm_128 99).trans rfl
theorem f_128_101 : fetch 128 101 = some (101, .putfield 43, 3, [9, 14, 1, 90], 0) := (fm_128 101).trans rfl
theorem u_128_101 {S : Scr} {d : Nat} {a0 a1 : AV} {st : List AV} {sh : Shp} {I : IM} {R : RM} {k v : Nat} (h : tg sh k = 9) : ev S d 128 101 [a0, a1] (.inr (.inl v) :: .inr (.inl k) :: st) (sh, I, R) = ev S d 128 104 [a0, a1] st (sh, I, up R k 14 (some v)) := (ev_eq f_128_101).trans (congrArg (fin S d 128) (if_pos h))
theorem f_128_104 : fetch 128 104 = some (104, .aload_n 0, 1, [0], 0) := (fm_128 104).trans rfl
theorem u_128_104 {S : Scr} {d : Nat} {a1 : AV} {st : List AV} {sh : Shp} {I : IM} {R : RM} {x : Nat} : ev S d 128 104 [.inr (.inl x), a1] st (sh, I, R) = ev S d 128 105 [.inr (.inl x), a1] (.inr (.inl x) :: st) (sh, I, R) := (ev_eq f_128_104).trans rfl
theorem f_128_105 : fetch 128 105 = some (105, .bipush 30, 2, [], 30) := (fm_128 105).trans rfl
theorem u_128_105 {S : Scr} {d : Nat} {a0 a1 : AV} {st : List AV} {sh : Shp} {I : IM} {R : RM} : ev S d 128 105 [a0, a1] st (sh, I, R) = ev S d 128 107 [a0, a1] (.inl 30 :: st) (sh, I, R) := (ev_eq f_128_105).trans rfl
theorem f_128_107 : fetch 128 107 = some (107, .newarray .int, 2, [], 0) := (fm_128 107).trans rfl
theorem f_128_109 : fetch 128 109 = some (109, .putfield 46, 3, [9, 20, 1, 91], 0) := (fm_128 109).trans rfl
theorem u_128_109 {S : Scr} {d : Nat} {a0 a1 : AV} {st : List AV} {sh : Shp} {I : IM} {R : RM} {k v : Nat} (h : tg sh k = 9) : ev S d 128 109 [a0, a1] (.inr (.inl v) :: .inr (.inl k) :: st) (sh, I, R) = ev S d 128 112 [a0, a1] st (sh, I, up R k 20 (some v)) := (ev_eq f_128_109).trans (congrArg (fin S d 128) (if_pos h))
theorem f_128_112 : fetch 128 112 = some (112, .aload_n 0, 1, [0], 0) := (fm_128 112).trans rfl
theorem u_128_112 {S : Scr} {d : Nat} {a1 : AV} {st : List AV} {sh : Shp} {I : IM} {R : RM} {x : Nat} : ev S d 128 112 [.inr (.inl x), a1] st (sh, I, R) = ev S d 128 113 [.inr (.inl x), a1] (.inr (.inl x) :: st) (sh, I, R) := (ev_eq f_128_112).trans rfl
theorem f_128_113 : fetch 128 113 = some (113, .bipush 6, 2, [], 6) := (fm_128 113).trans rfl
theorem u_128_113 {S : Scr} {d : Nat} {a0 a1 : AV} {st : List AV} {sh : Shp} {I : IM} {R : RM} : ev S d 128 113 [a0, a1] st (sh, I, R) = ev S d 128 115 [a0, a1] (.inl 6 :: st) (sh, I, R) := (ev_eq f_128_113).trans rfl
theorem f_128_115 : fetch 128 115 = some (115, .newarray .int, 2, [], 0) := (fm_128 115).trans rfl
theorem f_128_117 : fetch 128 117 = some (117, .putfield 49, 3, [9, 21, 1, 92], 0) := (fm_128 117).trans rfl
theorem u_128_117 {S : Scr} {d : Nat} {a0 a1 : AV} {st : List AV} {sh : Shp} {I : IM} {R : RM} {k v : Nat} (h : tg sh k = 9) : ev S d 128 117 [a0, a1] (.inr (.inl v) :: .inr (.inl k) :: st) (sh, I, R) = ev S d 128 120 [a0, a1] st (sh, I, up R k 21 (some v)) := (ev_eq f_128_117).trans (congrArg (fin S d 128) (if_pos h))
theorem f_128_120 : fetch 128 120 = some (120, .aload_n 0, 1, [0], 0) := (fm_128 120).trans rfl
theorem u_128_120 {S : Scr} {d : Nat} {a1 : AV} {st : List AV} {sh : Shp} {I : IM} {R : RM} {x : Nat} : ev S d 128 120 [.inr (.inl x), a1] st (sh, I, R) = ev S d 128 121 [.inr (.inl x), a1] (.inr (.inl x) :: st) (sh, I, R) := (ev_eq f_128_120).trans rfl
theorem f_128_121 : fetch 128 121 = some (121, .bipush 6, 2, [], 6) := (fm_128 121).trans rfl
theorem u_128_121 {S : Scr} {d : Nat} {a0 a1 : AV} {st : List AV} {sh : Shp} {I : IM} {R : RM} : ev S d 128 121 [a0, a1] st (sh, I, R) = ev S d 128 123 [a0, a1] (.inl 6 :: st) (sh, I, R) := (ev_eq f_128_121).trans rfl
theorem f_128_123 : fetch 128 123 = some (123, .newarray .int, 2, [], 0) := (fm_128 123).trans rfl
theorem f_128_125 : fetch 128 125 = some (125, .putfield 52, 3, [9, 22, 1, 93], 0) := (fm_128 125).trans rfl
theorem u_128_125 {S : Scr} {d : Nat} {a0 a1 : AV} {st : List AV} {sh : Shp} {I : IM} {R : RM} {k v : Nat} (h : tg sh k = 9) : ev S d 128 125 [a0, a1] (.inr (.inl v) :: .inr (.inl k) :: st) (sh, I, R) = ev S d 128 128 [a0, a1] st (sh, I, up R k 22 (some v)) := (ev_eq f_128_125).trans (congrArg (fin S d 128) (if_pos h))
theorem f_128_128 : fetch 128 128 = some (128, .aload_n 0, 1, [0], 0) := (fm_128 128).trans rfl
theorem u_128_128 {S : Scr} {d : Nat} {a1 : AV} {st : List AV} {sh : Shp} {I : IM} {R : RM} {x : Nat} : ev S d 128 128 [.inr (.inl x), a1] st (sh, I, R) = ev S d 128 129 [.inr (.inl x), a1] (.inr (.inl x) :: st) (sh, I, R) := (ev_eq f_128_128).trans rfl
theorem f_128_129 : fetch 128 129 = some (129, .bipush 30, 2, [], 30) := (fm_128 129).trans rfl
theorem u_128_129 {S : Scr} {d : Nat} {a0 a1 : AV} {st : List AV} {sh : Shp} {I : IM} {R : RM} : ev S d 128 129 [a0, a1] st (sh, I, R) = ev S d 128 131 [a0, a1] (.inl 30 :: st) (sh, I, R) := (ev_eq f_128_129).trans rfl
theorem f_128_131 : fetch 128 131 = some (131, .newarray .int, 2, [], 0) := (fm_128 131).trans rfl
theorem f_128_133 : fetch 128 133 = some (133, .putfield 55, 3, [9, 23, 1, 94], 0) := (fm_128 133).trans rfl
theorem u_128_133 {S : Scr} {d : Nat} {a0 a1 : AV} {st : List AV} {sh : Shp} {I : IM} {R : RM} {k v : Nat} (h : tg sh k = 9) : ev S d 128 133 [a0, a1] (.inr (.inl v) :: .inr (.inl k) :: st) (sh, I, R) = ev S d 128 136 [a0, a1] st (sh, I, up R k 23 (some v)) := (ev_eq f_128_133).trans (congrArg (fin S d 128) (if_pos h))
theorem f_128_136 : fetch 128 136 = some (136, .aload_n 0, 1, [0], 0) := (fm_128 136).trans rfl
theorem u_128_136 {S : Scr} {d : Nat} {a1 : AV} {st : List AV} {sh : Shp} {I : IM} {R : RM} {x : Nat} : ev S d 128 136 [.inr (.inl x), a1] st (sh, I, R) = ev S d 128 137 [.inr (.inl x), a1] (.inr (.inl x) :: st) (sh, I, R) := (ev_eq f_128_136).trans rfl
theorem f_128_137 : fetch 128 137 = some (137, .bipush 30, 2, [], 30) := (fm_128 137).trans rfl
theorem u_128_137 {S : Scr} {d : Nat} {a0 a1 : AV} {st : List AV} {sh : Shp} {I : IM} {R : RM} : ev S d 128 137 [a0, a1] st (sh, I, R) = ev S d 128 139 [a0, a1] (.inl 30 :: st) (sh, I, R) := (ev_eq f_128_137).trans rfl
theorem f_128_139 : fetch 128 139 = some (139, .newarray .int, 2, [], 0) := (fm_128 139).trans rfl
theorem f_128_141 : fetch 128 141 = some (141, .putfield 58, 3, [9, 24, 1, 95], 0) := (fm_128 141).trans rfl
theorem u_128_141 {S : Scr} {d : Nat} {a0 a1 : AV} {st : List AV} {sh : Shp} {I : IM} {R : RM} {k v : Nat} (h : tg sh k = 9) : ev S d 128 141 [a0, a1] (.inr (.inl v) :: .inr (.inl k) :: st) (sh, I, R) = ev S d 128 144 [a0, a1] st (sh, I, up R k 24 (some v)) := (ev_eq f_128_141).trans (congrArg (fin S d 128) (if_pos h))
theorem f_128_144 : fetch 128 144 = some (144, .aload_n 0, 1, [0], 0) := (fm_128 144).trans rfl
theorem u_128_144 {S : Scr} {d : Nat} {a1 : AV} {st : List AV} {sh : Shp} {I : IM} {R : RM} {x : Nat} : ev S d 128 144 [.inr (.inl x), a1] st (sh, I, R) = ev S d 128 145 [.inr (.inl x), a1] (.inr (.inl x) :: st) (sh, I, R) := (ev_eq f_128_144).trans rfl
theorem f_128_145 : fetch 128 145 = some (145, .bipush 30, 2, [], 30) := (fm_128 145).trans rfl
theorem u_128_145 {S : Scr} {d : Nat} {a0 a1 : AV} {st : List AV} {sh : Shp} {I : IM} {R : RM} : ev S d 128 145 [a0, a1] st (sh, I, R) = ev S d 128 147 [a0, a1] (.inl 30 :: st) (sh, I, R) := (ev_eq f_128_145).trans rfl
theorem f_128_147 : fetch 128 147 = some (147, .newarray .int, 2, [], 0) := (fm_128 147).trans rfl
theorem f_128_149 : fetch 128 149 = some (149, .putfield 61, 3, [9, 25, 1, 96], 0) := (fm_128 149).trans rfl
theorem u_128_149 {S : Scr} {d : Nat} {a0 a1 : AV} {st : List AV} {sh : Shp} {I : IM} {R : RM} {k v : Nat} (h : tg sh k = 9) : ev S d 128 149 [a0, a1] (.inr (.inl v) :: .inr (.inl k) :: st) (sh, I, R) = ev S d 128 152 [a0, a1] st (sh, I, up R k 25 (some v)) := (ev_eq f_128_149).trans (congrArg (fin S d 128) (if_pos h))
theorem f_128_152 : fetch 128 152 = some (152, .iconst 0, 1, [], 0) := (fm_128 152).trans rfl
theorem u_128_152 {S : Scr} {d : Nat} {a0 a1 : AV} {st : List AV} {sh : Shp} {I : IM} {R : RM} : ev S d 128 152 [a0, a1] st (sh, I, R) = ev S d 128 153 [a0, a1] (.inl 0 :: st) (sh, I, R) := (ev_eq f_128_152).trans rfl
theorem f_128_153 : fetch 128 153 = some (153, .istore_n 1, 1, [1], 0) := (fm_128 153).trans rfl
theorem u_128_153 {S : Scr} {d : Nat} {a0 a1 : AV} {st : List AV} {sh : Shp} {I : IM} {R : RM} {x : Int} : ev S d 128 153 [a0, a1] (.inl x :: st) (sh, I, R) = ev S d 128 154 [a0, .inl x] st (sh, I, R) := (ev_eq f_128_153).trans rfl
theorem f_128_154 : fetch 128 154 = some (154, .iload_n 1, 1, [1], 0) := (fm_128 154).trans rfl
theorem u_128_154 {S : Scr} {d : Nat} {a0 : AV} {st : List AV} {sh : Shp} {I : IM} {R : RM} {x : Int} : ev S d 128 154 [a0, .inl x] st (sh, I, R) = ev S d 128 155 [a0, .inl x] (.inl x :: st) (sh, I, R) := (ev_eq f_128_154).trans rfl
theorem f_128_155 : fetch 128 155 = some (155, .iconst 3, 1, [], 3) := (fm_128 155).trans rfl
theorem u_128_155 {S : Scr} {d : Nat} {a0 a1 : AV} {st : List AV} {sh : Shp} {I : IM} {R : RM} : ev S d 128 155 [a0, a1] st (sh, I, R) = ev S d 128 156 [a0, a1] (.inl 3 :: st) (sh, I, R) := (ev_eq f_128_155).trans rfl
theorem f_128_156 : fetch 128 156 = some (156, .if_icmp .ge 20, 3, [176], 0) := (fm_128 156).trans rfl
theorem u_128_156 {S : Scr} {d : Nat} {a0 a1 : AV} {st : List AV} {sh : Shp} {I : IM} {R : RM} {x y : Int} : ev S d 128 156 [a0, a1] (.inl y :: .inl x :: st) (sh, I, R) = if y ≤ x then ev S d 128 176 [a0, a1] st (sh, I, R) else ev S d 128 159 [a0, a1] st (sh, I, R) := (ev_eq f_128_156).trans fin_icmp_ge
theorem f_128_159 : fetch 128 159 = some (159, .aload_n 0, 1, [0], 0) := (fm_128 159).trans rfl
theorem u_128_159 {S : Scr} {d : Nat} {a1 : AV} {st : List AV} {sh : Shp} {I : IM} {R : RM} {x : Nat} : ev S d 128 159 [.inr (.inl x), a1] st (sh, I, R) = ev S d 128 160 [.inr (.inl x), a1] (.inr (.inl x) :: st) (sh, I, R) := (ev_eq f_128_159).trans rfl
theorem f_128_160 : fetch 128 160 = some (160, .getfield 9, 3, [9, 0, 1, 79], 0) := (fm_128 160).trans rfl
theorem u_128_160 {S : Scr} {d : Nat} {a0 a1 : AV} {st : List AV} {sh : Shp} {I : IM} {R : RM} {k : Nat} (h : tg sh k = 9) : ev S d 128 160 [a0, a1] (.inr (.inl k) :: st) (sh, I, R) = ev S d 128 163 [a0, a1] (rv (R k 0) :: st) (sh, I, R) := (ev_eq f_128_160).trans (congrArg (fin S d 128) (if_pos h))
theorem f_128_163 : fetch 128 163 = some (163, .sipush 741, 3, [], 741) := (fm_128 163).trans rfl
theorem u_128_163 {S : Scr} {d : Nat} {a0 a1 : AV} {st : List AV} {sh : Shp} {I : IM} {R : RM} : ev S d 128 163 [a0, a1] st (sh, I, R) = ev S d 128 166 [a0, a1] (.inl 741 :: st) (sh, I, R) := (ev_eq f_128_163).trans rfl
theorem f_128_166 : fetch 128 166 = some (166, .iload_n 1, 1, [1], 0) := (fm_128 166).trans rfl
theorem u_128_166 {S : Scr} {d : Nat} {a0 : AV} {st : List AV} {sh : Shp} {I : IM} {R : RM} {x : Int} : ev S d 128 166 [a0, .inl x] st (sh, I, R) = ev S d 128 167 [a0, .inl x] (.inl x :: st) (sh, I, R) := (ev_eq f_128_166).trans rfl
theorem f_128_167 : fetch 128 167 = some (167, .iadd, 1, [], 0) := (fm_128 167).trans rfl
theorem u_128_167 {S : Scr} {d : Nat} {a0 a1 : AV} {st : List AV} {sh : Shp} {I : IM} {R : RM} {x y : Int} : ev S d 128 167 [a0, a1] (.inl y :: .inl x :: st) (sh, I, R) = ev S d 128 168 [a0, a1] (.inl (wr (x + y)) :: st) (sh, I, R) := (ev_eq f_128_167).trans rfl
theorem f_128_168 : fetch 128 168 = some (168, .iconst 1, 1, [], 1) := (fm_128 168).trans rfl
theorem u_128_168 {S : Scr} {d : Nat} {a0 a1 : AV} {st : List AV} {sh : Shp} {I : IM} {R : RM} : ev S d 128 168 [a0, a1] st (sh, I, R) = ev S d 128 169 [a0, a1] (.inl 1 :: st) (sh, I, R) := (ev_eq f_128_168).trans rfl
theorem f_128_169 : fetch 128 169 = some (169, .iastore, 1, [], 0) := (fm_128 169).trans rfl
theorem u_128_169 {S : Scr} {d : Nat} {a0 a1 : AV} {st : List AV} {sh : Shp} {I : IM} {R : RM} {k : Nat} {i x : Int} (h : tg sh k = 100) (h0 : 0 ≤ i) (h1 : i < ln sh k) : ev S d 128 169 [a0, a1] (.inl x :: .inl i :: .inr (.inl k) :: st) (sh, I, R) = ev S d 128 170 [a0, a1] st (sh, up I k i x, R) := (ev_eq f_128_169).trans (congrArg (fin S d 128) (if_pos ⟨h, h0, h1⟩))
theorem f_128_170 : fetch 128 170 = some (170, .iinc 1 1, 3, [1], 1) := (fm_128 170).trans rfl
theorem u_128_170 {S : Scr} {d : Nat} {a0 : AV} {st : List AV} {sh : Shp} {I : IM} {R : RM} {x : Int} : ev S d 128 170 [a0, .inl x] st (sh, I, R) = ev S d 128 173 [a0, .inl (wr (x + 1))] st (sh, I, R) := (ev_eq f_128_170).trans rfl
theorem f_128_173 : fetch 128 173 = some (173, .goto (-19), 3, [154], 0) := (fm_128 173).trans rfl
theorem u_128_173 {S : Scr} {d : Nat} {a0 a1 : AV} {st : List AV} {sh : Shp} {I : IM} {R : RM} : ev S d 128 173 [a0, a1] st (sh, I, R) = ev S d 128 154 [a0, a1] st (sh, I, R) := (ev_eq f_128_173).trans rfl
theorem f_128_176 : fetch 128 176 = some (176, .iconst 0, 1, [], 0) := (fm_128 176).trans rfl
theorem u_128_176 {S : Scr} {d : Nat} {a0 a1 : AV} {st : List AV} {sh : Shp} {I : IM} {R : RM} : ev S d 128 176 [a0, a1] st (sh, I, R) = ev S d 128 177 [a0, a1] (.inl 0 :: st) (sh, I, R) := (ev_eq f_128_176).trans rfl
theorem f_128_177 : fetch 128 177 = some (177, .istore_n 1, 1, [1], 0) := (fm_128 177).trans rfl
theorem u_128_177 {S : Scr} {d : Nat} {a0 a1 : AV} {st : List AV} {sh : Shp} {I : IM} {R : RM} {x : Int} : ev S d 128 177 [a0, a1] (.inl x :: st) (sh, I, R) = ev S d 128 178 [a0, .inl x] st (sh, I, R) := (ev_eq f_128_177).trans rfl
theorem f_128_178 : fetch 128 178 = some (178, .iload_n 1, 1, [1], 0) := (fm_128 178).trans rfl
theorem u_128_178 {S : Scr} {d : Nat} {a0 : AV} {st : List AV} {sh : Shp} {I : IM} {R : RM} {x : Int} : ev S d 128 178 [a0, .inl x] st (sh, I, R) = ev S d 128 179 [a0, .inl x] (.inl x :: st) (sh, I, R) := (ev_eq f_128_178).trans rfl
theorem f_128_179 : fetch 128 179 = some (179, .bipush 8, 2, [], 8) := (fm_128 179).trans rfl
theorem u_128_179 {S : Scr} {d : Nat} {a0 a1 : AV} {st : List AV} {sh : Shp} {I : IM} {R : RM} : ev S d 128 179 [a0, a1] st (sh, I, R) = ev S d 128 181 [a0, a1] (.inl 8 :: st) (sh, I, R) := (ev_eq f_128_179).trans rfl
theorem f_128_181 : fetch 128 181 = some (181, .if_icmp .ge 16, 3, [197], 0) := (fm_128 181).trans rfl
theorem u_128_181 {S : Scr} {d : Nat} {a0 a1 : AV} {st : List AV} {sh : Shp} {I : IM} {R : RM} {x y : Int} : ev S d 128 181 [a0, a1] (.inl y :: .inl x :: st) (sh, I, R) = if y ≤ x then ev S d 128 197 [a0, a1] st (sh, I, R) else ev S d 128 184 [a0, a1] st (sh, I, R) := (ev_eq f_128_181).trans fin_icmp_ge
theorem f_128_184 : fetch 128 184 = some (184, .aload_n 0, 1, [0], 0) := (fm_128 184).trans rfl
theorem u_128_184 {S : Scr} {d : Nat} {a1 : AV} {st : List AV} {sh : Shp} {I : IM} {R : RM} {x : Nat} : ev S d 128 184 [.inr (.inl x), a1] st (sh, I, R) = ev S d 128 185 [.inr (.inl x), a1] (.inr (.inl x) :: st) (sh, I, R) := (ev_eq f_128_184).trans rfl
theorem f_128_185 : fetch 128 185 = some (185, .getfield 19, 3, [9, 4, 1, 82], 0) := (fm_128 185).trans rfl
theorem u_128_185 {S : Scr} {d : Nat} {a0 a1 : AV} {st : List AV} {sh : Shp} {I : IM} {R : RM} {k : Nat} (h : tg sh k = 9) : ev S d 128 185 [a0, a1] (.inr (.inl k) :: st) (sh, I, R) = ev S d 128 188 [a0, a1] (rv (R k 4) :: st) (sh, I, R) := (ev_eq f_128_185).trans (congrArg (fin S d 128) (if_pos h))
theorem f_128_188 : fetch 128 188 = some (188, .iload_n 1, 1, [1], 0) := (fm_128 188).trans rfl
theorem u_128_188 {S : Scr} {d : Nat} {a0 : AV} {st : List AV} {sh : Shp} {I : IM} {R : RM} {x : Int} : ev S d 128 188 [a0, .inl x] st (sh, I, R) = ev S d 128 189 [a0, .inl x] (.inl x :: st) (sh, I, R) := (ev_eq f_128_188).trans rfl
theorem f_128_189 : fetch 128 189 = some (189, .iconst (-1), 1, [], (-1)) := (fm_128 189).trans rfl
theorem u_128_189 {S : Scr} {d : Nat} {a0 a1 : AV} {st : List AV} {sh : Shp} {I : IM} {R : RM} : ev S d 128 189 [a0, a1] st (sh, I, R) = ev S d 128 190 [a0, a1] (.inl (-1) :: st) (sh, I, R) := (ev_eq f_128_189).trans rfl
theorem f_128_190 : fetch 128 190 = some (190, .iastore, 1, [], 0) := (fm_128 190).trans rfl
theorem u_128_190 {S : Scr} {d : Nat} {a0 a1 : AV} {st : List AV} {sh : Shp} {I : IM} {R : RM} {k : Nat} {i x : Int} (h : tg sh k = 100) (h0 : 0 ≤ i) (h1 : i < ln sh k) : ev S d 128 190 [a0, a1] (.inl x :: .inl i :: .inr (.inl k) :: st) (sh, I, R) = ev S d 128 191 [a0, a1] st (sh, up I k i x, R) := (ev_eq f_128_190).trans (congrArg (fin S d 128) (if_pos ⟨h, h0, h1⟩))
theorem f_128_191 : fetch 128 191 = some (191, .iinc 1 1, 3, [1], 1) := (fm_128 191).trans rfl
theorem u_128_191 {S : Scr} {d : Nat} {a0 : AV} {st : List AV} {sh : Shp} {I : IM} {R : RM} {x : Int} : ev S d 128 191 [a0, .inl x] st (sh, I, R) = ev S d 128 194 [a0, .inl (wr (x + 1))] st (sh, I, R) := (ev_eq f_128_191).trans rfl
theorem f_128_194 : fetch 128 194 = some (194, .goto (-16), 3, [178], 0) := (fm_128 194).trans rfl
theorem u_128_194 {S : Scr} {d : Nat} {a0 a1 : AV} {st : List AV} {sh : Shp} {I : IM} {R : RM} : ev S d 128 194 [a0, a1] st (sh, I, R) = ev S d 128 178 [a0, a1] st (sh, I, R) := (ev_eq f_128_194).trans rfl
theorem f_128_197 : fetch 128 197 = some (197, .iconst 0, 1, [], 0) := (fm_128 197).trans rfl
theorem u_128_197 {S : Scr} {d : Nat} {a0 a1 : AV} {st : List AV} {sh : Shp} {I : IM} {R : RM} : ev S d 128 197 [a0, a1] st (sh, I, R) = ev S d 128 198 [a0, a1] (.inl 0 :: st) (sh, I, R) := (ev_eq f_128_197).trans rfl
theorem f_128_198 : fetch 128 198 = some (198, .istore_n 1, 1, [1], 0) := (fm_128 198).trans rfl
theorem u_128_198 {S : Scr} {d : Nat} {a0 a1 : AV} {st : List AV} {sh : Shp} {I : IM} {R : RM} {x : Int} : ev S d 128 198 [a0, a1] (.inl x :: st) (sh, I, R) = ev S d 128 199 [a0, .inl x] st (sh, I, R) := (ev_eq f_128_198).trans rfl
theorem f_128_199 : fetch 128 199 = some (199, .iload_n 1, 1, [1], 0) := (fm_128 199).trans rfl
theorem u_128_199 {S : Scr} {d : Nat} {a0 : AV} {st : List AV} {sh : Shp} {I : IM} {R : RM} {x : Int} : ev S d 128 199 [a0, .inl x] st (sh, I, R) = ev S d 128 200 [a0, .inl x] (.inl x :: st) (sh, I, R) := (ev_eq f_128_199).trans rfl
theorem f_128_200 : fetch 128 200 = some (200, .iconst 4, 1, [], 4) := (fm_128 200).trans rfl
theorem u_128_200 {S : Scr} {d : Nat} {a0 a1 : AV} {st : List AV} {sh : Shp} {I : IM} {R : RM} : ev S d 128 200 [a0, a1] st (sh, I, R) = ev S d 128 201 [a0, a1] (.inl 4 :: st) (sh, I, R) := (ev_eq f_128_200).trans rfl
theorem f_128_201 : fetch 128 201 = some (201, .if_icmp .ge 16, 3, [217], 0) := (fm_128 201).trans rfl
theorem u_128_201 {S : Scr} {d : Nat} {a0 a1 : AV} {st : List AV} {sh : Shp} {I : IM} {R : RM} {x y : Int} : ev S d 128 201 [a0, a1] (.inl y :: .inl x :: st) (sh, I, R) = if y ≤ x then ev S d 128 217 [a0, a1] st (sh, I, R) else ev S d 128 204 [a0, a1] st (sh, I, R) := (ev_eq f_128_201).trans fin_icmp_ge
theorem f_128_204 : fetch 128 204 = some (204, .aload_n 0, 1, [0], 0) := (fm_128 204).trans rfl
theorem u_128_204 {S : Scr} {d : Nat} {a1 : AV} {st : List AV} {sh : Shp} {I : IM} {R : RM} {x : Nat} : ev S d 128 204 [.inr (.inl x), a1] st (sh, I, R) = ev S d 128 205 [.inr (.inl x), a1] (.inr (.inl x) :: st) (sh, I, R) := (ev_eq f_128_204).trans rfl
theorem f_128_205 : fetch 128 205 = some (205, .getfield 22, 3, [9, 5, 1, 83], 0) := (fm_128 205).trans rfl
theorem u_128_205 {S : Scr} {d : Nat} {a0 a1 : AV} {st : List AV} {sh : Shp} {I : IM} {R : RM} {k : Nat} (h : tg sh k = 9) : ev S d 128 205 [a0, a1] (.inr (.inl k) :: st) (sh, I, R) = ev S d 128 208 [a0, a1] (rv (R k 5) :: st) (sh, I, R) := (ev_eq f_128_205).trans (congrArg (fin S d 128) (if_pos h))
theorem f_128_208 : fetch 128 208 = some (208, .iload_n 1, 1, [1], 0) := (fm_128 208).trans rfl
theorem u_128_208 {S : Scr} {d : Nat} {a0 : AV} {st : List AV} {sh : Shp} {I : IM} {R : RM} {x : Int} : ev S d 128 208 [a0, .inl x] st (sh, I, R) = ev S d 128 209 [a0, .inl x] (.inl x :: st) (sh, I, R) := (ev_eq f_128_208).trans rfl
theorem f_128_209 : fetch 128 209 = some (209, .iconst (-1), 1, [], (-1)) := (fm_128 209).trans rfl
theorem u_128_209 {S : Scr} {d : Nat} {a0 a1 : AV} {st : List AV} {sh : Shp} {I : IM} {R : RM} : ev S d 128 209 [a0, a1] st (sh, I, R) = ev S d 128 210 [a0, a1] (.inl (-1) :: st) (sh, I, R) := (ev_eq f_128_209).trans rfl
theorem f_128_210 : fetch 128 210 = some (210, .iastore, 1, [], 0) := (fm_128 210).trans rfl
theorem u_128_210 {S : Scr} {d : Nat} {a0 a1 : AV} {st : List AV} {sh : Shp} {I : IM} {R : RM} {k : Nat} {i x : Int} (h : tg sh k = 100) (h0 : 0 ≤ i) (h1 : i < ln sh k) : ev S d 128 210 [a0, a1] (.inl x :: .inl i :: .inr (.inl k) :: st) (sh, I, R) = ev S d 128 211 [a0, a1] st (sh, up I k i x, R) := (ev_eq f_128_210).trans (congrArg (fin S d 128) (if_pos ⟨h, h0, h1⟩))
theorem f_128_211 : fetch 128 211 = some (211, .iinc 1 1, 3, [1], 1) := (fm_128 211).trans rfl
theorem u_128_211 {S : Scr} {d : Nat} {a0 : AV} {st : List AV} {sh : Shp} {I : IM} {R : RM} {x : Int} : ev S d 128 211 [a0, .inl x] st (sh, I, R) = ev S d 128 214 [a0, .inl (wr (x + 1))] st (sh, I, R) := (ev_eq f_128_211).trans rfl
theorem f_128_214 : fetch 128 214 = some (214, .goto (-15), 3, [199], 0) := (fm_128 214).trans rfl
theorem u_128_214 {S : Scr} {d : Nat} {a0 a1 : AV} {st : List AV} {sh : Shp} {I : IM} {R : RM} : ev S d 128 214 [a0, a1] st (sh, I, R) = ev S d 128 199 [a0, a1] st (sh, I, R) := (ev_eq f_128_214).trans rfl
theorem f_128_217 : fetch 128 217 = some (217, .return_, 1, [], 0) := (fm_128 217).trans rfl
theorem u_128_217 {S : Scr} {d : Nat} {a0 a1 : AV} {sh : Shp} {I : IM} {R : RM} : ev S d 128 217 [a0, a1] [] (sh, I, R) = some (none, (sh, I, R)) := (ev_eq f_128_217).trans rfl
theorem c_129 {d : Nat} {a0 a1 a2 : AV} {M : Mem} : cl (d + 1) 129 [a0, a1, a2] M = ev S0 d 129 0 [a0, a1, a2] [] M := (cl_eq (as := [a0, a1, a2]) (show 3 ≤ maxOf 129 by decide +kernel)).trans rfl
theorem mt_129 : MT[129]? = some m_129 := rfl
theorem fm_129 (pc : Nat) : fetch 129 pc = lk m_129.2.2.2.2.2 pc := by
  unfold fetch
  rw [mt_129]
theorem f_129_0 : fetch 129 0 = some (0, .iload_n 0, 1, [0], 0) := (fm_129 0).trans rfl
theorem u_129_0 {S : Scr} {d : Nat} {a1 a2 : AV} {st : List AV} {sh : Shp} {I : IM} {R : RM} {x : Int} : ev S d 129 0 [.inl x, a1, a2] st (sh, I, R) = ev S d 129 1 [.inl x, a1, a2] (.inl x :: st) (sh, I, R) := (ev_eq f_129_0).trans rfl
theorem f_129_1 : fetch 129 1 = some (1, .iload_n 1, 1, [1], 0) := (fm_129 1).trans rfl
theorem u_129_1 {S : Scr} {d : Nat} {a0 a2 : AV} {st : List AV} {sh : Shp} {I : IM} {R : RM} {x : Int} : ev S d 129 1 [a0, .inl x, a2] st (sh, I, R) = ev S d 129 2 [a0, .inl x, a2] (.inl x :: st) (sh, I, R) := (ev_eq f_129_1).trans rfl
theorem f_129_2 : fetch 129 2 = some (2, .if_icmp .lt 12, 3, [14], 0) := (fm_129 2).trans rfl
theorem u_129_2 {S : Scr} {d : Nat} {a0 a1 a2 : AV} {st : List AV} {sh : Shp} {I : IM} {R : RM} {x y : Int} : ev S d 129 2 [a0, a1, a2] (.inl y :: .inl x :: st) (sh, I, R) = if x < y then ev S d 129 14 [a0, a1, a2] st (sh, I, R) else ev S d 129 5 [a0, a1, a2] st (sh, I, R) := (ev_eq f_129_2).trans fin_icmp_lt
theorem f_129_5 : fetch 129 5 = some (5, .iload_n 0, 1, [0], 0) := (fm_129 5).trans rfl
theorem u_129_5 {S : Scr} {d : Nat} {a1 a2 : AV} {st : List AV} {sh : Shp} {I : IM} {R : RM} {x : Int} : ev S d 129 5 [.inl x, a1, a2] st (sh, I, R) = ev S d 129 6 [.inl x, a1, a2] (.inl x :: st) (sh, I, R) := (ev_eq f_129_5).trans rfl
theorem f_129_6 : fetch 129 6 = some (6, .iload_n 2, 1, [2], 0) := (fm_129 6).trans rfl
theorem u_129_6 {S : Scr} {d : Nat} {a0 a1 : AV} {st : List AV} {sh : Shp} {I : IM} {R : RM} {x : Int} : ev S d 129 6 [a0, a1, .inl x] st (sh, I, R) = ev S d 129 7 [a0, a1, .inl x] (.inl x :: st) (sh, I, R) := (ev_eq f_129_6).trans rfl
theorem f_129_7 : fetch 129 7 = some (7, .if_icmp .gt 7, 3, [14], 0) := (fm_129 7).trans rfl
theorem u_129_7 {S : Scr} {d : Nat} {a0 a1 a2 : AV} {st : List AV} {sh : Shp} {I : IM} {R : RM} {x y : Int} : ev S d 129 7 [a0, a1, a2] (.inl y :: .inl x :: st) (sh, I, R) = if y < x then ev S d 129 14 [a0, a1, a2] st (sh, I, R) else ev S d 129 10 [a0, a1, a2] st (sh, I, R) := (ev_eq f_129_7).trans fin_icmp_gt
theorem f_129_10 : fetch 129 10 = some (10, .iconst 1, 1, [], 1) := (fm_129 10).trans rfl
theorem u_129_10 {S : Scr} {d : Nat} {a0 a1 a2 : AV} {st : List AV} {sh : Shp} {I : IM} {R : RM} : ev S d 129 10 [a0, a1, a2] st (sh, I, R) = ev S d 129 11 [a0, a1, a2] (.inl 1 :: st) (sh, I, R) := (ev_eq f_129_10).trans rfl
theorem f_129_11 : fetch 129 11 = some (11, .goto 4, 3, [15], 0) := (fm_129 11).trans rfl
theorem u_129_11 {S : Scr} {d : Nat} {a0 a1 a2 : AV} {st : List AV} {sh : Shp} {I : IM} {R : RM} : ev S d 129 11 [a0, a1, a2] st (sh, I, R) = ev S d 129 15 [a0, a1, a2] st (sh, I, R) := (ev_eq f_129_11).trans rfl
theorem f_129_14 : fetch 129 14 = some (14, .iconst 0, 1, [], 0) := (fm_129 14).trans rfl
theorem u_129_14 {S : Scr} {d : Nat} {a0 a1 a2 : AV} {st : List AV} {sh : Shp} {I : IM} {R : RM} : ev S d 129 14 [a0, a1, a2] st (sh, I, R) = ev S d 129 15 [a0, a1, a2] (.inl 0 :: st) (sh, I, R) := (ev_eq f_129_14).trans rfl
theorem f_129_15 : fetch 129 15 = some (15, .ireturn, 1, [1], 0) := (fm_129 15).trans rfl
theorem u_129_15 {S : Scr} {d : Nat} {a0 a1 a2 : AV} {sh : Shp} {I : IM} {R : RM} {x : Int} (h : x = 0 ∨ x = 1) : ev S d 129 15 [a0, a1, a2] [.inl x] (sh, I, R) = some (some (.inl x), (sh, I, R)) := (ev_eq f_129_15).trans (fin_iret1 h)
theorem c_130 {d : Nat} {a0 a1 : AV} {M : Mem} : cl (d + 1) 130 [a0, a1] M = ev S0 d 130 0 [a0, a1, .inr (.inr 1)] [] M := (cl_eq (as := [a0, a1]) (show 2 ≤ maxOf 130 by decide +kernel)).trans rfl
theorem mt_130 : MT[130]? = some m_130 := rfl
theorem fm_130 (pc : Nat) : fetch 130 pc = lk m_130.2.2.2.2.2 pc := by
  unfold fetch
  rw [mt_130]
theorem f_130_0 : fetch 130 0 = some (0, .iconst 0, 1, [], 0) := (fm_130 0).trans rfl
theorem u_130_0 {S : Scr} {d : Nat} {a0 a1 a2 : AV} {st : List AV} {sh : Shp} {I : IM} {R : RM} : ev S d 130 0 [a0, a1, a2] st (sh, I, R) = ev S d 130 1 [a0, a1, a2] (.inl 0 :: st) (sh, I, R) := (ev_eq f_130_0).trans rfl
theorem f_130_1 : fetch 130 1 = some (1, .istore_n 2, 1, [2], 0) := (fm_130 1).trans rfl
theorem u_130_1 {S : Scr} {d : Nat} {a0 a1 a2 : AV} {st : List AV} {sh : Shp} {I : IM} {R : RM} {x : Int} : ev S d 130 1 [a0, a1, a2] (.inl x :: st) (sh, I, R) = ev S d 130 2 [a0, a1, .inl x] st (sh, I, R) := (ev_eq f_130_1).trans rfl
theorem f_130_2 : fetch 130 2 = some (2, .iload_n 2, 1, [2], 0) := (fm_130 2).trans rfl
theorem u_130_2 {S : Scr} {d : Nat} {a0 a1 : AV} {st : List AV} {sh : Shp} {I : IM} {R : RM} {x : Int} : ev S d 130 2 [a0, a1, .inl x] st (sh, I, R) = ev S d 130 3 [a0, a1, .inl x] (.inl x :: st) (sh, I, R) := (ev_eq f_130_2).trans rfl
theorem f_130_3 : fetch 130 3 = some (3, .sipush 744, 3, [], 744) := (fm_130 3).trans rfl
theorem u_130_3 {S : Scr} {d : Nat} {a0 a1 a2 : AV} {st : List AV} {sh : Shp} {I : IM} {R : RM} : ev S d 130 3 [a0, a1, a2] st (sh, I, R) = ev S d 130 6 [a0, a1, a2] (.inl 744 :: st) (sh, I, R) := (ev_eq f_130_3).trans rfl
theorem f_130_6 : fetch 130 6 = some (6, .if_icmp .ge 15, 3, [21], 0) := (fm_130 6).trans rfl
theorem u_130_6 {S : Scr} {d : Nat} {a0 a1 a2 : AV} {st : List AV} {sh : Shp} {I : IM} {R : RM} {x y : Int} : ev S d 130 6 [a0, a1, a2] (.inl y :: .inl x :: st) (sh, I, R) = if y ≤ x then ev S d 130 21 [a0, a1, a2] st (sh, I, R) else ev S d 130 9 [a0, a1, a2] st (sh, I, R) := (ev_eq f_130_6).trans fin_icmp_ge
theorem f_130_9 : fetch 130 9 = some (9, .aload_n 1, 1, [1], 0) := (fm_130 9).trans rfl
theorem u_130_9 {S : Scr} {d : Nat} {a0 a2 : AV} {st : List AV} {sh : Shp} {I : IM} {R : RM} {x : Nat} : ev S d 130 9 [a0, .inr (.inl x), a2] st (sh, I, R) = ev S d 130 10 [a0, .inr (.inl x), a2] (.inr (.inl x) :: st) (sh, I, R) := (ev_eq f_130_9).trans rfl
theorem u_130_9n {S : Scr} {d : Nat} {a0 a2 : AV} {st : List AV} {sh : Shp} {I : IM} {R : RM} : ev S d 130 9 [a0, .inr (.inr 0), a2] st (sh, I, R) = ev S d 130 10 [a0, .inr (.inr 0), a2] (.inr (.inr 0) :: st) (sh, I, R) := (ev_eq f_130_9).trans rfl
theorem f_130_10 : fetch 130 10 = some (10, .iload_n 2, 1, [2], 0) := (fm_130 10).trans rfl
theorem u_130_10 {S : Scr} {d : Nat} {a0 a1 : AV} {st : List AV} {sh : Shp} {I : IM} {R : RM} {x : Int} : ev S d 130 10 [a0, a1, .inl x] st (sh, I, R) = ev S d 130 11 [a0, a1, .inl x] (.inl x :: st) (sh, I, R) := (ev_eq f_130_10).trans rfl
theorem f_130_11 : fetch 130 11 = some (11, .aload_n 0, 1, [0], 0) := (fm_130 11).trans rfl
theorem u_130_11 {S : Scr} {d : Nat} {a1 a2 : AV} {st : List AV} {sh : Shp} {I : IM} {R : RM} {x : Nat} : ev S d 130 11 [.inr (.inl x), a1, a2] st (sh, I, R) = ev S d 130 12 [.inr (.inl x), a1, a2] (.inr (.inl x) :: st) (sh, I, R) := (ev_eq f_130_11).trans rfl
theorem u_130_11n {S : Scr} {d : Nat} {a1 a2 : AV} {st : List AV} {sh : Shp} {I : IM} {R : RM} : ev S d 130 11 [.inr (.inr 0), a1, a2] st (sh, I, R) = ev S d 130 12 [.inr (.inr 0), a1, a2] (.inr (.inr 0) :: st) (sh, I, R) := (ev_eq f_130_11).trans rfl
theorem f_130_12 : fetch 130 12 = some (12, .iload_n 2, 1, [2], 0) := (fm_130 12).trans rfl
theorem u_130_12 {S : Scr} {d : Nat} {a0 a1 : AV} {st : List AV} {sh : Shp} {I : IM} {R : RM} {x : Int} : ev S d 130 12 [a0, a1, .inl x] st (sh, I, R) = ev S d 130 13 [a0, a1, .inl x] (.inl x :: st) (sh, I, R) := (ev_eq f_130_12).trans rfl
theorem f_130_13 : fetch 130 13 = some (13, .iaload, 1, [], 0) := (fm_130 13).trans rfl
theorem u_130_13 {S : Scr} {d : Nat} {a0 a1 a2 : AV} {st : List AV} {sh : Shp} {I : IM} {R : RM} {k : Nat} {i : Int} (h : tg sh k = 100) (h0 : 0 ≤ i) (h1 : i < ln sh k) : ev S d 130 13 [a0, a1, a2] (.inl i :: .inr (.inl k) :: st) (sh, I, R) = ev S d 130 14 [a0, a1, a2] (.inl (I k i) :: st) (sh, I, R) := (ev_eq f_130_13).trans (congrArg (fin S d 130) (if_pos ⟨h, h0, h1⟩))
theorem f_130_14 : fetch 130 14 = some (14, .iastore, 1, [], 0) := (fm_130 14).trans rfl
theorem u_130_14 {S : Scr} {d : Nat} {a0 a1 a2 : AV} {st : List AV} {sh : Shp} {I : IM} {R : RM} {k : Nat} {i x : Int} (h : tg sh k = 100) (h0 : 0 ≤ i) (h1 : i < ln sh k) : ev S d 130 14 [a0, a1, a2] (.inl x :: .inl i :: .inr (.inl k) :: st) (sh, I, R) = ev S d 130 15 [a0, a1, a2] st (sh, up I k i x, R) := (ev_eq f_130_14).trans (congrArg (fin S d 130) (if_pos ⟨h, h0, h1⟩))
theorem f_130_15 : fetch 130 15 = some (15, .iinc 2 1, 3, [2], 1) := (fm_130 15).trans rfl
theorem u_130_15 {S : Scr} {d : Nat} {a0 a1 : AV} {st : List AV} {sh : Shp} {I : IM} {R : RM} {x : Int} : ev S d 130 15 [a0, a1, .inl x] st (sh, I, R) = ev S d 130 18 [a0, a1, .inl (wr (x + 1))] st (sh, I, R) := (ev_eq f_130_15).trans rfl
theorem f_130_18 : fetch 130 18 = some (18, .goto (-16), 3, [2], 0) := (fm_130 18).trans rfl
theorem u_130_18 {S : Scr} {d : Nat} {a0 a1 a2 : AV} {st : List AV} {sh : Shp} {I : IM} {R : RM} : ev S d 130 18 [a0, a1, a2] st (sh, I, R) = ev S d 130 2 [a0, a1, a2] st (sh, I, R) := (ev_eq f_130_18).trans rfl
theorem f_130_21 : fetch 130 21 = some (21, .return_, 1, [], 0) := (fm_130 21).trans rfl
theorem u_130_21 {S : Scr} {d : Nat} {a0 a1 a2 : AV} {sh : Shp} {I : IM} {R : RM} : ev S d 130 21 [a0, a1, a2] [] (sh, I, R) = some (none, (sh, I, R)) := (ev_eq f_130_21).trans rfl
theorem c_131 {d : Nat} {a0 : AV} {M : Mem} : cl (d + 1) 131 [a0] M = ev S0 d 131 0 [a0] [] M := (cl_eq (as := [a0]) (show 1 ≤ maxOf 131 by decide +kernel)).trans rfl
theorem mt_131 : MT[131]? = some m_131 := rfl
theorem fm_131 (pc : Nat) : fetch 131 pc = lk m_131.2.2.2.2.2 pc := by
  unfold fetch
  rw [mt_131]
theorem f_131_0 : fetch 131 0 = some (0, .iload_n 0, 1, [0], 0) := (fm_131 0).trans rfl
theorem u_131_0 {S : Scr} {d : Nat} {st : List AV} {sh : Shp} {I : IM} {R : RM} {x : Int} : ev S d 131 0 [.inl x] st (sh, I, R) = ev S d 131 1 [.inl x] (.inl x :: st) (sh, I, R) := (ev_eq f_131_0).trans rfl
theorem f_131_1 : fetch 131 1 = some (1, .bipush 97, 2, [], 97) := (fm_131 1).trans rfl
theorem u_131_1 {S : Scr} {d : Nat} {a0 : AV} {st : List AV} {sh : Shp} {I : IM} {R : RM} : ev S d 131 1 [a0] st (sh, I, R) = ev S d 131 3 [a0] (.inl 97 :: st) (sh, I, R) := (ev_eq f_131_1).trans rfl
theorem f_131_3 : fetch 131 3 = some (3, .bipush 104, 2, [], 104) := (fm_131 3).trans rfl
theorem u_131_3 {S : Scr} {d : Nat} {a0 : AV} {st : List AV} {sh : Shp} {I : IM} {R : RM} : ev S d 131 3 [a0] st (sh, I, R) = ev S d 131 5 [a0] (.inl 104 :: st) (sh, I, R) := (ev_eq f_131_3).trans rfl
theorem f_131_5 : fetch 131 5 = some (5, .invokestatic 64, 3, [129, 3, 125], 0) := (fm_131 5).trans rfl
theorem u_131_5 {S : Scr} {d : Nat} {a0 : AV} {st : List AV} {sh : Shp} {I : IM} {R : RM} {x0 : Int} {x1 : Int} {x2 : Int} (hr : st.length ≤ 8) : ev S d 131 5 [a0] (.inl x2 :: .inl x1 :: .inl x0 :: st) (sh, I, R) = bnd (cl d 129 [.inl x0, .inl x1, .inl x2] (sh, I, R)) (fun v M => ev S d 131 8 [a0] (psh v st) M) := (ev_eq f_131_5).trans (congrArg (fin S d 131) (if_pos ⟨rfl, hr⟩))
theorem f_131_8 : fetch 131 8 = some (8, .ireturn, 1, [1], 0) := (fm_131 8).trans rfl
theorem u_131_8 {S : Scr} {d : Nat} {a0 : AV} {sh : Shp} {I : IM} {R : RM} {x : Int} (h : x = 0 ∨ x = 1) : ev S d 131 8 [a0] [.inl x] (sh, I, R) = some (some (.inl x), (sh, I, R)) := (ev_eq f_131_8).trans (fin_iret1 h)
theorem c_132 {d : Nat} {a0 : AV} {M : Mem} : cl (d + 1) 132 [a0] M = ev S0 d 132 0 [a0] [] M := (cl_eq (as := [a0]) (show 1 ≤ maxOf 132 by decide +kernel)).trans rfl
theorem mt_132 : MT[132]? = some m_132 := rfl
theorem fm_132 (pc : Nat) : fetch 132 pc = lk m_132.2.2.2.2.2 pc := by
  unfold fetch
  rw [mt_132]
theorem f_132_0 : fetch 132 0 = some (0, .iload_n 0, 1, [0], 0) := (fm_132 0).trans rfl
theorem u_132_0 {S : Scr} {d : Nat} {st : List AV} {sh : Shp} {I : IM} {R : RM} {x : Int} : ev S d 132 0 [.inl x] st (sh, I, R) = ev S d 132 1 [.inl x] (.inl x :: st) (sh, I, R) := (ev_eq f_132_0).trans rfl
theorem f_132_1 : fetch 132 1 = some (1, .bipush (-99), 2, [], (-99)) := (fm_132 1).trans rfl
theorem u_132_1 {S : Scr} {d : Nat} {a0 : AV} {st : List AV} {sh : Shp} {I : IM} {R : RM} : ev S d 132 1 [a0] st (sh, I, R) = ev S d 132 3 [a0] (.inl (-99) :: st) (sh, I, R) := (ev_eq f_132_1).trans rfl
theorem f_132_3 : fetch 132 3 = some (3, .bipush 99, 2, [], 99) := (fm_132 3).trans rfl
theorem u_132_3 {S : Scr} {d : Nat} {a0 : AV} {st : List AV} {sh : Shp} {I : IM} {R : RM} : ev S d 132 3 [a0] st (sh, I, R) = ev S d 132 5 [a0] (.inl 99 :: st) (sh, I, R) := (ev_eq f_132_3).trans rfl
theorem f_132_5 : fetch 132 5 = some (5, .invokestatic 64, 3, [129, 3, 125], 0) := (fm_132 5).trans rfl
theorem u_132_5 {S : Scr} {d : Nat} {a0 : AV} {st : List AV} {sh : Shp} {I : IM} {R : RM} {x0 : Int} {x1 : Int} {x2 : Int} (hr : st.length ≤ 8) : ev S d 132 5 [a0] (.inl x2 :: .inl x1 :: .inl x0 :: st) (sh, I, R) = bnd (cl d 129 [.inl x0, .inl x1, .inl x2] (sh, I, R)) (fun v M => ev S d 132 8 [a0] (psh v st) M) := (ev_eq f_132_5).trans (congrArg (fin S d 132) (if_pos ⟨rfl, hr⟩))
theorem f_132_8 : fetch 132 8 = some (8, .ireturn, 1, [1], 0) := (fm_132 8).trans rfl
theorem u_132_8 {S : Scr} {d : Nat} {a0 : AV} {sh : Shp} {I : IM} {R : RM} {x : Int} (h : x = 0 ∨ x = 1) : ev S d 132 8 [a0] [.inl x] (sh, I, R) = some (some (.inl x), (sh, I, R)) := (ev_eq f_132_8).trans (fin_iret1 h)
theorem c_133 {d : Nat} {a0 a1 : AV} {M : Mem} : cl (d + 1) 133 [a0, a1] M = ev S0 d 133 0 [a0, a1] [] M := (cl_eq (as := [a0, a1]) (show 2 ≤ maxOf 133 by decide +kernel)).trans rfl
theorem mt_133 : MT[133]? = some m_133 := rfl
theorem fm_133 (pc : Nat) : fetch 133 pc = lk m_133.2.2.2.2.2 pc := by
  unfold fetch
  rw [mt_133]
theorem f_133_0 : fetch 133 0 = some (0, .iload_n 1, 1, [1], 0) := (fm_133 0).trans rfl
theorem u_133_0 {S : Scr} {d : Nat} {a0 : AV} {st : List AV} {sh : Shp} {I : IM} {R : RM} {x : Int} : ev S d 133 0 [a0, .inl x] st (sh, I, R) = ev S d 133 1 [a0, .inl x] (.inl x :: st) (sh, I, R) := (ev_eq f_133_0).trans rfl
theorem f_133_1 : fetch 133 1 = some (1, .iconst 0, 1, [], 0) := (fm_133 1).trans rfl
theorem u_133_1 {S : Scr} {d : Nat} {a0 a1 : AV} {st : List AV} {sh : Shp} {I : IM} {R : RM} : ev S d 133 1 [a0, a1] st (sh, I, R) = ev S d 133 2 [a0, a1] (.inl 0 :: st) (sh, I, R) := (ev_eq f_133_1).trans rfl
theorem f_133_2 : fetch 133 2 = some (2, .bipush 29, 2, [], 29) := (fm_133 2).trans rfl
theorem u_133_2 {S : Scr} {d : Nat} {a0 a1 : AV} {st : List AV} {sh : Shp} {I : IM} {R : RM} : ev S d 133 2 [a0, a1] st (sh, I, R) = ev S d 133 4 [a0, a1] (.inl 29 :: st) (sh, I, R) := (ev_eq f_133_2).trans rfl
theorem f_133_4 : fetch 133 4 = some (4, .invokestatic 64, 3, [129, 3, 125], 0) := (fm_133 4).trans rfl
theorem u_133_4 {S : Scr} {d : Nat} {a0 a1 : AV} {st : List AV} {sh : Shp} {I : IM} {R : RM} {x0 : Int} {x1 : Int} {x2 : Int} (hr : st.length ≤ 8) : ev S d 133 4 [a0, a1] (.inl x2 :: .inl x1 :: .inl x0 :: st) (sh, I, R) = bnd (cl d 129 [.inl x0, .inl x1, .inl x2] (sh, I, R)) (fun v M => ev S d 133 7 [a0, a1] (psh v st) M) := (ev_eq f_133_4).trans (congrArg (fin S d 133) (if_pos ⟨rfl, hr⟩))
theorem f_133_7 : fetch 133 7 = some (7, .ifCond .eq 18, 3, [25], 0) := (fm_133 7).trans rfl
theorem u_133_7 {S : Scr} {d : Nat} {a0 a1 : AV} {st : List AV} {sh : Shp} {I : IM} {R : RM} {x : Int} : ev S d 133 7 [a0, a1] (.inl x :: st) (sh, I, R) = if x = 0 then ev S d 133 25 [a0, a1] st (sh, I, R) else ev S d 133 10 [a0, a1] st (sh, I, R) := (ev_eq f_133_7).trans fin_if_eq
theorem f_133_10 : fetch 133 10 = some (10, .aload_n 0, 1, [0], 0) := (fm_133 10).trans rfl
theorem u_133_10 {S : Scr} {d : Nat} {a1 : AV} {st : List AV} {sh : Shp} {I : IM} {R : RM} {x : Nat} : ev S d 133 10 [.inr (.inl x), a1] st (sh, I, R) = ev S d 133 11 [.inr (.inl x), a1] (.inr (.inl x) :: st) (sh, I, R) := (ev_eq f_133_10).trans rfl
theorem f_133_11 : fetch 133 11 = some (11, .getfield 9, 3, [9, 0, 1, 79], 0) := (fm_133 11).trans rfl
theorem u_133_11 {S : Scr} {d : Nat} {a0 a1 : AV} {st : List AV} {sh : Shp} {I : IM} {R : RM} {k : Nat} (h : tg sh k = 9) : ev S d 133 11 [a0, a1] (.inr (.inl k) :: st) (sh, I, R) = ev S d 133 14 [a0, a1] (rv (R k 0) :: st) (sh, I, R) := (ev_eq f_133_11).trans (congrArg (fin S d 133) (if_pos h))
theorem f_133_14 : fetch 133 14 = some (14, .iconst 0, 1, [], 0) := (fm_133 14).trans rfl
theorem u_133_14 {S : Scr} {d : Nat} {a0 a1 : AV} {st : List AV} {sh : Shp} {I : IM} {R : RM} : ev S d 133 14 [a0, a1] st (sh, I, R) = ev S d 133 15 [a0, a1] (.inl 0 :: st) (sh, I, R) := (ev_eq f_133_14).trans rfl
theorem f_133_15 : fetch 133 15 = some (15, .iload_n 1, 1, [1], 0) := (fm_133 15).trans rfl
theorem u_133_15 {S : Scr} {d : Nat} {a0 : AV} {st : List AV} {sh : Shp} {I : IM} {R : RM} {x : Int} : ev S d 133 15 [a0, .inl x] st (sh, I, R) = ev S d 133 16 [a0, .inl x] (.inl x :: st) (sh, I, R) := (ev_eq f_133_15).trans rfl
theorem f_133_16 : fetch 133 16 = some (16, .iadd, 1, [], 0) := (fm_133 16).trans rfl
theorem u_133_16 {S : Scr} {d : Nat} {a0 a1 : AV} {st : List AV} {sh : Shp} {I : IM} {R : RM} {x y : Int} : ev S d 133 16 [a0, a1] (.inl y :: .inl x :: st) (sh, I, R) = ev S d 133 17 [a0, a1] (.inl (wr (x + y)) :: st) (sh, I, R) := (ev_eq f_133_16).trans rfl
theorem f_133_17 : fetch 133 17 = some (17, .iaload, 1, [], 0) := (fm_133 17).trans rfl
theorem u_133_17 {S : Scr} {d : Nat} {a0 a1 : AV} {st : List AV} {sh : Shp} {I : IM} {R : RM} {k : Nat} {i : Int} (h : tg sh k = 100) (h0 : 0 ≤ i) (h1 : i < ln sh k) : ev S d 133 17 [a0, a1] (.inl i :: .inr (.inl k) :: st) (sh, I, R) = ev S d 133 18 [a0, a1] (.inl (I k i) :: st) (sh, I, R) := (ev_eq f_133_17).trans (congrArg (fin S d 133) (if_pos ⟨h, h0, h1⟩))
theorem f_133_18 : fetch 133 18 = some (18, .ifCond .eq 7, 3, [25], 0) := (fm_133 18).trans rfl
theorem u_133_18 {S : Scr} {d : Nat} {a0 a1 : AV} {st : List AV} {sh : Shp} {I : IM} {R : RM} {x : Int} : ev S d 133 18 [a0, a1] (.inl x :: st) (sh, I, R) = if x = 0 then ev S d 133 25 [a0, a1] st (sh, I, R) else ev S d 133 21 [a0, a1] st (sh, I, R) := (ev_eq f_133_18).trans fin_if_eq
theorem f_133_21 : fetch 133 21 = some (21, .iconst 1, 1, [], 1) := (fm_133 21).trans rfl
theorem u_133_21 {S : Scr} {d : Nat} {a0 a1 : AV} {st : List AV} {sh : Shp} {I : IM} {R : RM} : ev S d 133 21 [a0, a1] st (sh, I, R) = ev S d 133 22 [a0, a1] (.inl 1 :: st) (sh, I, R) := (ev_eq f_133_21).trans rfl
theorem f_133_22 : fetch 133 22 = some (22, .goto 4, 3, [26], 0) := (fm_133 22).trans rfl
theorem u_133_22 {S : Scr} {d : Nat} {a0 a1 : AV} {st : List AV} {sh : Shp} {I : IM} {R : RM} : ev S d 133 22 [a0, a1] st (sh, I, R) = ev S d 133 26 [a0, a1] st (sh, I, R) := (ev_eq f_133_22).trans rfl
theorem f_133_25 : fetch 133 25 = some (25, .iconst 0, 1, [], 0) := (fm_133 25).trans rfl
theorem u_133_25 {S : Scr} {d : Nat} {a0 a1 : AV} {st : List AV} {sh : Shp} {I : IM} {R : RM} : ev S d 133 25 [a0, a1] st (sh, I, R) = ev S d 133 26 [a0, a1] (.inl 0 :: st) (sh, I, R) := (ev_eq f_133_25).trans rfl
theorem f_133_26 : fetch 133 26 = some (26, .ireturn, 1, [1], 0) := (fm_133 26).trans rfl
theorem u_133_26 {S : Scr} {d : Nat} {a0 a1 : AV} {sh : Shp} {I : IM} {R : RM} {x : Int} (h : x = 0 ∨ x = 1) : ev S d 133 26 [a0, a1] [.inl x] (sh, I, R) = some (some (.inl x), (sh, I, R)) := (ev_eq f_133_26).trans (fin_iret1 h)
theorem c_134 {d : Nat} {a0 a1 : AV} {M : Mem} : cl (d + 1) 134 [a0, a1] M = ev S0 d 134 0 [a0, a1] [] M := (cl_eq (as := [a0, a1]) (show 2 ≤ maxOf 134 by decide +kernel)).trans rfl
theorem mt_134 : MT[134]? = some m_134 := rfl
theorem fm_134 (pc : Nat) : fetch 134 pc = lk m_134.2.2.2.2.2 pc := by
  unfold fetch
  rw [mt_134]
theorem f_134_0 : fetch 134 0 = some (0, .iload_n 1, 1, [1], 0) := (fm_134 0).trans rfl
theorem u_134_0 {S : Scr} {d : Nat} {a0 : AV} {st : List AV} {sh : Shp} {I : IM} {R : RM} {x : Int} : ev S d 134 0 [a0, .inl x] st (sh, I, R) = ev S d 134 1 [a0, .inl x] (.inl x :: st) (sh, I, R) := (ev_eq f_134_0).trans rfl
theorem f_134_1 : fetch 134 1 = some (1, .iconst (-1), 1, [], (-1)) := (fm_134 1).trans rfl
theorem u_134_1 {S : Scr} {d : Nat} {a0 a1 : AV} {st : List AV} {sh : Shp} {I : IM} {R : RM} : ev S d 134 1 [a0, a1] st (sh, I, R) = ev S d 134 2 [a0, a1] (.inl (-1) :: st) (sh, I, R) := (ev_eq f_134_1).trans rfl
theorem f_134_2 : fetch 134 2 = some (2, .if_icmp .eq 11, 3, [13], 0) := (fm_134 2).trans rfl
theorem u_134_2 {S : Scr} {d : Nat} {a0 a1 : AV} {st : List AV} {sh : Shp} {I : IM} {R : RM} {x y : Int} : ev S d 134 2 [a0, a1] (.inl y :: .inl x :: st) (sh, I, R) = if x = y then ev S d 134 13 [a0, a1] st (sh, I, R) else ev S d 134 5 [a0, a1] st (sh, I, R) := (ev_eq f_134_2).trans fin_icmp_eq
theorem f_134_5 : fetch 134 5 = some (5, .aload_n 0, 1, [0], 0) := (fm_134 5).trans rfl
theorem u_134_5 {S : Scr} {d : Nat} {a1 : AV} {st : List AV} {sh : Shp} {I : IM} {R : RM} {x : Nat} : ev S d 134 5 [.inr (.inl x), a1] st (sh, I, R) = ev S d 134 6 [.inr (.inl x), a1] (.inr (.inl x) :: st) (sh, I, R) := (ev_eq f_134_5).trans rfl
theorem f_134_6 : fetch 134 6 = some (6, .iload_n 1, 1, [1], 0) := (fm_134 6).trans rfl
theorem u_134_6 {S : Scr} {d : Nat} {a0 : AV} {st : List AV} {sh : Shp} {I : IM} {R : RM} {x : Int} : ev S d 134 6 [a0, .inl x] st (sh, I, R) = ev S d 134 7 [a0, .inl x] (.inl x :: st) (sh, I, R) := (ev_eq f_134_6).trans rfl
theorem f_134_7 : fetch 134 7 = some (7, .invokevirtual 68, 3, [133, 1, 126], 0) := (fm_134 7).trans rfl
theorem u_134_7 {S : Scr} {d : Nat} {a0 a1 : AV} {st : List AV} {sh : Shp} {I : IM} {R : RM} {x0 : Int} {k : Nat} (h : tg sh k = 9) (hr : st.length ≤ 8) : ev S d 134 7 [a0, a1] (.inl x0 :: .inr (.inl k) :: st) (sh, I, R) = bnd (cl d 133 [.inr (.inl k), .inl x0] (sh, I, R)) (fun v M => ev S d 134 10 [a0, a1] (psh v st) M) := (ev_eq f_134_7).trans (congrArg (fin S d 134) (if_pos ⟨h, rfl, hr⟩))
theorem f_134_10 : fetch 134 10 = some (10, .ifCond .eq 7, 3, [17], 0) := (fm_134 10).trans rfl
theorem u_134_10 {S : Scr} {d : Nat} {a0 a1 : AV} {st : List AV} {sh : Shp} {I : IM} {R : RM} {x : Int} : ev S d 134 10 [a0, a1] (.inl x :: st) (sh, I, R) = if x = 0 then ev S d 134 17 [a0, a1] st (sh, I, R) else ev S d 134 13 [a0, a1] st (sh, I, R) := (ev_eq f_134_10).trans fin_if_eq
theorem f_134_13 : fetch 134 13 = some (13, .iconst 1, 1, [], 1) := (fm_134 13).trans rfl
theorem u_134_13 {S : Scr} {d : Nat} {a0 a1 : AV} {st : List AV} {sh : Shp} {I : IM} {R : RM} : ev S d 134 13 [a0, a1] st (sh, I, R) = ev S d 134 14 [a0, a1] (.inl 1 :: st) (sh, I, R) := (ev_eq f_134_13).trans rfl
theorem f_134_14 : fetch 134 14 = some (14, .goto 4, 3, [18], 0) := (fm_134 14).trans rfl
theorem u_134_14 {S : Scr} {d : Nat} {a0 a1 : AV} {st : List AV} {sh : Shp} {I : IM} {R : RM} : ev S d 134 14 [a0, a1] st (sh, I, R) = ev S d 134 18 [a0, a1] st (sh, I, R) := (ev_eq f_134_14).trans rfl
theorem f_134_17 : fetch 134 17 = some (17, .iconst 0, 1, [], 0) := (fm_134 17).trans rfl
theorem u_134_17 {S : Scr} {d : Nat} {a0 a1 : AV} {st : List AV} {sh : Shp} {I : IM} {R : RM} : ev S d 134 17 [a0, a1] st (sh, I, R) = ev S d 134 18 [a0, a1] (.inl 0 :: st) (sh, I, R) := (ev_eq f_134_17).trans rfl
theorem f_134_18 : fetch 134 18 = some (18, .ireturn, 1, [1], 0) := (fm_134 18).trans rfl
theorem u_134_18 {S : Scr} {d : Nat} {a0 a1 : AV} {sh : Shp} {I : IM} {R : RM} {x : Int} (h : x = 0 ∨ x = 1) : ev S d 134 18 [a0, a1] [.inl x] (sh, I, R) = some (some (.inl x), (sh, I, R)) := (ev_eq f_134_18).trans (fin_iret1 h)
theorem c_135 {d : Nat} {a0 a1 a2 : AV} {M : Mem} : cl (d + 1) 135 [a0, a1, a2] M = ev S0 d 135 0 [a0, a1, a2] [] M := (cl_eq (as := [a0, a1, a2]) (show 3 ≤ maxOf 135 by decide +kernel)).trans rfl
theorem mt_135 : MT[135]? = some m_135 := rfl
theorem fm_135 (pc : Nat) : fetch 135 pc = lk m_135.2.2.2.2.2 pc := by
  unfold fetch
  rw [mt_135]
theorem f_135_0 : fetch 135 0 = some (0, .aload_n 0, 1, [0], 0) := (fm_135 0).trans rfl
theorem u_135_0 {S : Scr} {d : Nat} {a1 a2 : AV} {st : List AV} {sh : Shp} {I : IM} {R : RM} {x : Nat} : ev S d 135 0 [.inr (.inl x), a1, a2] st (sh, I, R) = ev S d 135 1 [.inr (.inl x), a1, a2] (.inr (.inl x) :: st) (sh, I, R) := (ev_eq f_135_0).trans rfl
theorem f_135_1 : fetch 135 1 = some (1, .getfield 9, 3, [9, 0, 1, 79], 0) := (fm_135 1).trans rfl
theorem u_135_1 {S : Scr} {d : Nat} {a0 a1 a2 : AV} {st : List AV} {sh : Shp} {I : IM} {R : RM} {k : Nat} (h : tg sh k = 9) : ev S d 135 1 [a0, a1, a2] (.inr (.inl k) :: st) (sh, I, R) = ev S d 135 4 [a0, a1, a2] (rv (R k 0) :: st) (sh, I, R) := (ev_eq f_135_1).trans (congrArg (fin S d 135) (if_pos h))
theorem f_135_4 : fetch 135 4 = some (4, .sipush 480, 3, [], 480) := (fm_135 4).trans rfl
theorem u_135_4 {S : Scr} {d : Nat} {a0 a1 a2 : AV} {st : List AV} {sh : Shp} {I : IM} {R : RM} : ev S d 135 4 [a0, a1, a2] st (sh, I, R) = ev S d 135 7 [a0, a1, a2] (.inl 480 :: st) (sh, I, R) := (ev_eq f_135_4).trans rfl
theorem f_135_7 : fetch 135 7 = some (7, .bipush 6, 2, [], 6) := (fm_135 7).trans rfl
theorem u_135_7 {S : Scr} {d : Nat} {a0 a1 a2 : AV} {st : List AV} {sh : Shp} {I : IM} {R : RM} : ev S d 135 7 [a0, a1, a2] st (sh, I, R) = ev S d 135 9 [a0, a1, a2] (.inl 6 :: st) (sh, I, R) := (ev_eq f_135_7).trans rfl
theorem f_135_9 : fetch 135 9 = some (9, .iload_n 1, 1, [1], 0) := (fm_135 9).trans rfl
theorem u_135_9 {S : Scr} {d : Nat} {a0 a2 : AV} {st : List AV} {sh : Shp} {I : IM} {R : RM} {x : Int} : ev S d 135 9 [a0, .inl x, a2] st (sh, I, R) = ev S d 135 10 [a0, .inl x, a2] (.inl x :: st) (sh, I, R) := (ev_eq f_135_9).trans rfl
theorem f_135_10 : fetch 135 10 = some (10, .imul, 1, [], 0) := (fm_135 10).trans rfl
theorem u_135_10 {S : Scr} {d : Nat} {a0 a1 a2 : AV} {st : List AV} {sh : Shp} {I : IM} {R : RM} {x y : Int} : ev S d 135 10 [a0, a1, a2] (.inl y :: .inl x :: st) (sh, I, R) = ev S d 135 11 [a0, a1, a2] (.inl (wr (x * y)) :: st) (sh, I, R) := (ev_eq f_135_10).trans rfl
theorem f_135_11 : fetch 135 11 = some (11, .iadd, 1, [], 0) := (fm_135 11).trans rfl
theorem u_135_11 {S : Scr} {d : Nat} {a0 a1 a2 : AV} {st : List AV} {sh : Shp} {I : IM} {R : RM} {x y : Int} : ev S d 135 11 [a0, a1, a2] (.inl y :: .inl x :: st) (sh, I, R) = ev S d 135 12 [a0, a1, a2] (.inl (wr (x + y)) :: st) (sh, I, R) := (ev_eq f_135_11).trans rfl
theorem f_135_12 : fetch 135 12 = some (12, .iload_n 2, 1, [2], 0) := (fm_135 12).trans rfl
theorem u_135_12 {S : Scr} {d : Nat} {a0 a1 : AV} {st : List AV} {sh : Shp} {I : IM} {R : RM} {x : Int} : ev S d 135 12 [a0, a1, .inl x] st (sh, I, R) = ev S d 135 13 [a0, a1, .inl x] (.inl x :: st) (sh, I, R) := (ev_eq f_135_12).trans rfl
theorem f_135_13 : fetch 135 13 = some (13, .iadd, 1, [], 0) := (fm_135 13).trans rfl
theorem u_135_13 {S : Scr} {d : Nat} {a0 a1 a2 : AV} {st : List AV} {sh : Shp} {I : IM} {R : RM} {x y : Int} : ev S d 135 13 [a0, a1, a2] (.inl y :: .inl x :: st) (sh, I, R) = ev S d 135 14 [a0, a1, a2] (.inl (wr (x + y)) :: st) (sh, I, R) := (ev_eq f_135_13).trans rfl
theorem f_135_14 : fetch 135 14 = some (14, .iaload, 1, [], 0) := (fm_135 14).trans rfl
theorem u_135_14 {S : Scr} {d : Nat} {a0 a1 a2 : AV} {st : List AV} {sh : Shp} {I : IM} {R : RM} {k : Nat} {i : Int} (h : tg sh k = 100) (h0 : 0 ≤ i) (h1 : i < ln sh k) : ev S d 135 14 [a0, a1, a2] (.inl i :: .inr (.inl k) :: st) (sh, I, R) = ev S d 135 15 [a0, a1, a2] (.inl (I k i) :: st) (sh, I, R) := (ev_eq f_135_14).trans (congrArg (fin S d 135) (if_pos ⟨h, h0, h1⟩))
theorem f_135_15 : fetch 135 15 = some (15, .ireturn, 1, [0], 0) := (fm_135 15).trans rfl
theorem u_135_15 {S : Scr} {d : Nat} {a0 a1 a2 : AV} {sh : Shp} {I : IM} {R : RM} {x : Int} : ev S d 135 15 [a0, a1, a2] [.inl x] (sh, I, R) = some (some (.inl x), (sh, I, R)) := (ev_eq f_135_15).trans fin_iret0
theorem c_136 {d : Nat} {a0 : AV} {M : Mem} : cl (d + 1) 136 [a0] M = ev S0 d 136 0 [a0] [] M := (cl_eq (as := [a0]) (show 1 ≤ maxOf 136 by decide +kernel)).trans rfl
theorem mt_136 : MT[136]? = some m_136 := rfl
theorem fm_136 (pc : Nat) : fetch 136 pc = lk m_136.2.2.2.2.2 pc := by
  unfold fetch
  rw [mt_136]
theorem f_136_0 : fetch 136 0 = some (0, .iload_n 0, 1, [0], 0) := (fm_136 0).trans rfl
theorem u_136_0 {S : Scr} {d : Nat} {st : List AV} {sh : Shp} {I : IM} {R : RM} {x : Int} : ev S d 136 0 [.inl x] st (sh, I, R) = ev S d 136 1 [.inl x] (.inl x :: st) (sh, I, R) := (ev_eq f_136_0).trans rfl
theorem f_136_1 : fetch 136 1 = some (1, .ifCond .ge 8, 3, [9], 0) := (fm_136 1).trans rfl
theorem u_136_1 {S : Scr} {d : Nat} {a0 : AV} {st : List AV} {sh : Shp} {I : IM} {R : RM} {x : Int} : ev S d 136 1 [a0] (.inl x :: st) (sh, I, R) = if 0 ≤ x then ev S d 136 9 [a0] st (sh, I, R) else ev S d 136 4 [a0] st (sh, I, R) := (ev_eq f_136_1).trans fin_if_ge
theorem f_136_4 : fetch 136 4 = some (4, .bipush (-2), 2, [], (-2)) := (fm_136 4).trans rfl
theorem u_136_4 {S : Scr} {d : Nat} {a0 : AV} {st : List AV} {sh : Shp} {I : IM} {R : RM} : ev S d 136 4 [a0] st (sh, I, R) = ev S d 136 6 [a0] (.inl (-2) :: st) (sh, I, R) := (ev_eq f_136_4).trans rfl
theorem f_136_6 : fetch 136 6 = some (6, .goto 4, 3, [10], 0) := (fm_136 6).trans rfl
theorem u_136_6 {S : Scr} {d : Nat} {a0 : AV} {st : List AV} {sh : Shp} {I : IM} {R : RM} : ev S d 136 6 [a0] st (sh, I, R) = ev S d 136 10 [a0] st (sh, I, R) := (ev_eq f_136_6).trans rfl
theorem f_136_9 : fetch 136 9 = some (9, .iload_n 0, 1, [0], 0) := (fm_136 9).trans rfl
theorem u_136_9 {S : Scr} {d : Nat} {st : List AV} {sh : Shp} {I : IM} {R : RM} {x : Int} : ev S d 136 9 [.inl x] st (sh, I, R) = ev S d 136 10 [.inl x] (.inl x :: st) (sh, I, R) := (ev_eq f_136_9).trans rfl
theorem f_136_10 : fetch 136 10 = some (10, .ireturn, 1, [0], 0) := (fm_136 10).trans rfl
theorem u_136_10 {S : Scr} {d : Nat} {a0 : AV} {sh : Shp} {I : IM} {R : RM} {x : Int} : ev S d 136 10 [a0] [.inl x] (sh, I, R) = some (some (.inl x), (sh, I, R)) := (ev_eq f_136_10).trans fin_iret0
theorem c_137 {d : Nat} {a0 : AV} {M : Mem} : cl (d + 1) 137 [a0] M = ev S0 d 137 0 [a0, .inr (.inr 1), .inr (.inr 1)] [] M := (cl_eq (as := [a0]) (show 1 ≤ maxOf 137 by decide +kernel)).trans rfl
theorem mt_137 : MT[137]? = some m_137 := rfl
theorem fm_137 (pc : Nat) : fetch 137 pc = lk m_137.2.2.2.2.2 pc := by
  unfold fetch
  rw [mt_137]
theorem f_137_0 : fetch 137 0 = some (0, .iconst 0, 1, [], 0) := (fm_137 0).trans rfl
theorem u_137_0 {S : Scr} {d : Nat} {a0 a1 a2 : AV} {st : List AV} {sh : Shp} {I : IM} {R : RM} : ev S d 137 0 [a0, a1, a2] st (sh, I, R) = ev S d 137 1 [a0, a1, a2] (.inl 0 :: st) (sh, I, R) := (ev_eq f_137_0).trans rfl
theorem f_137_1 : fetch 137 1 = some (1, .istore_n 1, 1, [1], 0) := (fm_137 1).trans rfl
theorem u_137_1 {S : Scr} {d : Nat} {a0 a1 a2 : AV} {st : List AV} {sh : Shp} {I : IM} {R : RM} {x : Int} : ev S d 137 1 [a0, a1, a2] (.inl x :: st) (sh, I, R) = ev S d 137 2 [a0, .inl x, a2] st (sh, I, R) := (ev_eq f_137_1).trans rfl
theorem f_137_2 : fetch 137 2 = some (2, .iconst 0, 1, [], 0) := (fm_137 2).trans rfl
theorem u_137_2 {S : Scr} {d : Nat} {a0 a1 a2 : AV} {st : List AV} {sh : Shp} {I : IM} {R : RM} : ev S d 137 2 [a0, a1, a2] st (sh, I, R) = ev S d 137 3 [a0, a1, a2] (.inl 0 :: st) (sh, I, R) := (ev_eq f_137_2).trans rfl
theorem f_137_3 : fetch 137 3 = some (3, .istore_n 2, 1, [2], 0) := (fm_137 3).trans rfl
theorem u_137_3 {S : Scr} {d : Nat} {a0 a1 a2 : AV} {st : List AV} {sh : Shp} {I : IM} {R : RM} {x : Int} : ev S d 137 3 [a0, a1, a2] (.inl x :: st) (sh, I, R) = ev S d 137 4 [a0, a1, .inl x] st (sh, I, R) := (ev_eq f_137_3).trans rfl
theorem f_137_4 : fetch 137 4 = some (4, .iload_n 2, 1, [2], 0) := (fm_137 4).trans rfl
theorem u_137_4 {S : Scr} {d : Nat} {a0 a1 : AV} {st : List AV} {sh : Shp} {I : IM} {R : RM} {x : Int} : ev S d 137 4 [a0, a1, .inl x] st (sh, I, R) = ev S d 137 5 [a0, a1, .inl x] (.inl x :: st) (sh, I, R) := (ev_eq f_137_4).trans rfl
theorem f_137_5 : fetch 137 5 = some (5, .bipush 30, 2, [], 30) := (fm_137 5).trans rfl
theorem u_137_5 {S : Scr} {d : Nat} {a0 a1 a2 : AV} {st : List AV} {sh : Shp} {I : IM} {R : RM} : ev S d 137 5 [a0, a1, a2] st (sh, I, R) = ev S d 137 7 [a0, a1, a2] (.inl 30 :: st) (sh, I, R) := (ev_eq f_137_5).trans rfl
theorem f_137_7 : fetch 137 7 = some (7, .if_icmp .ge 28, 3, [35], 0) := (fm_137 7).trans rfl
theorem u_137_7 {S : Scr} {d : Nat} {a0 a1 a2 : AV} {st : List AV} {sh : Shp} {I : IM} {R : RM} {x y : Int} : ev S d 137 7 [a0, a1, a2] (.inl y :: .inl x :: st) (sh, I, R) = if y ≤ x then ev S d 137 35 [a0, a1, a2] st (sh, I, R) else ev S d 137 10 [a0, a1, a2] st (sh, I, R) := (ev_eq f_137_7).trans fin_icmp_ge
theorem f_137_10 : fetch 137 10 = some (10, .iload_n 1, 1, [1], 0) := (fm_137 10).trans rfl
theorem u_137_10 {S : Scr} {d : Nat} {a0 a2 : AV} {st : List AV} {sh : Shp} {I : IM} {R : RM} {x : Int} : ev S d 137 10 [a0, .inl x, a2] st (sh, I, R) = ev S d 137 11 [a0, .inl x, a2] (.inl x :: st) (sh, I, R) := (ev_eq f_137_10).trans rfl
theorem f_137_11 : fetch 137 11 = some (11, .aload_n 0, 1, [0], 0) := (fm_137 11).trans rfl
theorem u_137_11 {S : Scr} {d : Nat} {a1 a2 : AV} {st : List AV} {sh : Shp} {I : IM} {R : RM} {x : Nat} : ev S d 137 11 [.inr (.inl x), a1, a2] st (sh, I, R) = ev S d 137 12 [.inr (.inl x), a1, a2] (.inr (.inl x) :: st) (sh, I, R) := (ev_eq f_137_11).trans rfl
theorem f_137_12 : fetch 137 12 = some (12, .getfield 9, 3, [9, 0, 1, 79], 0) := (fm_137 12).trans rfl
theorem u_137_12 {S : Scr} {d : Nat} {a0 a1 a2 : AV} {st : List AV} {sh : Shp} {I : IM} {R : RM} {k : Nat} (h : tg sh k = 9) : ev S d 137 12 [a0, a1, a2] (.inr (.inl k) :: st) (sh, I, R) = ev S d 137 15 [a0, a1, a2] (rv (R k 0) :: st) (sh, I, R) := (ev_eq f_137_12).trans (congrArg (fin S d 137) (if_pos h))
theorem f_137_15 : fetch 137 15 = some (15, .iconst 0, 1, [], 0) := (fm_137 15).trans rfl
theorem u_137_15 {S : Scr} {d : Nat} {a0 a1 a2 : AV} {st : List AV} {sh : Shp} {I : IM} {R : RM} : ev S d 137 15 [a0, a1, a2] st (sh, I, R) = ev S d 137 16 [a0, a1, a2] (.inl 0 :: st) (sh, I, R) := (ev_eq f_137_15).trans rfl
theorem f_137_16 : fetch 137 16 = some (16, .iload_n 2, 1, [2], 0) := (fm_137 16).trans rfl
theorem u_137_16 {S : Scr} {d : Nat} {a0 a1 : AV} {st : List AV} {sh : Shp} {I : IM} {R : RM} {x : Int} : ev S d 137 16 [a0, a1, .inl x] st (sh, I, R) = ev S d 137 17 [a0, a1, .inl x] (.inl x :: st) (sh, I, R) := (ev_eq f_137_16).trans rfl
theorem f_137_17 : fetch 137 17 = some (17, .iadd, 1, [], 0) := (fm_137 17).trans rfl
theorem u_137_17 {S : Scr} {d : Nat} {a0 a1 a2 : AV} {st : List AV} {sh : Shp} {I : IM} {R : RM} {x y : Int} : ev S d 137 17 [a0, a1, a2] (.inl y :: .inl x :: st) (sh, I, R) = ev S d 137 18 [a0, a1, a2] (.inl (wr (x + y)) :: st) (sh, I, R) := (ev_eq f_137_17).trans rfl
theorem f_137_18 : fetch 137 18 = some (18, .iaload, 1, [], 0) := (fm_137 18).trans rfl
theorem u_137_18 {S : Scr} {d : Nat} {a0 a1 a2 : AV} {st : List AV} {sh : Shp} {I : IM} {R : RM} {k : Nat} {i : Int} (h : tg sh k = 100) (h0 : 0 ≤ i) (h1 : i < ln sh k) : ev S d 137 18 [a0, a1, a2] (.inl i :: .inr (.inl k) :: st) (sh, I, R) = ev S d 137 19 [a0, a1, a2] (.inl (I k i) :: st) (sh, I, R) := (ev_eq f_137_18).trans (congrArg (fin S d 137) (if_pos ⟨h, h0, h1⟩))
theorem f_137_19 : fetch 137 19 = some (19, .ifCond .eq 7, 3, [26], 0) := (fm_137 19).trans rfl
theorem u_137_19 {S : Scr} {d : Nat} {a0 a1 a2 : AV} {st : List AV} {sh : Shp} {I : IM} {R : RM} {x : Int} : ev S d 137 19 [a0, a1, a2] (.inl x :: st) (sh, I, R) = if x = 0 then ev S d 137 26 [a0, a1, a2] st (sh, I, R) else ev S d 137 22 [a0, a1, a2] st (sh, I, R) := (ev_eq f_137_19).trans fin_if_eq
theorem f_137_22 : fetch 137 22 = some (22, .iconst 1, 1, [], 1) := (fm_137 22).trans rfl
theorem u_137_22 {S : Scr} {d : Nat} {a0 a1 a2 : AV} {st : List AV} {sh : Shp} {I : IM} {R : RM} : ev S d 137 22 [a0, a1, a2] st (sh, I, R) = ev S d 137 23 [a0, a1, a2] (.inl 1 :: st) (sh, I, R) := (ev_eq f_137_22).trans rfl
theorem f_137_23 : fetch 137 23 = some (23, .goto 4, 3, [27], 0) := (fm_137 23).trans rfl
theorem u_137_23 {S : Scr} {d : Nat} {a0 a1 a2 : AV} {st : List AV} {sh : Shp} {I : IM} {R : RM} : ev S d 137 23 [a0, a1, a2] st (sh, I, R) = ev S d 137 27 [a0, a1, a2] st (sh, I, R) := (ev_eq f_137_23).trans rfl
theorem f_137_26 : fetch 137 26 = some (26, .iconst 0, 1, [], 0) := (fm_137 26).trans rfl
theorem u_137_26 {S : Scr} {d : Nat} {a0 a1 a2 : AV} {st : List AV} {sh : Shp} {I : IM} {R : RM} : ev S d 137 26 [a0, a1, a2] st (sh, I, R) = ev S d 137 27 [a0, a1, a2] (.inl 0 :: st) (sh, I, R) := (ev_eq f_137_26).trans rfl
theorem f_137_27 : fetch 137 27 = some (27, .iadd, 1, [], 0) := (fm_137 27).trans rfl
theorem u_137_27 {S : Scr} {d : Nat} {a0 a1 a2 : AV} {st : List AV} {sh : Shp} {I : IM} {R : RM} {x y : Int} : ev S d 137 27 [a0, a1, a2] (.inl y :: .inl x :: st) (sh, I, R) = ev S d 137 28 [a0, a1, a2] (.inl (wr (x + y)) :: st) (sh, I, R) := (ev_eq f_137_27).trans rfl
theorem f_137_28 : fetch 137 28 = some (28, .istore_n 1, 1, [1], 0) := (fm_137 28).trans rfl
theorem u_137_28 {S : Scr} {d : Nat} {a0 a1 a2 : AV} {st : List AV} {sh : Shp} {I : IM} {R : RM} {x : Int} : ev S d 137 28 [a0, a1, a2] (.inl x :: st) (sh, I, R) = ev S d 137 29 [a0, .inl x, a2] st (sh, I, R) := (ev_eq f_137_28).trans rfl
theorem f_137_29 : fetch 137 29 = some (29, .iinc 2 1, 3, [2], 1) := (fm_137 29).trans rfl
theorem u_137_29 {S : Scr} {d : Nat} {a0 a1 : AV} {st : List AV} {sh : Shp} {I : IM} {R : RM} {x : Int} : ev S d 137 29 [a0, a1, .inl x] st (sh, I, R) = ev S d 137 32 [a0, a1, .inl (wr (x + 1))] st (sh, I, R) := (ev_eq f_137_29).trans rfl
theorem f_137_32 : fetch 137 32 = some (32, .goto (-28), 3, [4], 0) := (fm_137 32).trans rfl
theorem u_137_32 {S : Scr} {d : Nat} {a0 a1 a2 : AV} {st : List AV} {sh : Shp} {I : IM} {R : RM} : ev S d 137 32 [a0, a1, a2] st (sh, I, R) = ev S d 137 4 [a0, a1, a2] st (sh, I, R) := (ev_eq f_137_32).trans rfl
theorem f_137_35 : fetch 137 35 = some (35, .iload_n 1, 1, [1], 0) := (fm_137 35).trans rfl
theorem u_137_35 {S : Scr} {d : Nat} {a0 a2 : AV} {st : List AV} {sh : Shp} {I : IM} {R : RM} {x : Int} : ev S d 137 35 [a0, .inl x, a2] st (sh, I, R) = ev S d 137 36 [a0, .inl x, a2] (.inl x :: st) (sh, I, R) := (ev_eq f_137_35).trans rfl
theorem f_137_36 : fetch 137 36 = some (36, .ireturn, 1, [0], 0) := (fm_137 36).trans rfl
theorem u_137_36 {S : Scr} {d : Nat} {a0 a1 a2 : AV} {sh : Shp} {I : IM} {R : RM} {x : Int} : ev S d 137 36 [a0, a1, a2] [.inl x] (sh, I, R) = some (some (.inl x), (sh, I, R)) := (ev_eq f_137_36).trans fin_iret0
theorem c_138 {d : Nat} {a0 : AV} {M : Mem} : cl (d + 1) 138 [a0] M = ev S0 d 138 0 [a0, .inr (.inr 1)] [] M := (cl_eq (as := [a0]) (show 1 ≤ maxOf 138 by decide +kernel)).trans rfl
theorem mt_138 : MT[138]? = some m_138 := rfl
theorem fm_138 (pc : Nat) : fetch 138 pc = lk m_138.2.2.2.2.2 pc := by
  unfold fetch
  rw [mt_138]
theorem f_138_0 : fetch 138 0 = some (0, .iconst 0, 1, [], 0) := (fm_138 0).trans rfl
theorem u_138_0 {S : Scr} {d : Nat} {a0 a1 : AV} {st : List AV} {sh : Shp} {I : IM} {R : RM} : ev S d 138 0 [a0, a1] st (sh, I, R) = ev S d 138 1 [a0, a1] (.inl 0 :: st) (sh, I, R) := (ev_eq f_138_0).trans rfl
theorem f_138_1 : fetch 138 1 = some (1, .istore_n 1, 1, [1], 0) := (fm_138 1).trans rfl
theorem u_138_1 {S : Scr} {d : Nat} {a0 a1 : AV} {st : List AV} {sh : Shp} {I : IM} {R : RM} {x : Int} : ev S d 138 1 [a0, a1] (.inl x :: st) (sh, I, R) = ev S d 138 2 [a0, .inl x] st (sh, I, R) := (ev_eq f_138_1).trans rfl
theorem f_138_2 : fetch 138 2 = some (2, .iload_n 1, 1, [1], 0) := (fm_138 2).trans rfl
theorem u_138_2 {S : Scr} {d : Nat} {a0 : AV} {st : List AV} {sh : Shp} {I : IM} {R : RM} {x : Int} : ev S d 138 2 [a0, .inl x] st (sh, I, R) = ev S d 138 3 [a0, .inl x] (.inl x :: st) (sh, I, R) := (ev_eq f_138_2).trans rfl
theorem f_138_3 : fetch 138 3 = some (3, .bipush 30, 2, [], 30) := (fm_138 3).trans rfl
theorem u_138_3 {S : Scr} {d : Nat} {a0 a1 : AV} {st : List AV} {sh : Shp} {I : IM} {R : RM} : ev S d 138 3 [a0, a1] st (sh, I, R) = ev S d 138 5 [a0, a1] (.inl 30 :: st) (sh, I, R) := (ev_eq f_138_3).trans rfl
theorem f_138_5 : fetch 138 5 = some (5, .if_icmp .ge 20, 3, [25], 0) := (fm_138 5).trans rfl
theorem u_138_5 {S : Scr} {d : Nat} {a0 a1 : AV} {st : List AV} {sh : Shp} {I : IM} {R : RM} {x y : Int} : ev S d 138 5 [a0, a1] (.inl y :: .inl x :: st) (sh, I, R) = if y ≤ x then ev S d 138 25 [a0, a1] st (sh, I, R) else ev S d 138 8 [a0, a1] st (sh, I, R) := (ev_eq f_138_5).trans fin_icmp_ge
theorem f_138_8 : fetch 138 8 = some (8, .aload_n 0, 1, [0], 0) := (fm_138 8).trans rfl
theorem u_138_8 {S : Scr} {d : Nat} {a1 : AV} {st : List AV} {sh : Shp} {I : IM} {R : RM} {x : Nat} : ev S d 138 8 [.inr (.inl x), a1] st (sh, I, R) = ev S d 138 9 [.inr (.inl x), a1] (.inr (.inl x) :: st) (sh, I, R) := (ev_eq f_138_8).trans rfl
theorem f_138_9 : fetch 138 9 = some (9, .getfield 9, 3, [9, 0, 1, 79], 0) := (fm_138 9).trans rfl
theorem u_138_9 {S : Scr} {d : Nat} {a0 a1 : AV} {st : List AV} {sh : Shp} {I : IM} {R : RM} {k : Nat} (h : tg sh k = 9) : ev S d 138 9 [a0, a1] (.inr (.inl k) :: st) (sh, I, R) = ev S d 138 12 [a0, a1] (rv (R k 0) :: st) (sh, I, R) := (ev_eq f_138_9).trans (congrArg (fin S d 138) (if_pos h))
theorem f_138_12 : fetch 138 12 = some (12, .iconst 0, 1, [], 0) := (fm_138 12).trans rfl
theorem u_138_12 {S : Scr} {d : Nat} {a0 a1 : AV} {st : List AV} {sh : Shp} {I : IM} {R : RM} : ev S d 138 12 [a0, a1] st (sh, I, R) = ev S d 138 13 [a0, a1] (.inl 0 :: st) (sh, I, R) := (ev_eq f_138_12).trans rfl
theorem f_138_13 : fetch 138 13 = some (13, .iload_n 1, 1, [1], 0) := (fm_138 13).trans rfl
theorem u_138_13 {S : Scr} {d : Nat} {a0 : AV} {st : List AV} {sh : Shp} {I : IM} {R : RM} {x : Int} : ev S d 138 13 [a0, .inl x] st (sh, I, R) = ev S d 138 14 [a0, .inl x] (.inl x :: st) (sh, I, R) := (ev_eq f_138_13).trans rfl
theorem f_138_14 : fetch 138 14 = some (14, .iadd, 1, [], 0) := (fm_138 14).trans rfl
theorem u_138_14 {S : Scr} {d : Nat} {a0 a1 : AV} {st : List AV} {sh : Shp} {I : IM} {R : RM} {x y : Int} : ev S d 138 14 [a0, a1] (.inl y :: .inl x :: st) (sh, I, R) = ev S d 138 15 [a0, a1] (.inl (wr (x + y)) :: st) (sh, I, R) := (ev_eq f_138_14).trans rfl
theorem f_138_15 : fetch 138 15 = some (15, .iaload, 1, [], 0) := (fm_138 15).trans rfl
theorem u_138_15 {S : Scr} {d : Nat} {a0 a1 : AV} {st : List AV} {sh : Shp} {I : IM} {R : RM} {k : Nat} {i : Int} (h : tg sh k = 100) (h0 : 0 ≤ i) (h1 : i < ln sh k) : ev S d 138 15 [a0, a1] (.inl i :: .inr (.inl k) :: st) (sh, I, R) = ev S d 138 16 [a0, a1] (.inl (I k i) :: st) (sh, I, R) := (ev_eq f_138_15).trans (congrArg (fin S d 138) (if_pos ⟨h, h0, h1⟩))
theorem f_138_16 : fetch 138 16 = some (16, .ifCond .eq 9, 3, [25], 0) := (fm_138 16).trans rfl
theorem u_138_16 {S : Scr} {d : Nat} {a0 a1 : AV} {st : List AV} {sh : Shp} {I : IM} {R : RM} {x : Int} : ev S d 138 16 [a0, a1] (.inl x :: st) (sh, I, R) = if x = 0 then ev S d 138 25 [a0, a1] st (sh, I, R) else ev S d 138 19 [a0, a1] st (sh, I, R) := (ev_eq f_138_16).trans fin_if_eq
theorem f_138_19 : fetch 138 19 = some (19, .iinc 1 1, 3, [1], 1) := (fm_138 19).trans rfl
theorem u_138_19 {S : Scr} {d : Nat} {a0 : AV} {st : List AV} {sh : Shp} {I : IM} {R : RM} {x : Int} : ev S d 138 19 [a0, .inl x] st (sh, I, R) = ev S d 138 22 [a0, .inl (wr (x + 1))] st (sh, I, R) := (ev_eq f_138_19).trans rfl
theorem f_138_22 : fetch 138 22 = some (22, .goto (-20), 3, [2], 0) := (fm_138 22).trans rfl
theorem u_138_22 {S : Scr} {d : Nat} {a0 a1 : AV} {st : List AV} {sh : Shp} {I : IM} {R : RM} : ev S d 138 22 [a0, a1] st (sh, I, R) = ev S d 138 2 [a0, a1] st (sh, I, R) := (ev_eq f_138_22).trans rfl
theorem f_138_25 : fetch 138 25 = some (25, .iload_n 1, 1, [1], 0) := (fm_138 25).trans rfl
theorem u_138_25 {S : Scr} {d : Nat} {a0 : AV} {st : List AV} {sh : Shp} {I : IM} {R : RM} {x : Int} : ev S d 138 25 [a0, .inl x] st (sh, I, R) = ev S d 138 26 [a0, .inl x] (.inl x :: st) (sh, I, R) := (ev_eq f_138_25).trans rfl
theorem f_138_26 : fetch 138 26 = some (26, .ireturn, 1, [0], 0) := (fm_138 26).trans rfl
theorem u_138_26 {S : Scr} {d : Nat} {a0 a1 : AV} {sh : Shp} {I : IM} {R : RM} {x : Int} : ev S d 138 26 [a0, a1] [.inl x] (sh, I, R) = some (some (.inl x), (sh, I, R)) := (ev_eq f_138_26).trans fin_iret0
theorem c_139 {d : Nat} {a0 a1 a2 a3 : AV} {M : Mem} : cl (d + 1) 139 [a0, a1, a2, a3] M = ev S0 d 139 0 [a0, a1, a2, a3, .inr (.inr 1), .inr (.inr 1)] [] M := (cl_eq (as := [a0, a1, a2, a3]) (show 4 ≤ maxOf 139 by decide +kernel)).trans rfl
theorem mt_139 : MT[139]? = some m_139 := rfl
theorem fm_139 (pc : Nat) : fetch 139 pc = lk m_139.2.2.2.2.2 pc := by
  unfold fetch
  rw [mt_139]
theorem f_139_0 : fetch 139 0 = some (0, .aload_n 0, 1, [0], 0) := (fm_139 0).trans rfl
theorem u_139_0 {S : Scr} {d : Nat} {a1 a2 a3 a4 a5 : AV} {st : List AV} {sh : Shp} {I : IM} {R : RM} {x : Nat} : ev S d 139 0 [.inr (.inl x), a1, a2, a3, a4, a5] st (sh, I, R) = ev S d 139 1 [.inr (.inl x), a1, a2, a3, a4, a5] (.inr (.inl x) :: st) (sh, I, R) := (ev_eq f_139_0).trans rfl
theorem f_139_1 : fetch 139 1 = some (1, .invokevirtual 72, 3, [138, 0, 127], 0) := (fm_139 1).trans rfl
theorem u_139_1 {S : Scr} {d : Nat} {a0 a1 a2 a3 a4 a5 : AV} {st : List AV} {sh : Shp} {I : IM} {R : RM} {k : Nat} (h : tg sh k = 9) (hr : st.length ≤ 8) : ev S d 139 1 [a0, a1, a2, a3, a4, a5] (.inr (.inl k) :: st) (sh, I, R) = bnd (cl d 138 [.inr (.inl k)] (sh, I, R)) (fun v M => ev S d 139 4 [a0, a1, a2, a3, a4, a5] (psh v st) M) := (ev_eq f_139_1).trans (congrArg (fin S d 139) (if_pos ⟨h, rfl, hr⟩))
theorem f_139_4 : fetch 139 4 = some (4, .istore 4, 2, [4], 0) := (fm_139 4).trans rfl
theorem u_139_4 {S : Scr} {d : Nat} {a0 a1 a2 a3 a4 a5 : AV} {st : List AV} {sh : Shp} {I : IM} {R : RM} {x : Int} : ev S d 139 4 [a0, a1, a2, a3, a4, a5] (.inl x :: st) (sh, I, R) = ev S d 139 6 [a0, a1, a2, a3, .inl x, a5] st (sh, I, R) := (ev_eq f_139_4).trans rfl
theorem f_139_6 : fetch 139 6 = some (6, .aload_n 0, 1, [0], 0) := (fm_139 6).trans rfl
theorem u_139_6 {S : Scr} {d : Nat} {a1 a2 a3 a4 a5 : AV} {st : List AV} {sh : Shp} {I : IM} {R : RM} {x : Nat} : ev S d 139 6 [.inr (.inl x), a1, a2, a3, a4, a5] st (sh, I, R) = ev S d 139 7 [.inr (.inl x), a1, a2, a3, a4, a5] (.inr (.inl x) :: st) (sh, I, R) := (ev_eq f_139_6).trans rfl
theorem f_139_7 : fetch 139 7 = some (7, .getfield 9, 3, [9, 0, 1, 79], 0) := (fm_139 7).trans rfl
theorem u_139_7 {S : Scr} {d : Nat} {a0 a1 a2 a3 a4 a5 : AV} {st : List AV} {sh : Shp} {I : IM} {R : RM} {k : Nat} (h : tg sh k = 9) : ev S d 139 7 [a0, a1, a2, a3, a4, a5] (.inr (.inl k) :: st) (sh, I, R) = ev S d 139 10 [a0, a1, a2, a3, a4, a5] (rv (R k 0) :: st) (sh, I, R) := (ev_eq f_139_7).trans (congrArg (fin S d 139) (if_pos h))
theorem f_139_10 : fetch 139 10 = some (10, .iconst 0, 1, [], 0) := (fm_139 10).trans rfl
theorem u_139_10 {S : Scr} {d : Nat} {a0 a1 a2 a3 a4 a5 : AV} {st : List AV} {sh : Shp} {I : IM} {R : RM} : ev S d 139 10 [a0, a1, a2, a3, a4, a5] st (sh, I, R) = ev S d 139 11 [a0, a1, a2, a3, a4, a5] (.inl 0 :: st) (sh, I, R) := (ev_eq f_139_10).trans rfl
theorem f_139_11 : fetch 139 11 = some (11, .iload 4, 2, [4], 0) := (fm_139 11).trans rfl
theorem u_139_11 {S : Scr} {d : Nat} {a0 a1 a2 a3 a5 : AV} {st : List AV} {sh : Shp} {I : IM} {R : RM} {x : Int} : ev S d 139 11 [a0, a1, a2, a3, .inl x, a5] st (sh, I, R) = ev S d 139 13 [a0, a1, a2, a3, .inl x, a5] (.inl x :: st) (sh, I, R) := (ev_eq f_139_11).trans rfl
theorem f_139_13 : fetch 139 13 = some (13, .iadd, 1, [], 0) := (fm_139 13).trans rfl
theorem u_139_13 {S : Scr} {d : Nat} {a0 a1 a2 a3 a4 a5 : AV} {st : List AV} {sh : Shp} {I : IM} {R : RM} {x y : Int} : ev S d 139 13 [a0, a1, a2, a3, a4, a5] (.inl y :: .inl x :: st) (sh, I, R) = ev S d 139 14 [a0, a1, a2, a3, a4, a5] (.inl (wr (x + y)) :: st) (sh, I, R) := (ev_eq f_139_13).trans rfl
theorem f_139_14 : fetch 139 14 = some (14, .iload_n 1, 1, [1], 0) := (fm_139 14).trans rfl
theorem u_139_14 {S : Scr} {d : Nat} {a0 a2 a3 a4 a5 : AV} {st : List AV} {sh : Shp} {I : IM} {R : RM} {x : Int} : ev S d 139 14 [a0, .inl x, a2, a3, a4, a5] st (sh, I, R) = ev S d 139 15 [a0, .inl x, a2, a3, a4, a5] (.inl x :: st) (sh, I, R) := (ev_eq f_139_14).trans rfl
theorem f_139_15 : fetch 139 15 = some (15, .iastore, 1, [], 0) := (fm_139 15).trans rfl
theorem u_139_15 {S : Scr} {d : Nat} {a0 a1 a2 a3 a4 a5 : AV} {st : List AV} {sh : Shp} {I : IM} {R : RM} {k : Nat} {i x : Int} (h : tg sh k = 100) (h0 : 0 ≤ i) (h1 : i < ln sh k) : ev S d 139 15 [a0, a1, a2, a3, a4, a5] (.inl x :: .inl i :: .inr (.inl k) :: st) (sh, I, R) = ev S d 139 16 [a0, a1, a2, a3, a4, a5] st (sh, up I k i x, R) := (ev_eq f_139_15).trans (congrArg (fin S d 139) (if_pos ⟨h, h0, h1⟩))
theorem f_139_16 : fetch 139 16 = some (16, .aload_n 0, 1, [0], 0) := (fm_139 16).trans rfl
theorem u_139_16 {S : Scr} {d : Nat} {a1 a2 a3 a4 a5 : AV} {st : List AV} {sh : Shp} {I : IM} {R : RM} {x : Nat} : ev S d 139 16 [.inr (.inl x), a1, a2, a3, a4, a5] st (sh, I, R) = ev S d 139 17 [.inr (.inl x), a1, a2, a3, a4, a5] (.inr (.inl x) :: st) (sh, I, R) := (ev_eq f_139_16).trans rfl
theorem f_139_17 : fetch 139 17 = some (17, .getfield 9, 3, [9, 0, 1, 79], 0) := (fm_139 17).trans rfl
theorem u_139_17 {S : Scr} {d : Nat} {a0 a1 a2 a3 a4 a5 : AV} {st : List AV} {sh : Shp} {I : IM} {R : RM} {k : Nat} (h : tg sh k = 9) : ev S d 139 17 [a0, a1, a2, a3, a4, a5] (.inr (.inl k) :: st) (sh, I, R) = ev S d 139 20 [a0, a1, a2, a3, a4, a5] (rv (R k 0) :: st) (sh, I, R) := (ev_eq f_139_17).trans (congrArg (fin S d 139) (if_pos h))
theorem f_139_20 : fetch 139 20 = some (20, .bipush 30, 2, [], 30) := (fm_139 20).trans rfl
theorem u_139_20 {S : Scr} {d : Nat} {a0 a1 a2 a3 a4 a5 : AV} {st : List AV} {sh : Shp} {I : IM} {R : RM} : ev S d 139 20 [a0, a1, a2, a3, a4, a5] st (sh, I, R) = ev S d 139 22 [a0, a1, a2, a3, a4, a5] (.inl 30 :: st) (sh, I, R) := (ev_eq f_139_20).trans rfl
theorem f_139_22 : fetch 139 22 = some (22, .iload 4, 2, [4], 0) := (fm_139 22).trans rfl
theorem u_139_22 {S : Scr} {d : Nat} {a0 a1 a2 a3 a5 : AV} {st : List AV} {sh : Shp} {I : IM} {R : RM} {x : Int} : ev S d 139 22 [a0, a1, a2, a3, .inl x, a5] st (sh, I, R) = ev S d 139 24 [a0, a1, a2, a3, .inl x, a5] (.inl x :: st) (sh, I, R) := (ev_eq f_139_22).trans rfl
theorem f_139_24 : fetch 139 24 = some (24, .iadd, 1, [], 0) := (fm_139 24).trans rfl
theorem u_139_24 {S : Scr} {d : Nat} {a0 a1 a2 a3 a4 a5 : AV} {st : List AV} {sh : Shp} {I : IM} {R : RM} {x y : Int} : ev S d 139 24 [a0, a1, a2, a3, a4, a5] (.inl y :: .inl x :: st) (sh, I, R) = ev S d 139 25 [a0, a1, a2, a3, a4, a5] (.inl (wr (x + y)) :: st) (sh, I, R) := (ev_eq f_139_24).trans rfl
theorem f_139_25 : fetch 139 25 = some (25, .iload_n 2, 1, [2], 0) := (fm_139 25).trans rfl
theorem u_139_25 {S : Scr} {d : Nat} {a0 a1 a3 a4 a5 : AV} {st : List AV} {sh : Shp} {I : IM} {R : RM} {x : Int} : ev S d 139 25 [a0, a1, .inl x, a3, a4, a5] st (sh, I, R) = ev S d 139 26 [a0, a1, .inl x, a3, a4, a5] (.inl x :: st) (sh, I, R) := (ev_eq f_139_25).trans rfl
theorem f_139_26 : fetch 139 26 = some (26, .iastore, 1, [], 0) := (fm_139 26).trans rfl
theorem u_139_26 {S : Scr} {d : Nat} {a0 a1 a2 a3 a4 a5 : AV} {st : List AV} {sh : Shp} {I : IM} {R : RM} {k : Nat} {i x : Int} (h : tg sh k = 100) (h0 : 0 ≤ i) (h1 : i < ln sh k) : ev S d 139 26 [a0, a1, a2, a3, a4, a5] (.inl x :: .inl i :: .inr (.inl k) :: st) (sh, I, R) = ev S d 139 27 [a0, a1, a2, a3, a4, a5] st (sh, up I k i x, R) := (ev_eq f_139_26).trans (congrArg (fin S d 139) (if_pos ⟨h, h0, h1⟩))
theorem f_139_27 : fetch 139 27 = some (27, .aload_n 0, 1, [0], 0) := (fm_139 27).trans rfl
theorem u_139_27 {S : Scr} {d : Nat} {a1 a2 a3 a4 a5 : AV} {st : List AV} {sh : Shp} {I : IM} {R : RM} {x : Nat} : ev S d 139 27 [.inr (.inl x), a1, a2, a3, a4, a5] st (sh, I, R) = ev S d 139 28 [.inr (.inl x), a1, a2, a3, a4, a5] (.inr (.inl x) :: st) (sh, I, R) := (ev_eq f_139_27).trans rfl
theorem f_139_28 : fetch 139 28 = some (28, .getfield 9, 3, [9, 0, 1, 79], 0) := (fm_139 28).trans rfl
theorem u_139_28 {S : Scr} {d : Nat} {a0 a1 a2 a3 a4 a5 : AV} {st : List AV} {sh : Shp} {I : IM} {R : RM} {k : Nat} (h : tg sh k = 9) : ev S d 139 28 [a0, a1, a2, a3, a4, a5] (.inr (.inl k) :: st) (sh, I, R) = ev S d 139 31 [a0, a1, a2, a3, a4, a5] (rv (R k 0) :: st) (sh, I, R) := (ev_eq f_139_28).trans (congrArg (fin S d 139) (if_pos h))
theorem f_139_31 : fetch 139 31 = some (31, .bipush 60, 2, [], 60) := (fm_139 31).trans rfl
theorem u_139_31 {S : Scr} {d : Nat} {a0 a1 a2 a3 a4 a5 : AV} {st : List AV} {sh : Shp} {I : IM} {R : RM} : ev S d 139 31 [a0, a1, a2, a3, a4, a5] st (sh, I, R) = ev S d 139 33 [a0, a1, a2, a3, a4, a5] (.inl 60 :: st) (sh, I, R) := (ev_eq f_139_31).trans rfl
theorem f_139_33 : fetch 139 33 = some (33, .iload 4, 2, [4], 0) := (fm_139 33).trans rfl
theorem u_139_33 {S : Scr} {d : Nat} {a0 a1 a2 a3 a5 : AV} {st : List AV} {sh : Shp} {I : IM} {R : RM} {x : Int} : ev S d 139 33 [a0, a1, a2, a3, .inl x, a5] st (sh, I, R) = ev S d 139 35 [a0, a1, a2, a3, .inl x, a5] (.inl x :: st) (sh, I, R) := (ev_eq f_139_33).trans rfl
theorem f_139_35 : fetch 139 35 = some (35, .iadd, 1, [], 0) := (fm_139 35).trans rfl
theorem u_139_35 {S : Scr} {d : Nat} {a0 a1 a2 a3 a4 a5 : AV} {st : List AV} {sh : Shp} {I : IM} {R : RM} {x y : Int} : ev S d 139 35 [a0, a1, a2, a3, a4, a5] (.inl y :: .inl x :: st) (sh, I, R) = ev S d 139 36 [a0, a1, a2, a3, a4, a5] (.inl (wr (x + y)) :: st) (sh, I, R) := (ev_eq f_139_35).trans rfl
theorem f_139_36 : fetch 139 36 = some (36, .iload_n 3, 1, [3], 0) := (fm_139 36).trans rfl
theorem u_139_36 {S : Scr} {d : Nat} {a0 a1 a2 a4 a5 : AV} {st : List AV} {sh : Shp} {I : IM} {R : RM} {x : Int} : ev S d 139 36 [a0, a1, a2, .inl x, a4, a5] st (sh, I, R) = ev S d 139 37 [a0, a1, a2, .inl x, a4, a5] (.inl x :: st) (sh, I, R) := (ev_eq f_139_36).trans rfl
theorem f_139_37 : fetch 139 37 = some (37, .iastore, 1, [], 0) := (fm_139 37).trans rfl
theorem u_139_37 {S : Scr} {d : Nat} {a0 a1 a2 a3 a4 a5 : AV} {st : List AV} {sh : Shp} {I : IM} {R : RM} {k : Nat} {i x : Int} (h : tg sh k = 100) (h0 : 0 ≤ i) (h1 : i < ln sh k) : ev S d 139 37 [a0, a1, a2, a3, a4, a5] (.inl x :: .inl i :: .inr (.inl k) :: st) (sh, I, R) = ev S d 139 38 [a0, a1, a2, a3, a4, a5] st (sh, up I k i x, R) := (ev_eq f_139_37).trans (congrArg (fin S d 139) (if_pos ⟨h, h0, h1⟩))
theorem f_139_38 : fetch 139 38 = some (38, .aload_n 0, 1, [0], 0) := (fm_139 38).trans rfl
theorem u_139_38 {S : Scr} {d : Nat} {a1 a2 a3 a4 a5 : AV} {st : List AV} {sh : Shp} {I : IM} {R : RM} {x : Nat} : ev S d 139 38 [.inr (.inl x), a1, a2, a3, a4, a5] st (sh, I, R) = ev S d 139 39 [.inr (.inl x), a1, a2, a3, a4, a5] (.inr (.inl x) :: st) (sh, I, R) := (ev_eq f_139_38).trans rfl
theorem f_139_39 : fetch 139 39 = some (39, .getfield 9, 3, [9, 0, 1, 79], 0) := (fm_139 39).trans rfl
theorem u_139_39 {S : Scr} {d : Nat} {a0 a1 a2 a3 a4 a5 : AV} {st : List AV} {sh : Shp} {I : IM} {R : RM} {k : Nat} (h : tg sh k = 9) : ev S d 139 39 [a0, a1, a2, a3, a4, a5] (.inr (.inl k) :: st) (sh, I, R) = ev S d 139 42 [a0, a1, a2, a3, a4, a5] (rv (R k 0) :: st) (sh, I, R) := (ev_eq f_139_39).trans (congrArg (fin S d 139) (if_pos h))
theorem f_139_42 : fetch 139 42 = some (42, .bipush 90, 2, [], 90) := (fm_139 42).trans rfl
theorem u_139_42 {S : Scr} {d : Nat} {a0 a1 a2 a3 a4 a5 : AV} {st : List AV} {sh : Shp} {I : IM} {R : RM} : ev S d 139 42 [a0, a1, a2, a3, a4, a5] st (sh, I, R) = ev S d 139 44 [a0, a1, a2, a3, a4, a5] (.inl 90 :: st) (sh, I, R) := (ev_eq f_139_42).trans rfl
theorem f_139_44 : fetch 139 44 = some (44, .iload 4, 2, [4], 0) := (fm_139 44).trans rfl
theorem u_139_44 {S : Scr} {d : Nat} {a0 a1 a2 a3 a5 : AV} {st : List AV} {sh : Shp} {I : IM} {R : RM} {x : Int} : ev S d 139 44 [a0, a1, a2, a3, .inl x, a5] st (sh, I, R) = ev S d 139 46 [a0, a1, a2, a3, .inl x, a5] (.inl x :: st) (sh, I, R) := (ev_eq f_139_44).trans rfl
theorem f_139_46 : fetch 139 46 = some (46, .iadd, 1, [], 0) := (fm_139 46).trans rfl
theorem u_139_46 {S : Scr} {d : Nat} {a0 a1 a2 a3 a4 a5 : AV} {st : List AV} {sh : Shp} {I : IM} {R : RM} {x y : Int} : ev S d 139 46 [a0, a1, a2, a3, a4, a5] (.inl y :: .inl x :: st) (sh, I, R) = ev S d 139 47 [a0, a1, a2, a3, a4, a5] (.inl (wr (x + y)) :: st) (sh, I, R) := (ev_eq f_139_46).trans rfl
theorem f_139_47 : fetch 139 47 = some (47, .iconst 0, 1, [], 0) := (fm_139 47).trans rfl
theorem u_139_47 {S : Scr} {d : Nat} {a0 a1 a2 a3 a4 a5 : AV} {st : List AV} {sh : Shp} {I : IM} {R : RM} : ev S d 139 47 [a0, a1, a2, a3, a4, a5] st (sh, I, R) = ev S d 139 48 [a0, a1, a2, a3, a4, a5] (.inl 0 :: st) (sh, I, R) := (ev_eq f_139_47).trans rfl
theorem f_139_48 : fetch 139 48 = some (48, .iastore, 1, [], 0) := (fm_139 48).trans rfl
theorem u_139_48 {S : Scr} {d : Nat} {a0 a1 a2 a3 a4 a5 : AV} {st : List AV} {sh : Shp} {I : IM} {R : RM} {k : Nat} {i x : Int} (h : tg sh k = 100) (h0 : 0 ≤ i) (h1 : i < ln sh k) : ev S d 139 48 [a0, a1, a2, a3, a4, a5] (.inl x :: .inl i :: .inr (.inl k) :: st) (sh, I, R) = ev S d 139 49 [a0, a1, a2, a3, a4, a5] st (sh, up I k i x, R) := (ev_eq f_139_48).trans (congrArg (fin S d 139) (if_pos ⟨h, h0, h1⟩))
theorem f_139_49 : fetch 139 49 = some (49, .iconst 0, 1, [], 0) := (fm_139 49).trans rfl
theorem u_139_49 {S : Scr} {d : Nat} {a0 a1 a2 a3 a4 a5 : AV} {st : List AV} {sh : Shp} {I : IM} {R : RM} : ev S d 139 49 [a0, a1, a2, a3, a4, a5] st (sh, I, R) = ev S d 139 50 [a0, a1, a2, a3, a4, a5] (.inl 0 :: st) (sh, I, R) := (ev_eq f_139_49).trans rfl
theorem f_139_50 : fetch 139 50 = some (50, .istore 5, 2, [5], 0) := (fm_139 50).trans rfl
theorem u_139_50 {S : Scr} {d : Nat} {a0 a1 a2 a3 a4 a5 : AV} {st : List AV} {sh : Shp} {I : IM} {R : RM} {x : Int} : ev S d 139 50 [a0, a1, a2, a3, a4, a5] (.inl x :: st) (sh, I, R) = ev S d 139 52 [a0, a1, a2, a3, a4, .inl x] st (sh, I, R) := (ev_eq f_139_50).trans rfl
theorem f_139_52 : fetch 139 52 = some (52, .iload 5, 2, [5], 0) := (fm_139 52).trans rfl
theorem u_139_52 {S : Scr} {d : Nat} {a0 a1 a2 a3 a4 : AV} {st : List AV} {sh : Shp} {I : IM} {R : RM} {x : Int} : ev S d 139 52 [a0, a1, a2, a3, a4, .inl x] st (sh, I, R) = ev S d 139 54 [a0, a1, a2, a3, a4, .inl x] (.inl x :: st) (sh, I, R) := (ev_eq f_139_52).trans rfl
theorem f_139_54 : fetch 139 54 = some (54, .bipush 6, 2, [], 6) := (fm_139 54).trans rfl
theorem u_139_54 {S : Scr} {d : Nat} {a0 a1 a2 a3 a4 a5 : AV} {st : List AV} {sh : Shp} {I : IM} {R : RM} : ev S d 139 54 [a0, a1, a2, a3, a4, a5] st (sh, I, R) = ev S d 139 56 [a0, a1, a2, a3, a4, a5] (.inl 6 :: st) (sh, I, R) := (ev_eq f_139_54).trans rfl
theorem f_139_56 : fetch 139 56 = some (56, .if_icmp .ge 27, 3, [83], 0) := (fm_139 56).trans rfl
theorem u_139_56 {S : Scr} {d : Nat} {a0 a1 a2 a3 a4 a5 : AV} {st : List AV} {sh : Shp} {I : IM} {R : RM} {x y : Int} : ev S d 139 56 [a0, a1, a2, a3, a4, a5] (.inl y :: .inl x :: st) (sh, I, R) = if y ≤ x then ev S d 139 83 [a0, a1, a2, a3, a4, a5] st (sh, I, R) else ev S d 139 59 [a0, a1, a2, a3, a4, a5] st (sh, I, R) := (ev_eq f_139_56).trans fin_icmp_ge
theorem f_139_59 : fetch 139 59 = some (59, .aload_n 0, 1, [0], 0) := (fm_139 59).trans rfl
theorem u_139_59 {S : Scr} {d : Nat} {a1 a2 a3 a4 a5 : AV} {st : List AV} {sh : Shp} {I : IM} {R : RM} {x : Nat} : ev S d 139 59 [.inr (.inl x), a1, a2, a3, a4, a5] st (sh, I, R) = ev S d 139 60 [.inr (.inl x), a1, a2, a3, a4, a5] (.inr (.inl x) :: st) (sh, I, R) := (ev_eq f_139_59).trans rfl
theorem f_139_60 : fetch 139 60 = some (60, .getfield 9, 3, [9, 0, 1, 79], 0) := (fm_139 60).trans rfl
theorem u_139_60 {S : Scr} {d : Nat} {a0 a1 a2 a3 a4 a5 : AV} {st : List AV} {sh : Shp} {I : IM} {R : RM} {k : Nat} (h : tg sh k = 9) : ev S d 139 60 [a0, a1, a2, a3, a4, a5] (.inr (.inl k) :: st) (sh, I, R) = ev S d 139 63 [a0, a1, a2, a3, a4, a5] (rv (R k 0) :: st) (sh, I, R) := (ev_eq f_139_60).trans (congrArg (fin S d 139) (if_pos h))
theorem f_139_63 : fetch 139 63 = some (63, .sipush 480, 3, [], 480) := (fm_139 63).trans rfl
theorem u_139_63 {S : Scr} {d : Nat} {a0 a1 a2 a3 a4 a5 : AV} {st : List AV} {sh : Shp} {I : IM} {R : RM} : ev S d 139 63 [a0, a1, a2, a3, a4, a5] st (sh, I, R) = ev S d 139 66 [a0, a1, a2, a3, a4, a5] (.inl 480 :: st) (sh, I, R) := (ev_eq f_139_63).trans rfl
theorem f_139_66 : fetch 139 66 = some (66, .bipush 6, 2, [], 6) := (fm_139 66).trans rfl
theorem u_139_66 {S : Scr} {d : Nat} {a0 a1 a2 a3 a4 a5 : AV} {st : List AV} {sh : Shp} {I : IM} {R : RM} : ev S d 139 66 [a0, a1, a2, a3, a4, a5] st (sh, I, R) = ev S d 139 68 [a0, a1, a2, a3, a4, a5] (.inl 6 :: st) (sh, I, R) := (ev_eq f_139_66).trans rfl
theorem f_139_68 : fetch 139 68 = some (68, .iload 4, 2, [4], 0) := (fm_139 68).trans rfl
theorem u_139_68 {S : Scr} {d : Nat} {a0 a1 a2 a3 a5 : AV} {st : List AV} {sh : Shp} {I : IM} {R : RM} {x : Int} : ev S d 139 68 [a0, a1, a2, a3, .inl x, a5] st (sh, I, R) = ev S d 139 70 [a0, a1, a2, a3, .inl x, a5] (.inl x :: st) (sh, I, R) := (ev_eq f_139_68).trans rfl
theorem f_139_70 : fetch 139 70 = some (70, .imul, 1, [], 0) := (fm_139 70).trans rfl
theorem u_139_70 {S : Scr} {d : Nat} {a0 a1 a2 a3 a4 a5 : AV} {st : List AV} {sh : Shp} {I : IM} {R : RM} {x y : Int} : ev S d 139 70 [a0, a1, a2, a3, a4, a5] (.inl y :: .inl x :: st) (sh, I, R) = ev S d 139 71 [a0, a1, a2, a3, a4, a5] (.inl (wr (x * y)) :: st) (sh, I, R) := (ev_eq f_139_70).trans rfl
theorem f_139_71 : fetch 139 71 = some (71, .iadd, 1, [], 0) := (fm_139 71).trans rfl
theorem u_139_71 {S : Scr} {d : Nat} {a0 a1 a2 a3 a4 a5 : AV} {st : List AV} {sh : Shp} {I : IM} {R : RM} {x y : Int} : ev S d 139 71 [a0, a1, a2, a3, a4, a5] (.inl y :: .inl x :: st) (sh, I, R) = ev S d 139 72 [a0, a1, a2, a3, a4, a5] (.inl (wr (x + y)) :: st) (sh, I, R) := (ev_eq f_139_71).trans rfl
theorem f_139_72 : fetch 139 72 = some (72, .iload 5, 2, [5], 0) := (fm_139 72).trans rfl
theorem u_139_72 {S : Scr} {d : Nat} {a0 a1 a2 a3 a4 : AV} {st : List AV} {sh : Shp} {I : IM} {R : RM} {x : Int} : ev S d 139 72 [a0, a1, a2, a3, a4, .inl x] st (sh, I, R) = ev S d 139 74 [a0, a1, a2, a3, a4, .inl x] (.inl x :: st) (sh, I, R) := (ev_eq f_139_72).trans rfl
theorem f_139_74 : fetch 139 74 = some (74, .iadd, 1, [], 0) := (fm_139 74).trans rfl
theorem u_139_74 {S : Scr} {d : Nat} {a0 a1 a2 a3 a4 a5 : AV} {st : List AV} {sh : Shp} {I : IM} {R : RM} {x y : Int} : ev S d 139 74 [a0, a1, a2, a3, a4, a5] (.inl y :: .inl x :: st) (sh, I, R) = ev S d 139 75 [a0, a1, a2, a3, a4, a5] (.inl (wr (x + y)) :: st) (sh, I, R) := (ev_eq f_139_74).trans rfl
theorem f_139_75 : fetch 139 75 = some (75, .iconst (-1), 1, [], (-1)) := (fm_139 75).trans rfl
theorem u_139_75 {S : Scr} {d : Nat} {a0 a1 a2 a3 a4 a5 : AV} {st : List AV} {sh : Shp} {I : IM} {R : RM} : ev S d 139 75 [a0, a1, a2, a3, a4, a5] st (sh, I, R) = ev S d 139 76 [a0, a1, a2, a3, a4, a5] (.inl (-1) :: st) (sh, I, R) := (ev_eq f_139_75).trans rfl
theorem f_139_76 : fetch 139 76 = some (76, .iastore, 1, [], 0) := (fm_139 76).trans rfl
theorem u_139_76 {S : Scr} {d : Nat} {a0 a1 a2 a3 a4 a5 : AV} {st : List AV} {sh : Shp} {I : IM} {R : RM} {k : Nat} {i x : Int} (h : tg sh k = 100) (h0 : 0 ≤ i) (h1 : i < ln sh k) : ev S d 139 76 [a0, a1, a2, a3, a4, a5] (.inl x :: .inl i :: .inr (.inl k) :: st) (sh, I, R) = ev S d 139 77 [a0, a1, a2, a3, a4, a5] st (sh, up I k i x, R) := (ev_eq f_139_76).trans (congrArg (fin S d 139) (if_pos ⟨h, h0, h1⟩))
theorem f_139_77 : fetch 139 77 = some (77, .iinc 5 1, 3, [5], 1) := (fm_139 77).trans rfl
theorem u_139_77 {S : Scr} {d : Nat} {a0 a1 a2 a3 a4 : AV} {st : List AV} {sh : Shp} {I : IM} {R : RM} {x : Int} : ev S d 139 77 [a0, a1, a2, a3, a4, .inl x] st (sh, I, R) = ev S d 139 80 [a0, a1, a2, a3, a4, .inl (wr (x + 1))] st (sh, I, R) := (ev_eq f_139_77).trans rfl
theorem f_139_80 : fetch 139 80 = some (80, .goto (-28), 3, [52], 0) := (fm_139 80).trans rfl
theorem u_139_80 {S : Scr} {d : Nat} {a0 a1 a2 a3 a4 a5 : AV} {st : List AV} {sh : Shp} {I : IM} {R : RM} : ev S d 139 80 [a0, a1, a2, a3, a4, a5] st (sh, I, R) = ev S d 139 52 [a0, a1, a2, a3, a4, a5] st (sh, I, R) := (ev_eq f_139_80).trans rfl
theorem f_139_83 : fetch 139 83 = some (83, .iload 4, 2, [4], 0) := (fm_139 83).trans rfl
theorem u_139_83 {S : Scr} {d : Nat} {a0 a1 a2 a3 a5 : AV} {st : List AV} {sh : Shp} {I : IM} {R : RM} {x : Int} : ev S d 139 83 [a0, a1, a2, a3, .inl x, a5] st (sh, I, R) = ev S d 139 85 [a0, a1, a2, a3, .inl x, a5] (.inl x :: st) (sh, I, R) := (ev_eq f_139_83).trans rfl
theorem f_139_85 : fetch 139 85 = some (85, .ireturn, 1, [0], 0) := (fm_139 85).trans rfl
theorem u_139_85 {S : Scr} {d : Nat} {a0 a1 a2 a3 a4 a5 : AV} {sh : Shp} {I : IM} {R : RM} {x : Int} : ev S d 139 85 [a0, a1, a2, a3, a4, a5] [.inl x] (sh, I, R) = some (some (.inl x), (sh, I, R)) := (ev_eq f_139_85).trans fin_iret0
theorem c_140 {d : Nat} {a0 a1 a2 : AV} {M : Mem} : cl (d + 1) 140 [a0, a1, a2] M = ev S0 d 140 0 [a0, a1, a2, .inr (.inr 1)] [] M := (cl_eq (as := [a0, a1, a2]) (show 3 ≤ maxOf 140 by decide +kernel)).trans rfl
theorem mt_140 : MT[140]? = some m_140 := rfl
theorem fm_140 (pc : Nat) : fetch 140 pc = lk m_140.2.2.2.2.2 pc := by
  unfold fetch
  rw [mt_140]
theorem f_140_0 : fetch 140 0 = some (0, .iconst 0, 1, [], 0) := (fm_140 0).trans rfl
theorem u_140_0 {S : Scr} {d : Nat} {a0 a1 a2 a3 : AV} {st : List AV} {sh : Shp} {I : IM} {R : RM} : ev S d 140 0 [a0, a1, a2, a3] st (sh, I, R) = ev S d 140 1 [a0, a1, a2, a3] (.inl 0 :: st) (sh, I, R) := (ev_eq f_140_0).trans rfl
theorem f_140_1 : fetch 140 1 = some (1, .istore_n 3, 1, [3], 0) := (fm_140 1).trans rfl
theorem u_140_1 {S : Scr} {d : Nat} {a0 a1 a2 a3 : AV} {st : List AV} {sh : Shp} {I : IM} {R : RM} {x : Int} : ev S d 140 1 [a0, a1, a2, a3] (.inl x :: st) (sh, I, R) = ev S d 140 2 [a0, a1, a2, .inl x] st (sh, I, R) := (ev_eq f_140_1).trans rfl
theorem f_140_2 : fetch 140 2 = some (2, .iload_n 3, 1, [3], 0) := (fm_140 2).trans rfl
theorem u_140_2 {S : Scr} {d : Nat} {a0 a1 a2 : AV} {st : List AV} {sh : Shp} {I : IM} {R : RM} {x : Int} : ev S d 140 2 [a0, a1, a2, .inl x] st (sh, I, R) = ev S d 140 3 [a0, a1, a2, .inl x] (.inl x :: st) (sh, I, R) := (ev_eq f_140_2).trans rfl
theorem f_140_3 : fetch 140 3 = some (3, .aload_n 0, 1, [0], 0) := (fm_140 3).trans rfl
theorem u_140_3 {S : Scr} {d : Nat} {a1 a2 a3 : AV} {st : List AV} {sh : Shp} {I : IM} {R : RM} {x : Nat} : ev S d 140 3 [.inr (.inl x), a1, a2, a3] st (sh, I, R) = ev S d 140 4 [.inr (.inl x), a1, a2, a3] (.inr (.inl x) :: st) (sh, I, R) := (ev_eq f_140_3).trans rfl
theorem f_140_4 : fetch 140 4 = some (4, .getfield 9, 3, [9, 0, 1, 79], 0) := (fm_140 4).trans rfl
theorem u_140_4 {S : Scr} {d : Nat} {a0 a1 a2 a3 : AV} {st : List AV} {sh : Shp} {I : IM} {R : RM} {k : Nat} (h : tg sh k = 9) : ev S d 140 4 [a0, a1, a2, a3] (.inr (.inl k) :: st) (sh, I, R) = ev S d 140 7 [a0, a1, a2, a3] (rv (R k 0) :: st) (sh, I, R) := (ev_eq f_140_4).trans (congrArg (fin S d 140) (if_pos h))
theorem f_140_7 : fetch 140 7 = some (7, .bipush 90, 2, [], 90) := (fm_140 7).trans rfl
theorem u_140_7 {S : Scr} {d : Nat} {a0 a1 a2 a3 : AV} {st : List AV} {sh : Shp} {I : IM} {R : RM} : ev S d 140 7 [a0, a1, a2, a3] st (sh, I, R) = ev S d 140 9 [a0, a1, a2, a3] (.inl 90 :: st) (sh, I, R) := (ev_eq f_140_7).trans rfl
theorem f_140_9 : fetch 140 9 = some (9, .iload_n 1, 1, [1], 0) := (fm_140 9).trans rfl
theorem u_140_9 {S : Scr} {d : Nat} {a0 a2 a3 : AV} {st : List AV} {sh : Shp} {I : IM} {R : RM} {x : Int} : ev S d 140 9 [a0, .inl x, a2, a3] st (sh, I, R) = ev S d 140 10 [a0, .inl x, a2, a3] (.inl x :: st) (sh, I, R) := (ev_eq f_140_9).trans rfl
theorem f_140_10 : fetch 140 10 = some (10, .iadd, 1, [], 0) := (fm_140 10).trans rfl
theorem u_140_10 {S : Scr} {d : Nat} {a0 a1 a2 a3 : AV} {st : List AV} {sh : Shp} {I : IM} {R : RM} {x y : Int} : ev S d 140 10 [a0, a1, a2, a3] (.inl y :: .inl x :: st) (sh, I, R) = ev S d 140 11 [a0, a1, a2, a3] (.inl (wr (x + y)) :: st) (sh, I, R) := (ev_eq f_140_10).trans rfl
theorem f_140_11 : fetch 140 11 = some (11, .iaload, 1, [], 0) := (fm_140 11).trans rfl
theorem u_140_11 {S : Scr} {d : Nat} {a0 a1 a2 a3 : AV} {st : List AV} {sh : Shp} {I : IM} {R : RM} {k : Nat} {i : Int} (h : tg sh k = 100) (h0 : 0 ≤ i) (h1 : i < ln sh k) : ev S d 140 11 [a0, a1, a2, a3] (.inl i :: .inr (.inl k) :: st) (sh, I, R) = ev S d 140 12 [a0, a1, a2, a3] (.inl (I k i) :: st) (sh, I, R) := (ev_eq f_140_11).trans (congrArg (fin S d 140) (if_pos ⟨h, h0, h1⟩))
theorem f_140_12 : fetch 140 12 = some (12, .if_icmp .ge 29, 3, [41], 0) := (fm_140 12).trans rfl
theorem u_140_12 {S : Scr} {d : Nat} {a0 a1 a2 a3 : AV} {st : List AV} {sh : Shp} {I : IM} {R : RM} {x y : Int} : ev S d 140 12 [a0, a1, a2, a3] (.inl y :: .inl x :: st) (sh, I, R) = if y ≤ x then ev S d 140 41 [a0, a1, a2, a3] st (sh, I, R) else ev S d 140 15 [a0, a1, a2, a3] st (sh, I, R) := (ev_eq f_140_12).trans fin_icmp_ge
theorem f_140_15 : fetch 140 15 = some (15, .aload_n 0, 1, [0], 0) := (fm_140 15).trans rfl
theorem u_140_15 {S : Scr} {d : Nat} {a1 a2 a3 : AV} {st : List AV} {sh : Shp} {I : IM} {R : RM} {x : Nat} : ev S d 140 15 [.inr (.inl x), a1, a2, a3] st (sh, I, R) = ev S d 140 16 [.inr (.inl x), a1, a2, a3] (.inr (.inl x) :: st) (sh, I, R) := (ev_eq f_140_15).trans rfl
theorem f_140_16 : fetch 140 16 = some (16, .getfield 9, 3, [9, 0, 1, 79], 0) := (fm_140 16).trans rfl
theorem u_140_16 {S : Scr} {d : Nat} {a0 a1 a2 a3 : AV} {st : List AV} {sh : Shp} {I : IM} {R : RM} {k : Nat} (h : tg sh k = 9) : ev S d 140 16 [a0, a1, a2, a3] (.inr (.inl k) :: st) (sh, I, R) = ev S d 140 19 [a0, a1, a2, a3] (rv (R k 0) :: st) (sh, I, R) := (ev_eq f_140_16).trans (congrArg (fin S d 140) (if_pos h))
theorem f_140_19 : fetch 140 19 = some (19, .bipush 120, 2, [], 120) := (fm_140 19).trans rfl
theorem u_140_19 {S : Scr} {d : Nat} {a0 a1 a2 a3 : AV} {st : List AV} {sh : Shp} {I : IM} {R : RM} : ev S d 140 19 [a0, a1, a2, a3] st (sh, I, R) = ev S d 140 21 [a0, a1, a2, a3] (.inl 120 :: st) (sh, I, R) := (ev_eq f_140_19).trans rfl
theorem f_140_21 : fetch 140 21 = some (21, .bipush 6, 2, [], 6) := (fm_140 21).trans rfl
theorem u_140_21 {S : Scr} {d : Nat} {a0 a1 a2 a3 : AV} {st : List AV} {sh : Shp} {I : IM} {R : RM} : ev S d 140 21 [a0, a1, a2, a3] st (sh, I, R) = ev S d 140 23 [a0, a1, a2, a3] (.inl 6 :: st) (sh, I, R) := (ev_eq f_140_21).trans rfl
theorem f_140_23 : fetch 140 23 = some (23, .iload_n 1, 1, [1], 0) := (fm_140 23).trans rfl
theorem u_140_23 {S : Scr} {d : Nat} {a0 a2 a3 : AV} {st : List AV} {sh : Shp} {I : IM} {R : RM} {x : Int} : ev S d 140 23 [a0, .inl x, a2, a3] st (sh, I, R) = ev S d 140 24 [a0, .inl x, a2, a3] (.inl x :: st) (sh, I, R) := (ev_eq f_140_23).trans rfl
theorem f_140_24 : fetch 140 24 = some (24, .imul, 1, [], 0) := (fm_140 24).trans rfl
theorem u_140_24 {S : Scr} {d : Nat} {a0 a1 a2 a3 : AV} {st : List AV} {sh : Shp} {I : IM} {R : RM} {x y : Int} : ev S d 140 24 [a0, a1, a2, a3] (.inl y :: .inl x :: st) (sh, I, R) = ev S d 140 25 [a0, a1, a2, a3] (.inl (wr (x * y)) :: st) (sh, I, R) := (ev_eq f_140_24).trans rfl
theorem f_140_25 : fetch 140 25 = some (25, .iadd, 1, [], 0) := (fm_140 25).trans rfl
theorem u_140_25 {S : Scr} {d : Nat} {a0 a1 a2 a3 : AV} {st : List AV} {sh : Shp} {I : IM} {R : RM} {x y : Int} : ev S d 140 25 [a0, a1, a2, a3] (.inl y :: .inl x :: st) (sh, I, R) = ev S d 140 26 [a0, a1, a2, a3] (.inl (wr (x + y)) :: st) (sh, I, R) := (ev_eq f_140_25).trans rfl
theorem f_140_26 : fetch 140 26 = some (26, .iload_n 3, 1, [3], 0) := (fm_140 26).trans rfl
theorem u_140_26 {S : Scr} {d : Nat} {a0 a1 a2 : AV} {st : List AV} {sh : Shp} {I : IM} {R : RM} {x : Int} : ev S d 140 26 [a0, a1, a2, .inl x] st (sh, I, R) = ev S d 140 27 [a0, a1, a2, .inl x] (.inl x :: st) (sh, I, R) := (ev_eq f_140_26).trans rfl
theorem f_140_27 : fetch 140 27 = some (27, .iadd, 1, [], 0) := (fm_140 27).trans rfl
theorem u_140_27 {S : Scr} {d : Nat} {a0 a1 a2 a3 : AV} {st : List AV} {sh : Shp} {I : IM} {R : RM} {x y : Int} : ev S d 140 27 [a0, a1, a2, a3] (.inl y :: .inl x :: st) (sh, I, R) = ev S d 140 28 [a0, a1, a2, a3] (.inl (wr (x + y)) :: st) (sh, I, R) := (ev_eq f_140_27).trans rfl
theorem f_140_28 : fetch 140 28 = some (28, .iaload, 1, [], 0) := (fm_140 28).trans rfl
theorem u_140_28 {S : Scr} {d : Nat} {a0 a1 a2 a3 : AV} {st : List AV} {sh : Shp} {I : IM} {R : RM} {k : Nat} {i : Int} (h : tg sh k = 100) (h0 : 0 ≤ i) (h1 : i < ln sh k) : ev S d 140 28 [a0, a1, a2, a3] (.inl i :: .inr (.inl k) :: st) (sh, I, R) = ev S d 140 29 [a0, a1, a2, a3] (.inl (I k i) :: st) (sh, I, R) := (ev_eq f_140_28).trans (congrArg (fin S d 140) (if_pos ⟨h, h0, h1⟩))
theorem f_140_29 : fetch 140 29 = some (29, .iload_n 2, 1, [2], 0) := (fm_140 29).trans rfl
theorem u_140_29 {S : Scr} {d : Nat} {a0 a1 a3 : AV} {st : List AV} {sh : Shp} {I : IM} {R : RM} {x : Int} : ev S d 140 29 [a0, a1, .inl x, a3] st (sh, I, R) = ev S d 140 30 [a0, a1, .inl x, a3] (.inl x :: st) (sh, I, R) := (ev_eq f_140_29).trans rfl
theorem f_140_30 : fetch 140 30 = some (30, .if_icmp .ne 5, 3, [35], 0) := (fm_140 30).trans rfl
theorem u_140_30 {S : Scr} {d : Nat} {a0 a1 a2 a3 : AV} {st : List AV} {sh : Shp} {I : IM} {R : RM} {x y : Int} : ev S d 140 30 [a0, a1, a2, a3] (.inl y :: .inl x :: st) (sh, I, R) = if ¬ x = y then ev S d 140 35 [a0, a1, a2, a3] st (sh, I, R) else ev S d 140 33 [a0, a1, a2, a3] st (sh, I, R) := (ev_eq f_140_30).trans fin_icmp_ne
theorem f_140_33 : fetch 140 33 = some (33, .iload_n 3, 1, [3], 0) := (fm_140 33).trans rfl
theorem u_140_33 {S : Scr} {d : Nat} {a0 a1 a2 : AV} {st : List AV} {sh : Shp} {I : IM} {R : RM} {x : Int} : ev S d 140 33 [a0, a1, a2, .inl x] st (sh, I, R) = ev S d 140 34 [a0, a1, a2, .inl x] (.inl x :: st) (sh, I, R) := (ev_eq f_140_33).trans rfl
theorem f_140_34 : fetch 140 34 = some (34, .ireturn, 1, [0], 0) := (fm_140 34).trans rfl
theorem u_140_34 {S : Scr} {d : Nat} {a0 a1 a2 a3 : AV} {sh : Shp} {I : IM} {R : RM} {x : Int} : ev S d 140 34 [a0, a1, a2, a3] [.inl x] (sh, I, R) = some (some (.inl x), (sh, I, R)) := (ev_eq f_140_34).trans fin_iret0
theorem f_140_35 : fetch 140 35 = some (35, .iinc 3 1, 3, [3], 1) := (fm_140 35).trans rfl
theorem u_140_35 {S : Scr} {d : Nat} {a0 a1 a2 : AV} {st : List AV} {sh : Shp} {I : IM} {R : RM} {x : Int} : ev S d 140 35 [a0, a1, a2, .inl x] st (sh, I, R) = ev S d 140 38 [a0, a1, a2, .inl (wr (x + 1))] st (sh, I, R) := (ev_eq f_140_35).trans rfl
theorem f_140_38 : fetch 140 38 = some (38, .goto (-36), 3, [2], 0) := (fm_140 38).trans rfl
theorem u_140_38 {S : Scr} {d : Nat} {a0 a1 a2 a3 : AV} {st : List AV} {sh : Shp} {I : IM} {R : RM} : ev S d 140 38 [a0, a1, a2, a3] st (sh, I, R) = ev S d 140 2 [a0, a1, a2, a3] st (sh, I, R) := (ev_eq f_140_38).trans rfl
theorem f_140_41 : fetch 140 41 = some (41, .iconst (-1), 1, [], (-1)) := (fm_140 41).trans rfl
theorem u_140_41 {S : Scr} {d : Nat} {a0 a1 a2 a3 : AV} {st : List AV} {sh : Shp} {I : IM} {R : RM} : ev S d 140 41 [a0, a1, a2, a3] st (sh, I, R) = ev S d 140 42 [a0, a1, a2, a3] (.inl (-1) :: st) (sh, I, R) := (ev_eq f_140_41).trans rfl
theorem f_140_42 : fetch 140 42 = some (42, .ireturn, 1, [0], 0) := (fm_140 42).trans rfl
theorem u_140_42 {S : Scr} {d : Nat} {a0 a1 a2 a3 : AV} {sh : Shp} {I : IM} {R : RM} {x : Int} : ev S d 140 42 [a0, a1, a2, a3] [.inl x] (sh, I, R) = some (some (.inl x), (sh, I, R)) := (ev_eq f_140_42).trans fin_iret0
theorem c_141 {d : Nat} {a0 a1 a2 a3 : AV} {M : Mem} : cl (d + 1) 141 [a0, a1, a2, a3] M = ev S0 d 141 0 [a0, a1, a2, a3, .inr (.inr 1)] [] M := (cl_eq (as := [a0, a1, a2, a3]) (show 4 ≤ maxOf 141 by decide +kernel)).trans rfl
theorem mt_141 : MT[141]? = some m_141 := rfl
theorem fm_141 (pc : Nat) : fetch 141 pc = lk m_141.2.2.2.2.2 pc := by
  unfold fetch
  rw [mt_141]
theorem f_141_0 : fetch 141 0 = some (0, .bipush 6, 2, [], 6) := (fm_141 0).trans rfl
theorem u_141_0 {S : Scr} {d : Nat} {a0 a1 a2 a3 a4 : AV} {st : List AV} {sh : Shp} {I : IM} {R : RM} : ev S d 141 0 [a0, a1, a2, a3, a4] st (sh, I, R) = ev S d 141 2 [a0, a1, a2, a3, a4] (.inl 6 :: st) (sh, I, R) := (ev_eq f_141_0).trans rfl
theorem f_141_2 : fetch 141 2 = some (2, .iload_n 1, 1, [1], 0) := (fm_141 2).trans rfl
theorem u_141_2 {S : Scr} {d : Nat} {a0 a2 a3 a4 : AV} {st : List AV} {sh : Shp} {I : IM} {R : RM} {x : Int} : ev S d 141 2 [a0, .inl x, a2, a3, a4] st (sh, I, R) = ev S d 141 3 [a0, .inl x, a2, a3, a4] (.inl x :: st) (sh, I, R) := (ev_eq f_141_2).trans rfl
theorem f_141_3 : fetch 141 3 = some (3, .imul, 1, [], 0) := (fm_141 3).trans rfl
theorem u_141_3 {S : Scr} {d : Nat} {a0 a1 a2 a3 a4 : AV} {st : List AV} {sh : Shp} {I : IM} {R : RM} {x y : Int} : ev S d 141 3 [a0, a1, a2, a3, a4] (.inl y :: .inl x :: st) (sh, I, R) = ev S d 141 4 [a0, a1, a2, a3, a4] (.inl (wr (x * y)) :: st) (sh, I, R) := (ev_eq f_141_3).trans rfl
theorem f_141_4 : fetch 141 4 = some (4, .aload_n 0, 1, [0], 0) := (fm_141 4).trans rfl
theorem u_141_4 {S : Scr} {d : Nat} {a1 a2 a3 a4 : AV} {st : List AV} {sh : Shp} {I : IM} {R : RM} {x : Nat} : ev S d 141 4 [.inr (.inl x), a1, a2, a3, a4] st (sh, I, R) = ev S d 141 5 [.inr (.inl x), a1, a2, a3, a4] (.inr (.inl x) :: st) (sh, I, R) := (ev_eq f_141_4).trans rfl
theorem f_141_5 : fetch 141 5 = some (5, .getfield 9, 3, [9, 0, 1, 79], 0) := (fm_141 5).trans rfl
theorem u_141_5 {S : Scr} {d : Nat} {a0 a1 a2 a3 a4 : AV} {st : List AV} {sh : Shp} {I : IM} {R : RM} {k : Nat} (h : tg sh k = 9) : ev S d 141 5 [a0, a1, a2, a3, a4] (.inr (.inl k) :: st) (sh, I, R) = ev S d 141 8 [a0, a1, a2, a3, a4] (rv (R k 0) :: st) (sh, I, R) := (ev_eq f_141_5).trans (congrArg (fin S d 141) (if_pos h))
theorem f_141_8 : fetch 141 8 = some (8, .bipush 90, 2, [], 90) := (fm_141 8).trans rfl
theorem u_141_8 {S : Scr} {d : Nat} {a0 a1 a2 a3 a4 : AV} {st : List AV} {sh : Shp} {I : IM} {R : RM} : ev S d 141 8 [a0, a1, a2, a3, a4] st (sh, I, R) = ev S d 141 10 [a0, a1, a2, a3, a4] (.inl 90 :: st) (sh, I, R) := (ev_eq f_141_8).trans rfl
theorem f_141_10 : fetch 141 10 = some (10, .iload_n 1, 1, [1], 0) := (fm_141 10).trans rfl
theorem u_141_10 {S : Scr} {d : Nat} {a0 a2 a3 a4 : AV} {st : List AV} {sh : Shp} {I : IM} {R : RM} {x : Int} : ev S d 141 10 [a0, .inl x, a2, a3, a4] st (sh, I, R) = ev S d 141 11 [a0, .inl x, a2, a3, a4] (.inl x :: st) (sh, I, R) := (ev_eq f_141_10).trans rfl
theorem f_141_11 : fetch 141 11 = some (11, .iadd, 1, [], 0) := (fm_141 11).trans rfl
theorem u_141_11 {S : Scr} {d : Nat} {a0 a1 a2 a3 a4 : AV} {st : List AV} {sh : Shp} {I : IM} {R : RM} {x y : Int} : ev S d 141 11 [a0, a1, a2, a3, a4] (.inl y :: .inl x :: st) (sh, I, R) = ev S d 141 12 [a0, a1, a2, a3, a4] (.inl (wr (x + y)) :: st) (sh, I, R) := (ev_eq f_141_11).trans rfl
theorem f_141_12 : fetch 141 12 = some (12, .iaload, 1, [], 0) := (fm_141 12).trans rfl
theorem u_141_12 {S : Scr} {d : Nat} {a0 a1 a2 a3 a4 : AV} {st : List AV} {sh : Shp} {I : IM} {R : RM} {k : Nat} {i : Int} (h : tg sh k = 100) (h0 : 0 ≤ i) (h1 : i < ln sh k) : ev S d 141 12 [a0, a1, a2, a3, a4] (.inl i :: .inr (.inl k) :: st) (sh, I, R) = ev S d 141 13 [a0, a1, a2, a3, a4] (.inl (I k i) :: st) (sh, I, R) := (ev_eq f_141_12).trans (congrArg (fin S d 141) (if_pos ⟨h, h0, h1⟩))
theorem f_141_13 : fetch 141 13 = some (13, .iadd, 1, [], 0) := (fm_141 13).trans rfl
theorem u_141_13 {S : Scr} {d : Nat} {a0 a1 a2 a3 a4 : AV} {st : List AV} {sh : Shp} {I : IM} {R : RM} {x y : Int} : ev S d 141 13 [a0, a1, a2, a3, a4] (.inl y :: .inl x :: st) (sh, I, R) = ev S d 141 14 [a0, a1, a2, a3, a4] (.inl (wr (x + y)) :: st) (sh, I, R) := (ev_eq f_141_13).trans rfl
theorem f_141_14 : fetch 141 14 = some (14, .istore 4, 2, [4], 0) := (fm_141 14).trans rfl
theorem u_141_14 {S : Scr} {d : Nat} {a0 a1 a2 a3 a4 : AV} {st : List AV} {sh : Shp} {I : IM} {R : RM} {x : Int} : ev S d 141 14 [a0, a1, a2, a3, a4] (.inl x :: st) (sh, I, R) = ev S d 141 16 [a0, a1, a2, a3, .inl x] st (sh, I, R) := (ev_eq f_141_14).trans rfl
theorem f_141_16 : fetch 141 16 = some (16, .aload_n 0, 1, [0], 0) := (fm_141 16).trans rfl
theorem u_141_16 {S : Scr} {d : Nat} {a1 a2 a3 a4 : AV} {st : List AV} {sh : Shp} {I : IM} {R : RM} {x : Nat} : ev S d 141 16 [.inr (.inl x), a1, a2, a3, a4] st (sh, I, R) = ev S d 141 17 [.inr (.inl x), a1, a2, a3, a4] (.inr (.inl x) :: st) (sh, I, R) := (ev_eq f_141_16).trans rfl
theorem f_141_17 : fetch 141 17 = some (17, .getfield 9, 3, [9, 0, 1, 79], 0) := (fm_141 17).trans rfl
theorem u_141_17 {S : Scr} {d : Nat} {a0 a1 a2 a3 a4 : AV} {st : List AV} {sh : Shp} {I : IM} {R : RM} {k : Nat} (h : tg sh k = 9) : ev S d 141 17 [a0, a1, a2, a3, a4] (.inr (.inl k) :: st) (sh, I, R) = ev S d 141 20 [a0, a1, a2, a3, a4] (rv (R k 0) :: st) (sh, I, R) := (ev_eq f_141_17).trans (congrArg (fin S d 141) (if_pos h))
theorem f_141_20 : fetch 141 20 = some (20, .bipush 120, 2, [], 120) := (fm_141 20).trans rfl
theorem u_141_20 {S : Scr} {d : Nat} {a0 a1 a2 a3 a4 : AV} {st : List AV} {sh : Shp} {I : IM} {R : RM} : ev S d 141 20 [a0, a1, a2, a3, a4] st (sh, I, R) = ev S d 141 22 [a0, a1, a2, a3, a4] (.inl 120 :: st) (sh, I, R) := (ev_eq f_141_20).trans rfl
theorem f_141_22 : fetch 141 22 = some (22, .iload 4, 2, [4], 0) := (fm_141 22).trans rfl
theorem u_141_22 {S : Scr} {d : Nat} {a0 a1 a2 a3 : AV} {st : List AV} {sh : Shp} {I : IM} {R : RM} {x : Int} : ev S d 141 22 [a0, a1, a2, a3, .inl x] st (sh, I, R) = ev S d 141 24 [a0, a1, a2, a3, .inl x] (.inl x :: st) (sh, I, R) := (ev_eq f_141_22).trans rfl
theorem f_141_24 : fetch 141 24 = some (24, .iadd, 1, [], 0) := (fm_141 24).trans rfl
theorem u_141_24 {S : Scr} {d : Nat} {a0 a1 a2 a3 a4 : AV} {st : List AV} {sh : Shp} {I : IM} {R : RM} {x y : Int} : ev S d 141 24 [a0, a1, a2, a3, a4] (.inl y :: .inl x :: st) (sh, I, R) = ev S d 141 25 [a0, a1, a2, a3, a4] (.inl (wr (x + y)) :: st) (sh, I, R) := (ev_eq f_141_24).trans rfl
theorem f_141_25 : fetch 141 25 = some (25, .iload_n 2, 1, [2], 0) := (fm_141 25).trans rfl
theorem u_141_25 {S : Scr} {d : Nat} {a0 a1 a3 a4 : AV} {st : List AV} {sh : Shp} {I : IM} {R : RM} {x : Int} : ev S d 141 25 [a0, a1, .inl x, a3, a4] st (sh, I, R) = ev S d 141 26 [a0, a1, .inl x, a3, a4] (.inl x :: st) (sh, I, R) := (ev_eq f_141_25).trans rfl
theorem f_141_26 : fetch 141 26 = some (26, .iastore, 1, [], 0) := (fm_141 26).trans rfl
theorem u_141_26 {S : Scr} {d : Nat} {a0 a1 a2 a3 a4 : AV} {st : List AV} {sh : Shp} {I : IM} {R : RM} {k : Nat} {i x : Int} (h : tg sh k = 100) (h0 : 0 ≤ i) (h1 : i < ln sh k) : ev S d 141 26 [a0, a1, a2, a3, a4] (.inl x :: .inl i :: .inr (.inl k) :: st) (sh, I, R) = ev S d 141 27 [a0, a1, a2, a3, a4] st (sh, up I k i x, R) := (ev_eq f_141_26).trans (congrArg (fin S d 141) (if_pos ⟨h, h0, h1⟩))
theorem f_141_27 : fetch 141 27 = some (27, .aload_n 0, 1, [0], 0) := (fm_141 27).trans rfl
theorem u_141_27 {S : Scr} {d : Nat} {a1 a2 a3 a4 : AV} {st : List AV} {sh : Shp} {I : IM} {R : RM} {x : Nat} : ev S d 141 27 [.inr (.inl x), a1, a2, a3, a4] st (sh, I, R) = ev S d 141 28 [.inr (.inl x), a1, a2, a3, a4] (.inr (.inl x) :: st) (sh, I, R) := (ev_eq f_141_27).trans rfl
theorem f_141_28 : fetch 141 28 = some (28, .getfield 9, 3, [9, 0, 1, 79], 0) := (fm_141 28).trans rfl
theorem u_141_28 {S : Scr} {d : Nat} {a0 a1 a2 a3 a4 : AV} {st : List AV} {sh : Shp} {I : IM} {R : RM} {k : Nat} (h : tg sh k = 9) : ev S d 141 28 [a0, a1, a2, a3, a4] (.inr (.inl k) :: st) (sh, I, R) = ev S d 141 31 [a0, a1, a2, a3, a4] (rv (R k 0) :: st) (sh, I, R) := (ev_eq f_141_28).trans (congrArg (fin S d 141) (if_pos h))
theorem f_141_31 : fetch 141 31 = some (31, .sipush 300, 3, [], 300) := (fm_141 31).trans rfl
theorem u_141_31 {S : Scr} {d : Nat} {a0 a1 a2 a3 a4 : AV} {st : List AV} {sh : Shp} {I : IM} {R : RM} : ev S d 141 31 [a0, a1, a2, a3, a4] st (sh, I, R) = ev S d 141 34 [a0, a1, a2, a3, a4] (.inl 300 :: st) (sh, I, R) := (ev_eq f_141_31).trans rfl
theorem f_141_34 : fetch 141 34 = some (34, .iload 4, 2, [4], 0) := (fm_141 34).trans rfl
theorem u_141_34 {S : Scr} {d : Nat} {a0 a1 a2 a3 : AV} {st : List AV} {sh : Shp} {I : IM} {R : RM} {x : Int} : ev S d 141 34 [a0, a1, a2, a3, .inl x] st (sh, I, R) = ev S d 141 36 [a0, a1, a2, a3, .inl x] (.inl x :: st) (sh, I, R) := (ev_eq f_141_34).trans rfl
theorem f_141_36 : fetch 141 36 = some (36, .iadd, 1, [], 0) := (fm_141 36).trans rfl
theorem u_141_36 {S : Scr} {d : Nat} {a0 a1 a2 a3 a4 : AV} {st : List AV} {sh : Shp} {I : IM} {R : RM} {x y : Int} : ev S d 141 36 [a0, a1, a2, a3, a4] (.inl y :: .inl x :: st) (sh, I, R) = ev S d 141 37 [a0, a1, a2, a3, a4] (.inl (wr (x + y)) :: st) (sh, I, R) := (ev_eq f_141_36).trans rfl
theorem f_141_37 : fetch 141 37 = some (37, .iload_n 3, 1, [3], 0) := (fm_141 37).trans rfl
theorem u_141_37 {S : Scr} {d : Nat} {a0 a1 a2 a4 : AV} {st : List AV} {sh : Shp} {I : IM} {R : RM} {x : Int} : ev S d 141 37 [a0, a1, a2, .inl x, a4] st (sh, I, R) = ev S d 141 38 [a0, a1, a2, .inl x, a4] (.inl x :: st) (sh, I, R) := (ev_eq f_141_37).trans rfl
theorem f_141_38 : fetch 141 38 = some (38, .iastore, 1, [], 0) := (fm_141 38).trans rfl
theorem u_141_38 {S : Scr} {d : Nat} {a0 a1 a2 a3 a4 : AV} {st : List AV} {sh : Shp} {I : IM} {R : RM} {k : Nat} {i x : Int} (h : tg sh k = 100) (h0 : 0 ≤ i) (h1 : i < ln sh k) : ev S d 141 38 [a0, a1, a2, a3, a4] (.inl x :: .inl i :: .inr (.inl k) :: st) (sh, I, R) = ev S d 141 39 [a0, a1, a2, a3, a4] st (sh, up I k i x, R) := (ev_eq f_141_38).trans (congrArg (fin S d 141) (if_pos ⟨h, h0, h1⟩))
theorem f_141_39 : fetch 141 39 = some (39, .aload_n 0, 1, [0], 0) := (fm_141 39).trans rfl
theorem u_141_39 {S : Scr} {d : Nat} {a1 a2 a3 a4 : AV} {st : List AV} {sh : Shp} {I : IM} {R : RM} {x : Nat} : ev S d 141 39 [.inr (.inl x), a1, a2, a3, a4] st (sh, I, R) = ev S d 141 40 [.inr (.inl x), a1, a2, a3, a4] (.inr (.inl x) :: st) (sh, I, R) := (ev_eq f_141_39).trans rfl
theorem f_141_40 : fetch 141 40 = some (40, .getfield 9, 3, [9, 0, 1, 79], 0) := (fm_141 40).trans rfl
theorem u_141_40 {S : Scr} {d : Nat} {a0 a1 a2 a3 a4 : AV} {st : List AV} {sh : Shp} {I : IM} {R : RM} {k : Nat} (h : tg sh k = 9) : ev S d 141 40 [a0, a1, a2, a3, a4] (.inr (.inl k) :: st) (sh, I, R) = ev S d 141 43 [a0, a1, a2, a3, a4] (rv (R k 0) :: st) (sh, I, R) := (ev_eq f_141_40).trans (congrArg (fin S d 141) (if_pos h))
theorem f_141_43 : fetch 141 43 = some (43, .bipush 90, 2, [], 90) := (fm_141 43).trans rfl
theorem u_141_43 {S : Scr} {d : Nat} {a0 a1 a2 a3 a4 : AV} {st : List AV} {sh : Shp} {I : IM} {R : RM} : ev S d 141 43 [a0, a1, a2, a3, a4] st (sh, I, R) = ev S d 141 45 [a0, a1, a2, a3, a4] (.inl 90 :: st) (sh, I, R) := (ev_eq f_141_43).trans rfl
theorem f_141_45 : fetch 141 45 = some (45, .iload_n 1, 1, [1], 0) := (fm_141 45).trans rfl
theorem u_141_45 {S : Scr} {d : Nat} {a0 a2 a3 a4 : AV} {st : List AV} {sh : Shp} {I : IM} {R : RM} {x : Int} : ev S d 141 45 [a0, .inl x, a2, a3, a4] st (sh, I, R) = ev S d 141 46 [a0, .inl x, a2, a3, a4] (.inl x :: st) (sh, I, R) := (ev_eq f_141_45).trans rfl
theorem f_141_46 : fetch 141 46 = some (46, .iadd, 1, [], 0) := (fm_141 46).trans rfl
theorem u_141_46 {S : Scr} {d : Nat} {a0 a1 a2 a3 a4 : AV} {st : List AV} {sh : Shp} {I : IM} {R : RM} {x y : Int} : ev S d 141 46 [a0, a1, a2, a3, a4] (.inl y :: .inl x :: st) (sh, I, R) = ev S d 141 47 [a0, a1, a2, a3, a4] (.inl (wr (x + y)) :: st) (sh, I, R) := (ev_eq f_141_46).trans rfl
theorem f_141_47 : fetch 141 47 = some (47, .dup2, 1, [], 0) := (fm_141 47).trans rfl
theorem u_141_47 {S : Scr} {d : Nat} {a0 a1 a2 a3 a4 : AV} {st : List AV} {sh : Shp} {I : IM} {R : RM} {x y : AV} : ev S d 141 47 [a0, a1, a2, a3, a4] (y :: x :: st) (sh, I, R) = ev S d 141 48 [a0, a1, a2, a3, a4] (y :: x :: y :: x :: st) (sh, I, R) := (ev_eq f_141_47).trans rfl
theorem f_141_48 : fetch 141 48 = some (48, .iaload, 1, [], 0) := (fm_141 48).trans rfl
theorem u_141_48 {S : Scr} {d : Nat} {a0 a1 a2 a3 a4 : AV} {st : List AV} {sh : Shp} {I : IM} {R : RM} {k : Nat} {i : Int} (h : tg sh k = 100) (h0 : 0 ≤ i) (h1 : i < ln sh k) : ev S d 141 48 [a0, a1, a2, a3, a4] (.inl i :: .inr (.inl k) :: st) (sh, I, R) = ev S d 141 49 [a0, a1, a2, a3, a4] (.inl (I k i) :: st) (sh, I, R) := (ev_eq f_141_48).trans (congrArg (fin S d 141) (if_pos ⟨h, h0, h1⟩))
theorem f_141_49 : fetch 141 49 = some (49, .iconst 1, 1, [], 1) := (fm_141 49).trans rfl
theorem u_141_49 {S : Scr} {d : Nat} {a0 a1 a2 a3 a4 : AV} {st : List AV} {sh : Shp} {I : IM} {R : RM} : ev S d 141 49 [a0, a1, a2, a3, a4] st (sh, I, R) = ev S d 141 50 [a0, a1, a2, a3, a4] (.inl 1 :: st) (sh, I, R) := (ev_eq f_141_49).trans rfl
theorem f_141_50 : fetch 141 50 = some (50, .iadd, 1, [], 0) := (fm_141 50).trans rfl
theorem u_141_50 {S : Scr} {d : Nat} {a0 a1 a2 a3 a4 : AV} {st : List AV} {sh : Shp} {I : IM} {R : RM} {x y : Int} : ev S d 141 50 [a0, a1, a2, a3, a4] (.inl y :: .inl x :: st) (sh, I, R) = ev S d 141 51 [a0, a1, a2, a3, a4] (.inl (wr (x + y)) :: st) (sh, I, R) := (ev_eq f_141_50).trans rfl
theorem f_141_51 : fetch 141 51 = some (51, .iastore, 1, [], 0) := (fm_141 51).trans rfl
theorem u_141_51 {S : Scr} {d : Nat} {a0 a1 a2 a3 a4 : AV} {st : List AV} {sh : Shp} {I : IM} {R : RM} {k : Nat} {i x : Int} (h : tg sh k = 100) (h0 : 0 ≤ i) (h1 : i < ln sh k) : ev S d 141 51 [a0, a1, a2, a3, a4] (.inl x :: .inl i :: .inr (.inl k) :: st) (sh, I, R) = ev S d 141 52 [a0, a1, a2, a3, a4] st (sh, up I k i x, R) := (ev_eq f_141_51).trans (congrArg (fin S d 141) (if_pos ⟨h, h0, h1⟩))
theorem f_141_52 : fetch 141 52 = some (52, .return_, 1, [], 0) := (fm_141 52).trans rfl
theorem u_141_52 {S : Scr} {d : Nat} {a0 a1 a2 a3 a4 : AV} {sh : Shp} {I : IM} {R : RM} : ev S d 141 52 [a0, a1, a2, a3, a4] [] (sh, I, R) = some (none, (sh, I, R)) := (ev_eq f_141_52).trans rfl
theorem c_142 {d : Nat} {a0 a1 : AV} {M : Mem} : cl (d + 1) 142 [a0, a1] M = ev S0 d 142 0 [a0, a1] [] M := (cl_eq (as := [a0, a1]) (show 2 ≤ maxOf 142 by decide +kernel)).trans rfl
theorem mt_142 : MT[142]? = some m_142 := rfl
theorem fm_142 (pc : Nat) : fetch 142 pc = lk m_142.2.2.2.2.2 pc := by
  unfold fetch
  rw [mt_142]
theorem f_142_0 : fetch 142 0 = some (0, .iconst 3, 1, [], 3) := (fm_142 0).trans rfl
theorem u_142_0 {S : Scr} {d : Nat} {a0 a1 : AV} {st : List AV} {sh : Shp} {I : IM} {R : RM} : ev S d 142 0 [a0, a1] st (sh, I, R) = ev S d 142 1 [a0, a1] (.inl 3 :: st) (sh, I, R) := (ev_eq f_142_0).trans rfl
theorem f_142_1 : fetch 142 1 = some (1, .iload_n 0, 1, [0], 0) := (fm_142 1).trans rfl
theorem u_142_1 {S : Scr} {d : Nat} {a1 : AV} {st : List AV} {sh : Shp} {I : IM} {R : RM} {x : Int} : ev S d 142 1 [.inl x, a1] st (sh, I, R) = ev S d 142 2 [.inl x, a1] (.inl x :: st) (sh, I, R) := (ev_eq f_142_1).trans rfl
theorem f_142_2 : fetch 142 2 = some (2, .iconst 1, 1, [], 1) := (fm_142 2).trans rfl
theorem u_142_2 {S : Scr} {d : Nat} {a0 a1 : AV} {st : List AV} {sh : Shp} {I : IM} {R : RM} : ev S d 142 2 [a0, a1] st (sh, I, R) = ev S d 142 3 [a0, a1] (.inl 1 :: st) (sh, I, R) := (ev_eq f_142_2).trans rfl
theorem f_142_3 : fetch 142 3 = some (3, .isub, 1, [], 0) := (fm_142 3).trans rfl
theorem u_142_3 {S : Scr} {d : Nat} {a0 a1 : AV} {st : List AV} {sh : Shp} {I : IM} {R : RM} {x y : Int} : ev S d 142 3 [a0, a1] (.inl y :: .inl x :: st) (sh, I, R) = ev S d 142 4 [a0, a1] (.inl (wr (x - y)) :: st) (sh, I, R) := (ev_eq f_142_3).trans rfl
theorem f_142_4 : fetch 142 4 = some (4, .imul, 1, [], 0) := (fm_142 4).trans rfl
theorem u_142_4 {S : Scr} {d : Nat} {a0 a1 : AV} {st : List AV} {sh : Shp} {I : IM} {R : RM} {x y : Int} : ev S d 142 4 [a0, a1] (.inl y :: .inl x :: st) (sh, I, R) = ev S d 142 5 [a0, a1] (.inl (wr (x * y)) :: st) (sh, I, R) := (ev_eq f_142_4).trans rfl
theorem f_142_5 : fetch 142 5 = some (5, .iload_n 1, 1, [1], 0) := (fm_142 5).trans rfl
theorem u_142_5 {S : Scr} {d : Nat} {a0 : AV} {st : List AV} {sh : Shp} {I : IM} {R : RM} {x : Int} : ev S d 142 5 [a0, .inl x] st (sh, I, R) = ev S d 142 6 [a0, .inl x] (.inl x :: st) (sh, I, R) := (ev_eq f_142_5).trans rfl
theorem f_142_6 : fetch 142 6 = some (6, .iadd, 1, [], 0) := (fm_142 6).trans rfl
theorem u_142_6 {S : Scr} {d : Nat} {a0 a1 : AV} {st : List AV} {sh : Shp} {I : IM} {R : RM} {x y : Int} : ev S d 142 6 [a0, a1] (.inl y :: .inl x :: st) (sh, I, R) = ev S d 142 7 [a0, a1] (.inl (wr (x + y)) :: st) (sh, I, R) := (ev_eq f_142_6).trans rfl
theorem f_142_7 : fetch 142 7 = some (7, .iconst 1, 1, [], 1) := (fm_142 7).trans rfl
theorem u_142_7 {S : Scr} {d : Nat} {a0 a1 : AV} {st : List AV} {sh : Shp} {I : IM} {R : RM} : ev S d 142 7 [a0, a1] st (sh, I, R) = ev S d 142 8 [a0, a1] (.inl 1 :: st) (sh, I, R) := (ev_eq f_142_7).trans rfl
theorem f_142_8 : fetch 142 8 = some (8, .isub, 1, [], 0) := (fm_142 8).trans rfl
theorem u_142_8 {S : Scr} {d : Nat} {a0 a1 : AV} {st : List AV} {sh : Shp} {I : IM} {R : RM} {x y : Int} : ev S d 142 8 [a0, a1] (.inl y :: .inl x :: st) (sh, I, R) = ev S d 142 9 [a0, a1] (.inl (wr (x - y)) :: st) (sh, I, R) := (ev_eq f_142_8).trans rfl
theorem f_142_9 : fetch 142 9 = some (9, .ireturn, 1, [0], 0) := (fm_142 9).trans rfl
theorem u_142_9 {S : Scr} {d : Nat} {a0 a1 : AV} {sh : Shp} {I : IM} {R : RM} {x : Int} : ev S d 142 9 [a0, a1] [.inl x] (sh, I, R) = some (some (.inl x), (sh, I, R)) := (ev_eq f_142_9).trans fin_iret0
theorem c_143 {d : Nat} {a0 a1 : AV} {M : Mem} : cl (d + 1) 143 [a0, a1] M = ev S0 d 143 0 [a0, a1] [] M := (cl_eq (as := [a0, a1]) (show 2 ≤ maxOf 143 by decide +kernel)).trans rfl
theorem mt_143 : MT[143]? = some m_143 := rfl
theorem fm_143 (pc : Nat) : fetch 143 pc = lk m_143.2.2.2.2.2 pc := by
  unfold fetch
  rw [mt_143]
theorem f_143_0 : fetch 143 0 = some (0, .iload_n 1, 1, [1], 0) := (fm_143 0).trans rfl
theorem u_143_0 {S : Scr} {d : Nat} {a0 : AV} {st : List AV} {sh : Shp} {I : IM} {R : RM} {x : Int} : ev S d 143 0 [a0, .inl x] st (sh, I, R) = ev S d 143 1 [a0, .inl x] (.inl x :: st) (sh, I, R) := (ev_eq f_143_0).trans rfl
theorem f_143_1 : fetch 143 1 = some (1, .aload_n 0, 1, [0], 0) := (fm_143 1).trans rfl
theorem u_143_1 {S : Scr} {d : Nat} {a1 : AV} {st : List AV} {sh : Shp} {I : IM} {R : RM} {x : Nat} : ev S d 143 1 [.inr (.inl x), a1] st (sh, I, R) = ev S d 143 2 [.inr (.inl x), a1] (.inr (.inl x) :: st) (sh, I, R) := (ev_eq f_143_1).trans rfl
theorem f_143_2 : fetch 143 2 = some (2, .getfield 9, 3, [9, 0, 1, 79], 0) := (fm_143 2).trans rfl
theorem u_143_2 {S : Scr} {d : Nat} {a0 a1 : AV} {st : List AV} {sh : Shp} {I : IM} {R : RM} {k : Nat} (h : tg sh k = 9) : ev S d 143 2 [a0, a1] (.inr (.inl k) :: st) (sh, I, R) = ev S d 143 5 [a0, a1] (rv (R k 0) :: st) (sh, I, R) := (ev_eq f_143_2).trans (congrArg (fin S d 143) (if_pos h))
theorem f_143_5 : fetch 143 5 = some (5, .sipush 741, 3, [], 741) := (fm_143 5).trans rfl
theorem u_143_5 {S : Scr} {d : Nat} {a0 a1 : AV} {st : List AV} {sh : Shp} {I : IM} {R : RM} : ev S d 143 5 [a0, a1] st (sh, I, R) = ev S d 143 8 [a0, a1] (.inl 741 :: st) (sh, I, R) := (ev_eq f_143_5).trans rfl
theorem f_143_8 : fetch 143 8 = some (8, .iload_n 1, 1, [1], 0) := (fm_143 8).trans rfl
theorem u_143_8 {S : Scr} {d : Nat} {a0 : AV} {st : List AV} {sh : Shp} {I : IM} {R : RM} {x : Int} : ev S d 143 8 [a0, .inl x] st (sh, I, R) = ev S d 143 9 [a0, .inl x] (.inl x :: st) (sh, I, R) := (ev_eq f_143_8).trans rfl
theorem f_143_9 : fetch 143 9 = some (9, .iadd, 1, [], 0) := (fm_143 9).trans rfl
theorem u_143_9 {S : Scr} {d : Nat} {a0 a1 : AV} {st : List AV} {sh : Shp} {I : IM} {R : RM} {x y : Int} : ev S d 143 9 [a0, a1] (.inl y :: .inl x :: st) (sh, I, R) = ev S d 143 10 [a0, a1] (.inl (wr (x + y)) :: st) (sh, I, R) := (ev_eq f_143_9).trans rfl
theorem f_143_10 : fetch 143 10 = some (10, .iconst 1, 1, [], 1) := (fm_143 10).trans rfl
theorem u_143_10 {S : Scr} {d : Nat} {a0 a1 : AV} {st : List AV} {sh : Shp} {I : IM} {R : RM} : ev S d 143 10 [a0, a1] st (sh, I, R) = ev S d 143 11 [a0, a1] (.inl 1 :: st) (sh, I, R) := (ev_eq f_143_10).trans rfl
theorem f_143_11 : fetch 143 11 = some (11, .isub, 1, [], 0) := (fm_143 11).trans rfl
theorem u_143_11 {S : Scr} {d : Nat} {a0 a1 : AV} {st : List AV} {sh : Shp} {I : IM} {R : RM} {x y : Int} : ev S d 143 11 [a0, a1] (.inl y :: .inl x :: st) (sh, I, R) = ev S d 143 12 [a0, a1] (.inl (wr (x - y)) :: st) (sh, I, R) := (ev_eq f_143_11).trans rfl
theorem f_143_12 : fetch 143 12 = some (12, .iaload, 1, [], 0) := (fm_143 12).trans rfl
theorem u_143_12 {S : Scr} {d : Nat} {a0 a1 : AV} {st : List AV} {sh : Shp} {I : IM} {R : RM} {k : Nat} {i : Int} (h : tg sh k = 100) (h0 : 0 ≤ i) (h1 : i < ln sh k) : ev S d 143 12 [a0, a1] (.inl i :: .inr (.inl k) :: st) (sh, I, R) = ev S d 143 13 [a0, a1] (.inl (I k i) :: st) (sh, I, R) := (ev_eq f_143_12).trans (congrArg (fin S d 143) (if_pos ⟨h, h0, h1⟩))
theorem f_143_13 : fetch 143 13 = some (13, .invokestatic 76, 3, [142, 2, 128], 0) := (fm_143 13).trans rfl
theorem u_143_13 {S : Scr} {d : Nat} {a0 a1 : AV} {st : List AV} {sh : Shp} {I : IM} {R : RM} {x0 : Int} {x1 : Int} (hr : st.length ≤ 8) : ev S d 143 13 [a0, a1] (.inl x1 :: .inl x0 :: st) (sh, I, R) = bnd (cl d 142 [.inl x0, .inl x1] (sh, I, R)) (fun v M => ev S d 143 16 [a0, a1] (psh v st) M) := (ev_eq f_143_13).trans (congrArg (fin S d 143) (if_pos ⟨rfl, hr⟩))
theorem f_143_16 : fetch 143 16 = some (16, .ireturn, 1, [0], 0) := (fm_143 16).trans rfl
theorem u_143_16 {S : Scr} {d : Nat} {a0 a1 : AV} {sh : Shp} {I : IM} {R : RM} {x : Int} : ev S d 143 16 [a0, a1] [.inl x] (sh, I, R) = some (some (.inl x), (sh, I, R)) := (ev_eq f_143_16).trans fin_iret0
theorem c_144 {d : Nat} {a0 a1 a2 : AV} {M : Mem} : cl (d + 1) 144 [a0, a1, a2] M = ev S0 d 144 0 [a0, a1, a2, .inr (.inr 1)] [] M := (cl_eq (as := [a0, a1, a2]) (show 3 ≤ maxOf 144 by decide +kernel)).trans rfl
theorem mt_144 : MT[144]? = some m_144 := rfl
theorem fm_144 (pc : Nat) : fetch 144 pc = lk m_144.2.2.2.2.2 pc := by
  unfold fetch
  rw [mt_144]
theorem f_144_0 : fetch 144 0 = some (0, .iconst 0, 1, [], 0) := (fm_144 0).trans rfl
theorem u_144_0 {S : Scr} {d : Nat} {a0 a1 a2 a3 : AV} {st : List AV} {sh : Shp} {I : IM} {R : RM} : ev S d 144 0 [a0, a1, a2, a3] st (sh, I, R) = ev S d 144 1 [a0, a1, a2, a3] (.inl 0 :: st) (sh, I, R) := (ev_eq f_144_0).trans rfl
theorem f_144_1 : fetch 144 1 = some (1, .istore_n 3, 1, [3], 0) := (fm_144 1).trans rfl
theorem u_144_1 {S : Scr} {d : Nat} {a0 a1 a2 a3 : AV} {st : List AV} {sh : Shp} {I : IM} {R : RM} {x : Int} : ev S d 144 1 [a0, a1, a2, a3] (.inl x :: st) (sh, I, R) = ev S d 144 2 [a0, a1, a2, .inl x] st (sh, I, R) := (ev_eq f_144_1).trans rfl
theorem f_144_2 : fetch 144 2 = some (2, .iload_n 3, 1, [3], 0) := (fm_144 2).trans rfl
theorem u_144_2 {S : Scr} {d : Nat} {a0 a1 a2 : AV} {st : List AV} {sh : Shp} {I : IM} {R : RM} {x : Int} : ev S d 144 2 [a0, a1, a2, .inl x] st (sh, I, R) = ev S d 144 3 [a0, a1, a2, .inl x] (.inl x :: st) (sh, I, R) := (ev_eq f_144_2).trans rfl
theorem f_144_3 : fetch 144 3 = some (3, .aload_n 0, 1, [0], 0) := (fm_144 3).trans rfl
theorem u_144_3 {S : Scr} {d : Nat} {a1 a2 a3 : AV} {st : List AV} {sh : Shp} {I : IM} {R : RM} {x : Nat} : ev S d 144 3 [.inr (.inl x), a1, a2, a3] st (sh, I, R) = ev S d 144 4 [.inr (.inl x), a1, a2, a3] (.inr (.inl x) :: st) (sh, I, R) := (ev_eq f_144_3).trans rfl
theorem f_144_4 : fetch 144 4 = some (4, .getfield 9, 3, [9, 0, 1, 79], 0) := (fm_144 4).trans rfl
theorem u_144_4 {S : Scr} {d : Nat} {a0 a1 a2 a3 : AV} {st : List AV} {sh : Shp} {I : IM} {R : RM} {k : Nat} (h : tg sh k = 9) : ev S d 144 4 [a0, a1, a2, a3] (.inr (.inl k) :: st) (sh, I, R) = ev S d 144 7 [a0, a1, a2, a3] (rv (R k 0) :: st) (sh, I, R) := (ev_eq f_144_4).trans (congrArg (fin S d 144) (if_pos h))
theorem f_144_7 : fetch 144 7 = some (7, .sipush 660, 3, [], 660) := (fm_144 7).trans rfl
theorem u_144_7 {S : Scr} {d : Nat} {a0 a1 a2 a3 : AV} {st : List AV} {sh : Shp} {I : IM} {R : RM} : ev S d 144 7 [a0, a1, a2, a3] st (sh, I, R) = ev S d 144 10 [a0, a1, a2, a3] (.inl 660 :: st) (sh, I, R) := (ev_eq f_144_7).trans rfl
theorem f_144_10 : fetch 144 10 = some (10, .iload_n 1, 1, [1], 0) := (fm_144 10).trans rfl
theorem u_144_10 {S : Scr} {d : Nat} {a0 a2 a3 : AV} {st : List AV} {sh : Shp} {I : IM} {R : RM} {x : Int} : ev S d 144 10 [a0, .inl x, a2, a3] st (sh, I, R) = ev S d 144 11 [a0, .inl x, a2, a3] (.inl x :: st) (sh, I, R) := (ev_eq f_144_10).trans rfl
theorem f_144_11 : fetch 144 11 = some (11, .iadd, 1, [], 0) := (fm_144 11).trans rfl
theorem u_144_11 {S : Scr} {d : Nat} {a0 a1 a2 a3 : AV} {st : List AV} {sh : Shp} {I : IM} {R : RM} {x y : Int} : ev S d 144 11 [a0, a1, a2, a3] (.inl y :: .inl x :: st) (sh, I, R) = ev S d 144 12 [a0, a1, a2, a3] (.inl (wr (x + y)) :: st) (sh, I, R) := (ev_eq f_144_11).trans rfl
theorem f_144_12 : fetch 144 12 = some (12, .iaload, 1, [], 0) := (fm_144 12).trans rfl
theorem u_144_12 {S : Scr} {d : Nat} {a0 a1 a2 a3 : AV} {st : List AV} {sh : Shp} {I : IM} {R : RM} {k : Nat} {i : Int} (h : tg sh k = 100) (h0 : 0 ≤ i) (h1 : i < ln sh k) : ev S d 144 12 [a0, a1, a2, a3] (.inl i :: .inr (.inl k) :: st) (sh, I, R) = ev S d 144 13 [a0, a1, a2, a3] (.inl (I k i) :: st) (sh, I, R) := (ev_eq f_144_12).trans (congrArg (fin S d 144) (if_pos ⟨h, h0, h1⟩))
theorem f_144_13 : fetch 144 13 = some (13, .if_icmp .ge 29, 3, [42], 0) := (fm_144 13).trans rfl
theorem u_144_13 {S : Scr} {d : Nat} {a0 a1 a2 a3 : AV} {st : List AV} {sh : Shp} {I : IM} {R : RM} {x y : Int} : ev S d 144 13 [a0, a1, a2, a3] (.inl y :: .inl x :: st) (sh, I, R) = if y ≤ x then ev S d 144 42 [a0, a1, a2, a3] st (sh, I, R) else ev S d 144 16 [a0, a1, a2, a3] st (sh, I, R) := (ev_eq f_144_13).trans fin_icmp_ge
theorem f_144_16 : fetch 144 16 = some (16, .aload_n 0, 1, [0], 0) := (fm_144 16).trans rfl
theorem u_144_16 {S : Scr} {d : Nat} {a1 a2 a3 : AV} {st : List AV} {sh : Shp} {I : IM} {R : RM} {x : Nat} : ev S d 144 16 [.inr (.inl x), a1, a2, a3] st (sh, I, R) = ev S d 144 17 [.inr (.inl x), a1, a2, a3] (.inr (.inl x) :: st) (sh, I, R) := (ev_eq f_144_16).trans rfl
theorem f_144_17 : fetch 144 17 = some (17, .getfield 9, 3, [9, 0, 1, 79], 0) := (fm_144 17).trans rfl
theorem u_144_17 {S : Scr} {d : Nat} {a0 a1 a2 a3 : AV} {st : List AV} {sh : Shp} {I : IM} {R : RM} {k : Nat} (h : tg sh k = 9) : ev S d 144 17 [a0, a1, a2, a3] (.inr (.inl k) :: st) (sh, I, R) = ev S d 144 20 [a0, a1, a2, a3] (rv (R k 0) :: st) (sh, I, R) := (ev_eq f_144_17).trans (congrArg (fin S d 144) (if_pos h))
theorem f_144_20 : fetch 144 20 = some (20, .sipush 669, 3, [], 669) := (fm_144 20).trans rfl
theorem u_144_20 {S : Scr} {d : Nat} {a0 a1 a2 a3 : AV} {st : List AV} {sh : Shp} {I : IM} {R : RM} : ev S d 144 20 [a0, a1, a2, a3] st (sh, I, R) = ev S d 144 23 [a0, a1, a2, a3] (.inl 669 :: st) (sh, I, R) := (ev_eq f_144_20).trans rfl
theorem f_144_23 : fetch 144 23 = some (23, .iconst 4, 1, [], 4) := (fm_144 23).trans rfl
theorem u_144_23 {S : Scr} {d : Nat} {a0 a1 a2 a3 : AV} {st : List AV} {sh : Shp} {I : IM} {R : RM} : ev S d 144 23 [a0, a1, a2, a3] st (sh, I, R) = ev S d 144 24 [a0, a1, a2, a3] (.inl 4 :: st) (sh, I, R) := (ev_eq f_144_23).trans rfl
theorem f_144_24 : fetch 144 24 = some (24, .iload_n 1, 1, [1], 0) := (fm_144 24).trans rfl
theorem u_144_24 {S : Scr} {d : Nat} {a0 a2 a3 : AV} {st : List AV} {sh : Shp} {I : IM} {R : RM} {x : Int} : ev S d 144 24 [a0, .inl x, a2, a3] st (sh, I, R) = ev S d 144 25 [a0, .inl x, a2, a3] (.inl x :: st) (sh, I, R) := (ev_eq f_144_24).trans rfl
theorem f_144_25 : fetch 144 25 = some (25, .imul, 1, [], 0) := (fm_144 25).trans rfl
theorem u_144_25 {S : Scr} {d : Nat} {a0 a1 a2 a3 : AV} {st : List AV} {sh : Shp} {I : IM} {R : RM} {x y : Int} : ev S d 144 25 [a0, a1, a2, a3] (.inl y :: .inl x :: st) (sh, I, R) = ev S d 144 26 [a0, a1, a2, a3] (.inl (wr (x * y)) :: st) (sh, I, R) := (ev_eq f_144_25).trans rfl
theorem f_144_26 : fetch 144 26 = some (26, .iadd, 1, [], 0) := (fm_144 26).trans rfl
theorem u_144_26 {S : Scr} {d : Nat} {a0 a1 a2 a3 : AV} {st : List AV} {sh : Shp} {I : IM} {R : RM} {x y : Int} : ev S d 144 26 [a0, a1, a2, a3] (.inl y :: .inl x :: st) (sh, I, R) = ev S d 144 27 [a0, a1, a2, a3] (.inl (wr (x + y)) :: st) (sh, I, R) := (ev_eq f_144_26).trans rfl
theorem f_144_27 : fetch 144 27 = some (27, .iload_n 3, 1, [3], 0) := (fm_144 27).trans rfl
theorem u_144_27 {S : Scr} {d : Nat} {a0 a1 a2 : AV} {st : List AV} {sh : Shp} {I : IM} {R : RM} {x : Int} : ev S d 144 27 [a0, a1, a2, .inl x] st (sh, I, R) = ev S d 144 28 [a0, a1, a2, .inl x] (.inl x :: st) (sh, I, R) := (ev_eq f_144_27).trans rfl
theorem f_144_28 : fetch 144 28 = some (28, .iadd, 1, [], 0) := (fm_144 28).trans rfl
theorem u_144_28 {S : Scr} {d : Nat} {a0 a1 a2 a3 : AV} {st : List AV} {sh : Shp} {I : IM} {R : RM} {x y : Int} : ev S d 144 28 [a0, a1, a2, a3] (.inl y :: .inl x :: st) (sh, I, R) = ev S d 144 29 [a0, a1, a2, a3] (.inl (wr (x + y)) :: st) (sh, I, R) := (ev_eq f_144_28).trans rfl
theorem f_144_29 : fetch 144 29 = some (29, .iaload, 1, [], 0) := (fm_144 29).trans rfl
theorem u_144_29 {S : Scr} {d : Nat} {a0 a1 a2 a3 : AV} {st : List AV} {sh : Shp} {I : IM} {R : RM} {k : Nat} {i : Int} (h : tg sh k = 100) (h0 : 0 ≤ i) (h1 : i < ln sh k) : ev S d 144 29 [a0, a1, a2, a3] (.inl i :: .inr (.inl k) :: st) (sh, I, R) = ev S d 144 30 [a0, a1, a2, a3] (.inl (I k i) :: st) (sh, I, R) := (ev_eq f_144_29).trans (congrArg (fin S d 144) (if_pos ⟨h, h0, h1⟩))
theorem f_144_30 : fetch 144 30 = some (30, .iload_n 2, 1, [2], 0) := (fm_144 30).trans rfl
theorem u_144_30 {S : Scr} {d : Nat} {a0 a1 a3 : AV} {st : List AV} {sh : Shp} {I : IM} {R : RM} {x : Int} : ev S d 144 30 [a0, a1, .inl x, a3] st (sh, I, R) = ev S d 144 31 [a0, a1, .inl x, a3] (.inl x :: st) (sh, I, R) := (ev_eq f_144_30).trans rfl
theorem f_144_31 : fetch 144 31 = some (31, .if_icmp .ne 5, 3, [36], 0) := (fm_144 31).trans rfl
theorem u_144_31 {S : Scr} {d : Nat} {a0 a1 a2 a3 : AV} {st : List AV} {sh : Shp} {I : IM} {R : RM} {x y : Int} : ev S d 144 31 [a0, a1, a2, a3] (.inl y :: .inl x :: st) (sh, I, R) = if ¬ x = y then ev S d 144 36 [a0, a1, a2, a3] st (sh, I, R) else ev S d 144 34 [a0, a1, a2, a3] st (sh, I, R) := (ev_eq f_144_31).trans fin_icmp_ne
theorem f_144_34 : fetch 144 34 = some (34, .iload_n 3, 1, [3], 0) := (fm_144 34).trans rfl
theorem u_144_34 {S : Scr} {d : Nat} {a0 a1 a2 : AV} {st : List AV} {sh : Shp} {I : IM} {R : RM} {x : Int} : ev S d 144 34 [a0, a1, a2, .inl x] st (sh, I, R) = ev S d 144 35 [a0, a1, a2, .inl x] (.inl x :: st) (sh, I, R) := (ev_eq f_144_34).trans rfl
theorem f_144_35 : fetch 144 35 = some (35, .ireturn, 1, [0], 0) := (fm_144 35).trans rfl
theorem u_144_35 {S : Scr} {d : Nat} {a0 a1 a2 a3 : AV} {sh : Shp} {I : IM} {R : RM} {x : Int} : ev S d 144 35 [a0, a1, a2, a3] [.inl x] (sh, I, R) = some (some (.inl x), (sh, I, R)) := (ev_eq f_144_35).trans fin_iret0
theorem f_144_36 : fetch 144 36 = some (36, .iinc 3 1, 3, [3], 1) := (fm_144 36).trans rfl
theorem u_144_36 {S : Scr} {d : Nat} {a0 a1 a2 : AV} {st : List AV} {sh : Shp} {I : IM} {R : RM} {x : Int} : ev S d 144 36 [a0, a1, a2, .inl x] st (sh, I, R) = ev S d 144 39 [a0, a1, a2, .inl (wr (x + 1))] st (sh, I, R) := (ev_eq f_144_36).trans rfl
theorem f_144_39 : fetch 144 39 = some (39, .goto (-37), 3, [2], 0) := (fm_144 39).trans rfl
theorem u_144_39 {S : Scr} {d : Nat} {a0 a1 a2 a3 : AV} {st : List AV} {sh : Shp} {I : IM} {R : RM} : ev S d 144 39 [a0, a1, a2, a3] st (sh, I, R) = ev S d 144 2 [a0, a1, a2, a3] st (sh, I, R) := (ev_eq f_144_39).trans rfl
theorem f_144_42 : fetch 144 42 = some (42, .iconst (-1), 1, [], (-1)) := (fm_144 42).trans rfl
theorem u_144_42 {S : Scr} {d : Nat} {a0 a1 a2 a3 : AV} {st : List AV} {sh : Shp} {I : IM} {R : RM} : ev S d 144 42 [a0, a1, a2, a3] st (sh, I, R) = ev S d 144 43 [a0, a1, a2, a3] (.inl (-1) :: st) (sh, I, R) := (ev_eq f_144_42).trans rfl
theorem f_144_43 : fetch 144 43 = some (43, .ireturn, 1, [0], 0) := (fm_144 43).trans rfl
theorem u_144_43 {S : Scr} {d : Nat} {a0 a1 a2 a3 : AV} {sh : Shp} {I : IM} {R : RM} {x : Int} : ev S d 144 43 [a0, a1, a2, a3] [.inl x] (sh, I, R) = some (some (.inl x), (sh, I, R)) := (ev_eq f_144_43).trans fin_iret0
theorem c_145 {d : Nat} {a0 a1 : AV} {M : Mem} : cl (d + 1) 145 [a0, a1] M = ev S0 d 145 0 [a0, a1, .inr (.inr 1), .inr (.inr 1), .inr (.inr 1)] [] M := (cl_eq (as := [a0, a1]) (show 2 ≤ maxOf 145 by decide +kernel)).trans rfl
theorem mt_145 : MT[145]? = some m_145 := rfl
theorem fm_145 (pc : Nat) : fetch 145 pc = lk m_145.2.2.2.2.2 pc := by
  unfold fetch
  rw [mt_145]
theorem f_145_0 : fetch 145 0 = some (0, .aload_n 0, 1, [0], 0) := (fm_145 0).trans rfl
theorem u_145_0 {S : Scr} {d : Nat} {a1 a2 a3 a4 : AV} {st : List AV} {sh : Shp} {I : IM} {R : RM} {x : Nat} : ev S d 145 0 [.inr (.inl x), a1, a2, a3, a4] st (sh, I, R) = ev S d 145 1 [.inr (.inl x), a1, a2, a3, a4] (.inr (.inl x) :: st) (sh, I, R) := (ev_eq f_145_0).trans rfl
theorem f_145_1 : fetch 145 1 = some (1, .aload_n 0, 1, [0], 0) := (fm_145 1).trans rfl
theorem u_145_1 {S : Scr} {d : Nat} {a1 a2 a3 a4 : AV} {st : List AV} {sh : Shp} {I : IM} {R : RM} {x : Nat} : ev S d 145 1 [.inr (.inl x), a1, a2, a3, a4] st (sh, I, R) = ev S d 145 2 [.inr (.inl x), a1, a2, a3, a4] (.inr (.inl x) :: st) (sh, I, R) := (ev_eq f_145_1).trans rfl
theorem f_145_2 : fetch 145 2 = some (2, .getfield 9, 3, [9, 0, 1, 79], 0) := (fm_145 2).trans rfl
theorem u_145_2 {S : Scr} {d : Nat} {a0 a1 a2 a3 a4 : AV} {st : List AV} {sh : Shp} {I : IM} {R : RM} {k : Nat} (h : tg sh k = 9) : ev S d 145 2 [a0, a1, a2, a3, a4] (.inr (.inl k) :: st) (sh, I, R) = ev S d 145 5 [a0, a1, a2, a3, a4] (rv (R k 0) :: st) (sh, I, R) := (ev_eq f_145_2).trans (congrArg (fin S d 145) (if_pos h))
theorem f_145_5 : fetch 145 5 = some (5, .iconst 0, 1, [], 0) := (fm_145 5).trans rfl
theorem u_145_5 {S : Scr} {d : Nat} {a0 a1 a2 a3 a4 : AV} {st : List AV} {sh : Shp} {I : IM} {R : RM} : ev S d 145 5 [a0, a1, a2, a3, a4] st (sh, I, R) = ev S d 145 6 [a0, a1, a2, a3, a4] (.inl 0 :: st) (sh, I, R) := (ev_eq f_145_5).trans rfl
theorem f_145_6 : fetch 145 6 = some (6, .iload_n 1, 1, [1], 0) := (fm_145 6).trans rfl
theorem u_145_6 {S : Scr} {d : Nat} {a0 a2 a3 a4 : AV} {st : List AV} {sh : Shp} {I : IM} {R : RM} {x : Int} : ev S d 145 6 [a0, .inl x, a2, a3, a4] st (sh, I, R) = ev S d 145 7 [a0, .inl x, a2, a3, a4] (.inl x :: st) (sh, I, R) := (ev_eq f_145_6).trans rfl
theorem f_145_7 : fetch 145 7 = some (7, .iadd, 1, [], 0) := (fm_145 7).trans rfl
theorem u_145_7 {S : Scr} {d : Nat} {a0 a1 a2 a3 a4 : AV} {st : List AV} {sh : Shp} {I : IM} {R : RM} {x y : Int} : ev S d 145 7 [a0, a1, a2, a3, a4] (.inl y :: .inl x :: st) (sh, I, R) = ev S d 145 8 [a0, a1, a2, a3, a4] (.inl (wr (x + y)) :: st) (sh, I, R) := (ev_eq f_145_7).trans rfl
theorem f_145_8 : fetch 145 8 = some (8, .iaload, 1, [], 0) := (fm_145 8).trans rfl
theorem u_145_8 {S : Scr} {d : Nat} {a0 a1 a2 a3 a4 : AV} {st : List AV} {sh : Shp} {I : IM} {R : RM} {k : Nat} {i : Int} (h : tg sh k = 100) (h0 : 0 ≤ i) (h1 : i < ln sh k) : ev S d 145 8 [a0, a1, a2, a3, a4] (.inl i :: .inr (.inl k) :: st) (sh, I, R) = ev S d 145 9 [a0, a1, a2, a3, a4] (.inl (I k i) :: st) (sh, I, R) := (ev_eq f_145_8).trans (congrArg (fin S d 145) (if_pos ⟨h, h0, h1⟩))
theorem f_145_9 : fetch 145 9 = some (9, .invokevirtual 80, 3, [143, 1, 129], 0) := (fm_145 9).trans rfl
theorem u_145_9 {S : Scr} {d : Nat} {a0 a1 a2 a3 a4 : AV} {st : List AV} {sh : Shp} {I : IM} {R : RM} {x0 : Int} {k : Nat} (h : tg sh k = 9) (hr : st.length ≤ 8) : ev S d 145 9 [a0, a1, a2, a3, a4] (.inl x0 :: .inr (.inl k) :: st) (sh, I, R) = bnd (cl d 143 [.inr (.inl k), .inl x0] (sh, I, R)) (fun v M => ev S d 145 12 [a0, a1, a2, a3, a4] (psh v st) M) := (ev_eq f_145_9).trans (congrArg (fin S d 145) (if_pos ⟨h, rfl, hr⟩))
theorem f_145_12 : fetch 145 12 = some (12, .istore_n 2, 1, [2], 0) := (fm_145 12).trans rfl
theorem u_145_12 {S : Scr} {d : Nat} {a0 a1 a2 a3 a4 : AV} {st : List AV} {sh : Shp} {I : IM} {R : RM} {x : Int} : ev S d 145 12 [a0, a1, a2, a3, a4] (.inl x :: st) (sh, I, R) = ev S d 145 13 [a0, a1, .inl x, a3, a4] st (sh, I, R) := (ev_eq f_145_12).trans rfl
theorem f_145_13 : fetch 145 13 = some (13, .iconst 0, 1, [], 0) := (fm_145 13).trans rfl
theorem u_145_13 {S : Scr} {d : Nat} {a0 a1 a2 a3 a4 : AV} {st : List AV} {sh : Shp} {I : IM} {R : RM} : ev S d 145 13 [a0, a1, a2, a3, a4] st (sh, I, R) = ev S d 145 14 [a0, a1, a2, a3, a4] (.inl 0 :: st) (sh, I, R) := (ev_eq f_145_13).trans rfl
theorem f_145_14 : fetch 145 14 = some (14, .istore_n 3, 1, [3], 0) := (fm_145 14).trans rfl
theorem u_145_14 {S : Scr} {d : Nat} {a0 a1 a2 a3 a4 : AV} {st : List AV} {sh : Shp} {I : IM} {R : RM} {x : Int} : ev S d 145 14 [a0, a1, a2, a3, a4] (.inl x :: st) (sh, I, R) = ev S d 145 15 [a0, a1, a2, .inl x, a4] st (sh, I, R) := (ev_eq f_145_14).trans rfl
theorem f_145_15 : fetch 145 15 = some (15, .iload_n 3, 1, [3], 0) := (fm_145 15).trans rfl
theorem u_145_15 {S : Scr} {d : Nat} {a0 a1 a2 a4 : AV} {st : List AV} {sh : Shp} {I : IM} {R : RM} {x : Int} : ev S d 145 15 [a0, a1, a2, .inl x, a4] st (sh, I, R) = ev S d 145 16 [a0, a1, a2, .inl x, a4] (.inl x :: st) (sh, I, R) := (ev_eq f_145_15).trans rfl
theorem f_145_16 : fetch 145 16 = some (16, .aload_n 0, 1, [0], 0) := (fm_145 16).trans rfl
theorem u_145_16 {S : Scr} {d : Nat} {a1 a2 a3 a4 : AV} {st : List AV} {sh : Shp} {I : IM} {R : RM} {x : Nat} : ev S d 145 16 [.inr (.inl x), a1, a2, a3, a4] st (sh, I, R) = ev S d 145 17 [.inr (.inl x), a1, a2, a3, a4] (.inr (.inl x) :: st) (sh, I, R) := (ev_eq f_145_16).trans rfl
theorem f_145_17 : fetch 145 17 = some (17, .getfield 9, 3, [9, 0, 1, 79], 0) := (fm_145 17).trans rfl
theorem u_145_17 {S : Scr} {d : Nat} {a0 a1 a2 a3 a4 : AV} {st : List AV} {sh : Shp} {I : IM} {R : RM} {k : Nat} (h : tg sh k = 9) : ev S d 145 17 [a0, a1, a2, a3, a4] (.inr (.inl k) :: st) (sh, I, R) = ev S d 145 20 [a0, a1, a2, a3, a4] (rv (R k 0) :: st) (sh, I, R) := (ev_eq f_145_17).trans (congrArg (fin S d 145) (if_pos h))
theorem f_145_20 : fetch 145 20 = some (20, .sipush 660, 3, [], 660) := (fm_145 20).trans rfl
theorem u_145_20 {S : Scr} {d : Nat} {a0 a1 a2 a3 a4 : AV} {st : List AV} {sh : Shp} {I : IM} {R : RM} : ev S d 145 20 [a0, a1, a2, a3, a4] st (sh, I, R) = ev S d 145 23 [a0, a1, a2, a3, a4] (.inl 660 :: st) (sh, I, R) := (ev_eq f_145_20).trans rfl
theorem f_145_23 : fetch 145 23 = some (23, .iload_n 2, 1, [2], 0) := (fm_145 23).trans rfl
theorem u_145_23 {S : Scr} {d : Nat} {a0 a1 a3 a4 : AV} {st : List AV} {sh : Shp} {I : IM} {R : RM} {x : Int} : ev S d 145 23 [a0, a1, .inl x, a3, a4] st (sh, I, R) = ev S d 145 24 [a0, a1, .inl x, a3, a4] (.inl x :: st) (sh, I, R) := (ev_eq f_145_23).trans rfl
theorem f_145_24 : fetch 145 24 = some (24, .iadd, 1, [], 0) := (fm_145 24).trans rfl
theorem u_145_24 {S : Scr} {d : Nat} {a0 a1 a2 a3 a4 : AV} {st : List AV} {sh : Shp} {I : IM} {R : RM} {x y : Int} : ev S d 145 24 [a0, a1, a2, a3, a4] (.inl y :: .inl x :: st) (sh, I, R) = ev S d 145 25 [a0, a1, a2, a3, a4] (.inl (wr (x + y)) :: st) (sh, I, R) := (ev_eq f_145_24).trans rfl
theorem f_145_25 : fetch 145 25 = some (25, .iaload, 1, [], 0) := (fm_145 25).trans rfl
theorem u_145_25 {S : Scr} {d : Nat} {a0 a1 a2 a3 a4 : AV} {st : List AV} {sh : Shp} {I : IM} {R : RM} {k : Nat} {i : Int} (h : tg sh k = 100) (h0 : 0 ≤ i) (h1 : i < ln sh k) : ev S d 145 25 [a0, a1, a2, a3, a4] (.inl i :: .inr (.inl k) :: st) (sh, I, R) = ev S d 145 26 [a0, a1, a2, a3, a4] (.inl (I k i) :: st) (sh, I, R) := (ev_eq f_145_25).trans (congrArg (fin S d 145) (if_pos ⟨h, h0, h1⟩))
theorem f_145_26 : fetch 145 26 = some (26, .if_icmp .ge 70, 3, [96], 0) := (fm_145 26).trans rfl
theorem u_145_26 {S : Scr} {d : Nat} {a0 a1 a2 a3 a4 : AV} {st : List AV} {sh : Shp} {I : IM} {R : RM} {x y : Int} : ev S d 145 26 [a0, a1, a2, a3, a4] (.inl y :: .inl x :: st) (sh, I, R) = if y ≤ x then ev S d 145 96 [a0, a1, a2, a3, a4] st (sh, I, R) else ev S d 145 29 [a0, a1, a2, a3, a4] st (sh, I, R) := (ev_eq f_145_26).trans fin_icmp_ge
theorem f_145_29 : fetch 145 29 = some (29, .aload_n 0, 1, [0], 0) := (fm_145 29).trans rfl
theorem u_145_29 {S : Scr} {d : Nat} {a1 a2 a3 a4 : AV} {st : List AV} {sh : Shp} {I : IM} {R : RM} {x : Nat} : ev S d 145 29 [.inr (.inl x), a1, a2, a3, a4] st (sh, I, R) = ev S d 145 30 [.inr (.inl x), a1, a2, a3, a4] (.inr (.inl x) :: st) (sh, I, R) := (ev_eq f_145_29).trans rfl
theorem f_145_30 : fetch 145 30 = some (30, .getfield 9, 3, [9, 0, 1, 79], 0) := (fm_145 30).trans rfl
theorem u_145_30 {S : Scr} {d : Nat} {a0 a1 a2 a3 a4 : AV} {st : List AV} {sh : Shp} {I : IM} {R : RM} {k : Nat} (h : tg sh k = 9) : ev S d 145 30 [a0, a1, a2, a3, a4] (.inr (.inl k) :: st) (sh, I, R) = ev S d 145 33 [a0, a1, a2, a3, a4] (rv (R k 0) :: st) (sh, I, R) := (ev_eq f_145_30).trans (congrArg (fin S d 145) (if_pos h))
theorem f_145_33 : fetch 145 33 = some (33, .sipush 669, 3, [], 669) := (fm_145 33).trans rfl
theorem u_145_33 {S : Scr} {d : Nat} {a0 a1 a2 a3 a4 : AV} {st : List AV} {sh : Shp} {I : IM} {R : RM} : ev S d 145 33 [a0, a1, a2, a3, a4] st (sh, I, R) = ev S d 145 36 [a0, a1, a2, a3, a4] (.inl 669 :: st) (sh, I, R) := (ev_eq f_145_33).trans rfl
theorem f_145_36 : fetch 145 36 = some (36, .iconst 4, 1, [], 4) := (fm_145 36).trans rfl
theorem u_145_36 {S : Scr} {d : Nat} {a0 a1 a2 a3 a4 : AV} {st : List AV} {sh : Shp} {I : IM} {R : RM} : ev S d 145 36 [a0, a1, a2, a3, a4] st (sh, I, R) = ev S d 145 37 [a0, a1, a2, a3, a4] (.inl 4 :: st) (sh, I, R) := (ev_eq f_145_36).trans rfl
theorem f_145_37 : fetch 145 37 = some (37, .iload_n 2, 1, [2], 0) := (fm_145 37).trans rfl
theorem u_145_37 {S : Scr} {d : Nat} {a0 a1 a3 a4 : AV} {st : List AV} {sh : Shp} {I : IM} {R : RM} {x : Int} : ev S d 145 37 [a0, a1, .inl x, a3, a4] st (sh, I, R) = ev S d 145 38 [a0, a1, .inl x, a3, a4] (.inl x :: st) (sh, I, R) := (ev_eq f_145_37).trans rfl
theorem f_145_38 : fetch 145 38 = some (38, .imul, 1, [], 0) := (fm_145 38).trans rfl
theorem u_145_38 {S : Scr} {d : Nat} {a0 a1 a2 a3 a4 : AV} {st : List AV} {sh : Shp} {I : IM} {R : RM} {x y : Int} : ev S d 145 38 [a0, a1, a2, a3, a4] (.inl y :: .inl x :: st) (sh, I, R) = ev S d 145 39 [a0, a1, a2, a3, a4] (.inl (wr (x * y)) :: st) (sh, I, R) := (ev_eq f_145_38).trans rfl
theorem f_145_39 : fetch 145 39 = some (39, .iadd, 1, [], 0) := (fm_145 39).trans rfl
theorem u_145_39 {S : Scr} {d : Nat} {a0 a1 a2 a3 a4 : AV} {st : List AV} {sh : Shp} {I : IM} {R : RM} {x y : Int} : ev S d 145 39 [a0, a1, a2, a3, a4] (.inl y :: .inl x :: st) (sh, I, R) = ev S d 145 40 [a0, a1, a2, a3, a4] (.inl (wr (x + y)) :: st) (sh, I, R) := (ev_eq f_145_39).trans rfl
theorem f_145_40 : fetch 145 40 = some (40, .iload_n 3, 1, [3], 0) := (fm_145 40).trans rfl
theorem u_145_40 {S : Scr} {d : Nat} {a0 a1 a2 a4 : AV} {st : List AV} {sh : Shp} {I : IM} {R : RM} {x : Int} : ev S d 145 40 [a0, a1, a2, .inl x, a4] st (sh, I, R) = ev S d 145 41 [a0, a1, a2, .inl x, a4] (.inl x :: st) (sh, I, R) := (ev_eq f_145_40).trans rfl
theorem f_145_41 : fetch 145 41 = some (41, .iadd, 1, [], 0) := (fm_145 41).trans rfl
theorem u_145_41 {S : Scr} {d : Nat} {a0 a1 a2 a3 a4 : AV} {st : List AV} {sh : Shp} {I : IM} {R : RM} {x y : Int} : ev S d 145 41 [a0, a1, a2, a3, a4] (.inl y :: .inl x :: st) (sh, I, R) = ev S d 145 42 [a0, a1, a2, a3, a4] (.inl (wr (x + y)) :: st) (sh, I, R) := (ev_eq f_145_41).trans rfl
theorem f_145_42 : fetch 145 42 = some (42, .iaload, 1, [], 0) := (fm_145 42).trans rfl
theorem u_145_42 {S : Scr} {d : Nat} {a0 a1 a2 a3 a4 : AV} {st : List AV} {sh : Shp} {I : IM} {R : RM} {k : Nat} {i : Int} (h : tg sh k = 100) (h0 : 0 ≤ i) (h1 : i < ln sh k) : ev S d 145 42 [a0, a1, a2, a3, a4] (.inl i :: .inr (.inl k) :: st) (sh, I, R) = ev S d 145 43 [a0, a1, a2, a3, a4] (.inl (I k i) :: st) (sh, I, R) := (ev_eq f_145_42).trans (congrArg (fin S d 145) (if_pos ⟨h, h0, h1⟩))
theorem f_145_43 : fetch 145 43 = some (43, .istore 4, 2, [4], 0) := (fm_145 43).trans rfl
theorem u_145_43 {S : Scr} {d : Nat} {a0 a1 a2 a3 a4 : AV} {st : List AV} {sh : Shp} {I : IM} {R : RM} {x : Int} : ev S d 145 43 [a0, a1, a2, a3, a4] (.inl x :: st) (sh, I, R) = ev S d 145 45 [a0, a1, a2, a3, .inl x] st (sh, I, R) := (ev_eq f_145_43).trans rfl
theorem f_145_45 : fetch 145 45 = some (45, .aload_n 0, 1, [0], 0) := (fm_145 45).trans rfl
theorem u_145_45 {S : Scr} {d : Nat} {a1 a2 a3 a4 : AV} {st : List AV} {sh : Shp} {I : IM} {R : RM} {x : Nat} : ev S d 145 45 [.inr (.inl x), a1, a2, a3, a4] st (sh, I, R) = ev S d 145 46 [.inr (.inl x), a1, a2, a3, a4] (.inr (.inl x) :: st) (sh, I, R) := (ev_eq f_145_45).trans rfl
theorem f_145_46 : fetch 145 46 = some (46, .iload_n 1, 1, [1], 0) := (fm_145 46).trans rfl
theorem u_145_46 {S : Scr} {d : Nat} {a0 a2 a3 a4 : AV} {st : List AV} {sh : Shp} {I : IM} {R : RM} {x : Int} : ev S d 145 46 [a0, .inl x, a2, a3, a4] st (sh, I, R) = ev S d 145 47 [a0, .inl x, a2, a3, a4] (.inl x :: st) (sh, I, R) := (ev_eq f_145_46).trans rfl
theorem f_145_47 : fetch 145 47 = some (47, .iload 4, 2, [4], 0) := (fm_145 47).trans rfl
theorem u_145_47 {S : Scr} {d : Nat} {a0 a1 a2 a3 : AV} {st : List AV} {sh : Shp} {I : IM} {R : RM} {x : Int} : ev S d 145 47 [a0, a1, a2, a3, .inl x] st (sh, I, R) = ev S d 145 49 [a0, a1, a2, a3, .inl x] (.inl x :: st) (sh, I, R) := (ev_eq f_145_47).trans rfl
theorem f_145_49 : fetch 145 49 = some (49, .invokevirtual 84, 3, [140, 2, 130], 0) := (fm_145 49).trans rfl
theorem u_145_49 {S : Scr} {d : Nat} {a0 a1 a2 a3 a4 : AV} {st : List AV} {sh : Shp} {I : IM} {R : RM} {x0 : Int} {x1 : Int} {k : Nat} (h : tg sh k = 9) (hr : st.length ≤ 8) : ev S d 145 49 [a0, a1, a2, a3, a4] (.inl x1 :: .inl x0 :: .inr (.inl k) :: st) (sh, I, R) = bnd (cl d 140 [.inr (.inl k), .inl x0, .inl x1] (sh, I, R)) (fun v M => ev S d 145 52 [a0, a1, a2, a3, a4] (psh v st) M) := (ev_eq f_145_49).trans (congrArg (fin S d 145) (if_pos ⟨h, rfl, hr⟩))
theorem f_145_52 : fetch 145 52 = some (52, .ifCond .ge 38, 3, [90], 0) := (fm_145 52).trans rfl
theorem u_145_52 {S : Scr} {d : Nat} {a0 a1 a2 a3 a4 : AV} {st : List AV} {sh : Shp} {I : IM} {R : RM} {x : Int} : ev S d 145 52 [a0, a1, a2, a3, a4] (.inl x :: st) (sh, I, R) = if 0 ≤ x then ev S d 145 90 [a0, a1, a2, a3, a4] st (sh, I, R) else ev S d 145 55 [a0, a1, a2, a3, a4] st (sh, I, R) := (ev_eq f_145_52).trans fin_if_ge
theorem f_145_55 : fetch 145 55 = some (55, .aload_n 0, 1, [0], 0) := (fm_145 55).trans rfl
theorem u_145_55 {S : Scr} {d : Nat} {a1 a2 a3 a4 : AV} {st : List AV} {sh : Shp} {I : IM} {R : RM} {x : Nat} : ev S d 145 55 [.inr (.inl x), a1, a2, a3, a4] st (sh, I, R) = ev S d 145 56 [.inr (.inl x), a1, a2, a3, a4] (.inr (.inl x) :: st) (sh, I, R) := (ev_eq f_145_55).trans rfl
theorem f_145_56 : fetch 145 56 = some (56, .getfield 9, 3, [9, 0, 1, 79], 0) := (fm_145 56).trans rfl
theorem u_145_56 {S : Scr} {d : Nat} {a0 a1 a2 a3 a4 : AV} {st : List AV} {sh : Shp} {I : IM} {R : RM} {k : Nat} (h : tg sh k = 9) : ev S d 145 56 [a0, a1, a2, a3, a4] (.inr (.inl k) :: st) (sh, I, R) = ev S d 145 59 [a0, a1, a2, a3, a4] (rv (R k 0) :: st) (sh, I, R) := (ev_eq f_145_56).trans (congrArg (fin S d 145) (if_pos h))
theorem f_145_59 : fetch 145 59 = some (59, .bipush 90, 2, [], 90) := (fm_145 59).trans rfl
theorem u_145_59 {S : Scr} {d : Nat} {a0 a1 a2 a3 a4 : AV} {st : List AV} {sh : Shp} {I : IM} {R : RM} : ev S d 145 59 [a0, a1, a2, a3, a4] st (sh, I, R) = ev S d 145 61 [a0, a1, a2, a3, a4] (.inl 90 :: st) (sh, I, R) := (ev_eq f_145_59).trans rfl
theorem f_145_61 : fetch 145 61 = some (61, .iload_n 1, 1, [1], 0) := (fm_145 61).trans rfl
theorem u_145_61 {S : Scr} {d : Nat} {a0 a2 a3 a4 : AV} {st : List AV} {sh : Shp} {I : IM} {R : RM} {x : Int} : ev S d 145 61 [a0, .inl x, a2, a3, a4] st (sh, I, R) = ev S d 145 62 [a0, .inl x, a2, a3, a4] (.inl x :: st) (sh, I, R) := (ev_eq f_145_61).trans rfl
theorem f_145_62 : fetch 145 62 = some (62, .iadd, 1, [], 0) := (fm_145 62).trans rfl
theorem u_145_62 {S : Scr} {d : Nat} {a0 a1 a2 a3 a4 : AV} {st : List AV} {sh : Shp} {I : IM} {R : RM} {x y : Int} : ev S d 145 62 [a0, a1, a2, a3, a4] (.inl y :: .inl x :: st) (sh, I, R) = ev S d 145 63 [a0, a1, a2, a3, a4] (.inl (wr (x + y)) :: st) (sh, I, R) := (ev_eq f_145_62).trans rfl
theorem f_145_63 : fetch 145 63 = some (63, .iaload, 1, [], 0) := (fm_145 63).trans rfl
theorem u_145_63 {S : Scr} {d : Nat} {a0 a1 a2 a3 a4 : AV} {st : List AV} {sh : Shp} {I : IM} {R : RM} {k : Nat} {i : Int} (h : tg sh k = 100) (h0 : 0 ≤ i) (h1 : i < ln sh k) : ev S d 145 63 [a0, a1, a2, a3, a4] (.inl i :: .inr (.inl k) :: st) (sh, I, R) = ev S d 145 64 [a0, a1, a2, a3, a4] (.inl (I k i) :: st) (sh, I, R) := (ev_eq f_145_63).trans (congrArg (fin S d 145) (if_pos ⟨h, h0, h1⟩))
theorem f_145_64 : fetch 145 64 = some (64, .bipush 6, 2, [], 6) := (fm_145 64).trans rfl
theorem u_145_64 {S : Scr} {d : Nat} {a0 a1 a2 a3 a4 : AV} {st : List AV} {sh : Shp} {I : IM} {R : RM} : ev S d 145 64 [a0, a1, a2, a3, a4] st (sh, I, R) = ev S d 145 66 [a0, a1, a2, a3, a4] (.inl 6 :: st) (sh, I, R) := (ev_eq f_145_64).trans rfl
theorem f_145_66 : fetch 145 66 = some (66, .if_icmp .ge 24, 3, [90], 0) := (fm_145 66).trans rfl
theorem u_145_66 {S : Scr} {d : Nat} {a0 a1 a2 a3 a4 : AV} {st : List AV} {sh : Shp} {I : IM} {R : RM} {x y : Int} : ev S d 145 66 [a0, a1, a2, a3, a4] (.inl y :: .inl x :: st) (sh, I, R) = if y ≤ x then ev S d 145 90 [a0, a1, a2, a3, a4] st (sh, I, R) else ev S d 145 69 [a0, a1, a2, a3, a4] st (sh, I, R) := (ev_eq f_145_66).trans fin_icmp_ge
theorem f_145_69 : fetch 145 69 = some (69, .aload_n 0, 1, [0], 0) := (fm_145 69).trans rfl
theorem u_145_69 {S : Scr} {d : Nat} {a1 a2 a3 a4 : AV} {st : List AV} {sh : Shp} {I : IM} {R : RM} {x : Nat} : ev S d 145 69 [.inr (.inl x), a1, a2, a3, a4] st (sh, I, R) = ev S d 145 70 [.inr (.inl x), a1, a2, a3, a4] (.inr (.inl x) :: st) (sh, I, R) := (ev_eq f_145_69).trans rfl
theorem f_145_70 : fetch 145 70 = some (70, .iload_n 1, 1, [1], 0) := (fm_145 70).trans rfl
theorem u_145_70 {S : Scr} {d : Nat} {a0 a2 a3 a4 : AV} {st : List AV} {sh : Shp} {I : IM} {R : RM} {x : Int} : ev S d 145 70 [a0, .inl x, a2, a3, a4] st (sh, I, R) = ev S d 145 71 [a0, .inl x, a2, a3, a4] (.inl x :: st) (sh, I, R) := (ev_eq f_145_70).trans rfl
theorem f_145_71 : fetch 145 71 = some (71, .iload 4, 2, [4], 0) := (fm_145 71).trans rfl
theorem u_145_71 {S : Scr} {d : Nat} {a0 a1 a2 a3 : AV} {st : List AV} {sh : Shp} {I : IM} {R : RM} {x : Int} : ev S d 145 71 [a0, a1, a2, a3, .inl x] st (sh, I, R) = ev S d 145 73 [a0, a1, a2, a3, .inl x] (.inl x :: st) (sh, I, R) := (ev_eq f_145_71).trans rfl
theorem f_145_73 : fetch 145 73 = some (73, .aload_n 0, 1, [0], 0) := (fm_145 73).trans rfl
theorem u_145_73 {S : Scr} {d : Nat} {a1 a2 a3 a4 : AV} {st : List AV} {sh : Shp} {I : IM} {R : RM} {x : Nat} : ev S d 145 73 [.inr (.inl x), a1, a2, a3, a4] st (sh, I, R) = ev S d 145 74 [.inr (.inl x), a1, a2, a3, a4] (.inr (.inl x) :: st) (sh, I, R) := (ev_eq f_145_73).trans rfl
theorem f_145_74 : fetch 145 74 = some (74, .getfield 9, 3, [9, 0, 1, 79], 0) := (fm_145 74).trans rfl
theorem u_145_74 {S : Scr} {d : Nat} {a0 a1 a2 a3 a4 : AV} {st : List AV} {sh : Shp} {I : IM} {R : RM} {k : Nat} (h : tg sh k = 9) : ev S d 145 74 [a0, a1, a2, a3, a4] (.inr (.inl k) :: st) (sh, I, R) = ev S d 145 77 [a0, a1, a2, a3, a4] (rv (R k 0) :: st) (sh, I, R) := (ev_eq f_145_74).trans (congrArg (fin S d 145) (if_pos h))
theorem f_145_77 : fetch 145 77 = some (77, .sipush 705, 3, [], 705) := (fm_145 77).trans rfl
theorem u_145_77 {S : Scr} {d : Nat} {a0 a1 a2 a3 a4 : AV} {st : List AV} {sh : Shp} {I : IM} {R : RM} : ev S d 145 77 [a0, a1, a2, a3, a4] st (sh, I, R) = ev S d 145 80 [a0, a1, a2, a3, a4] (.inl 705 :: st) (sh, I, R) := (ev_eq f_145_77).trans rfl
theorem f_145_80 : fetch 145 80 = some (80, .iconst 4, 1, [], 4) := (fm_145 80).trans rfl
theorem u_145_80 {S : Scr} {d : Nat} {a0 a1 a2 a3 a4 : AV} {st : List AV} {sh : Shp} {I : IM} {R : RM} : ev S d 145 80 [a0, a1, a2, a3, a4] st (sh, I, R) = ev S d 145 81 [a0, a1, a2, a3, a4] (.inl 4 :: st) (sh, I, R) := (ev_eq f_145_80).trans rfl
theorem f_145_81 : fetch 145 81 = some (81, .iload_n 2, 1, [2], 0) := (fm_145 81).trans rfl
theorem u_145_81 {S : Scr} {d : Nat} {a0 a1 a3 a4 : AV} {st : List AV} {sh : Shp} {I : IM} {R : RM} {x : Int} : ev S d 145 81 [a0, a1, .inl x, a3, a4] st (sh, I, R) = ev S d 145 82 [a0, a1, .inl x, a3, a4] (.inl x :: st) (sh, I, R) := (ev_eq f_145_81).trans rfl
theorem f_145_82 : fetch 145 82 = some (82, .imul, 1, [], 0) := (fm_145 82).trans rfl
theorem u_145_82 {S : Scr} {d : Nat} {a0 a1 a2 a3 a4 : AV} {st : List AV} {sh : Shp} {I : IM} {R : RM} {x y : Int} : ev S d 145 82 [a0, a1, a2, a3, a4] (.inl y :: .inl x :: st) (sh, I, R) = ev S d 145 83 [a0, a1, a2, a3, a4] (.inl (wr (x * y)) :: st) (sh, I, R) := (ev_eq f_145_82).trans rfl
theorem f_145_83 : fetch 145 83 = some (83, .iadd, 1, [], 0) := (fm_145 83).trans rfl
theorem u_145_83 {S : Scr} {d : Nat} {a0 a1 a2 a3 a4 : AV} {st : List AV} {sh : Shp} {I : IM} {R : RM} {x y : Int} : ev S d 145 83 [a0, a1, a2, a3, a4] (.inl y :: .inl x :: st) (sh, I, R) = ev S d 145 84 [a0, a1, a2, a3, a4] (.inl (wr (x + y)) :: st) (sh, I, R) := (ev_eq f_145_83).trans rfl
theorem f_145_84 : fetch 145 84 = some (84, .iload_n 3, 1, [3], 0) := (fm_145 84).trans rfl
theorem u_145_84 {S : Scr} {d : Nat} {a0 a1 a2 a4 : AV} {st : List AV} {sh : Shp} {I : IM} {R : RM} {x : Int} : ev S d 145 84 [a0, a1, a2, .inl x, a4] st (sh, I, R) = ev S d 145 85 [a0, a1, a2, .inl x, a4] (.inl x :: st) (sh, I, R) := (ev_eq f_145_84).trans rfl
theorem f_145_85 : fetch 145 85 = some (85, .iadd, 1, [], 0) := (fm_145 85).trans rfl
theorem u_145_85 {S : Scr} {d : Nat} {a0 a1 a2 a3 a4 : AV} {st : List AV} {sh : Shp} {I : IM} {R : RM} {x y : Int} : ev S d 145 85 [a0, a1, a2, a3, a4] (.inl y :: .inl x :: st) (sh, I, R) = ev S d 145 86 [a0, a1, a2, a3, a4] (.inl (wr (x + y)) :: st) (sh, I, R) := (ev_eq f_145_85).trans rfl
theorem f_145_86 : fetch 145 86 = some (86, .iaload, 1, [], 0) := (fm_145 86).trans rfl
theorem u_145_86 {S : Scr} {d : Nat} {a0 a1 a2 a3 a4 : AV} {st : List AV} {sh : Shp} {I : IM} {R : RM} {k : Nat} {i : Int} (h : tg sh k = 100) (h0 : 0 ≤ i) (h1 : i < ln sh k) : ev S d 145 86 [a0, a1, a2, a3, a4] (.inl i :: .inr (.inl k) :: st) (sh, I, R) = ev S d 145 87 [a0, a1, a2, a3, a4] (.inl (I k i) :: st) (sh, I, R) := (ev_eq f_145_86).trans (congrArg (fin S d 145) (if_pos ⟨h, h0, h1⟩))
theorem f_145_87 : fetch 145 87 = some (87, .invokevirtual 87, 3, [141, 3, 131], 0) := (fm_145 87).trans rfl
theorem u_145_87 {S : Scr} {d : Nat} {a0 a1 a2 a3 a4 : AV} {st : List AV} {sh : Shp} {I : IM} {R : RM} {x0 : Int} {x1 : Int} {x2 : Int} {k : Nat} (h : tg sh k = 9) (hr : st.length ≤ 8) : ev S d 145 87 [a0, a1, a2, a3, a4] (.inl x2 :: .inl x1 :: .inl x0 :: .inr (.inl k) :: st) (sh, I, R) = bnd (cl d 141 [.inr (.inl k), .inl x0, .inl x1, .inl x2] (sh, I, R)) (fun v M => ev S d 145 90 [a0, a1, a2, a3, a4] (psh v st) M) := (ev_eq f_145_87).trans (congrArg (fin S d 145) (if_pos ⟨h, rfl, hr⟩))
theorem f_145_90 : fetch 145 90 = some (90, .iinc 3 1, 3, [3], 1) := (fm_145 90).trans rfl
theorem u_145_90 {S : Scr} {d : Nat} {a0 a1 a2 a4 : AV} {st : List AV} {sh : Shp} {I : IM} {R : RM} {x : Int} : ev S d 145 90 [a0, a1, a2, .inl x, a4] st (sh, I, R) = ev S d 145 93 [a0, a1, a2, .inl (wr (x + 1)), a4] st (sh, I, R) := (ev_eq f_145_90).trans rfl
theorem f_145_93 : fetch 145 93 = some (93, .goto (-78), 3, [15], 0) := (fm_145 93).trans rfl
theorem u_145_93 {S : Scr} {d : Nat} {a0 a1 a2 a3 a4 : AV} {st : List AV} {sh : Shp} {I : IM} {R : RM} : ev S d 145 93 [a0, a1, a2, a3, a4] st (sh, I, R) = ev S d 145 15 [a0, a1, a2, a3, a4] st (sh, I, R) := (ev_eq f_145_93).trans rfl
theorem f_145_96 : fetch 145 96 = some (96, .return_, 1, [], 0) := (fm_145 96).trans rfl
theorem u_145_96 {S : Scr} {d : Nat} {a0 a1 a2 a3 a4 : AV} {sh : Shp} {I : IM} {R : RM} : ev S d 145 96 [a0, a1, a2, a3, a4] [] (sh, I, R) = some (none, (sh, I, R)) := (ev_eq f_145_96).trans rfl
theorem c_146 {d : Nat} {a0 a1 a2 : AV} {M : Mem} : cl (d + 1) 146 [a0, a1, a2] M = ev S0 d 146 0 [a0, a1, a2, .inr (.inr 1)] [] M := (cl_eq (as := [a0, a1, a2]) (show 3 ≤ maxOf 146 by decide +kernel)).trans rfl
theorem mt_146 : MT[146]? = some m_146 := rfl
theorem fm_146 (pc : Nat) : fetch 146 pc = lk m_146.2.2.2.2.2 pc := by
  unfold fetch
  rw [mt_146]
theorem f_146_0 : fetch 146 0 = some (0, .aload_n 0, 1, [0], 0) := (fm_146 0).trans rfl
theorem u_146_0 {S : Scr} {d : Nat} {a1 a2 a3 : AV} {st : List AV} {sh : Shp} {I : IM} {R : RM} {x : Nat} : ev S d 146 0 [.inr (.inl x), a1, a2, a3] st (sh, I, R) = ev S d 146 1 [.inr (.inl x), a1, a2, a3] (.inr (.inl x) :: st) (sh, I, R) := (ev_eq f_146_0).trans rfl
theorem f_146_1 : fetch 146 1 = some (1, .getfield 9, 3, [9, 0, 1, 79], 0) := (fm_146 1).trans rfl
theorem u_146_1 {S : Scr} {d : Nat} {a0 a1 a2 a3 : AV} {st : List AV} {sh : Shp} {I : IM} {R : RM} {k : Nat} (h : tg sh k = 9) : ev S d 146 1 [a0, a1, a2, a3] (.inr (.inl k) :: st) (sh, I, R) = ev S d 146 4 [a0, a1, a2, a3] (rv (R k 0) :: st) (sh, I, R) := (ev_eq f_146_1).trans (congrArg (fin S d 146) (if_pos h))
theorem f_146_4 : fetch 146 4 = some (4, .iconst 0, 1, [], 0) := (fm_146 4).trans rfl
theorem u_146_4 {S : Scr} {d : Nat} {a0 a1 a2 a3 : AV} {st : List AV} {sh : Shp} {I : IM} {R : RM} : ev S d 146 4 [a0, a1, a2, a3] st (sh, I, R) = ev S d 146 5 [a0, a1, a2, a3] (.inl 0 :: st) (sh, I, R) := (ev_eq f_146_4).trans rfl
theorem f_146_5 : fetch 146 5 = some (5, .iload_n 2, 1, [2], 0) := (fm_146 5).trans rfl
theorem u_146_5 {S : Scr} {d : Nat} {a0 a1 a3 : AV} {st : List AV} {sh : Shp} {I : IM} {R : RM} {x : Int} : ev S d 146 5 [a0, a1, .inl x, a3] st (sh, I, R) = ev S d 146 6 [a0, a1, .inl x, a3] (.inl x :: st) (sh, I, R) := (ev_eq f_146_5).trans rfl
theorem f_146_6 : fetch 146 6 = some (6, .iadd, 1, [], 0) := (fm_146 6).trans rfl
theorem u_146_6 {S : Scr} {d : Nat} {a0 a1 a2 a3 : AV} {st : List AV} {sh : Shp} {I : IM} {R : RM} {x y : Int} : ev S d 146 6 [a0, a1, a2, a3] (.inl y :: .inl x :: st) (sh, I, R) = ev S d 146 7 [a0, a1, a2, a3] (.inl (wr (x + y)) :: st) (sh, I, R) := (ev_eq f_146_6).trans rfl
theorem f_146_7 : fetch 146 7 = some (7, .iaload, 1, [], 0) := (fm_146 7).trans rfl
theorem u_146_7 {S : Scr} {d : Nat} {a0 a1 a2 a3 : AV} {st : List AV} {sh : Shp} {I : IM} {R : RM} {k : Nat} {i : Int} (h : tg sh k = 100) (h0 : 0 ≤ i) (h1 : i < ln sh k) : ev S d 146 7 [a0, a1, a2, a3] (.inl i :: .inr (.inl k) :: st) (sh, I, R) = ev S d 146 8 [a0, a1, a2, a3] (.inl (I k i) :: st) (sh, I, R) := (ev_eq f_146_7).trans (congrArg (fin S d 146) (if_pos ⟨h, h0, h1⟩))
theorem f_146_8 : fetch 146 8 = some (8, .istore_n 3, 1, [3], 0) := (fm_146 8).trans rfl
theorem u_146_8 {S : Scr} {d : Nat} {a0 a1 a2 a3 : AV} {st : List AV} {sh : Shp} {I : IM} {R : RM} {x : Int} : ev S d 146 8 [a0, a1, a2, a3] (.inl x :: st) (sh, I, R) = ev S d 146 9 [a0, a1, a2, .inl x] st (sh, I, R) := (ev_eq f_146_8).trans rfl
theorem f_146_9 : fetch 146 9 = some (9, .aload_n 0, 1, [0], 0) := (fm_146 9).trans rfl
theorem u_146_9 {S : Scr} {d : Nat} {a1 a2 a3 : AV} {st : List AV} {sh : Shp} {I : IM} {R : RM} {x : Nat} : ev S d 146 9 [.inr (.inl x), a1, a2, a3] st (sh, I, R) = ev S d 146 10 [.inr (.inl x), a1, a2, a3] (.inr (.inl x) :: st) (sh, I, R) := (ev_eq f_146_9).trans rfl
theorem f_146_10 : fetch 146 10 = some (10, .getfield 9, 3, [9, 0, 1, 79], 0) := (fm_146 10).trans rfl
theorem u_146_10 {S : Scr} {d : Nat} {a0 a1 a2 a3 : AV} {st : List AV} {sh : Shp} {I : IM} {R : RM} {k : Nat} (h : tg sh k = 9) : ev S d 146 10 [a0, a1, a2, a3] (.inr (.inl k) :: st) (sh, I, R) = ev S d 146 13 [a0, a1, a2, a3] (rv (R k 0) :: st) (sh, I, R) := (ev_eq f_146_10).trans (congrArg (fin S d 146) (if_pos h))
theorem f_146_13 : fetch 146 13 = some (13, .bipush 30, 2, [], 30) := (fm_146 13).trans rfl
theorem u_146_13 {S : Scr} {d : Nat} {a0 a1 a2 a3 : AV} {st : List AV} {sh : Shp} {I : IM} {R : RM} : ev S d 146 13 [a0, a1, a2, a3] st (sh, I, R) = ev S d 146 15 [a0, a1, a2, a3] (.inl 30 :: st) (sh, I, R) := (ev_eq f_146_13).trans rfl
theorem f_146_15 : fetch 146 15 = some (15, .iload_n 1, 1, [1], 0) := (fm_146 15).trans rfl
theorem u_146_15 {S : Scr} {d : Nat} {a0 a2 a3 : AV} {st : List AV} {sh : Shp} {I : IM} {R : RM} {x : Int} : ev S d 146 15 [a0, .inl x, a2, a3] st (sh, I, R) = ev S d 146 16 [a0, .inl x, a2, a3] (.inl x :: st) (sh, I, R) := (ev_eq f_146_15).trans rfl
theorem f_146_16 : fetch 146 16 = some (16, .iadd, 1, [], 0) := (fm_146 16).trans rfl
theorem u_146_16 {S : Scr} {d : Nat} {a0 a1 a2 a3 : AV} {st : List AV} {sh : Shp} {I : IM} {R : RM} {x y : Int} : ev S d 146 16 [a0, a1, a2, a3] (.inl y :: .inl x :: st) (sh, I, R) = ev S d 146 17 [a0, a1, a2, a3] (.inl (wr (x + y)) :: st) (sh, I, R) := (ev_eq f_146_16).trans rfl
theorem f_146_17 : fetch 146 17 = some (17, .iaload, 1, [], 0) := (fm_146 17).trans rfl
theorem u_146_17 {S : Scr} {d : Nat} {a0 a1 a2 a3 : AV} {st : List AV} {sh : Shp} {I : IM} {R : RM} {k : Nat} {i : Int} (h : tg sh k = 100) (h0 : 0 ≤ i) (h1 : i < ln sh k) : ev S d 146 17 [a0, a1, a2, a3] (.inl i :: .inr (.inl k) :: st) (sh, I, R) = ev S d 146 18 [a0, a1, a2, a3] (.inl (I k i) :: st) (sh, I, R) := (ev_eq f_146_17).trans (congrArg (fin S d 146) (if_pos ⟨h, h0, h1⟩))
theorem f_146_18 : fetch 146 18 = some (18, .tableswitch 55 0 2 #[26, 28, 39], 26, [73, 0, 44, 1, 46, 2, 57], 0) := (fm_146 18).trans rfl
theorem u_146_18 {S : Scr} {d : Nat} {a0 a1 a2 a3 : AV} {st : List AV} {sh : Shp} {I : IM} {R : RM} {x : Int} : ev S d 146 18 [a0, a1, a2, a3] (.inl x :: st) (sh, I, R) = if x = 0 then ev S d 146 44 [a0, a1, a2, a3] st (sh, I, R) else if x = 1 then ev S d 146 46 [a0, a1, a2, a3] st (sh, I, R) else if x = 2 then ev S d 146 57 [a0, a1, a2, a3] st (sh, I, R) else ev S d 146 73 [a0, a1, a2, a3] st (sh, I, R) := by
  rw [ev_eq f_146_18]
  show ev S d 146 (swt 73 x [0, 44, 1, 46, 2, 57]) _ _ _ = _
  rw [ev_sw, ev_sw, ev_sw, ev_sw0]
  rfl
theorem f_146_44 : fetch 146 44 = some (44, .iconst 1, 1, [], 1) := (fm_146 44).trans rfl
theorem u_146_44 {S : Scr} {d : Nat} {a0 a1 a2 a3 : AV} {st : List AV} {sh : Shp} {I : IM} {R : RM} : ev S d 146 44 [a0, a1, a2, a3] st (sh, I, R) = ev S d 146 45 [a0, a1, a2, a3] (.inl 1 :: st) (sh, I, R) := (ev_eq f_146_44).trans rfl
theorem f_146_45 : fetch 146 45 = some (45, .ireturn, 1, [1], 0) := (fm_146 45).trans rfl
theorem u_146_45 {S : Scr} {d : Nat} {a0 a1 a2 a3 : AV} {sh : Shp} {I : IM} {R : RM} {x : Int} (h : x = 0 ∨ x = 1) : ev S d 146 45 [a0, a1, a2, a3] [.inl x] (sh, I, R) = some (some (.inl x), (sh, I, R)) := (ev_eq f_146_45).trans (fin_iret1 h)
theorem f_146_46 : fetch 146 46 = some (46, .iload_n 3, 1, [3], 0) := (fm_146 46).trans rfl
theorem u_146_46 {S : Scr} {d : Nat} {a0 a1 a2 : AV} {st : List AV} {sh : Shp} {I : IM} {R : RM} {x : Int} : ev S d 146 46 [a0, a1, a2, .inl x] st (sh, I, R) = ev S d 146 47 [a0, a1, a2, .inl x] (.inl x :: st) (sh, I, R) := (ev_eq f_146_46).trans rfl
theorem f_146_47 : fetch 146 47 = some (47, .iconst 1, 1, [], 1) := (fm_146 47).trans rfl
theorem u_146_47 {S : Scr} {d : Nat} {a0 a1 a2 a3 : AV} {st : List AV} {sh : Shp} {I : IM} {R : RM} : ev S d 146 47 [a0, a1, a2, a3] st (sh, I, R) = ev S d 146 48 [a0, a1, a2, a3] (.inl 1 :: st) (sh, I, R) := (ev_eq f_146_47).trans rfl
theorem f_146_48 : fetch 146 48 = some (48, .if_icmp .ne 7, 3, [55], 0) := (fm_146 48).trans rfl
theorem u_146_48 {S : Scr} {d : Nat} {a0 a1 a2 a3 : AV} {st : List AV} {sh : Shp} {I : IM} {R : RM} {x y : Int} : ev S d 146 48 [a0, a1, a2, a3] (.inl y :: .inl x :: st) (sh, I, R) = if ¬ x = y then ev S d 146 55 [a0, a1, a2, a3] st (sh, I, R) else ev S d 146 51 [a0, a1, a2, a3] st (sh, I, R) := (ev_eq f_146_48).trans fin_icmp_ne
theorem f_146_51 : fetch 146 51 = some (51, .iconst 1, 1, [], 1) := (fm_146 51).trans rfl
theorem u_146_51 {S : Scr} {d : Nat} {a0 a1 a2 a3 : AV} {st : List AV} {sh : Shp} {I : IM} {R : RM} : ev S d 146 51 [a0, a1, a2, a3] st (sh, I, R) = ev S d 146 52 [a0, a1, a2, a3] (.inl 1 :: st) (sh, I, R) := (ev_eq f_146_51).trans rfl
theorem f_146_52 : fetch 146 52 = some (52, .goto 4, 3, [56], 0) := (fm_146 52).trans rfl
theorem u_146_52 {S : Scr} {d : Nat} {a0 a1 a2 a3 : AV} {st : List AV} {sh : Shp} {I : IM} {R : RM} : ev S d 146 52 [a0, a1, a2, a3] st (sh, I, R) = ev S d 146 56 [a0, a1, a2, a3] st (sh, I, R) := (ev_eq f_146_52).trans rfl
theorem f_146_55 : fetch 146 55 = some (55, .iconst 0, 1, [], 0) := (fm_146 55).trans rfl
theorem u_146_55 {S : Scr} {d : Nat} {a0 a1 a2 a3 : AV} {st : List AV} {sh : Shp} {I : IM} {R : RM} : ev S d 146 55 [a0, a1, a2, a3] st (sh, I, R) = ev S d 146 56 [a0, a1, a2, a3] (.inl 0 :: st) (sh, I, R) := (ev_eq f_146_55).trans rfl
theorem f_146_56 : fetch 146 56 = some (56, .ireturn, 1, [1], 0) := (fm_146 56).trans rfl
theorem u_146_56 {S : Scr} {d : Nat} {a0 a1 a2 a3 : AV} {sh : Shp} {I : IM} {R : RM} {x : Int} (h : x = 0 ∨ x = 1) : ev S d 146 56 [a0, a1, a2, a3] [.inl x] (sh, I, R) = some (some (.inl x), (sh, I, R)) := (ev_eq f_146_56).trans (fin_iret1 h)
theorem f_146_57 : fetch 146 57 = some (57, .iload_n 3, 1, [3], 0) := (fm_146 57).trans rfl
theorem u_146_57 {S : Scr} {d : Nat} {a0 a1 a2 : AV} {st : List AV} {sh : Shp} {I : IM} {R : RM} {x : Int} : ev S d 146 57 [a0, a1, a2, .inl x] st (sh, I, R) = ev S d 146 58 [a0, a1, a2, .inl x] (.inl x :: st) (sh, I, R) := (ev_eq f_146_57).trans rfl
theorem f_146_58 : fetch 146 58 = some (58, .iconst 2, 1, [], 2) := (fm_146 58).trans rfl
theorem u_146_58 {S : Scr} {d : Nat} {a0 a1 a2 a3 : AV} {st : List AV} {sh : Shp} {I : IM} {R : RM} : ev S d 146 58 [a0, a1, a2, a3] st (sh, I, R) = ev S d 146 59 [a0, a1, a2, a3] (.inl 2 :: st) (sh, I, R) := (ev_eq f_146_58).trans rfl
theorem f_146_59 : fetch 146 59 = some (59, .if_icmp .eq 8, 3, [67], 0) := (fm_146 59).trans rfl
theorem u_146_59 {S : Scr} {d : Nat} {a0 a1 a2 a3 : AV} {st : List AV} {sh : Shp} {I : IM} {R : RM} {x y : Int} : ev S d 146 59 [a0, a1, a2, a3] (.inl y :: .inl x :: st) (sh, I, R) = if x = y then ev S d 146 67 [a0, a1, a2, a3] st (sh, I, R) else ev S d 146 62 [a0, a1, a2, a3] st (sh, I, R) := (ev_eq f_146_59).trans fin_icmp_eq
theorem f_146_62 : fetch 146 62 = some (62, .iload_n 3, 1, [3], 0) := (fm_146 62).trans rfl
theorem u_146_62 {S : Scr} {d : Nat} {a0 a1 a2 : AV} {st : List AV} {sh : Shp} {I : IM} {R : RM} {x : Int} : ev S d 146 62 [a0, a1, a2, .inl x] st (sh, I, R) = ev S d 146 63 [a0, a1, a2, .inl x] (.inl x :: st) (sh, I, R) := (ev_eq f_146_62).trans rfl
theorem f_146_63 : fetch 146 63 = some (63, .iconst 3, 1, [], 3) := (fm_146 63).trans rfl
theorem u_146_63 {S : Scr} {d : Nat} {a0 a1 a2 a3 : AV} {st : List AV} {sh : Shp} {I : IM} {R : RM} : ev S d 146 63 [a0, a1, a2, a3] st (sh, I, R) = ev S d 146 64 [a0, a1, a2, a3] (.inl 3 :: st) (sh, I, R) := (ev_eq f_146_63).trans rfl
theorem f_146_64 : fetch 146 64 = some (64, .if_icmp .ne 7, 3, [71], 0) := (fm_146 64).trans rfl
theorem u_146_64 {S : Scr} {d : Nat} {a0 a1 a2 a3 : AV} {st : List AV} {sh : Shp} {I : IM} {R : RM} {x y : Int} : ev S d 146 64 [a0, a1, a2, a3] (.inl y :: .inl x :: st) (sh, I, R) = if ¬ x = y then ev S d 146 71 [a0, a1, a2, a3] st (sh, I, R) else ev S d 146 67 [a0, a1, a2, a3] st (sh, I, R) := (ev_eq f_146_64).trans fin_icmp_ne
theorem f_146_67 : fetch 146 67 = some (67, .iconst 1, 1, [], 1) := (fm_146 67).trans rfl
theorem u_146_67 {S : Scr} {d : Nat} {a0 a1 a2 a3 : AV} {st : List AV} {sh : Shp} {I : IM} {R : RM} : ev S d 146 67 [a0, a1, a2, a3] st (sh, I, R) = ev S d 146 68 [a0, a1, a2, a3] (.inl 1 :: st) (sh, I, R) := (ev_eq f_146_67).trans rfl
theorem f_146_68 : fetch 146 68 = some (68, .goto 4, 3, [72], 0) := (fm_146 68).trans rfl
theorem u_146_68 {S : Scr} {d : Nat} {a0 a1 a2 a3 : AV} {st : List AV} {sh : Shp} {I : IM} {R : RM} : ev S d 146 68 [a0, a1, a2, a3] st (sh, I, R) = ev S d 146 72 [a0, a1, a2, a3] st (sh, I, R) := (ev_eq f_146_68).trans rfl
theorem f_146_71 : fetch 146 71 = some (71, .iconst 0, 1, [], 0) := (fm_146 71).trans rfl
theorem u_146_71 {S : Scr} {d : Nat} {a0 a1 a2 a3 : AV} {st : List AV} {sh : Shp} {I : IM} {R : RM} : ev S d 146 71 [a0, a1, a2, a3] st (sh, I, R) = ev S d 146 72 [a0, a1, a2, a3] (.inl 0 :: st) (sh, I, R) := (ev_eq f_146_71).trans rfl
theorem f_146_72 : fetch 146 72 = some (72, .ireturn, 1, [1], 0) := (fm_146 72).trans rfl
theorem u_146_72 {S : Scr} {d : Nat} {a0 a1 a2 a3 : AV} {sh : Shp} {I : IM} {R : RM} {x : Int} (h : x = 0 ∨ x = 1) : ev S d 146 72 [a0, a1, a2, a3] [.inl x] (sh, I, R) = some (some (.inl x), (sh, I, R)) := (ev_eq f_146_72).trans (fin_iret1 h)
theorem f_146_73 : fetch 146 73 = some (73, .iload_n 3, 1, [3], 0) := (fm_146 73).trans rfl
theorem u_146_73 {S : Scr} {d : Nat} {a0 a1 a2 : AV} {st : List AV} {sh : Shp} {I : IM} {R : RM} {x : Int} : ev S d 146 73 [a0, a1, a2, .inl x] st (sh, I, R) = ev S d 146 74 [a0, a1, a2, .inl x] (.inl x :: st) (sh, I, R) := (ev_eq f_146_73).trans rfl
theorem f_146_74 : fetch 146 74 = some (74, .iconst 3, 1, [], 3) := (fm_146 74).trans rfl
theorem u_146_74 {S : Scr} {d : Nat} {a0 a1 a2 a3 : AV} {st : List AV} {sh : Shp} {I : IM} {R : RM} : ev S d 146 74 [a0, a1, a2, a3] st (sh, I, R) = ev S d 146 75 [a0, a1, a2, a3] (.inl 3 :: st) (sh, I, R) := (ev_eq f_146_74).trans rfl
theorem f_146_75 : fetch 146 75 = some (75, .if_icmp .ne 7, 3, [82], 0) := (fm_146 75).trans rfl
theorem u_146_75 {S : Scr} {d : Nat} {a0 a1 a2 a3 : AV} {st : List AV} {sh : Shp} {I : IM} {R : RM} {x y : Int} : ev S d 146 75 [a0, a1, a2, a3] (.inl y :: .inl x :: st) (sh, I, R) = if ¬ x = y then ev S d 146 82 [a0, a1, a2, a3] st (sh, I, R) else ev S d 146 78 [a0, a1, a2, a3] st (sh, I, R) := (ev_eq f_146_75).trans fin_icmp_ne
theorem f_146_78 : fetch 146 78 = some (78, .iconst 1, 1, [], 1) := (fm_146 78).trans rfl
theorem u_146_78 {S : Scr} {d : Nat} {a0 a1 a2 a3 : AV} {st : List AV} {sh : Shp} {I : IM} {R : RM} : ev S d 146 78 [a0, a1, a2, a3] st (sh, I, R) = ev S d 146 79 [a0, a1, a2, a3] (.inl 1 :: st) (sh, I, R) := (ev_eq f_146_78).trans rfl
theorem f_146_79 : fetch 146 79 = some (79, .goto 4, 3, [83], 0) := (fm_146 79).trans rfl
theorem u_146_79 {S : Scr} {d : Nat} {a0 a1 a2 a3 : AV} {st : List AV} {sh : Shp} {I : IM} {R : RM} : ev S d 146 79 [a0, a1, a2, a3] st (sh, I, R) = ev S d 146 83 [a0, a1, a2, a3] st (sh, I, R) := (ev_eq f_146_79).trans rfl
theorem f_146_82 : fetch 146 82 = some (82, .iconst 0, 1, [], 0) := (fm_146 82).trans rfl
theorem u_146_82 {S : Scr} {d : Nat} {a0 a1 a2 a3 : AV} {st : List AV} {sh : Shp} {I : IM} {R : RM} : ev S d 146 82 [a0, a1, a2, a3] st (sh, I, R) = ev S d 146 83 [a0, a1, a2, a3] (.inl 0 :: st) (sh, I, R) := (ev_eq f_146_82).trans rfl
theorem f_146_83 : fetch 146 83 = some (83, .ireturn, 1, [1], 0) := (fm_146 83).trans rfl
theorem u_146_83 {S : Scr} {d : Nat} {a0 a1 a2 a3 : AV} {sh : Shp} {I : IM} {R : RM} {x : Int} (h : x = 0 ∨ x = 1) : ev S d 146 83 [a0, a1, a2, a3] [.inl x] (sh, I, R) = some (some (.inl x), (sh, I, R)) := (ev_eq f_146_83).trans (fin_iret1 h)
theorem c_147 {d : Nat} {a0 a1 : AV} {M : Mem} : cl (d + 1) 147 [a0, a1] M = ev S0 d 147 0 [a0, a1] [] M := (cl_eq (as := [a0, a1]) (show 2 ≤ maxOf 147 by decide +kernel)).trans rfl
theorem mt_147 : MT[147]? = some m_147 := rfl
theorem fm_147 (pc : Nat) : fetch 147 pc = lk m_147.2.2.2.2.2 pc := by
  unfold fetch
  rw [mt_147]
theorem f_147_0 : fetch 147 0 = some (0, .iload_n 0, 1, [0], 0) := (fm_147 0).trans rfl
theorem u_147_0 {S : Scr} {d : Nat} {a1 : AV} {st : List AV} {sh : Shp} {I : IM} {R : RM} {x : Int} : ev S d 147 0 [.inl x, a1] st (sh, I, R) = ev S d 147 1 [.inl x, a1] (.inl x :: st) (sh, I, R) := (ev_eq f_147_0).trans rfl
theorem f_147_1 : fetch 147 1 = some (1, .iconst 1, 1, [], 1) := (fm_147 1).trans rfl
theorem u_147_1 {S : Scr} {d : Nat} {a0 a1 : AV} {st : List AV} {sh : Shp} {I : IM} {R : RM} : ev S d 147 1 [a0, a1] st (sh, I, R) = ev S d 147 2 [a0, a1] (.inl 1 :: st) (sh, I, R) := (ev_eq f_147_1).trans rfl
theorem f_147_2 : fetch 147 2 = some (2, .iconst 3, 1, [], 3) := (fm_147 2).trans rfl
theorem u_147_2 {S : Scr} {d : Nat} {a0 a1 : AV} {st : List AV} {sh : Shp} {I : IM} {R : RM} : ev S d 147 2 [a0, a1] st (sh, I, R) = ev S d 147 3 [a0, a1] (.inl 3 :: st) (sh, I, R) := (ev_eq f_147_2).trans rfl
theorem f_147_3 : fetch 147 3 = some (3, .invokestatic 64, 3, [129, 3, 125], 0) := (fm_147 3).trans rfl
theorem u_147_3 {S : Scr} {d : Nat} {a0 a1 : AV} {st : List AV} {sh : Shp} {I : IM} {R : RM} {x0 : Int} {x1 : Int} {x2 : Int} (hr : st.length ≤ 8) : ev S d 147 3 [a0, a1] (.inl x2 :: .inl x1 :: .inl x0 :: st) (sh, I, R) = bnd (cl d 129 [.inl x0, .inl x1, .inl x2] (sh, I, R)) (fun v M => ev S d 147 6 [a0, a1] (psh v st) M) := (ev_eq f_147_3).trans (congrArg (fin S d 147) (if_pos ⟨rfl, hr⟩))
theorem f_147_6 : fetch 147 6 = some (6, .ifCond .eq 16, 3, [22], 0) := (fm_147 6).trans rfl
theorem u_147_6 {S : Scr} {d : Nat} {a0 a1 : AV} {st : List AV} {sh : Shp} {I : IM} {R : RM} {x : Int} : ev S d 147 6 [a0, a1] (.inl x :: st) (sh, I, R) = if x = 0 then ev S d 147 22 [a0, a1] st (sh, I, R) else ev S d 147 9 [a0, a1] st (sh, I, R) := (ev_eq f_147_6).trans fin_if_eq
theorem f_147_9 : fetch 147 9 = some (9, .iload_n 1, 1, [1], 0) := (fm_147 9).trans rfl
theorem u_147_9 {S : Scr} {d : Nat} {a0 : AV} {st : List AV} {sh : Shp} {I : IM} {R : RM} {x : Int} : ev S d 147 9 [a0, .inl x] st (sh, I, R) = ev S d 147 10 [a0, .inl x] (.inl x :: st) (sh, I, R) := (ev_eq f_147_9).trans rfl
theorem f_147_10 : fetch 147 10 = some (10, .iconst 1, 1, [], 1) := (fm_147 10).trans rfl
theorem u_147_10 {S : Scr} {d : Nat} {a0 a1 : AV} {st : List AV} {sh : Shp} {I : IM} {R : RM} : ev S d 147 10 [a0, a1] st (sh, I, R) = ev S d 147 11 [a0, a1] (.inl 1 :: st) (sh, I, R) := (ev_eq f_147_10).trans rfl
theorem f_147_11 : fetch 147 11 = some (11, .iconst 3, 1, [], 3) := (fm_147 11).trans rfl
theorem u_147_11 {S : Scr} {d : Nat} {a0 a1 : AV} {st : List AV} {sh : Shp} {I : IM} {R : RM} : ev S d 147 11 [a0, a1] st (sh, I, R) = ev S d 147 12 [a0, a1] (.inl 3 :: st) (sh, I, R) := (ev_eq f_147_11).trans rfl
theorem f_147_12 : fetch 147 12 = some (12, .invokestatic 64, 3, [129, 3, 125], 0) := (fm_147 12).trans rfl
theorem u_147_12 {S : Scr} {d : Nat} {a0 a1 : AV} {st : List AV} {sh : Shp} {I : IM} {R : RM} {x0 : Int} {x1 : Int} {x2 : Int} (hr : st.length ≤ 8) : ev S d 147 12 [a0, a1] (.inl x2 :: .inl x1 :: .inl x0 :: st) (sh, I, R) = bnd (cl d 129 [.inl x0, .inl x1, .inl x2] (sh, I, R)) (fun v M => ev S d 147 15 [a0, a1] (psh v st) M) := (ev_eq f_147_12).trans (congrArg (fin S d 147) (if_pos ⟨rfl, hr⟩))
theorem f_147_15 : fetch 147 15 = some (15, .ifCond .eq 7, 3, [22], 0) := (fm_147 15).trans rfl
theorem u_147_15 {S : Scr} {d : Nat} {a0 a1 : AV} {st : List AV} {sh : Shp} {I : IM} {R : RM} {x : Int} : ev S d 147 15 [a0, a1] (.inl x :: st) (sh, I, R) = if x = 0 then ev S d 147 22 [a0, a1] st (sh, I, R) else ev S d 147 18 [a0, a1] st (sh, I, R) := (ev_eq f_147_15).trans fin_if_eq
theorem f_147_18 : fetch 147 18 = some (18, .iconst 1, 1, [], 1) := (fm_147 18).trans rfl
theorem u_147_18 {S : Scr} {d : Nat} {a0 a1 : AV} {st : List AV} {sh : Shp} {I : IM} {R : RM} : ev S d 147 18 [a0, a1] st (sh, I, R) = ev S d 147 19 [a0, a1] (.inl 1 :: st) (sh, I, R) := (ev_eq f_147_18).trans rfl
theorem f_147_19 : fetch 147 19 = some (19, .goto 4, 3, [23], 0) := (fm_147 19).trans rfl
theorem u_147_19 {S : Scr} {d : Nat} {a0 a1 : AV} {st : List AV} {sh : Shp} {I : IM} {R : RM} : ev S d 147 19 [a0, a1] st (sh, I, R) = ev S d 147 23 [a0, a1] st (sh, I, R) := (ev_eq f_147_19).trans rfl
theorem f_147_22 : fetch 147 22 = some (22, .iconst 0, 1, [], 0) := (fm_147 22).trans rfl
theorem u_147_22 {S : Scr} {d : Nat} {a0 a1 : AV} {st : List AV} {sh : Shp} {I : IM} {R : RM} : ev S d 147 22 [a0, a1] st (sh, I, R) = ev S d 147 23 [a0, a1] (.inl 0 :: st) (sh, I, R) := (ev_eq f_147_22).trans rfl
theorem f_147_23 : fetch 147 23 = some (23, .ireturn, 1, [1], 0) := (fm_147 23).trans rfl
theorem u_147_23 {S : Scr} {d : Nat} {a0 a1 : AV} {sh : Shp} {I : IM} {R : RM} {x : Int} (h : x = 0 ∨ x = 1) : ev S d 147 23 [a0, a1] [.inl x] (sh, I, R) = some (some (.inl x), (sh, I, R)) := (ev_eq f_147_23).trans (fin_iret1 h)
theorem c_148 {d : Nat} {a0 a1 a2 a3 a4 : AV} {M : Mem} : cl (d + 1) 148 [a0, a1, a2, a3, a4] M = ev S0 d 148 0 [a0, a1, a2, a3, a4, .inr (.inr 1)] [] M := (cl_eq (as := [a0, a1, a2, a3, a4]) (show 5 ≤ maxOf 148 by decide +kernel)).trans rfl
theorem mt_148 : MT[148]? = some m_148 := rfl
theorem fm_148 (pc : Nat) : fetch 148 pc = lk m_148.2.2.2.2.2 pc := by
  unfold fetch
  rw [mt_148]
theorem f_148_0 : fetch 148 0 = some (0, .iload_n 1, 1, [1], 0) := (fm_148 0).trans rfl
theorem u_148_0 {S : Scr} {d : Nat} {a0 a2 a3 a4 a5 : AV} {st : List AV} {sh : Shp} {I : IM} {R : RM} {x : Int} : ev S d 148 0 [a0, .inl x, a2, a3, a4, a5] st (sh, I, R) = ev S d 148 1 [a0, .inl x, a2, a3, a4, a5] (.inl x :: st) (sh, I, R) := (ev_eq f_148_0).trans rfl
theorem f_148_1 : fetch 148 1 = some (1, .iload_n 2, 1, [2], 0) := (fm_148 1).trans rfl
theorem u_148_1 {S : Scr} {d : Nat} {a0 a1 a3 a4 a5 : AV} {st : List AV} {sh : Shp} {I : IM} {R : RM} {x : Int} : ev S d 148 1 [a0, a1, .inl x, a3, a4, a5] st (sh, I, R) = ev S d 148 2 [a0, a1, .inl x, a3, a4, a5] (.inl x :: st) (sh, I, R) := (ev_eq f_148_1).trans rfl
theorem f_148_2 : fetch 148 2 = some (2, .invokestatic 91, 3, [147, 2, 132], 0) := (fm_148 2).trans rfl
theorem u_148_2 {S : Scr} {d : Nat} {a0 a1 a2 a3 a4 a5 : AV} {st : List AV} {sh : Shp} {I : IM} {R : RM} {x0 : Int} {x1 : Int} (hr : st.length ≤ 8) : ev S d 148 2 [a0, a1, a2, a3, a4, a5] (.inl x1 :: .inl x0 :: st) (sh, I, R) = bnd (cl d 147 [.inl x0, .inl x1] (sh, I, R)) (fun v M => ev S d 148 5 [a0, a1, a2, a3, a4, a5] (psh v st) M) := (ev_eq f_148_2).trans (congrArg (fin S d 148) (if_pos ⟨rfl, hr⟩))
theorem f_148_5 : fetch 148 5 = some (5, .ifCond .eq 18, 3, [23], 0) := (fm_148 5).trans rfl
theorem u_148_5 {S : Scr} {d : Nat} {a0 a1 a2 a3 a4 a5 : AV} {st : List AV} {sh : Shp} {I : IM} {R : RM} {x : Int} : ev S d 148 5 [a0, a1, a2, a3, a4, a5] (.inl x :: st) (sh, I, R) = if x = 0 then ev S d 148 23 [a0, a1, a2, a3, a4, a5] st (sh, I, R) else ev S d 148 8 [a0, a1, a2, a3, a4, a5] st (sh, I, R) := (ev_eq f_148_5).trans fin_if_eq
theorem f_148_8 : fetch 148 8 = some (8, .iload_n 3, 1, [3], 0) := (fm_148 8).trans rfl
theorem u_148_8 {S : Scr} {d : Nat} {a0 a1 a2 a4 a5 : AV} {st : List AV} {sh : Shp} {I : IM} {R : RM} {x : Int} : ev S d 148 8 [a0, a1, a2, .inl x, a4, a5] st (sh, I, R) = ev S d 148 9 [a0, a1, a2, .inl x, a4, a5] (.inl x :: st) (sh, I, R) := (ev_eq f_148_8).trans rfl
theorem f_148_9 : fetch 148 9 = some (9, .invokestatic 95, 3, [131, 1, 133], 0) := (fm_148 9).trans rfl
theorem u_148_9 {S : Scr} {d : Nat} {a0 a1 a2 a3 a4 a5 : AV} {st : List AV} {sh : Shp} {I : IM} {R : RM} {x0 : Int} (hr : st.length ≤ 8) : ev S d 148 9 [a0, a1, a2, a3, a4, a5] (.inl x0 :: st) (sh, I, R) = bnd (cl d 131 [.inl x0] (sh, I, R)) (fun v M => ev S d 148 12 [a0, a1, a2, a3, a4, a5] (psh v st) M) := (ev_eq f_148_9).trans (congrArg (fin S d 148) (if_pos ⟨rfl, hr⟩))
theorem f_148_12 : fetch 148 12 = some (12, .ifCond .eq 11, 3, [23], 0) := (fm_148 12).trans rfl
theorem u_148_12 {S : Scr} {d : Nat} {a0 a1 a2 a3 a4 a5 : AV} {st : List AV} {sh : Shp} {I : IM} {R : RM} {x : Int} : ev S d 148 12 [a0, a1, a2, a3, a4, a5] (.inl x :: st) (sh, I, R) = if x = 0 then ev S d 148 23 [a0, a1, a2, a3, a4, a5] st (sh, I, R) else ev S d 148 15 [a0, a1, a2, a3, a4, a5] st (sh, I, R) := (ev_eq f_148_12).trans fin_if_eq
theorem f_148_15 : fetch 148 15 = some (15, .iload 4, 2, [4], 0) := (fm_148 15).trans rfl
theorem u_148_15 {S : Scr} {d : Nat} {a0 a1 a2 a3 a5 : AV} {st : List AV} {sh : Shp} {I : IM} {R : RM} {x : Int} : ev S d 148 15 [a0, a1, a2, a3, .inl x, a5] st (sh, I, R) = ev S d 148 17 [a0, a1, a2, a3, .inl x, a5] (.inl x :: st) (sh, I, R) := (ev_eq f_148_15).trans rfl
theorem f_148_17 : fetch 148 17 = some (17, .invokestatic 98, 3, [132, 1, 134], 0) := (fm_148 17).trans rfl
theorem u_148_17 {S : Scr} {d : Nat} {a0 a1 a2 a3 a4 a5 : AV} {st : List AV} {sh : Shp} {I : IM} {R : RM} {x0 : Int} (hr : st.length ≤ 8) : ev S d 148 17 [a0, a1, a2, a3, a4, a5] (.inl x0 :: st) (sh, I, R) = bnd (cl d 132 [.inl x0] (sh, I, R)) (fun v M => ev S d 148 20 [a0, a1, a2, a3, a4, a5] (psh v st) M) := (ev_eq f_148_17).trans (congrArg (fin S d 148) (if_pos ⟨rfl, hr⟩))
theorem f_148_20 : fetch 148 20 = some (20, .ifCond .ne 5, 3, [25], 0) := (fm_148 20).trans rfl
theorem u_148_20 {S : Scr} {d : Nat} {a0 a1 a2 a3 a4 a5 : AV} {st : List AV} {sh : Shp} {I : IM} {R : RM} {x : Int} : ev S d 148 20 [a0, a1, a2, a3, a4, a5] (.inl x :: st) (sh, I, R) = if ¬ x = 0 then ev S d 148 25 [a0, a1, a2, a3, a4, a5] st (sh, I, R) else ev S d 148 23 [a0, a1, a2, a3, a4, a5] st (sh, I, R) := (ev_eq f_148_20).trans fin_if_ne
theorem f_148_23 : fetch 148 23 = some (23, .iconst (-1), 1, [], (-1)) := (fm_148 23).trans rfl
theorem u_148_23 {S : Scr} {d : Nat} {a0 a1 a2 a3 a4 a5 : AV} {st : List AV} {sh : Shp} {I : IM} {R : RM} : ev S d 148 23 [a0, a1, a2, a3, a4, a5] st (sh, I, R) = ev S d 148 24 [a0, a1, a2, a3, a4, a5] (.inl (-1) :: st) (sh, I, R) := (ev_eq f_148_23).trans rfl
theorem f_148_24 : fetch 148 24 = some (24, .ireturn, 1, [0], 0) := (fm_148 24).trans rfl
theorem u_148_24 {S : Scr} {d : Nat} {a0 a1 a2 a3 a4 a5 : AV} {sh : Shp} {I : IM} {R : RM} {x : Int} : ev S d 148 24 [a0, a1, a2, a3, a4, a5] [.inl x] (sh, I, R) = some (some (.inl x), (sh, I, R)) := (ev_eq f_148_24).trans fin_iret0
theorem f_148_25 : fetch 148 25 = some (25, .iload_n 1, 1, [1], 0) := (fm_148 25).trans rfl
theorem u_148_25 {S : Scr} {d : Nat} {a0 a2 a3 a4 a5 : AV} {st : List AV} {sh : Shp} {I : IM} {R : RM} {x : Int} : ev S d 148 25 [a0, .inl x, a2, a3, a4, a5] st (sh, I, R) = ev S d 148 26 [a0, .inl x, a2, a3, a4, a5] (.inl x :: st) (sh, I, R) := (ev_eq f_148_25).trans rfl
theorem f_148_26 : fetch 148 26 = some (26, .iload_n 2, 1, [2], 0) := (fm_148 26).trans rfl
theorem u_148_26 {S : Scr} {d : Nat} {a0 a1 a3 a4 a5 : AV} {st : List AV} {sh : Shp} {I : IM} {R : RM} {x : Int} : ev S d 148 26 [a0, a1, .inl x, a3, a4, a5] st (sh, I, R) = ev S d 148 27 [a0, a1, .inl x, a3, a4, a5] (.inl x :: st) (sh, I, R) := (ev_eq f_148_26).trans rfl
theorem f_148_27 : fetch 148 27 = some (27, .invokestatic 76, 3, [142, 2, 128], 0) := (fm_148 27).trans rfl
theorem u_148_27 {S : Scr} {d : Nat} {a0 a1 a2 a3 a4 a5 : AV} {st : List AV} {sh : Shp} {I : IM} {R : RM} {x0 : Int} {x1 : Int} (hr : st.length ≤ 8) : ev S d 148 27 [a0, a1, a2, a3, a4, a5] (.inl x1 :: .inl x0 :: st) (sh, I, R) = bnd (cl d 142 [.inl x0, .inl x1] (sh, I, R)) (fun v M => ev S d 148 30 [a0, a1, a2, a3, a4, a5] (psh v st) M) := (ev_eq f_148_27).trans (congrArg (fin S d 148) (if_pos ⟨rfl, hr⟩))
theorem f_148_30 : fetch 148 30 = some (30, .istore 5, 2, [5], 0) := (fm_148 30).trans rfl
theorem u_148_30 {S : Scr} {d : Nat} {a0 a1 a2 a3 a4 a5 : AV} {st : List AV} {sh : Shp} {I : IM} {R : RM} {x : Int} : ev S d 148 30 [a0, a1, a2, a3, a4, a5] (.inl x :: st) (sh, I, R) = ev S d 148 32 [a0, a1, a2, a3, a4, .inl x] st (sh, I, R) := (ev_eq f_148_30).trans rfl
theorem f_148_32 : fetch 148 32 = some (32, .aload_n 0, 1, [0], 0) := (fm_148 32).trans rfl
theorem u_148_32 {S : Scr} {d : Nat} {a1 a2 a3 a4 a5 : AV} {st : List AV} {sh : Shp} {I : IM} {R : RM} {x : Nat} : ev S d 148 32 [.inr (.inl x), a1, a2, a3, a4, a5] st (sh, I, R) = ev S d 148 33 [.inr (.inl x), a1, a2, a3, a4, a5] (.inr (.inl x) :: st) (sh, I, R) := (ev_eq f_148_32).trans rfl
theorem f_148_33 : fetch 148 33 = some (33, .iload 5, 2, [5], 0) := (fm_148 33).trans rfl
theorem u_148_33 {S : Scr} {d : Nat} {a0 a1 a2 a3 a4 : AV} {st : List AV} {sh : Shp} {I : IM} {R : RM} {x : Int} : ev S d 148 33 [a0, a1, a2, a3, a4, .inl x] st (sh, I, R) = ev S d 148 35 [a0, a1, a2, a3, a4, .inl x] (.inl x :: st) (sh, I, R) := (ev_eq f_148_33).trans rfl
theorem f_148_35 : fetch 148 35 = some (35, .iload_n 3, 1, [3], 0) := (fm_148 35).trans rfl
theorem u_148_35 {S : Scr} {d : Nat} {a0 a1 a2 a4 a5 : AV} {st : List AV} {sh : Shp} {I : IM} {R : RM} {x : Int} : ev S d 148 35 [a0, a1, a2, .inl x, a4, a5] st (sh, I, R) = ev S d 148 36 [a0, a1, a2, .inl x, a4, a5] (.inl x :: st) (sh, I, R) := (ev_eq f_148_35).trans rfl
theorem f_148_36 : fetch 148 36 = some (36, .invokevirtual 101, 3, [144, 2, 135], 0) := (fm_148 36).trans rfl
theorem u_148_36 {S : Scr} {d : Nat} {a0 a1 a2 a3 a4 a5 : AV} {st : List AV} {sh : Shp} {I : IM} {R : RM} {x0 : Int} {x1 : Int} {k : Nat} (h : tg sh k = 9) (hr : st.length ≤ 8) : ev S d 148 36 [a0, a1, a2, a3, a4, a5] (.inl x1 :: .inl x0 :: .inr (.inl k) :: st) (sh, I, R) = bnd (cl d 144 [.inr (.inl k), .inl x0, .inl x1] (sh, I, R)) (fun v M => ev S d 148 39 [a0, a1, a2, a3, a4, a5] (psh v st) M) := (ev_eq f_148_36).trans (congrArg (fin S d 148) (if_pos ⟨h, rfl, hr⟩))
theorem f_148_39 : fetch 148 39 = some (39, .ifCond .lt 6, 3, [45], 0) := (fm_148 39).trans rfl
theorem u_148_39 {S : Scr} {d : Nat} {a0 a1 a2 a3 a4 a5 : AV} {st : List AV} {sh : Shp} {I : IM} {R : RM} {x : Int} : ev S d 148 39 [a0, a1, a2, a3, a4, a5] (.inl x :: st) (sh, I, R) = if x < 0 then ev S d 148 45 [a0, a1, a2, a3, a4, a5] st (sh, I, R) else ev S d 148 42 [a0, a1, a2, a3, a4, a5] st (sh, I, R) := (ev_eq f_148_39).trans fin_if_lt
theorem f_148_42 : fetch 148 42 = some (42, .bipush (-5), 2, [], (-5)) := (fm_148 42).trans rfl
theorem u_148_42 {S : Scr} {d : Nat} {a0 a1 a2 a3 a4 a5 : AV} {st : List AV} {sh : Shp} {I : IM} {R : RM} : ev S d 148 42 [a0, a1, a2, a3, a4, a5] st (sh, I, R) = ev S d 148 44 [a0, a1, a2, a3, a4, a5] (.inl (-5) :: st) (sh, I, R) := (ev_eq f_148_42).trans rfl
theorem f_148_44 : fetch 148 44 = some (44, .ireturn, 1, [0], 0) := (fm_148 44).trans rfl
theorem u_148_44 {S : Scr} {d : Nat} {a0 a1 a2 a3 a4 a5 : AV} {sh : Shp} {I : IM} {R : RM} {x : Int} : ev S d 148 44 [a0, a1, a2, a3, a4, a5] [.inl x] (sh, I, R) = some (some (.inl x), (sh, I, R)) := (ev_eq f_148_44).trans fin_iret0
theorem f_148_45 : fetch 148 45 = some (45, .aload_n 0, 1, [0], 0) := (fm_148 45).trans rfl
theorem u_148_45 {S : Scr} {d : Nat} {a1 a2 a3 a4 a5 : AV} {st : List AV} {sh : Shp} {I : IM} {R : RM} {x : Nat} : ev S d 148 45 [.inr (.inl x), a1, a2, a3, a4, a5] st (sh, I, R) = ev S d 148 46 [.inr (.inl x), a1, a2, a3, a4, a5] (.inr (.inl x) :: st) (sh, I, R) := (ev_eq f_148_45).trans rfl
theorem f_148_46 : fetch 148 46 = some (46, .getfield 9, 3, [9, 0, 1, 79], 0) := (fm_148 46).trans rfl
theorem u_148_46 {S : Scr} {d : Nat} {a0 a1 a2 a3 a4 a5 : AV} {st : List AV} {sh : Shp} {I : IM} {R : RM} {k : Nat} (h : tg sh k = 9) : ev S d 148 46 [a0, a1, a2, a3, a4, a5] (.inr (.inl k) :: st) (sh, I, R) = ev S d 148 49 [a0, a1, a2, a3, a4, a5] (rv (R k 0) :: st) (sh, I, R) := (ev_eq f_148_46).trans (congrArg (fin S d 148) (if_pos h))
theorem f_148_49 : fetch 148 49 = some (49, .sipush 660, 3, [], 660) := (fm_148 49).trans rfl
theorem u_148_49 {S : Scr} {d : Nat} {a0 a1 a2 a3 a4 a5 : AV} {st : List AV} {sh : Shp} {I : IM} {R : RM} : ev S d 148 49 [a0, a1, a2, a3, a4, a5] st (sh, I, R) = ev S d 148 52 [a0, a1, a2, a3, a4, a5] (.inl 660 :: st) (sh, I, R) := (ev_eq f_148_49).trans rfl
theorem f_148_52 : fetch 148 52 = some (52, .iload 5, 2, [5], 0) := (fm_148 52).trans rfl
theorem u_148_52 {S : Scr} {d : Nat} {a0 a1 a2 a3 a4 : AV} {st : List AV} {sh : Shp} {I : IM} {R : RM} {x : Int} : ev S d 148 52 [a0, a1, a2, a3, a4, .inl x] st (sh, I, R) = ev S d 148 54 [a0, a1, a2, a3, a4, .inl x] (.inl x :: st) (sh, I, R) := (ev_eq f_148_52).trans rfl
theorem f_148_54 : fetch 148 54 = some (54, .iadd, 1, [], 0) := (fm_148 54).trans rfl
theorem u_148_54 {S : Scr} {d : Nat} {a0 a1 a2 a3 a4 a5 : AV} {st : List AV} {sh : Shp} {I : IM} {R : RM} {x y : Int} : ev S d 148 54 [a0, a1, a2, a3, a4, a5] (.inl y :: .inl x :: st) (sh, I, R) = ev S d 148 55 [a0, a1, a2, a3, a4, a5] (.inl (wr (x + y)) :: st) (sh, I, R) := (ev_eq f_148_54).trans rfl
theorem f_148_55 : fetch 148 55 = some (55, .iaload, 1, [], 0) := (fm_148 55).trans rfl
theorem u_148_55 {S : Scr} {d : Nat} {a0 a1 a2 a3 a4 a5 : AV} {st : List AV} {sh : Shp} {I : IM} {R : RM} {k : Nat} {i : Int} (h : tg sh k = 100) (h0 : 0 ≤ i) (h1 : i < ln sh k) : ev S d 148 55 [a0, a1, a2, a3, a4, a5] (.inl i :: .inr (.inl k) :: st) (sh, I, R) = ev S d 148 56 [a0, a1, a2, a3, a4, a5] (.inl (I k i) :: st) (sh, I, R) := (ev_eq f_148_55).trans (congrArg (fin S d 148) (if_pos ⟨h, h0, h1⟩))
theorem f_148_56 : fetch 148 56 = some (56, .iconst 4, 1, [], 4) := (fm_148 56).trans rfl
theorem u_148_56 {S : Scr} {d : Nat} {a0 a1 a2 a3 a4 a5 : AV} {st : List AV} {sh : Shp} {I : IM} {R : RM} : ev S d 148 56 [a0, a1, a2, a3, a4, a5] st (sh, I, R) = ev S d 148 57 [a0, a1, a2, a3, a4, a5] (.inl 4 :: st) (sh, I, R) := (ev_eq f_148_56).trans rfl
theorem f_148_57 : fetch 148 57 = some (57, .if_icmp .ne 6, 3, [63], 0) := (fm_148 57).trans rfl
theorem u_148_57 {S : Scr} {d : Nat} {a0 a1 a2 a3 a4 a5 : AV} {st : List AV} {sh : Shp} {I : IM} {R : RM} {x y : Int} : ev S d 148 57 [a0, a1, a2, a3, a4, a5] (.inl y :: .inl x :: st) (sh, I, R) = if ¬ x = y then ev S d 148 63 [a0, a1, a2, a3, a4, a5] st (sh, I, R) else ev S d 148 60 [a0, a1, a2, a3, a4, a5] st (sh, I, R) := (ev_eq f_148_57).trans fin_icmp_ne
theorem f_148_60 : fetch 148 60 = some (60, .bipush (-3), 2, [], (-3)) := (fm_148 60).trans rfl
theorem u_148_60 {S : Scr} {d : Nat} {a0 a1 a2 a3 a4 a5 : AV} {st : List AV} {sh : Shp} {I : IM} {R : RM} : ev S d 148 60 [a0, a1, a2, a3, a4, a5] st (sh, I, R) = ev S d 148 62 [a0, a1, a2, a3, a4, a5] (.inl (-3) :: st) (sh, I, R) := (ev_eq f_148_60).trans rfl
theorem f_148_62 : fetch 148 62 = some (62, .ireturn, 1, [0], 0) := (fm_148 62).trans rfl
theorem u_148_62 {S : Scr} {d : Nat} {a0 a1 a2 a3 a4 a5 : AV} {sh : Shp} {I : IM} {R : RM} {x : Int} : ev S d 148 62 [a0, a1, a2, a3, a4, a5] [.inl x] (sh, I, R) = some (some (.inl x), (sh, I, R)) := (ev_eq f_148_62).trans fin_iret0
theorem f_148_63 : fetch 148 63 = some (63, .aload_n 0, 1, [0], 0) := (fm_148 63).trans rfl
theorem u_148_63 {S : Scr} {d : Nat} {a1 a2 a3 a4 a5 : AV} {st : List AV} {sh : Shp} {I : IM} {R : RM} {x : Nat} : ev S d 148 63 [.inr (.inl x), a1, a2, a3, a4, a5] st (sh, I, R) = ev S d 148 64 [.inr (.inl x), a1, a2, a3, a4, a5] (.inr (.inl x) :: st) (sh, I, R) := (ev_eq f_148_63).trans rfl
theorem f_148_64 : fetch 148 64 = some (64, .getfield 9, 3, [9, 0, 1, 79], 0) := (fm_148 64).trans rfl
theorem u_148_64 {S : Scr} {d : Nat} {a0 a1 a2 a3 a4 a5 : AV} {st : List AV} {sh : Shp} {I : IM} {R : RM} {k : Nat} (h : tg sh k = 9) : ev S d 148 64 [a0, a1, a2, a3, a4, a5] (.inr (.inl k) :: st) (sh, I, R) = ev S d 148 67 [a0, a1, a2, a3, a4, a5] (rv (R k 0) :: st) (sh, I, R) := (ev_eq f_148_64).trans (congrArg (fin S d 148) (if_pos h))
theorem f_148_67 : fetch 148 67 = some (67, .sipush 669, 3, [], 669) := (fm_148 67).trans rfl
theorem u_148_67 {S : Scr} {d : Nat} {a0 a1 a2 a3 a4 a5 : AV} {st : List AV} {sh : Shp} {I : IM} {R : RM} : ev S d 148 67 [a0, a1, a2, a3, a4, a5] st (sh, I, R) = ev S d 148 70 [a0, a1, a2, a3, a4, a5] (.inl 669 :: st) (sh, I, R) := (ev_eq f_148_67).trans rfl
theorem f_148_70 : fetch 148 70 = some (70, .iconst 4, 1, [], 4) := (fm_148 70).trans rfl
theorem u_148_70 {S : Scr} {d : Nat} {a0 a1 a2 a3 a4 a5 : AV} {st : List AV} {sh : Shp} {I : IM} {R : RM} : ev S d 148 70 [a0, a1, a2, a3, a4, a5] st (sh, I, R) = ev S d 148 71 [a0, a1, a2, a3, a4, a5] (.inl 4 :: st) (sh, I, R) := (ev_eq f_148_70).trans rfl
theorem f_148_71 : fetch 148 71 = some (71, .iload 5, 2, [5], 0) := (fm_148 71).trans rfl
theorem u_148_71 {S : Scr} {d : Nat} {a0 a1 a2 a3 a4 : AV} {st : List AV} {sh : Shp} {I : IM} {R : RM} {x : Int} : ev S d 148 71 [a0, a1, a2, a3, a4, .inl x] st (sh, I, R) = ev S d 148 73 [a0, a1, a2, a3, a4, .inl x] (.inl x :: st) (sh, I, R) := (ev_eq f_148_71).trans rfl
theorem f_148_73 : fetch 148 73 = some (73, .imul, 1, [], 0) := (fm_148 73).trans rfl
theorem u_148_73 {S : Scr} {d : Nat} {a0 a1 a2 a3 a4 a5 : AV} {st : List AV} {sh : Shp} {I : IM} {R : RM} {x y : Int} : ev S d 148 73 [a0, a1, a2, a3, a4, a5] (.inl y :: .inl x :: st) (sh, I, R) = ev S d 148 74 [a0, a1, a2, a3, a4, a5] (.inl (wr (x * y)) :: st) (sh, I, R) := (ev_eq f_148_73).trans rfl
theorem f_148_74 : fetch 148 74 = some (74, .iadd, 1, [], 0) := (fm_148 74).trans rfl
theorem u_148_74 {S : Scr} {d : Nat} {a0 a1 a2 a3 a4 a5 : AV} {st : List AV} {sh : Shp} {I : IM} {R : RM} {x y : Int} : ev S d 148 74 [a0, a1, a2, a3, a4, a5] (.inl y :: .inl x :: st) (sh, I, R) = ev S d 148 75 [a0, a1, a2, a3, a4, a5] (.inl (wr (x + y)) :: st) (sh, I, R) := (ev_eq f_148_74).trans rfl
theorem f_148_75 : fetch 148 75 = some (75, .aload_n 0, 1, [0], 0) := (fm_148 75).trans rfl
theorem u_148_75 {S : Scr} {d : Nat} {a1 a2 a3 a4 a5 : AV} {st : List AV} {sh : Shp} {I : IM} {R : RM} {x : Nat} : ev S d 148 75 [.inr (.inl x), a1, a2, a3, a4, a5] st (sh, I, R) = ev S d 148 76 [.inr (.inl x), a1, a2, a3, a4, a5] (.inr (.inl x) :: st) (sh, I, R) := (ev_eq f_148_75).trans rfl
theorem f_148_76 : fetch 148 76 = some (76, .getfield 9, 3, [9, 0, 1, 79], 0) := (fm_148 76).trans rfl
theorem u_148_76 {S : Scr} {d : Nat} {a0 a1 a2 a3 a4 a5 : AV} {st : List AV} {sh : Shp} {I : IM} {R : RM} {k : Nat} (h : tg sh k = 9) : ev S d 148 76 [a0, a1, a2, a3, a4, a5] (.inr (.inl k) :: st) (sh, I, R) = ev S d 148 79 [a0, a1, a2, a3, a4, a5] (rv (R k 0) :: st) (sh, I, R) := (ev_eq f_148_76).trans (congrArg (fin S d 148) (if_pos h))
theorem f_148_79 : fetch 148 79 = some (79, .sipush 660, 3, [], 660) := (fm_148 79).trans rfl
theorem u_148_79 {S : Scr} {d : Nat} {a0 a1 a2 a3 a4 a5 : AV} {st : List AV} {sh : Shp} {I : IM} {R : RM} : ev S d 148 79 [a0, a1, a2, a3, a4, a5] st (sh, I, R) = ev S d 148 82 [a0, a1, a2, a3, a4, a5] (.inl 660 :: st) (sh, I, R) := (ev_eq f_148_79).trans rfl
theorem f_148_82 : fetch 148 82 = some (82, .iload 5, 2, [5], 0) := (fm_148 82).trans rfl
theorem u_148_82 {S : Scr} {d : Nat} {a0 a1 a2 a3 a4 : AV} {st : List AV} {sh : Shp} {I : IM} {R : RM} {x : Int} : ev S d 148 82 [a0, a1, a2, a3, a4, .inl x] st (sh, I, R) = ev S d 148 84 [a0, a1, a2, a3, a4, .inl x] (.inl x :: st) (sh, I, R) := (ev_eq f_148_82).trans rfl
theorem f_148_84 : fetch 148 84 = some (84, .iadd, 1, [], 0) := (fm_148 84).trans rfl
theorem u_148_84 {S : Scr} {d : Nat} {a0 a1 a2 a3 a4 a5 : AV} {st : List AV} {sh : Shp} {I : IM} {R : RM} {x y : Int} : ev S d 148 84 [a0, a1, a2, a3, a4, a5] (.inl y :: .inl x :: st) (sh, I, R) = ev S d 148 85 [a0, a1, a2, a3, a4, a5] (.inl (wr (x + y)) :: st) (sh, I, R) := (ev_eq f_148_84).trans rfl
theorem f_148_85 : fetch 148 85 = some (85, .iaload, 1, [], 0) := (fm_148 85).trans rfl
theorem u_148_85 {S : Scr} {d : Nat} {a0 a1 a2 a3 a4 a5 : AV} {st : List AV} {sh : Shp} {I : IM} {R : RM} {k : Nat} {i : Int} (h : tg sh k = 100) (h0 : 0 ≤ i) (h1 : i < ln sh k) : ev S d 148 85 [a0, a1, a2, a3, a4, a5] (.inl i :: .inr (.inl k) :: st) (sh, I, R) = ev S d 148 86 [a0, a1, a2, a3, a4, a5] (.inl (I k i) :: st) (sh, I, R) := (ev_eq f_148_85).trans (congrArg (fin S d 148) (if_pos ⟨h, h0, h1⟩))
theorem f_148_86 : fetch 148 86 = some (86, .iadd, 1, [], 0) := (fm_148 86).trans rfl
theorem u_148_86 {S : Scr} {d : Nat} {a0 a1 a2 a3 a4 a5 : AV} {st : List AV} {sh : Shp} {I : IM} {R : RM} {x y : Int} : ev S d 148 86 [a0, a1, a2, a3, a4, a5] (.inl y :: .inl x :: st) (sh, I, R) = ev S d 148 87 [a0, a1, a2, a3, a4, a5] (.inl (wr (x + y)) :: st) (sh, I, R) := (ev_eq f_148_86).trans rfl
theorem f_148_87 : fetch 148 87 = some (87, .iload_n 3, 1, [3], 0) := (fm_148 87).trans rfl
theorem u_148_87 {S : Scr} {d : Nat} {a0 a1 a2 a4 a5 : AV} {st : List AV} {sh : Shp} {I : IM} {R : RM} {x : Int} : ev S d 148 87 [a0, a1, a2, .inl x, a4, a5] st (sh, I, R) = ev S d 148 88 [a0, a1, a2, .inl x, a4, a5] (.inl x :: st) (sh, I, R) := (ev_eq f_148_87).trans rfl
theorem f_148_88 : fetch 148 88 = some (88, .iastore, 1, [], 0) := (fm_148 88).trans rfl
theorem u_148_88 {S : Scr} {d : Nat} {a0 a1 a2 a3 a4 a5 : AV} {st : List AV} {sh : Shp} {I : IM} {R : RM} {k : Nat} {i x : Int} (h : tg sh k = 100) (h0 : 0 ≤ i) (h1 : i < ln sh k) : ev S d 148 88 [a0, a1, a2, a3, a4, a5] (.inl x :: .inl i :: .inr (.inl k) :: st) (sh, I, R) = ev S d 148 89 [a0, a1, a2, a3, a4, a5] st (sh, up I k i x, R) := (ev_eq f_148_88).trans (congrArg (fin S d 148) (if_pos ⟨h, h0, h1⟩))
theorem f_148_89 : fetch 148 89 = some (89, .aload_n 0, 1, [0], 0) := (fm_148 89).trans rfl
theorem u_148_89 {S : Scr} {d : Nat} {a1 a2 a3 a4 a5 : AV} {st : List AV} {sh : Shp} {I : IM} {R : RM} {x : Nat} : ev S d 148 89 [.inr (.inl x), a1, a2, a3, a4, a5] st (sh, I, R) = ev S d 148 90 [.inr (.inl x), a1, a2, a3, a4, a5] (.inr (.inl x) :: st) (sh, I, R) := (ev_eq f_148_89).trans rfl
theorem f_148_90 : fetch 148 90 = some (90, .getfield 9, 3, [9, 0, 1, 79], 0) := (fm_148 90).trans rfl
theorem u_148_90 {S : Scr} {d : Nat} {a0 a1 a2 a3 a4 a5 : AV} {st : List AV} {sh : Shp} {I : IM} {R : RM} {k : Nat} (h : tg sh k = 9) : ev S d 148 90 [a0, a1, a2, a3, a4, a5] (.inr (.inl k) :: st) (sh, I, R) = ev S d 148 93 [a0, a1, a2, a3, a4, a5] (rv (R k 0) :: st) (sh, I, R) := (ev_eq f_148_90).trans (congrArg (fin S d 148) (if_pos h))
theorem f_148_93 : fetch 148 93 = some (93, .sipush 705, 3, [], 705) := (fm_148 93).trans rfl
theorem u_148_93 {S : Scr} {d : Nat} {a0 a1 a2 a3 a4 a5 : AV} {st : List AV} {sh : Shp} {I : IM} {R : RM} : ev S d 148 93 [a0, a1, a2, a3, a4, a5] st (sh, I, R) = ev S d 148 96 [a0, a1, a2, a3, a4, a5] (.inl 705 :: st) (sh, I, R) := (ev_eq f_148_93).trans rfl
theorem f_148_96 : fetch 148 96 = some (96, .iconst 4, 1, [], 4) := (fm_148 96).trans rfl
theorem u_148_96 {S : Scr} {d : Nat} {a0 a1 a2 a3 a4 a5 : AV} {st : List AV} {sh : Shp} {I : IM} {R : RM} : ev S d 148 96 [a0, a1, a2, a3, a4, a5] st (sh, I, R) = ev S d 148 97 [a0, a1, a2, a3, a4, a5] (.inl 4 :: st) (sh, I, R) := (ev_eq f_148_96).trans rfl
theorem f_148_97 : fetch 148 97 = some (97, .iload 5, 2, [5], 0) := (fm_148 97).trans rfl
theorem u_148_97 {S : Scr} {d : Nat} {a0 a1 a2 a3 a4 : AV} {st : List AV} {sh : Shp} {I : IM} {R : RM} {x : Int} : ev S d 148 97 [a0, a1, a2, a3, a4, .inl x] st (sh, I, R) = ev S d 148 99 [a0, a1, a2, a3, a4, .inl x] (.inl x :: st) (sh, I, R) := (ev_eq f_148_97).trans rfl
theorem f_148_99 : fetch 148 99 = some (99, .imul, 1, [], 0) := (fm_148 99).trans rfl
theorem u_148_99 {S : Scr} {d : Nat} {a0 a1 a2 a3 a4 a5 : AV} {st : List AV} {sh : Shp} {I : IM} {R : RM} {x y : Int} : ev S d 148 99 [a0, a1, a2, a3, a4, a5] (.inl y :: .inl x :: st) (sh, I, R) = ev S d 148 100 [a0, a1, a2, a3, a4, a5] (.inl (wr (x * y)) :: st) (sh, I, R) := (ev_eq f_148_99).trans rfl
theorem f_148_100 : fetch 148 100 = some (100, .iadd, 1, [], 0) := (fm_148 100).trans rfl
theorem u_148_100 {S : Scr} {d : Nat} {a0 a1 a2 a3 a4 a5 : AV} {st : List AV} {sh : Shp} {I : IM} {R : RM} {x y : Int} : ev S d 148 100 [a0, a1, a2, a3, a4, a5] (.inl y :: .inl x :: st) (sh, I, R) = ev S d 148 101 [a0, a1, a2, a3, a4, a5] (.inl (wr (x + y)) :: st) (sh, I, R) := (ev_eq f_148_100).trans rfl
theorem f_148_101 : fetch 148 101 = some (101, .aload_n 0, 1, [0], 0) := (fm_148 101).trans rfl
theorem u_148_101 {S : Scr} {d : Nat} {a1 a2 a3 a4 a5 : AV} {st : List AV} {sh : Shp} {I : IM} {R : RM} {x : Nat} : ev S d 148 101 [.inr (.inl x), a1, a2, a3, a4, a5] st (sh, I, R) = ev S d 148 102 [.inr (.inl x), a1, a2, a3, a4, a5] (.inr (.inl x) :: st) (sh, I, R) := (ev_eq f_148_101).trans rfl
theorem f_148_102 : fetch 148 102 = some (102, .getfield 9, 3, [9, 0, 1, 79], 0) := (fm_148 102).trans rfl
theorem u_148_102 {S : Scr} {d : Nat} {a0 a1 a2 a3 a4 a5 : AV} {st : List AV} {sh : Shp} {I : IM} {R : RM} {k : Nat} (h : tg sh k = 9) : ev S d 148 102 [a0, a1, a2, a3, a4, a5] (.inr (.inl k) :: st) (sh, I, R) = ev S d 148 105 [a0, a1, a2, a3, a4, a5] (rv (R k 0) :: st) (sh, I, R) := (ev_eq f_148_102).trans (congrArg (fin S d 148) (if_pos h))
theorem f_148_105 : fetch 148 105 = some (105, .sipush 660, 3, [], 660) := (fm_148 105).trans rfl
theorem u_148_105 {S : Scr} {d : Nat} {a0 a1 a2 a3 a4 a5 : AV} {st : List AV} {sh : Shp} {I : IM} {R : RM} : ev S d 148 105 [a0, a1, a2, a3, a4, a5] st (sh, I, R) = ev S d 148 108 [a0, a1, a2, a3, a4, a5] (.inl 660 :: st) (sh, I, R) := (ev_eq f_148_105).trans rfl
theorem f_148_108 : fetch 148 108 = some (108, .iload 5, 2, [5], 0) := (fm_148 108).trans rfl
theorem u_148_108 {S : Scr} {d : Nat} {a0 a1 a2 a3 a4 : AV} {st : List AV} {sh : Shp} {I : IM} {R : RM} {x : Int} : ev S d 148 108 [a0, a1, a2, a3, a4, .inl x] st (sh, I, R) = ev S d 148 110 [a0, a1, a2, a3, a4, .inl x] (.inl x :: st) (sh, I, R) := (ev_eq f_148_108).trans rfl
theorem f_148_110 : fetch 148 110 = some (110, .iadd, 1, [], 0) := (fm_148 110).trans rfl
theorem u_148_110 {S : Scr} {d : Nat} {a0 a1 a2 a3 a4 a5 : AV} {st : List AV} {sh : Shp} {I : IM} {R : RM} {x y : Int} : ev S d 148 110 [a0, a1, a2, a3, a4, a5] (.inl y :: .inl x :: st) (sh, I, R) = ev S d 148 111 [a0, a1, a2, a3, a4, a5] (.inl (wr (x + y)) :: st) (sh, I, R) := (ev_eq f_148_110).trans rfl
theorem f_148_111 : fetch 148 111 = some (111, .iaload, 1, [], 0) := (fm_148 111).trans rfl
theorem u_148_111 {S : Scr} {d : Nat} {a0 a1 a2 a3 a4 a5 : AV} {st : List AV} {sh : Shp} {I : IM} {R : RM} {k : Nat} {i : Int} (h : tg sh k = 100) (h0 : 0 ≤ i) (h1 : i < ln sh k) : ev S d 148 111 [a0, a1, a2, a3, a4, a5] (.inl i :: .inr (.inl k) :: st) (sh, I, R) = ev S d 148 112 [a0, a1, a2, a3, a4, a5] (.inl (I k i) :: st) (sh, I, R) := (ev_eq f_148_111).trans (congrArg (fin S d 148) (if_pos ⟨h, h0, h1⟩))
theorem f_148_112 : fetch 148 112 = some (112, .iadd, 1, [], 0) := (fm_148 112).trans rfl
theorem u_148_112 {S : Scr} {d : Nat} {a0 a1 a2 a3 a4 a5 : AV} {st : List AV} {sh : Shp} {I : IM} {R : RM} {x y : Int} : ev S d 148 112 [a0, a1, a2, a3, a4, a5] (.inl y :: .inl x :: st) (sh, I, R) = ev S d 148 113 [a0, a1, a2, a3, a4, a5] (.inl (wr (x + y)) :: st) (sh, I, R) := (ev_eq f_148_112).trans rfl
theorem f_148_113 : fetch 148 113 = some (113, .iload 4, 2, [4], 0) := (fm_148 113).trans rfl
theorem u_148_113 {S : Scr} {d : Nat} {a0 a1 a2 a3 a5 : AV} {st : List AV} {sh : Shp} {I : IM} {R : RM} {x : Int} : ev S d 148 113 [a0, a1, a2, a3, .inl x, a5] st (sh, I, R) = ev S d 148 115 [a0, a1, a2, a3, .inl x, a5] (.inl x :: st) (sh, I, R) := (ev_eq f_148_113).trans rfl
theorem f_148_115 : fetch 148 115 = some (115, .iastore, 1, [], 0) := (fm_148 115).trans rfl
theorem u_148_115 {S : Scr} {d : Nat} {a0 a1 a2 a3 a4 a5 : AV} {st : List AV} {sh : Shp} {I : IM} {R : RM} {k : Nat} {i x : Int} (h : tg sh k = 100) (h0 : 0 ≤ i) (h1 : i < ln sh k) : ev S d 148 115 [a0, a1, a2, a3, a4, a5] (.inl x :: .inl i :: .inr (.inl k) :: st) (sh, I, R) = ev S d 148 116 [a0, a1, a2, a3, a4, a5] st (sh, up I k i x, R) := (ev_eq f_148_115).trans (congrArg (fin S d 148) (if_pos ⟨h, h0, h1⟩))
theorem f_148_116 : fetch 148 116 = some (116, .aload_n 0, 1, [0], 0) := (fm_148 116).trans rfl
theorem u_148_116 {S : Scr} {d : Nat} {a1 a2 a3 a4 a5 : AV} {st : List AV} {sh : Shp} {I : IM} {R : RM} {x : Nat} : ev S d 148 116 [.inr (.inl x), a1, a2, a3, a4, a5] st (sh, I, R) = ev S d 148 117 [.inr (.inl x), a1, a2, a3, a4, a5] (.inr (.inl x) :: st) (sh, I, R) := (ev_eq f_148_116).trans rfl
theorem f_148_117 : fetch 148 117 = some (117, .getfield 9, 3, [9, 0, 1, 79], 0) := (fm_148 117).trans rfl
theorem u_148_117 {S : Scr} {d : Nat} {a0 a1 a2 a3 a4 a5 : AV} {st : List AV} {sh : Shp} {I : IM} {R : RM} {k : Nat} (h : tg sh k = 9) : ev S d 148 117 [a0, a1, a2, a3, a4, a5] (.inr (.inl k) :: st) (sh, I, R) = ev S d 148 120 [a0, a1, a2, a3, a4, a5] (rv (R k 0) :: st) (sh, I, R) := (ev_eq f_148_117).trans (congrArg (fin S d 148) (if_pos h))
theorem f_148_120 : fetch 148 120 = some (120, .sipush 660, 3, [], 660) := (fm_148 120).trans rfl
theorem u_148_120 {S : Scr} {d : Nat} {a0 a1 a2 a3 a4 a5 : AV} {st : List AV} {sh : Shp} {I : IM} {R : RM} : ev S d 148 120 [a0, a1, a2, a3, a4, a5] st (sh, I, R) = ev S d 148 123 [a0, a1, a2, a3, a4, a5] (.inl 660 :: st) (sh, I, R) := (ev_eq f_148_120).trans rfl
theorem f_148_123 : fetch 148 123 = some (123, .iload 5, 2, [5], 0) := (fm_148 123).trans rfl
theorem u_148_123 {S : Scr} {d : Nat} {a0 a1 a2 a3 a4 : AV} {st : List AV} {sh : Shp} {I : IM} {R : RM} {x : Int} : ev S d 148 123 [a0, a1, a2, a3, a4, .inl x] st (sh, I, R) = ev S d 148 125 [a0, a1, a2, a3, a4, .inl x] (.inl x :: st) (sh, I, R) := (ev_eq f_148_123).trans rfl
theorem f_148_125 : fetch 148 125 = some (125, .iadd, 1, [], 0) := (fm_148 125).trans rfl
theorem u_148_125 {S : Scr} {d : Nat} {a0 a1 a2 a3 a4 a5 : AV} {st : List AV} {sh : Shp} {I : IM} {R : RM} {x y : Int} : ev S d 148 125 [a0, a1, a2, a3, a4, a5] (.inl y :: .inl x :: st) (sh, I, R) = ev S d 148 126 [a0, a1, a2, a3, a4, a5] (.inl (wr (x + y)) :: st) (sh, I, R) := (ev_eq f_148_125).trans rfl
theorem f_148_126 : fetch 148 126 = some (126, .dup2, 1, [], 0) := (fm_148 126).trans rfl
theorem u_148_126 {S : Scr} {d : Nat} {a0 a1 a2 a3 a4 a5 : AV} {st : List AV} {sh : Shp} {I : IM} {R : RM} {x y : AV} : ev S d 148 126 [a0, a1, a2, a3, a4, a5] (y :: x :: st) (sh, I, R) = ev S d 148 127 [a0, a1, a2, a3, a4, a5] (y :: x :: y :: x :: st) (sh, I, R) := (ev_eq f_148_126).trans rfl
theorem f_148_127 : fetch 148 127 = some (127, .iaload, 1, [], 0) := (fm_148 127).trans rfl
theorem u_148_127 {S : Scr} {d : Nat} {a0 a1 a2 a3 a4 a5 : AV} {st : List AV} {sh : Shp} {I : IM} {R : RM} {k : Nat} {i : Int} (h : tg sh k = 100) (h0 : 0 ≤ i) (h1 : i < ln sh k) : ev S d 148 127 [a0, a1, a2, a3, a4, a5] (.inl i :: .inr (.inl k) :: st) (sh, I, R) = ev S d 148 128 [a0, a1, a2, a3, a4, a5] (.inl (I k i) :: st) (sh, I, R) := (ev_eq f_148_127).trans (congrArg (fin S d 148) (if_pos ⟨h, h0, h1⟩))
theorem f_148_128 : fetch 148 128 = some (128, .iconst 1, 1, [], 1) := (fm_148 128).trans rfl
theorem u_148_128 {S : Scr} {d : Nat} {a0 a1 a2 a3 a4 a5 : AV} {st : List AV} {sh : Shp} {I : IM} {R : RM} : ev S d 148 128 [a0, a1, a2, a3, a4, a5] st (sh, I, R) = ev S d 148 129 [a0, a1, a2, a3, a4, a5] (.inl 1 :: st) (sh, I, R) := (ev_eq f_148_128).trans rfl
theorem f_148_129 : fetch 148 129 = some (129, .iadd, 1, [], 0) := (fm_148 129).trans rfl
theorem u_148_129 {S : Scr} {d : Nat} {a0 a1 a2 a3 a4 a5 : AV} {st : List AV} {sh : Shp} {I : IM} {R : RM} {x y : Int} : ev S d 148 129 [a0, a1, a2, a3, a4, a5] (.inl y :: .inl x :: st) (sh, I, R) = ev S d 148 130 [a0, a1, a2, a3, a4, a5] (.inl (wr (x + y)) :: st) (sh, I, R) := (ev_eq f_148_129).trans rfl
theorem f_148_130 : fetch 148 130 = some (130, .iastore, 1, [], 0) := (fm_148 130).trans rfl
theorem u_148_130 {S : Scr} {d : Nat} {a0 a1 a2 a3 a4 a5 : AV} {st : List AV} {sh : Shp} {I : IM} {R : RM} {k : Nat} {i x : Int} (h : tg sh k = 100) (h0 : 0 ≤ i) (h1 : i < ln sh k) : ev S d 148 130 [a0, a1, a2, a3, a4, a5] (.inl x :: .inl i :: .inr (.inl k) :: st) (sh, I, R) = ev S d 148 131 [a0, a1, a2, a3, a4, a5] st (sh, up I k i x, R) := (ev_eq f_148_130).trans (congrArg (fin S d 148) (if_pos ⟨h, h0, h1⟩))
theorem f_148_131 : fetch 148 131 = some (131, .aload_n 0, 1, [0], 0) := (fm_148 131).trans rfl
theorem u_148_131 {S : Scr} {d : Nat} {a1 a2 a3 a4 a5 : AV} {st : List AV} {sh : Shp} {I : IM} {R : RM} {x : Nat} : ev S d 148 131 [.inr (.inl x), a1, a2, a3, a4, a5] st (sh, I, R) = ev S d 148 132 [.inr (.inl x), a1, a2, a3, a4, a5] (.inr (.inl x) :: st) (sh, I, R) := (ev_eq f_148_131).trans rfl
theorem f_148_132 : fetch 148 132 = some (132, .getfield 9, 3, [9, 0, 1, 79], 0) := (fm_148 132).trans rfl
theorem u_148_132 {S : Scr} {d : Nat} {a0 a1 a2 a3 a4 a5 : AV} {st : List AV} {sh : Shp} {I : IM} {R : RM} {k : Nat} (h : tg sh k = 9) : ev S d 148 132 [a0, a1, a2, a3, a4, a5] (.inr (.inl k) :: st) (sh, I, R) = ev S d 148 135 [a0, a1, a2, a3, a4, a5] (rv (R k 0) :: st) (sh, I, R) := (ev_eq f_148_132).trans (congrArg (fin S d 148) (if_pos h))
theorem f_148_135 : fetch 148 135 = some (135, .sipush 660, 3, [], 660) := (fm_148 135).trans rfl
theorem u_148_135 {S : Scr} {d : Nat} {a0 a1 a2 a3 a4 a5 : AV} {st : List AV} {sh : Shp} {I : IM} {R : RM} : ev S d 148 135 [a0, a1, a2, a3, a4, a5] st (sh, I, R) = ev S d 148 138 [a0, a1, a2, a3, a4, a5] (.inl 660 :: st) (sh, I, R) := (ev_eq f_148_135).trans rfl
theorem f_148_138 : fetch 148 138 = some (138, .iload 5, 2, [5], 0) := (fm_148 138).trans rfl
theorem u_148_138 {S : Scr} {d : Nat} {a0 a1 a2 a3 a4 : AV} {st : List AV} {sh : Shp} {I : IM} {R : RM} {x : Int} : ev S d 148 138 [a0, a1, a2, a3, a4, .inl x] st (sh, I, R) = ev S d 148 140 [a0, a1, a2, a3, a4, .inl x] (.inl x :: st) (sh, I, R) := (ev_eq f_148_138).trans rfl
theorem f_148_140 : fetch 148 140 = some (140, .iadd, 1, [], 0) := (fm_148 140).trans rfl
theorem u_148_140 {S : Scr} {d : Nat} {a0 a1 a2 a3 a4 a5 : AV} {st : List AV} {sh : Shp} {I : IM} {R : RM} {x y : Int} : ev S d 148 140 [a0, a1, a2, a3, a4, a5] (.inl y :: .inl x :: st) (sh, I, R) = ev S d 148 141 [a0, a1, a2, a3, a4, a5] (.inl (wr (x + y)) :: st) (sh, I, R) := (ev_eq f_148_140).trans rfl
theorem f_148_141 : fetch 148 141 = some (141, .iaload, 1, [], 0) := (fm_148 141).trans rfl
theorem u_148_141 {S : Scr} {d : Nat} {a0 a1 a2 a3 a4 a5 : AV} {st : List AV} {sh : Shp} {I : IM} {R : RM} {k : Nat} {i : Int} (h : tg sh k = 100) (h0 : 0 ≤ i) (h1 : i < ln sh k) : ev S d 148 141 [a0, a1, a2, a3, a4, a5] (.inl i :: .inr (.inl k) :: st) (sh, I, R) = ev S d 148 142 [a0, a1, a2, a3, a4, a5] (.inl (I k i) :: st) (sh, I, R) := (ev_eq f_148_141).trans (congrArg (fin S d 148) (if_pos ⟨h, h0, h1⟩))
theorem f_148_142 : fetch 148 142 = some (142, .ireturn, 1, [0], 0) := (fm_148 142).trans rfl
theorem u_148_142 {S : Scr} {d : Nat} {a0 a1 a2 a3 a4 a5 : AV} {sh : Shp} {I : IM} {R : RM} {x : Int} : ev S d 148 142 [a0, a1, a2, a3, a4, a5] [.inl x] (sh, I, R) = some (some (.inl x), (sh, I, R)) := (ev_eq f_148_142).trans fin_iret0
theorem c_149 {d : Nat} {a0 a1 a2 : AV} {M : Mem} : cl (d + 1) 149 [a0, a1, a2] M = ev S0 d 149 0 [a0, a1, a2, .inr (.inr 1)] [] M := (cl_eq (as := [a0, a1, a2]) (show 3 ≤ maxOf 149 by decide +kernel)).trans rfl
theorem mt_149 : MT[149]? = some m_149 := rfl
theorem fm_149 (pc : Nat) : fetch 149 pc = lk m_149.2.2.2.2.2 pc := by
  unfold fetch
  rw [mt_149]
theorem f_149_0 : fetch 149 0 = some (0, .iload_n 1, 1, [1], 0) := (fm_149 0).trans rfl
theorem u_149_0 {S : Scr} {d : Nat} {a0 a2 a3 : AV} {st : List AV} {sh : Shp} {I : IM} {R : RM} {x : Int} : ev S d 149 0 [a0, .inl x, a2, a3] st (sh, I, R) = ev S d 149 1 [a0, .inl x, a2, a3] (.inl x :: st) (sh, I, R) := (ev_eq f_149_0).trans rfl
theorem f_149_1 : fetch 149 1 = some (1, .iload_n 2, 1, [2], 0) := (fm_149 1).trans rfl
theorem u_149_1 {S : Scr} {d : Nat} {a0 a1 a3 : AV} {st : List AV} {sh : Shp} {I : IM} {R : RM} {x : Int} : ev S d 149 1 [a0, a1, .inl x, a3] st (sh, I, R) = ev S d 149 2 [a0, a1, .inl x, a3] (.inl x :: st) (sh, I, R) := (ev_eq f_149_1).trans rfl
theorem f_149_2 : fetch 149 2 = some (2, .invokestatic 91, 3, [147, 2, 132], 0) := (fm_149 2).trans rfl
theorem u_149_2 {S : Scr} {d : Nat} {a0 a1 a2 a3 : AV} {st : List AV} {sh : Shp} {I : IM} {R : RM} {x0 : Int} {x1 : Int} (hr : st.length ≤ 8) : ev S d 149 2 [a0, a1, a2, a3] (.inl x1 :: .inl x0 :: st) (sh, I, R) = bnd (cl d 147 [.inl x0, .inl x1] (sh, I, R)) (fun v M => ev S d 149 5 [a0, a1, a2, a3] (psh v st) M) := (ev_eq f_149_2).trans (congrArg (fin S d 149) (if_pos ⟨rfl, hr⟩))
theorem f_149_5 : fetch 149 5 = some (5, .ifCond .ne 5, 3, [10], 0) := (fm_149 5).trans rfl
theorem u_149_5 {S : Scr} {d : Nat} {a0 a1 a2 a3 : AV} {st : List AV} {sh : Shp} {I : IM} {R : RM} {x : Int} : ev S d 149 5 [a0, a1, a2, a3] (.inl x :: st) (sh, I, R) = if ¬ x = 0 then ev S d 149 10 [a0, a1, a2, a3] st (sh, I, R) else ev S d 149 8 [a0, a1, a2, a3] st (sh, I, R) := (ev_eq f_149_5).trans fin_if_ne
theorem f_149_8 : fetch 149 8 = some (8, .iconst (-1), 1, [], (-1)) := (fm_149 8).trans rfl
theorem u_149_8 {S : Scr} {d : Nat} {a0 a1 a2 a3 : AV} {st : List AV} {sh : Shp} {I : IM} {R : RM} : ev S d 149 8 [a0, a1, a2, a3] st (sh, I, R) = ev S d 149 9 [a0, a1, a2, a3] (.inl (-1) :: st) (sh, I, R) := (ev_eq f_149_8).trans rfl
theorem f_149_9 : fetch 149 9 = some (9, .ireturn, 1, [0], 0) := (fm_149 9).trans rfl
theorem u_149_9 {S : Scr} {d : Nat} {a0 a1 a2 a3 : AV} {sh : Shp} {I : IM} {R : RM} {x : Int} : ev S d 149 9 [a0, a1, a2, a3] [.inl x] (sh, I, R) = some (some (.inl x), (sh, I, R)) := (ev_eq f_149_9).trans fin_iret0
theorem f_149_10 : fetch 149 10 = some (10, .aload_n 0, 1, [0], 0) := (fm_149 10).trans rfl
theorem u_149_10 {S : Scr} {d : Nat} {a1 a2 a3 : AV} {st : List AV} {sh : Shp} {I : IM} {R : RM} {x : Nat} : ev S d 149 10 [.inr (.inl x), a1, a2, a3] st (sh, I, R) = ev S d 149 11 [.inr (.inl x), a1, a2, a3] (.inr (.inl x) :: st) (sh, I, R) := (ev_eq f_149_10).trans rfl
theorem f_149_11 : fetch 149 11 = some (11, .getfield 9, 3, [9, 0, 1, 79], 0) := (fm_149 11).trans rfl
theorem u_149_11 {S : Scr} {d : Nat} {a0 a1 a2 a3 : AV} {st : List AV} {sh : Shp} {I : IM} {R : RM} {k : Nat} (h : tg sh k = 9) : ev S d 149 11 [a0, a1, a2, a3] (.inr (.inl k) :: st) (sh, I, R) = ev S d 149 14 [a0, a1, a2, a3] (rv (R k 0) :: st) (sh, I, R) := (ev_eq f_149_11).trans (congrArg (fin S d 149) (if_pos h))
theorem f_149_14 : fetch 149 14 = some (14, .sipush 741, 3, [], 741) := (fm_149 14).trans rfl
theorem u_149_14 {S : Scr} {d : Nat} {a0 a1 a2 a3 : AV} {st : List AV} {sh : Shp} {I : IM} {R : RM} : ev S d 149 14 [a0, a1, a2, a3] st (sh, I, R) = ev S d 149 17 [a0, a1, a2, a3] (.inl 741 :: st) (sh, I, R) := (ev_eq f_149_14).trans rfl
theorem f_149_17 : fetch 149 17 = some (17, .iload_n 1, 1, [1], 0) := (fm_149 17).trans rfl
theorem u_149_17 {S : Scr} {d : Nat} {a0 a2 a3 : AV} {st : List AV} {sh : Shp} {I : IM} {R : RM} {x : Int} : ev S d 149 17 [a0, .inl x, a2, a3] st (sh, I, R) = ev S d 149 18 [a0, .inl x, a2, a3] (.inl x :: st) (sh, I, R) := (ev_eq f_149_17).trans rfl
theorem f_149_18 : fetch 149 18 = some (18, .iadd, 1, [], 0) := (fm_149 18).trans rfl
theorem u_149_18 {S : Scr} {d : Nat} {a0 a1 a2 a3 : AV} {st : List AV} {sh : Shp} {I : IM} {R : RM} {x y : Int} : ev S d 149 18 [a0, a1, a2, a3] (.inl y :: .inl x :: st) (sh, I, R) = ev S d 149 19 [a0, a1, a2, a3] (.inl (wr (x + y)) :: st) (sh, I, R) := (ev_eq f_149_18).trans rfl
theorem f_149_19 : fetch 149 19 = some (19, .iconst 1, 1, [], 1) := (fm_149 19).trans rfl
theorem u_149_19 {S : Scr} {d : Nat} {a0 a1 a2 a3 : AV} {st : List AV} {sh : Shp} {I : IM} {R : RM} : ev S d 149 19 [a0, a1, a2, a3] st (sh, I, R) = ev S d 149 20 [a0, a1, a2, a3] (.inl 1 :: st) (sh, I, R) := (ev_eq f_149_19).trans rfl
theorem f_149_20 : fetch 149 20 = some (20, .isub, 1, [], 0) := (fm_149 20).trans rfl
theorem u_149_20 {S : Scr} {d : Nat} {a0 a1 a2 a3 : AV} {st : List AV} {sh : Shp} {I : IM} {R : RM} {x y : Int} : ev S d 149 20 [a0, a1, a2, a3] (.inl y :: .inl x :: st) (sh, I, R) = ev S d 149 21 [a0, a1, a2, a3] (.inl (wr (x - y)) :: st) (sh, I, R) := (ev_eq f_149_20).trans rfl
theorem f_149_21 : fetch 149 21 = some (21, .iaload, 1, [], 0) := (fm_149 21).trans rfl
theorem u_149_21 {S : Scr} {d : Nat} {a0 a1 a2 a3 : AV} {st : List AV} {sh : Shp} {I : IM} {R : RM} {k : Nat} {i : Int} (h : tg sh k = 100) (h0 : 0 ≤ i) (h1 : i < ln sh k) : ev S d 149 21 [a0, a1, a2, a3] (.inl i :: .inr (.inl k) :: st) (sh, I, R) = ev S d 149 22 [a0, a1, a2, a3] (.inl (I k i) :: st) (sh, I, R) := (ev_eq f_149_21).trans (congrArg (fin S d 149) (if_pos ⟨h, h0, h1⟩))
theorem f_149_22 : fetch 149 22 = some (22, .istore_n 3, 1, [3], 0) := (fm_149 22).trans rfl
theorem u_149_22 {S : Scr} {d : Nat} {a0 a1 a2 a3 : AV} {st : List AV} {sh : Shp} {I : IM} {R : RM} {x : Int} : ev S d 149 22 [a0, a1, a2, a3] (.inl x :: st) (sh, I, R) = ev S d 149 23 [a0, a1, a2, .inl x] st (sh, I, R) := (ev_eq f_149_22).trans rfl
theorem f_149_23 : fetch 149 23 = some (23, .aload_n 0, 1, [0], 0) := (fm_149 23).trans rfl
theorem u_149_23 {S : Scr} {d : Nat} {a1 a2 a3 : AV} {st : List AV} {sh : Shp} {I : IM} {R : RM} {x : Nat} : ev S d 149 23 [.inr (.inl x), a1, a2, a3] st (sh, I, R) = ev S d 149 24 [.inr (.inl x), a1, a2, a3] (.inr (.inl x) :: st) (sh, I, R) := (ev_eq f_149_23).trans rfl
theorem f_149_24 : fetch 149 24 = some (24, .getfield 9, 3, [9, 0, 1, 79], 0) := (fm_149 24).trans rfl
theorem u_149_24 {S : Scr} {d : Nat} {a0 a1 a2 a3 : AV} {st : List AV} {sh : Shp} {I : IM} {R : RM} {k : Nat} (h : tg sh k = 9) : ev S d 149 24 [a0, a1, a2, a3] (.inr (.inl k) :: st) (sh, I, R) = ev S d 149 27 [a0, a1, a2, a3] (rv (R k 0) :: st) (sh, I, R) := (ev_eq f_149_24).trans (congrArg (fin S d 149) (if_pos h))
theorem f_149_27 : fetch 149 27 = some (27, .sipush 741, 3, [], 741) := (fm_149 27).trans rfl
theorem u_149_27 {S : Scr} {d : Nat} {a0 a1 a2 a3 : AV} {st : List AV} {sh : Shp} {I : IM} {R : RM} : ev S d 149 27 [a0, a1, a2, a3] st (sh, I, R) = ev S d 149 30 [a0, a1, a2, a3] (.inl 741 :: st) (sh, I, R) := (ev_eq f_149_27).trans rfl
theorem f_149_30 : fetch 149 30 = some (30, .iload_n 1, 1, [1], 0) := (fm_149 30).trans rfl
theorem u_149_30 {S : Scr} {d : Nat} {a0 a2 a3 : AV} {st : List AV} {sh : Shp} {I : IM} {R : RM} {x : Int} : ev S d 149 30 [a0, .inl x, a2, a3] st (sh, I, R) = ev S d 149 31 [a0, .inl x, a2, a3] (.inl x :: st) (sh, I, R) := (ev_eq f_149_30).trans rfl
theorem f_149_31 : fetch 149 31 = some (31, .iadd, 1, [], 0) := (fm_149 31).trans rfl
theorem u_149_31 {S : Scr} {d : Nat} {a0 a1 a2 a3 : AV} {st : List AV} {sh : Shp} {I : IM} {R : RM} {x y : Int} : ev S d 149 31 [a0, a1, a2, a3] (.inl y :: .inl x :: st) (sh, I, R) = ev S d 149 32 [a0, a1, a2, a3] (.inl (wr (x + y)) :: st) (sh, I, R) := (ev_eq f_149_31).trans rfl
theorem f_149_32 : fetch 149 32 = some (32, .iconst 1, 1, [], 1) := (fm_149 32).trans rfl
theorem u_149_32 {S : Scr} {d : Nat} {a0 a1 a2 a3 : AV} {st : List AV} {sh : Shp} {I : IM} {R : RM} : ev S d 149 32 [a0, a1, a2, a3] st (sh, I, R) = ev S d 149 33 [a0, a1, a2, a3] (.inl 1 :: st) (sh, I, R) := (ev_eq f_149_32).trans rfl
theorem f_149_33 : fetch 149 33 = some (33, .isub, 1, [], 0) := (fm_149 33).trans rfl
theorem u_149_33 {S : Scr} {d : Nat} {a0 a1 a2 a3 : AV} {st : List AV} {sh : Shp} {I : IM} {R : RM} {x y : Int} : ev S d 149 33 [a0, a1, a2, a3] (.inl y :: .inl x :: st) (sh, I, R) = ev S d 149 34 [a0, a1, a2, a3] (.inl (wr (x - y)) :: st) (sh, I, R) := (ev_eq f_149_33).trans rfl
theorem f_149_34 : fetch 149 34 = some (34, .iload_n 2, 1, [2], 0) := (fm_149 34).trans rfl
theorem u_149_34 {S : Scr} {d : Nat} {a0 a1 a3 : AV} {st : List AV} {sh : Shp} {I : IM} {R : RM} {x : Int} : ev S d 149 34 [a0, a1, .inl x, a3] st (sh, I, R) = ev S d 149 35 [a0, a1, .inl x, a3] (.inl x :: st) (sh, I, R) := (ev_eq f_149_34).trans rfl
theorem f_149_35 : fetch 149 35 = some (35, .iastore, 1, [], 0) := (fm_149 35).trans rfl
theorem u_149_35 {S : Scr} {d : Nat} {a0 a1 a2 a3 : AV} {st : List AV} {sh : Shp} {I : IM} {R : RM} {k : Nat} {i x : Int} (h : tg sh k = 100) (h0 : 0 ≤ i) (h1 : i < ln sh k) : ev S d 149 35 [a0, a1, a2, a3] (.inl x :: .inl i :: .inr (.inl k) :: st) (sh, I, R) = ev S d 149 36 [a0, a1, a2, a3] st (sh, up I k i x, R) := (ev_eq f_149_35).trans (congrArg (fin S d 149) (if_pos ⟨h, h0, h1⟩))
theorem f_149_36 : fetch 149 36 = some (36, .iload_n 3, 1, [3], 0) := (fm_149 36).trans rfl
theorem u_149_36 {S : Scr} {d : Nat} {a0 a1 a2 : AV} {st : List AV} {sh : Shp} {I : IM} {R : RM} {x : Int} : ev S d 149 36 [a0, a1, a2, .inl x] st (sh, I, R) = ev S d 149 37 [a0, a1, a2, .inl x] (.inl x :: st) (sh, I, R) := (ev_eq f_149_36).trans rfl
theorem f_149_37 : fetch 149 37 = some (37, .ireturn, 1, [0], 0) := (fm_149 37).trans rfl
theorem u_149_37 {S : Scr} {d : Nat} {a0 a1 a2 a3 : AV} {sh : Shp} {I : IM} {R : RM} {x : Int} : ev S d 149 37 [a0, a1, a2, a3] [.inl x] (sh, I, R) = some (some (.inl x), (sh, I, R)) := (ev_eq f_149_37).trans fin_iret0
theorem c_150 {d : Nat} {a0 a1 a2 a3 : AV} {M : Mem} : cl (d + 1) 150 [a0, a1, a2, a3] M = ev S0 d 150 0 [a0, a1, a2, a3, .inr (.inr 1), .inr (.inr 1)] [] M := (cl_eq (as := [a0, a1, a2, a3]) (show 4 ≤ maxOf 150 by decide +kernel)).trans rfl
theorem mt_150 : MT[150]? = some m_150 := rfl
theorem fm_150 (pc : Nat) : fetch 150 pc = lk m_150.2.2.2.2.2 pc := by
  unfold fetch
  rw [mt_150]
theorem f_150_0 : fetch 150 0 = some (0, .iload_n 1, 1, [1], 0) := (fm_150 0).trans rfl
theorem u_150_0 {S : Scr} {d : Nat} {a0 a2 a3 a4 a5 : AV} {st : List AV} {sh : Shp} {I : IM} {R : RM} {x : Int} : ev S d 150 0 [a0, .inl x, a2, a3, a4, a5] st (sh, I, R) = ev S d 150 1 [a0, .inl x, a2, a3, a4, a5] (.inl x :: st) (sh, I, R) := (ev_eq f_150_0).trans rfl
theorem f_150_1 : fetch 150 1 = some (1, .iload_n 2, 1, [2], 0) := (fm_150 1).trans rfl
theorem u_150_1 {S : Scr} {d : Nat} {a0 a1 a3 a4 a5 : AV} {st : List AV} {sh : Shp} {I : IM} {R : RM} {x : Int} : ev S d 150 1 [a0, a1, .inl x, a3, a4, a5] st (sh, I, R) = ev S d 150 2 [a0, a1, .inl x, a3, a4, a5] (.inl x :: st) (sh, I, R) := (ev_eq f_150_1).trans rfl
theorem f_150_2 : fetch 150 2 = some (2, .invokestatic 91, 3, [147, 2, 132], 0) := (fm_150 2).trans rfl
theorem u_150_2 {S : Scr} {d : Nat} {a0 a1 a2 a3 a4 a5 : AV} {st : List AV} {sh : Shp} {I : IM} {R : RM} {x0 : Int} {x1 : Int} (hr : st.length ≤ 8) : ev S d 150 2 [a0, a1, a2, a3, a4, a5] (.inl x1 :: .inl x0 :: st) (sh, I, R) = bnd (cl d 147 [.inl x0, .inl x1] (sh, I, R)) (fun v M => ev S d 150 5 [a0, a1, a2, a3, a4, a5] (psh v st) M) := (ev_eq f_150_2).trans (congrArg (fin S d 150) (if_pos ⟨rfl, hr⟩))
theorem f_150_5 : fetch 150 5 = some (5, .ifCond .ne 6, 3, [11], 0) := (fm_150 5).trans rfl
theorem u_150_5 {S : Scr} {d : Nat} {a0 a1 a2 a3 a4 a5 : AV} {st : List AV} {sh : Shp} {I : IM} {R : RM} {x : Int} : ev S d 150 5 [a0, a1, a2, a3, a4, a5] (.inl x :: st) (sh, I, R) = if ¬ x = 0 then ev S d 150 11 [a0, a1, a2, a3, a4, a5] st (sh, I, R) else ev S d 150 8 [a0, a1, a2, a3, a4, a5] st (sh, I, R) := (ev_eq f_150_5).trans fin_if_ne
theorem f_150_8 : fetch 150 8 = some (8, .ldc 104, 2, [5], (-2000000000)) := (fm_150 8).trans rfl
theorem u_150_8 {S : Scr} {d : Nat} {a0 a1 a2 a3 a4 a5 : AV} {st : List AV} {sh : Shp} {I : IM} {R : RM} : ev S d 150 8 [a0, a1, a2, a3, a4, a5] st (sh, I, R) = ev S d 150 10 [a0, a1, a2, a3, a4, a5] (.inl (-2000000000) :: st) (sh, I, R) := (ev_eq f_150_8).trans rfl
theorem f_150_10 : fetch 150 10 = some (10, .ireturn, 1, [0], 0) := (fm_150 10).trans rfl
theorem u_150_10 {S : Scr} {d : Nat} {a0 a1 a2 a3 a4 a5 : AV} {sh : Shp} {I : IM} {R : RM} {x : Int} : ev S d 150 10 [a0, a1, a2, a3, a4, a5] [.inl x] (sh, I, R) = some (some (.inl x), (sh, I, R)) := (ev_eq f_150_10).trans fin_iret0
theorem f_150_11 : fetch 150 11 = some (11, .iload_n 1, 1, [1], 0) := (fm_150 11).trans rfl
theorem u_150_11 {S : Scr} {d : Nat} {a0 a2 a3 a4 a5 : AV} {st : List AV} {sh : Shp} {I : IM} {R : RM} {x : Int} : ev S d 150 11 [a0, .inl x, a2, a3, a4, a5] st (sh, I, R) = ev S d 150 12 [a0, .inl x, a2, a3, a4, a5] (.inl x :: st) (sh, I, R) := (ev_eq f_150_11).trans rfl
theorem f_150_12 : fetch 150 12 = some (12, .iload_n 2, 1, [2], 0) := (fm_150 12).trans rfl
theorem u_150_12 {S : Scr} {d : Nat} {a0 a1 a3 a4 a5 : AV} {st : List AV} {sh : Shp} {I : IM} {R : RM} {x : Int} : ev S d 150 12 [a0, a1, .inl x, a3, a4, a5] st (sh, I, R) = ev S d 150 13 [a0, a1, .inl x, a3, a4, a5] (.inl x :: st) (sh, I, R) := (ev_eq f_150_12).trans rfl
theorem f_150_13 : fetch 150 13 = some (13, .invokestatic 76, 3, [142, 2, 128], 0) := (fm_150 13).trans rfl
theorem u_150_13 {S : Scr} {d : Nat} {a0 a1 a2 a3 a4 a5 : AV} {st : List AV} {sh : Shp} {I : IM} {R : RM} {x0 : Int} {x1 : Int} (hr : st.length ≤ 8) : ev S d 150 13 [a0, a1, a2, a3, a4, a5] (.inl x1 :: .inl x0 :: st) (sh, I, R) = bnd (cl d 142 [.inl x0, .inl x1] (sh, I, R)) (fun v M => ev S d 150 16 [a0, a1, a2, a3, a4, a5] (psh v st) M) := (ev_eq f_150_13).trans (congrArg (fin S d 150) (if_pos ⟨rfl, hr⟩))
theorem f_150_16 : fetch 150 16 = some (16, .istore 4, 2, [4], 0) := (fm_150 16).trans rfl
theorem u_150_16 {S : Scr} {d : Nat} {a0 a1 a2 a3 a4 a5 : AV} {st : List AV} {sh : Shp} {I : IM} {R : RM} {x : Int} : ev S d 150 16 [a0, a1, a2, a3, a4, a5] (.inl x :: st) (sh, I, R) = ev S d 150 18 [a0, a1, a2, a3, .inl x, a5] st (sh, I, R) := (ev_eq f_150_16).trans rfl
theorem f_150_18 : fetch 150 18 = some (18, .aload_n 0, 1, [0], 0) := (fm_150 18).trans rfl
theorem u_150_18 {S : Scr} {d : Nat} {a1 a2 a3 a4 a5 : AV} {st : List AV} {sh : Shp} {I : IM} {R : RM} {x : Nat} : ev S d 150 18 [.inr (.inl x), a1, a2, a3, a4, a5] st (sh, I, R) = ev S d 150 19 [.inr (.inl x), a1, a2, a3, a4, a5] (.inr (.inl x) :: st) (sh, I, R) := (ev_eq f_150_18).trans rfl
theorem f_150_19 : fetch 150 19 = some (19, .iload 4, 2, [4], 0) := (fm_150 19).trans rfl
theorem u_150_19 {S : Scr} {d : Nat} {a0 a1 a2 a3 a5 : AV} {st : List AV} {sh : Shp} {I : IM} {R : RM} {x : Int} : ev S d 150 19 [a0, a1, a2, a3, .inl x, a5] st (sh, I, R) = ev S d 150 21 [a0, a1, a2, a3, .inl x, a5] (.inl x :: st) (sh, I, R) := (ev_eq f_150_19).trans rfl
theorem f_150_21 : fetch 150 21 = some (21, .iload_n 3, 1, [3], 0) := (fm_150 21).trans rfl
theorem u_150_21 {S : Scr} {d : Nat} {a0 a1 a2 a4 a5 : AV} {st : List AV} {sh : Shp} {I : IM} {R : RM} {x : Int} : ev S d 150 21 [a0, a1, a2, .inl x, a4, a5] st (sh, I, R) = ev S d 150 22 [a0, a1, a2, .inl x, a4, a5] (.inl x :: st) (sh, I, R) := (ev_eq f_150_21).trans rfl
theorem f_150_22 : fetch 150 22 = some (22, .invokevirtual 101, 3, [144, 2, 135], 0) := (fm_150 22).trans rfl
theorem u_150_22 {S : Scr} {d : Nat} {a0 a1 a2 a3 a4 a5 : AV} {st : List AV} {sh : Shp} {I : IM} {R : RM} {x0 : Int} {x1 : Int} {k : Nat} (h : tg sh k = 9) (hr : st.length ≤ 8) : ev S d 150 22 [a0, a1, a2, a3, a4, a5] (.inl x1 :: .inl x0 :: .inr (.inl k) :: st) (sh, I, R) = bnd (cl d 144 [.inr (.inl k), .inl x0, .inl x1] (sh, I, R)) (fun v M => ev S d 150 25 [a0, a1, a2, a3, a4, a5] (psh v st) M) := (ev_eq f_150_22).trans (congrArg (fin S d 150) (if_pos ⟨h, rfl, hr⟩))
theorem f_150_25 : fetch 150 25 = some (25, .istore 5, 2, [5], 0) := (fm_150 25).trans rfl
theorem u_150_25 {S : Scr} {d : Nat} {a0 a1 a2 a3 a4 a5 : AV} {st : List AV} {sh : Shp} {I : IM} {R : RM} {x : Int} : ev S d 150 25 [a0, a1, a2, a3, a4, a5] (.inl x :: st) (sh, I, R) = ev S d 150 27 [a0, a1, a2, a3, a4, .inl x] st (sh, I, R) := (ev_eq f_150_25).trans rfl
theorem f_150_27 : fetch 150 27 = some (27, .iload 5, 2, [5], 0) := (fm_150 27).trans rfl
theorem u_150_27 {S : Scr} {d : Nat} {a0 a1 a2 a3 a4 : AV} {st : List AV} {sh : Shp} {I : IM} {R : RM} {x : Int} : ev S d 150 27 [a0, a1, a2, a3, a4, .inl x] st (sh, I, R) = ev S d 150 29 [a0, a1, a2, a3, a4, .inl x] (.inl x :: st) (sh, I, R) := (ev_eq f_150_27).trans rfl
theorem f_150_29 : fetch 150 29 = some (29, .ifCond .ge 8, 3, [37], 0) := (fm_150 29).trans rfl
theorem u_150_29 {S : Scr} {d : Nat} {a0 a1 a2 a3 a4 a5 : AV} {st : List AV} {sh : Shp} {I : IM} {R : RM} {x : Int} : ev S d 150 29 [a0, a1, a2, a3, a4, a5] (.inl x :: st) (sh, I, R) = if 0 ≤ x then ev S d 150 37 [a0, a1, a2, a3, a4, a5] st (sh, I, R) else ev S d 150 32 [a0, a1, a2, a3, a4, a5] st (sh, I, R) := (ev_eq f_150_29).trans fin_if_ge
theorem f_150_32 : fetch 150 32 = some (32, .ldc 104, 2, [5], (-2000000000)) := (fm_150 32).trans rfl
theorem u_150_32 {S : Scr} {d : Nat} {a0 a1 a2 a3 a4 a5 : AV} {st : List AV} {sh : Shp} {I : IM} {R : RM} : ev S d 150 32 [a0, a1, a2, a3, a4, a5] st (sh, I, R) = ev S d 150 34 [a0, a1, a2, a3, a4, a5] (.inl (-2000000000) :: st) (sh, I, R) := (ev_eq f_150_32).trans rfl
theorem f_150_34 : fetch 150 34 = some (34, .goto 19, 3, [53], 0) := (fm_150 34).trans rfl
theorem u_150_34 {S : Scr} {d : Nat} {a0 a1 a2 a3 a4 a5 : AV} {st : List AV} {sh : Shp} {I : IM} {R : RM} : ev S d 150 34 [a0, a1, a2, a3, a4, a5] st (sh, I, R) = ev S d 150 53 [a0, a1, a2, a3, a4, a5] st (sh, I, R) := (ev_eq f_150_34).trans rfl
theorem f_150_37 : fetch 150 37 = some (37, .aload_n 0, 1, [0], 0) := (fm_150 37).trans rfl
theorem u_150_37 {S : Scr} {d : Nat} {a1 a2 a3 a4 a5 : AV} {st : List AV} {sh : Shp} {I : IM} {R : RM} {x : Nat} : ev S d 150 37 [.inr (.inl x), a1, a2, a3, a4, a5] st (sh, I, R) = ev S d 150 38 [.inr (.inl x), a1, a2, a3, a4, a5] (.inr (.inl x) :: st) (sh, I, R) := (ev_eq f_150_37).trans rfl
theorem f_150_38 : fetch 150 38 = some (38, .getfield 9, 3, [9, 0, 1, 79], 0) := (fm_150 38).trans rfl
theorem u_150_38 {S : Scr} {d : Nat} {a0 a1 a2 a3 a4 a5 : AV} {st : List AV} {sh : Shp} {I : IM} {R : RM} {k : Nat} (h : tg sh k = 9) : ev S d 150 38 [a0, a1, a2, a3, a4, a5] (.inr (.inl k) :: st) (sh, I, R) = ev S d 150 41 [a0, a1, a2, a3, a4, a5] (rv (R k 0) :: st) (sh, I, R) := (ev_eq f_150_38).trans (congrArg (fin S d 150) (if_pos h))
theorem f_150_41 : fetch 150 41 = some (41, .sipush 705, 3, [], 705) := (fm_150 41).trans rfl
theorem u_150_41 {S : Scr} {d : Nat} {a0 a1 a2 a3 a4 a5 : AV} {st : List AV} {sh : Shp} {I : IM} {R : RM} : ev S d 150 41 [a0, a1, a2, a3, a4, a5] st (sh, I, R) = ev S d 150 44 [a0, a1, a2, a3, a4, a5] (.inl 705 :: st) (sh, I, R) := (ev_eq f_150_41).trans rfl
theorem f_150_44 : fetch 150 44 = some (44, .iconst 4, 1, [], 4) := (fm_150 44).trans rfl
theorem u_150_44 {S : Scr} {d : Nat} {a0 a1 a2 a3 a4 a5 : AV} {st : List AV} {sh : Shp} {I : IM} {R : RM} : ev S d 150 44 [a0, a1, a2, a3, a4, a5] st (sh, I, R) = ev S d 150 45 [a0, a1, a2, a3, a4, a5] (.inl 4 :: st) (sh, I, R) := (ev_eq f_150_44).trans rfl
theorem f_150_45 : fetch 150 45 = some (45, .iload 4, 2, [4], 0) := (fm_150 45).trans rfl
theorem u_150_45 {S : Scr} {d : Nat} {a0 a1 a2 a3 a5 : AV} {st : List AV} {sh : Shp} {I : IM} {R : RM} {x : Int} : ev S d 150 45 [a0, a1, a2, a3, .inl x, a5] st (sh, I, R) = ev S d 150 47 [a0, a1, a2, a3, .inl x, a5] (.inl x :: st) (sh, I, R) := (ev_eq f_150_45).trans rfl
theorem f_150_47 : fetch 150 47 = some (47, .imul, 1, [], 0) := (fm_150 47).trans rfl
theorem u_150_47 {S : Scr} {d : Nat} {a0 a1 a2 a3 a4 a5 : AV} {st : List AV} {sh : Shp} {I : IM} {R : RM} {x y : Int} : ev S d 150 47 [a0, a1, a2, a3, a4, a5] (.inl y :: .inl x :: st) (sh, I, R) = ev S d 150 48 [a0, a1, a2, a3, a4, a5] (.inl (wr (x * y)) :: st) (sh, I, R) := (ev_eq f_150_47).trans rfl
theorem f_150_48 : fetch 150 48 = some (48, .iadd, 1, [], 0) := (fm_150 48).trans rfl
theorem u_150_48 {S : Scr} {d : Nat} {a0 a1 a2 a3 a4 a5 : AV} {st : List AV} {sh : Shp} {I : IM} {R : RM} {x y : Int} : ev S d 150 48 [a0, a1, a2, a3, a4, a5] (.inl y :: .inl x :: st) (sh, I, R) = ev S d 150 49 [a0, a1, a2, a3, a4, a5] (.inl (wr (x + y)) :: st) (sh, I, R) := (ev_eq f_150_48).trans rfl
theorem f_150_49 : fetch 150 49 = some (49, .iload 5, 2, [5], 0) := (fm_150 49).trans rfl
theorem u_150_49 {S : Scr} {d : Nat} {a0 a1 a2 a3 a4 : AV} {st : List AV} {sh : Shp} {I : IM} {R : RM} {x : Int} : ev S d 150 49 [a0, a1, a2, a3, a4, .inl x] st (sh, I, R) = ev S d 150 51 [a0, a1, a2, a3, a4, .inl x] (.inl x :: st) (sh, I, R) := (ev_eq f_150_49).trans rfl
theorem f_150_51 : fetch 150 51 = some (51, .iadd, 1, [], 0) := (fm_150 51).trans rfl
theorem u_150_51 {S : Scr} {d : Nat} {a0 a1 a2 a3 a4 a5 : AV} {st : List AV} {sh : Shp} {I : IM} {R : RM} {x y : Int} : ev S d 150 51 [a0, a1, a2, a3, a4, a5] (.inl y :: .inl x :: st) (sh, I, R) = ev S d 150 52 [a0, a1, a2, a3, a4, a5] (.inl (wr (x + y)) :: st) (sh, I, R) := (ev_eq f_150_51).trans rfl
theorem f_150_52 : fetch 150 52 = some (52, .iaload, 1, [], 0) := (fm_150 52).trans rfl
theorem u_150_52 {S : Scr} {d : Nat} {a0 a1 a2 a3 a4 a5 : AV} {st : List AV} {sh : Shp} {I : IM} {R : RM} {k : Nat} {i : Int} (h : tg sh k = 100) (h0 : 0 ≤ i) (h1 : i < ln sh k) : ev S d 150 52 [a0, a1, a2, a3, a4, a5] (.inl i :: .inr (.inl k) :: st) (sh, I, R) = ev S d 150 53 [a0, a1, a2, a3, a4, a5] (.inl (I k i) :: st) (sh, I, R) := (ev_eq f_150_52).trans (congrArg (fin S d 150) (if_pos ⟨h, h0, h1⟩))
theorem f_150_53 : fetch 150 53 = some (53, .ireturn, 1, [0], 0) := (fm_150 53).trans rfl
theorem u_150_53 {S : Scr} {d : Nat} {a0 a1 a2 a3 a4 a5 : AV} {sh : Shp} {I : IM} {R : RM} {x : Int} : ev S d 150 53 [a0, a1, a2, a3, a4, a5] [.inl x] (sh, I, R) = some (some (.inl x), (sh, I, R)) := (ev_eq f_150_53).trans fin_iret0
theorem c_151 {d : Nat} {a0 : AV} {M : Mem} : cl (d + 1) 151 [a0] M = ev S0 d 151 0 [a0] [] M := (cl_eq (as := [a0]) (show 1 ≤ maxOf 151 by decide +kernel)).trans rfl
theorem mt_151 : MT[151]? = some m_151 := rfl
theorem fm_151 (pc : Nat) : fetch 151 pc = lk m_151.2.2.2.2.2 pc := by
  unfold fetch
  rw [mt_151]
theorem f_151_0 : fetch 151 0 = some (0, .iload_n 0, 1, [0], 0) := (fm_151 0).trans rfl
theorem u_151_0 {S : Scr} {d : Nat} {st : List AV} {sh : Shp} {I : IM} {R : RM} {x : Int} : ev S d 151 0 [.inl x] st (sh, I, R) = ev S d 151 1 [.inl x] (.inl x :: st) (sh, I, R) := (ev_eq f_151_0).trans rfl
theorem f_151_1 : fetch 151 1 = some (1, .iconst 1, 1, [], 1) := (fm_151 1).trans rfl
theorem u_151_1 {S : Scr} {d : Nat} {a0 : AV} {st : List AV} {sh : Shp} {I : IM} {R : RM} : ev S d 151 1 [a0] st (sh, I, R) = ev S d 151 2 [a0] (.inl 1 :: st) (sh, I, R) := (ev_eq f_151_1).trans rfl
theorem f_151_2 : fetch 151 2 = some (2, .if_icmp .ne 7, 3, [9], 0) := (fm_151 2).trans rfl
theorem u_151_2 {S : Scr} {d : Nat} {a0 : AV} {st : List AV} {sh : Shp} {I : IM} {R : RM} {x y : Int} : ev S d 151 2 [a0] (.inl y :: .inl x :: st) (sh, I, R) = if ¬ x = y then ev S d 151 9 [a0] st (sh, I, R) else ev S d 151 5 [a0] st (sh, I, R) := (ev_eq f_151_2).trans fin_icmp_ne
theorem f_151_5 : fetch 151 5 = some (5, .iconst 0, 1, [], 0) := (fm_151 5).trans rfl
theorem u_151_5 {S : Scr} {d : Nat} {a0 : AV} {st : List AV} {sh : Shp} {I : IM} {R : RM} : ev S d 151 5 [a0] st (sh, I, R) = ev S d 151 6 [a0] (.inl 0 :: st) (sh, I, R) := (ev_eq f_151_5).trans rfl
theorem f_151_6 : fetch 151 6 = some (6, .goto 13, 3, [19], 0) := (fm_151 6).trans rfl
theorem u_151_6 {S : Scr} {d : Nat} {a0 : AV} {st : List AV} {sh : Shp} {I : IM} {R : RM} : ev S d 151 6 [a0] st (sh, I, R) = ev S d 151 19 [a0] st (sh, I, R) := (ev_eq f_151_6).trans rfl
theorem f_151_9 : fetch 151 9 = some (9, .iload_n 0, 1, [0], 0) := (fm_151 9).trans rfl
theorem u_151_9 {S : Scr} {d : Nat} {st : List AV} {sh : Shp} {I : IM} {R : RM} {x : Int} : ev S d 151 9 [.inl x] st (sh, I, R) = ev S d 151 10 [.inl x] (.inl x :: st) (sh, I, R) := (ev_eq f_151_9).trans rfl
theorem f_151_10 : fetch 151 10 = some (10, .iconst 2, 1, [], 2) := (fm_151 10).trans rfl
theorem u_151_10 {S : Scr} {d : Nat} {a0 : AV} {st : List AV} {sh : Shp} {I : IM} {R : RM} : ev S d 151 10 [a0] st (sh, I, R) = ev S d 151 11 [a0] (.inl 2 :: st) (sh, I, R) := (ev_eq f_151_10).trans rfl
theorem f_151_11 : fetch 151 11 = some (11, .if_icmp .ne 7, 3, [18], 0) := (fm_151 11).trans rfl
theorem u_151_11 {S : Scr} {d : Nat} {a0 : AV} {st : List AV} {sh : Shp} {I : IM} {R : RM} {x y : Int} : ev S d 151 11 [a0] (.inl y :: .inl x :: st) (sh, I, R) = if ¬ x = y then ev S d 151 18 [a0] st (sh, I, R) else ev S d 151 14 [a0] st (sh, I, R) := (ev_eq f_151_11).trans fin_icmp_ne
theorem f_151_14 : fetch 151 14 = some (14, .iconst 2, 1, [], 2) := (fm_151 14).trans rfl
theorem u_151_14 {S : Scr} {d : Nat} {a0 : AV} {st : List AV} {sh : Shp} {I : IM} {R : RM} : ev S d 151 14 [a0] st (sh, I, R) = ev S d 151 15 [a0] (.inl 2 :: st) (sh, I, R) := (ev_eq f_151_14).trans rfl
theorem f_151_15 : fetch 151 15 = some (15, .goto 4, 3, [19], 0) := (fm_151 15).trans rfl
theorem u_151_15 {S : Scr} {d : Nat} {a0 : AV} {st : List AV} {sh : Shp} {I : IM} {R : RM} : ev S d 151 15 [a0] st (sh, I, R) = ev S d 151 19 [a0] st (sh, I, R) := (ev_eq f_151_15).trans rfl
theorem f_151_18 : fetch 151 18 = some (18, .iconst 3, 1, [], 3) := (fm_151 18).trans rfl
theorem u_151_18 {S : Scr} {d : Nat} {a0 : AV} {st : List AV} {sh : Shp} {I : IM} {R : RM} : ev S d 151 18 [a0] st (sh, I, R) = ev S d 151 19 [a0] (.inl 3 :: st) (sh, I, R) := (ev_eq f_151_18).trans rfl
theorem f_151_19 : fetch 151 19 = some (19, .ireturn, 1, [0], 0) := (fm_151 19).trans rfl
theorem u_151_19 {S : Scr} {d : Nat} {a0 : AV} {sh : Shp} {I : IM} {R : RM} {x : Int} : ev S d 151 19 [a0] [.inl x] (sh, I, R) = some (some (.inl x), (sh, I, R)) := (ev_eq f_151_19).trans fin_iret0
theorem c_152 {d : Nat} {a0 a1 : AV} {M : Mem} : cl (d + 1) 152 [a0, a1] M = ev S0 d 152 0 [a0, a1, .inr (.inr 1)] [] M := (cl_eq (as := [a0, a1]) (show 2 ≤ maxOf 152 by decide +kernel)).trans rfl
theorem mt_152 : MT[152]? = some m_152 := rfl
theorem fm_152 (pc : Nat) : fetch 152 pc = lk m_152.2.2.2.2.2 pc := by
  unfold fetch
  rw [mt_152]
theorem f_152_0 : fetch 152 0 = some (0, .iload_n 1, 1, [1], 0) := (fm_152 0).trans rfl
theorem u_152_0 {S : Scr} {d : Nat} {a0 a2 : AV} {st : List AV} {sh : Shp} {I : IM} {R : RM} {x : Int} : ev S d 152 0 [a0, .inl x, a2] st (sh, I, R) = ev S d 152 1 [a0, .inl x, a2] (.inl x :: st) (sh, I, R) := (ev_eq f_152_0).trans rfl
theorem f_152_1 : fetch 152 1 = some (1, .iconst 1, 1, [], 1) := (fm_152 1).trans rfl
theorem u_152_1 {S : Scr} {d : Nat} {a0 a1 a2 : AV} {st : List AV} {sh : Shp} {I : IM} {R : RM} : ev S d 152 1 [a0, a1, a2] st (sh, I, R) = ev S d 152 2 [a0, a1, a2] (.inl 1 :: st) (sh, I, R) := (ev_eq f_152_1).trans rfl
theorem f_152_2 : fetch 152 2 = some (2, .iconst 3, 1, [], 3) := (fm_152 2).trans rfl
theorem u_152_2 {S : Scr} {d : Nat} {a0 a1 a2 : AV} {st : List AV} {sh : Shp} {I : IM} {R : RM} : ev S d 152 2 [a0, a1, a2] st (sh, I, R) = ev S d 152 3 [a0, a1, a2] (.inl 3 :: st) (sh, I, R) := (ev_eq f_152_2).trans rfl
theorem f_152_3 : fetch 152 3 = some (3, .invokestatic 64, 3, [129, 3, 125], 0) := (fm_152 3).trans rfl
theorem u_152_3 {S : Scr} {d : Nat} {a0 a1 a2 : AV} {st : List AV} {sh : Shp} {I : IM} {R : RM} {x0 : Int} {x1 : Int} {x2 : Int} (hr : st.length ≤ 8) : ev S d 152 3 [a0, a1, a2] (.inl x2 :: .inl x1 :: .inl x0 :: st) (sh, I, R) = bnd (cl d 129 [.inl x0, .inl x1, .inl x2] (sh, I, R)) (fun v M => ev S d 152 6 [a0, a1, a2] (psh v st) M) := (ev_eq f_152_3).trans (congrArg (fin S d 152) (if_pos ⟨rfl, hr⟩))
theorem f_152_6 : fetch 152 6 = some (6, .ifCond .ne 5, 3, [11], 0) := (fm_152 6).trans rfl
theorem u_152_6 {S : Scr} {d : Nat} {a0 a1 a2 : AV} {st : List AV} {sh : Shp} {I : IM} {R : RM} {x : Int} : ev S d 152 6 [a0, a1, a2] (.inl x :: st) (sh, I, R) = if ¬ x = 0 then ev S d 152 11 [a0, a1, a2] st (sh, I, R) else ev S d 152 9 [a0, a1, a2] st (sh, I, R) := (ev_eq f_152_6).trans fin_if_ne
theorem f_152_9 : fetch 152 9 = some (9, .iconst (-1), 1, [], (-1)) := (fm_152 9).trans rfl
theorem u_152_9 {S : Scr} {d : Nat} {a0 a1 a2 : AV} {st : List AV} {sh : Shp} {I : IM} {R : RM} : ev S d 152 9 [a0, a1, a2] st (sh, I, R) = ev S d 152 10 [a0, a1, a2] (.inl (-1) :: st) (sh, I, R) := (ev_eq f_152_9).trans rfl
theorem f_152_10 : fetch 152 10 = some (10, .ireturn, 1, [0], 0) := (fm_152 10).trans rfl
theorem u_152_10 {S : Scr} {d : Nat} {a0 a1 a2 : AV} {sh : Shp} {I : IM} {R : RM} {x : Int} : ev S d 152 10 [a0, a1, a2] [.inl x] (sh, I, R) = some (some (.inl x), (sh, I, R)) := (ev_eq f_152_10).trans fin_iret0
theorem f_152_11 : fetch 152 11 = some (11, .aload_n 0, 1, [0], 0) := (fm_152 11).trans rfl
theorem u_152_11 {S : Scr} {d : Nat} {a1 a2 : AV} {st : List AV} {sh : Shp} {I : IM} {R : RM} {x : Nat} : ev S d 152 11 [.inr (.inl x), a1, a2] st (sh, I, R) = ev S d 152 12 [.inr (.inl x), a1, a2] (.inr (.inl x) :: st) (sh, I, R) := (ev_eq f_152_11).trans rfl
theorem f_152_12 : fetch 152 12 = some (12, .invokevirtual 105, 3, [137, 0, 136], 0) := (fm_152 12).trans rfl
theorem u_152_12 {S : Scr} {d : Nat} {a0 a1 a2 : AV} {st : List AV} {sh : Shp} {I : IM} {R : RM} {k : Nat} (h : tg sh k = 9) (hr : st.length ≤ 8) : ev S d 152 12 [a0, a1, a2] (.inr (.inl k) :: st) (sh, I, R) = bnd (cl d 137 [.inr (.inl k)] (sh, I, R)) (fun v M => ev S d 152 15 [a0, a1, a2] (psh v st) M) := (ev_eq f_152_12).trans (congrArg (fin S d 152) (if_pos ⟨h, rfl, hr⟩))
theorem f_152_15 : fetch 152 15 = some (15, .bipush 30, 2, [], 30) := (fm_152 15).trans rfl
theorem u_152_15 {S : Scr} {d : Nat} {a0 a1 a2 : AV} {st : List AV} {sh : Shp} {I : IM} {R : RM} : ev S d 152 15 [a0, a1, a2] st (sh, I, R) = ev S d 152 17 [a0, a1, a2] (.inl 30 :: st) (sh, I, R) := (ev_eq f_152_15).trans rfl
theorem f_152_17 : fetch 152 17 = some (17, .if_icmp .ne 6, 3, [23], 0) := (fm_152 17).trans rfl
theorem u_152_17 {S : Scr} {d : Nat} {a0 a1 a2 : AV} {st : List AV} {sh : Shp} {I : IM} {R : RM} {x y : Int} : ev S d 152 17 [a0, a1, a2] (.inl y :: .inl x :: st) (sh, I, R) = if ¬ x = y then ev S d 152 23 [a0, a1, a2] st (sh, I, R) else ev S d 152 20 [a0, a1, a2] st (sh, I, R) := (ev_eq f_152_17).trans fin_icmp_ne
theorem f_152_20 : fetch 152 20 = some (20, .bipush (-3), 2, [], (-3)) := (fm_152 20).trans rfl
theorem u_152_20 {S : Scr} {d : Nat} {a0 a1 a2 : AV} {st : List AV} {sh : Shp} {I : IM} {R : RM} : ev S d 152 20 [a0, a1, a2] st (sh, I, R) = ev S d 152 22 [a0, a1, a2] (.inl (-3) :: st) (sh, I, R) := (ev_eq f_152_20).trans rfl
theorem f_152_22 : fetch 152 22 = some (22, .ireturn, 1, [0], 0) := (fm_152 22).trans rfl
theorem u_152_22 {S : Scr} {d : Nat} {a0 a1 a2 : AV} {sh : Shp} {I : IM} {R : RM} {x : Int} : ev S d 152 22 [a0, a1, a2] [.inl x] (sh, I, R) = some (some (.inl x), (sh, I, R)) := (ev_eq f_152_22).trans fin_iret0
theorem f_152_23 : fetch 152 23 = some (23, .aload_n 0, 1, [0], 0) := (fm_152 23).trans rfl
theorem u_152_23 {S : Scr} {d : Nat} {a1 a2 : AV} {st : List AV} {sh : Shp} {I : IM} {R : RM} {x : Nat} : ev S d 152 23 [.inr (.inl x), a1, a2] st (sh, I, R) = ev S d 152 24 [.inr (.inl x), a1, a2] (.inr (.inl x) :: st) (sh, I, R) := (ev_eq f_152_23).trans rfl
theorem f_152_24 : fetch 152 24 = some (24, .iload_n 1, 1, [1], 0) := (fm_152 24).trans rfl
theorem u_152_24 {S : Scr} {d : Nat} {a0 a2 : AV} {st : List AV} {sh : Shp} {I : IM} {R : RM} {x : Int} : ev S d 152 24 [a0, .inl x, a2] st (sh, I, R) = ev S d 152 25 [a0, .inl x, a2] (.inl x :: st) (sh, I, R) := (ev_eq f_152_24).trans rfl
theorem f_152_25 : fetch 152 25 = some (25, .iconst 0, 1, [], 0) := (fm_152 25).trans rfl
theorem u_152_25 {S : Scr} {d : Nat} {a0 a1 a2 : AV} {st : List AV} {sh : Shp} {I : IM} {R : RM} : ev S d 152 25 [a0, a1, a2] st (sh, I, R) = ev S d 152 26 [a0, a1, a2] (.inl 0 :: st) (sh, I, R) := (ev_eq f_152_25).trans rfl
theorem f_152_26 : fetch 152 26 = some (26, .iload_n 1, 1, [1], 0) := (fm_152 26).trans rfl
theorem u_152_26 {S : Scr} {d : Nat} {a0 a2 : AV} {st : List AV} {sh : Shp} {I : IM} {R : RM} {x : Int} : ev S d 152 26 [a0, .inl x, a2] st (sh, I, R) = ev S d 152 27 [a0, .inl x, a2] (.inl x :: st) (sh, I, R) := (ev_eq f_152_26).trans rfl
theorem f_152_27 : fetch 152 27 = some (27, .invokestatic 108, 3, [151, 1, 137], 0) := (fm_152 27).trans rfl
theorem u_152_27 {S : Scr} {d : Nat} {a0 a1 a2 : AV} {st : List AV} {sh : Shp} {I : IM} {R : RM} {x0 : Int} (hr : st.length ≤ 8) : ev S d 152 27 [a0, a1, a2] (.inl x0 :: st) (sh, I, R) = bnd (cl d 151 [.inl x0] (sh, I, R)) (fun v M => ev S d 152 30 [a0, a1, a2] (psh v st) M) := (ev_eq f_152_27).trans (congrArg (fin S d 152) (if_pos ⟨rfl, hr⟩))
theorem f_152_30 : fetch 152 30 = some (30, .invokevirtual 111, 3, [139, 3, 138], 0) := (fm_152 30).trans rfl
theorem u_152_30 {S : Scr} {d : Nat} {a0 a1 a2 : AV} {st : List AV} {sh : Shp} {I : IM} {R : RM} {x0 : Int} {x1 : Int} {x2 : Int} {k : Nat} (h : tg sh k = 9) (hr : st.length ≤ 8) : ev S d 152 30 [a0, a1, a2] (.inl x2 :: .inl x1 :: .inl x0 :: .inr (.inl k) :: st) (sh, I, R) = bnd (cl d 139 [.inr (.inl k), .inl x0, .inl x1, .inl x2] (sh, I, R)) (fun v M => ev S d 152 33 [a0, a1, a2] (psh v st) M) := (ev_eq f_152_30).trans (congrArg (fin S d 152) (if_pos ⟨h, rfl, hr⟩))
theorem f_152_33 : fetch 152 33 = some (33, .istore_n 2, 1, [2], 0) := (fm_152 33).trans rfl
theorem u_152_33 {S : Scr} {d : Nat} {a0 a1 a2 : AV} {st : List AV} {sh : Shp} {I : IM} {R : RM} {x : Int} : ev S d 152 33 [a0, a1, a2] (.inl x :: st) (sh, I, R) = ev S d 152 34 [a0, a1, .inl x] st (sh, I, R) := (ev_eq f_152_33).trans rfl
theorem f_152_34 : fetch 152 34 = some (34, .aload_n 0, 1, [0], 0) := (fm_152 34).trans rfl
theorem u_152_34 {S : Scr} {d : Nat} {a1 a2 : AV} {st : List AV} {sh : Shp} {I : IM} {R : RM} {x : Nat} : ev S d 152 34 [.inr (.inl x), a1, a2] st (sh, I, R) = ev S d 152 35 [.inr (.inl x), a1, a2] (.inr (.inl x) :: st) (sh, I, R) := (ev_eq f_152_34).trans rfl
theorem f_152_35 : fetch 152 35 = some (35, .iload_n 2, 1, [2], 0) := (fm_152 35).trans rfl
theorem u_152_35 {S : Scr} {d : Nat} {a0 a1 : AV} {st : List AV} {sh : Shp} {I : IM} {R : RM} {x : Int} : ev S d 152 35 [a0, a1, .inl x] st (sh, I, R) = ev S d 152 36 [a0, a1, .inl x] (.inl x :: st) (sh, I, R) := (ev_eq f_152_35).trans rfl
theorem f_152_36 : fetch 152 36 = some (36, .invokevirtual 115, 3, [145, 1, 139], 0) := (fm_152 36).trans rfl
theorem u_152_36 {S : Scr} {d : Nat} {a0 a1 a2 : AV} {st : List AV} {sh : Shp} {I : IM} {R : RM} {x0 : Int} {k : Nat} (h : tg sh k = 9) (hr : st.length ≤ 8) : ev S d 152 36 [a0, a1, a2] (.inl x0 :: .inr (.inl k) :: st) (sh, I, R) = bnd (cl d 145 [.inr (.inl k), .inl x0] (sh, I, R)) (fun v M => ev S d 152 39 [a0, a1, a2] (psh v st) M) := (ev_eq f_152_36).trans (congrArg (fin S d 152) (if_pos ⟨h, rfl, hr⟩))
theorem f_152_39 : fetch 152 39 = some (39, .iload_n 2, 1, [2], 0) := (fm_152 39).trans rfl
theorem u_152_39 {S : Scr} {d : Nat} {a0 a1 : AV} {st : List AV} {sh : Shp} {I : IM} {R : RM} {x : Int} : ev S d 152 39 [a0, a1, .inl x] st (sh, I, R) = ev S d 152 40 [a0, a1, .inl x] (.inl x :: st) (sh, I, R) := (ev_eq f_152_39).trans rfl
theorem f_152_40 : fetch 152 40 = some (40, .ireturn, 1, [0], 0) := (fm_152 40).trans rfl
theorem u_152_40 {S : Scr} {d : Nat} {a0 a1 a2 : AV} {sh : Shp} {I : IM} {R : RM} {x : Int} : ev S d 152 40 [a0, a1, a2] [.inl x] (sh, I, R) = some (some (.inl x), (sh, I, R)) := (ev_eq f_152_40).trans fin_iret0
theorem c_153 {d : Nat} {a0 a1 a2 : AV} {M : Mem} : cl (d + 1) 153 [a0, a1, a2] M = ev S0 d 153 0 [a0, a1, a2] [] M := (cl_eq (as := [a0, a1, a2]) (show 3 ≤ maxOf 153 by decide +kernel)).trans rfl
theorem mt_153 : MT[153]? = some m_153 := rfl
theorem fm_153 (pc : Nat) : fetch 153 pc = lk m_153.2.2.2.2.2 pc := by
  unfold fetch
  rw [mt_153]
theorem f_153_0 : fetch 153 0 = some (0, .iload_n 1, 1, [1], 0) := (fm_153 0).trans rfl
theorem u_153_0 {S : Scr} {d : Nat} {a0 a2 : AV} {st : List AV} {sh : Shp} {I : IM} {R : RM} {x : Int} : ev S d 153 0 [a0, .inl x, a2] st (sh, I, R) = ev S d 153 1 [a0, .inl x, a2] (.inl x :: st) (sh, I, R) := (ev_eq f_153_0).trans rfl
theorem f_153_1 : fetch 153 1 = some (1, .iconst 0, 1, [], 0) := (fm_153 1).trans rfl
theorem u_153_1 {S : Scr} {d : Nat} {a0 a1 a2 : AV} {st : List AV} {sh : Shp} {I : IM} {R : RM} : ev S d 153 1 [a0, a1, a2] st (sh, I, R) = ev S d 153 2 [a0, a1, a2] (.inl 0 :: st) (sh, I, R) := (ev_eq f_153_1).trans rfl
theorem f_153_2 : fetch 153 2 = some (2, .iconst 3, 1, [], 3) := (fm_153 2).trans rfl
theorem u_153_2 {S : Scr} {d : Nat} {a0 a1 a2 : AV} {st : List AV} {sh : Shp} {I : IM} {R : RM} : ev S d 153 2 [a0, a1, a2] st (sh, I, R) = ev S d 153 3 [a0, a1, a2] (.inl 3 :: st) (sh, I, R) := (ev_eq f_153_2).trans rfl
theorem f_153_3 : fetch 153 3 = some (3, .invokestatic 64, 3, [129, 3, 125], 0) := (fm_153 3).trans rfl
theorem u_153_3 {S : Scr} {d : Nat} {a0 a1 a2 : AV} {st : List AV} {sh : Shp} {I : IM} {R : RM} {x0 : Int} {x1 : Int} {x2 : Int} (hr : st.length ≤ 8) : ev S d 153 3 [a0, a1, a2] (.inl x2 :: .inl x1 :: .inl x0 :: st) (sh, I, R) = bnd (cl d 129 [.inl x0, .inl x1, .inl x2] (sh, I, R)) (fun v M => ev S d 153 6 [a0, a1, a2] (psh v st) M) := (ev_eq f_153_3).trans (congrArg (fin S d 153) (if_pos ⟨rfl, hr⟩))
theorem f_153_6 : fetch 153 6 = some (6, .ifCond .eq 9, 3, [15], 0) := (fm_153 6).trans rfl
theorem u_153_6 {S : Scr} {d : Nat} {a0 a1 a2 : AV} {st : List AV} {sh : Shp} {I : IM} {R : RM} {x : Int} : ev S d 153 6 [a0, a1, a2] (.inl x :: st) (sh, I, R) = if x = 0 then ev S d 153 15 [a0, a1, a2] st (sh, I, R) else ev S d 153 9 [a0, a1, a2] st (sh, I, R) := (ev_eq f_153_6).trans fin_if_eq
theorem f_153_9 : fetch 153 9 = some (9, .iload_n 2, 1, [2], 0) := (fm_153 9).trans rfl
theorem u_153_9 {S : Scr} {d : Nat} {a0 a1 : AV} {st : List AV} {sh : Shp} {I : IM} {R : RM} {x : Int} : ev S d 153 9 [a0, a1, .inl x] st (sh, I, R) = ev S d 153 10 [a0, a1, .inl x] (.inl x :: st) (sh, I, R) := (ev_eq f_153_9).trans rfl
theorem f_153_10 : fetch 153 10 = some (10, .bipush 6, 2, [], 6) := (fm_153 10).trans rfl
theorem u_153_10 {S : Scr} {d : Nat} {a0 a1 a2 : AV} {st : List AV} {sh : Shp} {I : IM} {R : RM} : ev S d 153 10 [a0, a1, a2] st (sh, I, R) = ev S d 153 12 [a0, a1, a2] (.inl 6 :: st) (sh, I, R) := (ev_eq f_153_10).trans rfl
theorem f_153_12 : fetch 153 12 = some (12, .if_icmp .le 5, 3, [17], 0) := (fm_153 12).trans rfl
theorem u_153_12 {S : Scr} {d : Nat} {a0 a1 a2 : AV} {st : List AV} {sh : Shp} {I : IM} {R : RM} {x y : Int} : ev S d 153 12 [a0, a1, a2] (.inl y :: .inl x :: st) (sh, I, R) = if x ≤ y then ev S d 153 17 [a0, a1, a2] st (sh, I, R) else ev S d 153 15 [a0, a1, a2] st (sh, I, R) := (ev_eq f_153_12).trans fin_icmp_le
theorem f_153_15 : fetch 153 15 = some (15, .iconst (-1), 1, [], (-1)) := (fm_153 15).trans rfl
theorem u_153_15 {S : Scr} {d : Nat} {a0 a1 a2 : AV} {st : List AV} {sh : Shp} {I : IM} {R : RM} : ev S d 153 15 [a0, a1, a2] st (sh, I, R) = ev S d 153 16 [a0, a1, a2] (.inl (-1) :: st) (sh, I, R) := (ev_eq f_153_15).trans rfl
theorem f_153_16 : fetch 153 16 = some (16, .ireturn, 1, [0], 0) := (fm_153 16).trans rfl
theorem u_153_16 {S : Scr} {d : Nat} {a0 a1 a2 : AV} {sh : Shp} {I : IM} {R : RM} {x : Int} : ev S d 153 16 [a0, a1, a2] [.inl x] (sh, I, R) = some (some (.inl x), (sh, I, R)) := (ev_eq f_153_16).trans fin_iret0
theorem f_153_17 : fetch 153 17 = some (17, .iload_n 2, 1, [2], 0) := (fm_153 17).trans rfl
theorem u_153_17 {S : Scr} {d : Nat} {a0 a1 : AV} {st : List AV} {sh : Shp} {I : IM} {R : RM} {x : Int} : ev S d 153 17 [a0, a1, .inl x] st (sh, I, R) = ev S d 153 18 [a0, a1, .inl x] (.inl x :: st) (sh, I, R) := (ev_eq f_153_17).trans rfl
theorem f_153_18 : fetch 153 18 = some (18, .ifCond .ge 6, 3, [24], 0) := (fm_153 18).trans rfl
theorem u_153_18 {S : Scr} {d : Nat} {a0 a1 a2 : AV} {st : List AV} {sh : Shp} {I : IM} {R : RM} {x : Int} : ev S d 153 18 [a0, a1, a2] (.inl x :: st) (sh, I, R) = if 0 ≤ x then ev S d 153 24 [a0, a1, a2] st (sh, I, R) else ev S d 153 21 [a0, a1, a2] st (sh, I, R) := (ev_eq f_153_18).trans fin_if_ge
theorem f_153_21 : fetch 153 21 = some (21, .bipush (-14), 2, [], (-14)) := (fm_153 21).trans rfl
theorem u_153_21 {S : Scr} {d : Nat} {a0 a1 a2 : AV} {st : List AV} {sh : Shp} {I : IM} {R : RM} : ev S d 153 21 [a0, a1, a2] st (sh, I, R) = ev S d 153 23 [a0, a1, a2] (.inl (-14) :: st) (sh, I, R) := (ev_eq f_153_21).trans rfl
theorem f_153_23 : fetch 153 23 = some (23, .ireturn, 1, [0], 0) := (fm_153 23).trans rfl
theorem u_153_23 {S : Scr} {d : Nat} {a0 a1 a2 : AV} {sh : Shp} {I : IM} {R : RM} {x : Int} : ev S d 153 23 [a0, a1, a2] [.inl x] (sh, I, R) = some (some (.inl x), (sh, I, R)) := (ev_eq f_153_23).trans fin_iret0
theorem f_153_24 : fetch 153 24 = some (24, .aload_n 0, 1, [0], 0) := (fm_153 24).trans rfl
theorem u_153_24 {S : Scr} {d : Nat} {a1 a2 : AV} {st : List AV} {sh : Shp} {I : IM} {R : RM} {x : Nat} : ev S d 153 24 [.inr (.inl x), a1, a2] st (sh, I, R) = ev S d 153 25 [.inr (.inl x), a1, a2] (.inr (.inl x) :: st) (sh, I, R) := (ev_eq f_153_24).trans rfl
theorem f_153_25 : fetch 153 25 = some (25, .invokevirtual 105, 3, [137, 0, 136], 0) := (fm_153 25).trans rfl
theorem u_153_25 {S : Scr} {d : Nat} {a0 a1 a2 : AV} {st : List AV} {sh : Shp} {I : IM} {R : RM} {k : Nat} (h : tg sh k = 9) (hr : st.length ≤ 8) : ev S d 153 25 [a0, a1, a2] (.inr (.inl k) :: st) (sh, I, R) = bnd (cl d 137 [.inr (.inl k)] (sh, I, R)) (fun v M => ev S d 153 28 [a0, a1, a2] (psh v st) M) := (ev_eq f_153_25).trans (congrArg (fin S d 153) (if_pos ⟨h, rfl, hr⟩))
theorem f_153_28 : fetch 153 28 = some (28, .bipush 30, 2, [], 30) := (fm_153 28).trans rfl
theorem u_153_28 {S : Scr} {d : Nat} {a0 a1 a2 : AV} {st : List AV} {sh : Shp} {I : IM} {R : RM} : ev S d 153 28 [a0, a1, a2] st (sh, I, R) = ev S d 153 30 [a0, a1, a2] (.inl 30 :: st) (sh, I, R) := (ev_eq f_153_28).trans rfl
theorem f_153_30 : fetch 153 30 = some (30, .if_icmp .ne 8, 3, [38], 0) := (fm_153 30).trans rfl
theorem u_153_30 {S : Scr} {d : Nat} {a0 a1 a2 : AV} {st : List AV} {sh : Shp} {I : IM} {R : RM} {x y : Int} : ev S d 153 30 [a0, a1, a2] (.inl y :: .inl x :: st) (sh, I, R) = if ¬ x = y then ev S d 153 38 [a0, a1, a2] st (sh, I, R) else ev S d 153 33 [a0, a1, a2] st (sh, I, R) := (ev_eq f_153_30).trans fin_icmp_ne
theorem f_153_33 : fetch 153 33 = some (33, .bipush (-3), 2, [], (-3)) := (fm_153 33).trans rfl
theorem u_153_33 {S : Scr} {d : Nat} {a0 a1 a2 : AV} {st : List AV} {sh : Shp} {I : IM} {R : RM} : ev S d 153 33 [a0, a1, a2] st (sh, I, R) = ev S d 153 35 [a0, a1, a2] (.inl (-3) :: st) (sh, I, R) := (ev_eq f_153_33).trans rfl
theorem f_153_35 : fetch 153 35 = some (35, .goto 10, 3, [45], 0) := (fm_153 35).trans rfl
theorem u_153_35 {S : Scr} {d : Nat} {a0 a1 a2 : AV} {st : List AV} {sh : Shp} {I : IM} {R : RM} : ev S d 153 35 [a0, a1, a2] st (sh, I, R) = ev S d 153 45 [a0, a1, a2] st (sh, I, R) := (ev_eq f_153_35).trans rfl
theorem f_153_38 : fetch 153 38 = some (38, .aload_n 0, 1, [0], 0) := (fm_153 38).trans rfl
theorem u_153_38 {S : Scr} {d : Nat} {a1 a2 : AV} {st : List AV} {sh : Shp} {I : IM} {R : RM} {x : Nat} : ev S d 153 38 [.inr (.inl x), a1, a2] st (sh, I, R) = ev S d 153 39 [.inr (.inl x), a1, a2] (.inr (.inl x) :: st) (sh, I, R) := (ev_eq f_153_38).trans rfl
theorem f_153_39 : fetch 153 39 = some (39, .iconst 4, 1, [], 4) := (fm_153 39).trans rfl
theorem u_153_39 {S : Scr} {d : Nat} {a0 a1 a2 : AV} {st : List AV} {sh : Shp} {I : IM} {R : RM} : ev S d 153 39 [a0, a1, a2] st (sh, I, R) = ev S d 153 40 [a0, a1, a2] (.inl 4 :: st) (sh, I, R) := (ev_eq f_153_39).trans rfl
theorem f_153_40 : fetch 153 40 = some (40, .iload_n 1, 1, [1], 0) := (fm_153 40).trans rfl
theorem u_153_40 {S : Scr} {d : Nat} {a0 a2 : AV} {st : List AV} {sh : Shp} {I : IM} {R : RM} {x : Int} : ev S d 153 40 [a0, .inl x, a2] st (sh, I, R) = ev S d 153 41 [a0, .inl x, a2] (.inl x :: st) (sh, I, R) := (ev_eq f_153_40).trans rfl
theorem f_153_41 : fetch 153 41 = some (41, .iload_n 2, 1, [2], 0) := (fm_153 41).trans rfl
theorem u_153_41 {S : Scr} {d : Nat} {a0 a1 : AV} {st : List AV} {sh : Shp} {I : IM} {R : RM} {x : Int} : ev S d 153 41 [a0, a1, .inl x] st (sh, I, R) = ev S d 153 42 [a0, a1, .inl x] (.inl x :: st) (sh, I, R) := (ev_eq f_153_41).trans rfl
theorem f_153_42 : fetch 153 42 = some (42, .invokevirtual 111, 3, [139, 3, 138], 0) := (fm_153 42).trans rfl
theorem u_153_42 {S : Scr} {d : Nat} {a0 a1 a2 : AV} {st : List AV} {sh : Shp} {I : IM} {R : RM} {x0 : Int} {x1 : Int} {x2 : Int} {k : Nat} (h : tg sh k = 9) (hr : st.length ≤ 8) : ev S d 153 42 [a0, a1, a2] (.inl x2 :: .inl x1 :: .inl x0 :: .inr (.inl k) :: st) (sh, I, R) = bnd (cl d 139 [.inr (.inl k), .inl x0, .inl x1, .inl x2] (sh, I, R)) (fun v M => ev S d 153 45 [a0, a1, a2] (psh v st) M) := (ev_eq f_153_42).trans (congrArg (fin S d 153) (if_pos ⟨h, rfl, hr⟩))
theorem f_153_45 : fetch 153 45 = some (45, .ireturn, 1, [0], 0) := (fm_153 45).trans rfl
theorem u_153_45 {S : Scr} {d : Nat} {a0 a1 a2 : AV} {sh : Shp} {I : IM} {R : RM} {x : Int} : ev S d 153 45 [a0, a1, a2] [.inl x] (sh, I, R) = some (some (.inl x), (sh, I, R)) := (ev_eq f_153_45).trans fin_iret0
theorem c_154 {d : Nat} {a0 a1 : AV} {M : Mem} : cl (d + 1) 154 [a0, a1] M = ev S0 d 154 0 [a0, a1] [] M := (cl_eq (as := [a0, a1]) (show 2 ≤ maxOf 154 by decide +kernel)).trans rfl
theorem mt_154 : MT[154]? = some m_154 := rfl
theorem fm_154 (pc : Nat) : fetch 154 pc = lk m_154.2.2.2.2.2 pc := by
  unfold fetch
  rw [mt_154]
theorem f_154_0 : fetch 154 0 = some (0, .aload_n 0, 1, [0], 0) := (fm_154 0).trans rfl
theorem u_154_0 {S : Scr} {d : Nat} {a1 : AV} {st : List AV} {sh : Shp} {I : IM} {R : RM} {x : Nat} : ev S d 154 0 [.inr (.inl x), a1] st (sh, I, R) = ev S d 154 1 [.inr (.inl x), a1] (.inr (.inl x) :: st) (sh, I, R) := (ev_eq f_154_0).trans rfl
theorem f_154_1 : fetch 154 1 = some (1, .iload_n 1, 1, [1], 0) := (fm_154 1).trans rfl
theorem u_154_1 {S : Scr} {d : Nat} {a0 : AV} {st : List AV} {sh : Shp} {I : IM} {R : RM} {x : Int} : ev S d 154 1 [a0, .inl x] st (sh, I, R) = ev S d 154 2 [a0, .inl x] (.inl x :: st) (sh, I, R) := (ev_eq f_154_1).trans rfl
theorem f_154_2 : fetch 154 2 = some (2, .invokevirtual 68, 3, [133, 1, 126], 0) := (fm_154 2).trans rfl
theorem u_154_2 {S : Scr} {d : Nat} {a0 a1 : AV} {st : List AV} {sh : Shp} {I : IM} {R : RM} {x0 : Int} {k : Nat} (h : tg sh k = 9) (hr : st.length ≤ 8) : ev S d 154 2 [a0, a1] (.inl x0 :: .inr (.inl k) :: st) (sh, I, R) = bnd (cl d 133 [.inr (.inl k), .inl x0] (sh, I, R)) (fun v M => ev S d 154 5 [a0, a1] (psh v st) M) := (ev_eq f_154_2).trans (congrArg (fin S d 154) (if_pos ⟨h, rfl, hr⟩))
theorem f_154_5 : fetch 154 5 = some (5, .ifCond .eq 19, 3, [24], 0) := (fm_154 5).trans rfl
theorem u_154_5 {S : Scr} {d : Nat} {a0 a1 : AV} {st : List AV} {sh : Shp} {I : IM} {R : RM} {x : Int} : ev S d 154 5 [a0, a1] (.inl x :: st) (sh, I, R) = if x = 0 then ev S d 154 24 [a0, a1] st (sh, I, R) else ev S d 154 8 [a0, a1] st (sh, I, R) := (ev_eq f_154_5).trans fin_if_eq
theorem f_154_8 : fetch 154 8 = some (8, .aload_n 0, 1, [0], 0) := (fm_154 8).trans rfl
theorem u_154_8 {S : Scr} {d : Nat} {a1 : AV} {st : List AV} {sh : Shp} {I : IM} {R : RM} {x : Nat} : ev S d 154 8 [.inr (.inl x), a1] st (sh, I, R) = ev S d 154 9 [.inr (.inl x), a1] (.inr (.inl x) :: st) (sh, I, R) := (ev_eq f_154_8).trans rfl
theorem f_154_9 : fetch 154 9 = some (9, .getfield 9, 3, [9, 0, 1, 79], 0) := (fm_154 9).trans rfl
theorem u_154_9 {S : Scr} {d : Nat} {a0 a1 : AV} {st : List AV} {sh : Shp} {I : IM} {R : RM} {k : Nat} (h : tg sh k = 9) : ev S d 154 9 [a0, a1] (.inr (.inl k) :: st) (sh, I, R) = ev S d 154 12 [a0, a1] (rv (R k 0) :: st) (sh, I, R) := (ev_eq f_154_9).trans (congrArg (fin S d 154) (if_pos h))
theorem f_154_12 : fetch 154 12 = some (12, .iconst 0, 1, [], 0) := (fm_154 12).trans rfl
theorem u_154_12 {S : Scr} {d : Nat} {a0 a1 : AV} {st : List AV} {sh : Shp} {I : IM} {R : RM} : ev S d 154 12 [a0, a1] st (sh, I, R) = ev S d 154 13 [a0, a1] (.inl 0 :: st) (sh, I, R) := (ev_eq f_154_12).trans rfl
theorem f_154_13 : fetch 154 13 = some (13, .iload_n 1, 1, [1], 0) := (fm_154 13).trans rfl
theorem u_154_13 {S : Scr} {d : Nat} {a0 : AV} {st : List AV} {sh : Shp} {I : IM} {R : RM} {x : Int} : ev S d 154 13 [a0, .inl x] st (sh, I, R) = ev S d 154 14 [a0, .inl x] (.inl x :: st) (sh, I, R) := (ev_eq f_154_13).trans rfl
theorem f_154_14 : fetch 154 14 = some (14, .iadd, 1, [], 0) := (fm_154 14).trans rfl
theorem u_154_14 {S : Scr} {d : Nat} {a0 a1 : AV} {st : List AV} {sh : Shp} {I : IM} {R : RM} {x y : Int} : ev S d 154 14 [a0, a1] (.inl y :: .inl x :: st) (sh, I, R) = ev S d 154 15 [a0, a1] (.inl (wr (x + y)) :: st) (sh, I, R) := (ev_eq f_154_14).trans rfl
theorem f_154_15 : fetch 154 15 = some (15, .iaload, 1, [], 0) := (fm_154 15).trans rfl
theorem u_154_15 {S : Scr} {d : Nat} {a0 a1 : AV} {st : List AV} {sh : Shp} {I : IM} {R : RM} {k : Nat} {i : Int} (h : tg sh k = 100) (h0 : 0 ≤ i) (h1 : i < ln sh k) : ev S d 154 15 [a0, a1] (.inl i :: .inr (.inl k) :: st) (sh, I, R) = ev S d 154 16 [a0, a1] (.inl (I k i) :: st) (sh, I, R) := (ev_eq f_154_15).trans (congrArg (fin S d 154) (if_pos ⟨h, h0, h1⟩))
theorem f_154_16 : fetch 154 16 = some (16, .iconst 4, 1, [], 4) := (fm_154 16).trans rfl
theorem u_154_16 {S : Scr} {d : Nat} {a0 a1 : AV} {st : List AV} {sh : Shp} {I : IM} {R : RM} : ev S d 154 16 [a0, a1] st (sh, I, R) = ev S d 154 17 [a0, a1] (.inl 4 :: st) (sh, I, R) := (ev_eq f_154_16).trans rfl
theorem f_154_17 : fetch 154 17 = some (17, .if_icmp .eq 7, 3, [24], 0) := (fm_154 17).trans rfl
theorem u_154_17 {S : Scr} {d : Nat} {a0 a1 : AV} {st : List AV} {sh : Shp} {I : IM} {R : RM} {x y : Int} : ev S d 154 17 [a0, a1] (.inl y :: .inl x :: st) (sh, I, R) = if x = y then ev S d 154 24 [a0, a1] st (sh, I, R) else ev S d 154 20 [a0, a1] st (sh, I, R) := (ev_eq f_154_17).trans fin_icmp_eq
theorem f_154_20 : fetch 154 20 = some (20, .iconst 1, 1, [], 1) := (fm_154 20).trans rfl
theorem u_154_20 {S : Scr} {d : Nat} {a0 a1 : AV} {st : List AV} {sh : Shp} {I : IM} {R : RM} : ev S d 154 20 [a0, a1] st (sh, I, R) = ev S d 154 21 [a0, a1] (.inl 1 :: st) (sh, I, R) := (ev_eq f_154_20).trans rfl
theorem f_154_21 : fetch 154 21 = some (21, .goto 4, 3, [25], 0) := (fm_154 21).trans rfl
theorem u_154_21 {S : Scr} {d : Nat} {a0 a1 : AV} {st : List AV} {sh : Shp} {I : IM} {R : RM} : ev S d 154 21 [a0, a1] st (sh, I, R) = ev S d 154 25 [a0, a1] st (sh, I, R) := (ev_eq f_154_21).trans rfl
theorem f_154_24 : fetch 154 24 = some (24, .iconst 0, 1, [], 0) := (fm_154 24).trans rfl
theorem u_154_24 {S : Scr} {d : Nat} {a0 a1 : AV} {st : List AV} {sh : Shp} {I : IM} {R : RM} : ev S d 154 24 [a0, a1] st (sh, I, R) = ev S d 154 25 [a0, a1] (.inl 0 :: st) (sh, I, R) := (ev_eq f_154_24).trans rfl
theorem f_154_25 : fetch 154 25 = some (25, .ireturn, 1, [1], 0) := (fm_154 25).trans rfl
theorem u_154_25 {S : Scr} {d : Nat} {a0 a1 : AV} {sh : Shp} {I : IM} {R : RM} {x : Int} (h : x = 0 ∨ x = 1) : ev S d 154 25 [a0, a1] [.inl x] (sh, I, R) = some (some (.inl x), (sh, I, R)) := (ev_eq f_154_25).trans (fin_iret1 h)
theorem c_155 {d : Nat} {a0 a1 a2 a3 : AV} {M : Mem} : cl (d + 1) 155 [a0, a1, a2, a3] M = ev S0 d 155 0 [a0, a1, a2, a3, .inr (.inr 1), .inr (.inr 1)] [] M := (cl_eq (as := [a0, a1, a2, a3]) (show 4 ≤ maxOf 155 by decide +kernel)).trans rfl
theorem mt_155 : MT[155]? = some m_155 := rfl
theorem fm_155 (pc : Nat) : fetch 155 pc = lk m_155.2.2.2.2.2 pc := by
  unfold fetch
  rw [mt_155]
theorem f_155_0 : fetch 155 0 = some (0, .aload_n 0, 1, [0], 0) := (fm_155 0).trans rfl
theorem u_155_0 {S : Scr} {d : Nat} {a1 a2 a3 a4 a5 : AV} {st : List AV} {sh : Shp} {I : IM} {R : RM} {x : Nat} : ev S d 155 0 [.inr (.inl x), a1, a2, a3, a4, a5] st (sh, I, R) = ev S d 155 1 [.inr (.inl x), a1, a2, a3, a4, a5] (.inr (.inl x) :: st) (sh, I, R) := (ev_eq f_155_0).trans rfl
theorem f_155_1 : fetch 155 1 = some (1, .iload_n 1, 1, [1], 0) := (fm_155 1).trans rfl
theorem u_155_1 {S : Scr} {d : Nat} {a0 a2 a3 a4 a5 : AV} {st : List AV} {sh : Shp} {I : IM} {R : RM} {x : Int} : ev S d 155 1 [a0, .inl x, a2, a3, a4, a5] st (sh, I, R) = ev S d 155 2 [a0, .inl x, a2, a3, a4, a5] (.inl x :: st) (sh, I, R) := (ev_eq f_155_1).trans rfl
theorem f_155_2 : fetch 155 2 = some (2, .invokevirtual 119, 3, [154, 1, 140], 0) := (fm_155 2).trans rfl
theorem u_155_2 {S : Scr} {d : Nat} {a0 a1 a2 a3 a4 a5 : AV} {st : List AV} {sh : Shp} {I : IM} {R : RM} {x0 : Int} {k : Nat} (h : tg sh k = 9) (hr : st.length ≤ 8) : ev S d 155 2 [a0, a1, a2, a3, a4, a5] (.inl x0 :: .inr (.inl k) :: st) (sh, I, R) = bnd (cl d 154 [.inr (.inl k), .inl x0] (sh, I, R)) (fun v M => ev S d 155 5 [a0, a1, a2, a3, a4, a5] (psh v st) M) := (ev_eq f_155_2).trans (congrArg (fin S d 155) (if_pos ⟨h, rfl, hr⟩))
theorem f_155_5 : fetch 155 5 = some (5, .ifCond .eq 17, 3, [22], 0) := (fm_155 5).trans rfl
theorem u_155_5 {S : Scr} {d : Nat} {a0 a1 a2 a3 a4 a5 : AV} {st : List AV} {sh : Shp} {I : IM} {R : RM} {x : Int} : ev S d 155 5 [a0, a1, a2, a3, a4, a5] (.inl x :: st) (sh, I, R) = if x = 0 then ev S d 155 22 [a0, a1, a2, a3, a4, a5] st (sh, I, R) else ev S d 155 8 [a0, a1, a2, a3, a4, a5] st (sh, I, R) := (ev_eq f_155_5).trans fin_if_eq
theorem f_155_8 : fetch 155 8 = some (8, .iload_n 2, 1, [2], 0) := (fm_155 8).trans rfl
theorem u_155_8 {S : Scr} {d : Nat} {a0 a1 a3 a4 a5 : AV} {st : List AV} {sh : Shp} {I : IM} {R : RM} {x : Int} : ev S d 155 8 [a0, a1, .inl x, a3, a4, a5] st (sh, I, R) = ev S d 155 9 [a0, a1, .inl x, a3, a4, a5] (.inl x :: st) (sh, I, R) := (ev_eq f_155_8).trans rfl
theorem f_155_9 : fetch 155 9 = some (9, .invokestatic 95, 3, [131, 1, 133], 0) := (fm_155 9).trans rfl
theorem u_155_9 {S : Scr} {d : Nat} {a0 a1 a2 a3 a4 a5 : AV} {st : List AV} {sh : Shp} {I : IM} {R : RM} {x0 : Int} (hr : st.length ≤ 8) : ev S d 155 9 [a0, a1, a2, a3, a4, a5] (.inl x0 :: st) (sh, I, R) = bnd (cl d 131 [.inl x0] (sh, I, R)) (fun v M => ev S d 155 12 [a0, a1, a2, a3, a4, a5] (psh v st) M) := (ev_eq f_155_9).trans (congrArg (fin S d 155) (if_pos ⟨rfl, hr⟩))
theorem f_155_12 : fetch 155 12 = some (12, .ifCond .eq 10, 3, [22], 0) := (fm_155 12).trans rfl
theorem u_155_12 {S : Scr} {d : Nat} {a0 a1 a2 a3 a4 a5 : AV} {st : List AV} {sh : Shp} {I : IM} {R : RM} {x : Int} : ev S d 155 12 [a0, a1, a2, a3, a4, a5] (.inl x :: st) (sh, I, R) = if x = 0 then ev S d 155 22 [a0, a1, a2, a3, a4, a5] st (sh, I, R) else ev S d 155 15 [a0, a1, a2, a3, a4, a5] st (sh, I, R) := (ev_eq f_155_12).trans fin_if_eq
theorem f_155_15 : fetch 155 15 = some (15, .iload_n 3, 1, [3], 0) := (fm_155 15).trans rfl
theorem u_155_15 {S : Scr} {d : Nat} {a0 a1 a2 a4 a5 : AV} {st : List AV} {sh : Shp} {I : IM} {R : RM} {x : Int} : ev S d 155 15 [a0, a1, a2, .inl x, a4, a5] st (sh, I, R) = ev S d 155 16 [a0, a1, a2, .inl x, a4, a5] (.inl x :: st) (sh, I, R) := (ev_eq f_155_15).trans rfl
theorem f_155_16 : fetch 155 16 = some (16, .invokestatic 98, 3, [132, 1, 134], 0) := (fm_155 16).trans rfl
theorem u_155_16 {S : Scr} {d : Nat} {a0 a1 a2 a3 a4 a5 : AV} {st : List AV} {sh : Shp} {I : IM} {R : RM} {x0 : Int} (hr : st.length ≤ 8) : ev S d 155 16 [a0, a1, a2, a3, a4, a5] (.inl x0 :: st) (sh, I, R) = bnd (cl d 132 [.inl x0] (sh, I, R)) (fun v M => ev S d 155 19 [a0, a1, a2, a3, a4, a5] (psh v st) M) := (ev_eq f_155_16).trans (congrArg (fin S d 155) (if_pos ⟨rfl, hr⟩))
theorem f_155_19 : fetch 155 19 = some (19, .ifCond .ne 6, 3, [25], 0) := (fm_155 19).trans rfl
theorem u_155_19 {S : Scr} {d : Nat} {a0 a1 a2 a3 a4 a5 : AV} {st : List AV} {sh : Shp} {I : IM} {R : RM} {x : Int} : ev S d 155 19 [a0, a1, a2, a3, a4, a5] (.inl x :: st) (sh, I, R) = if ¬ x = 0 then ev S d 155 25 [a0, a1, a2, a3, a4, a5] st (sh, I, R) else ev S d 155 22 [a0, a1, a2, a3, a4, a5] st (sh, I, R) := (ev_eq f_155_19).trans fin_if_ne
theorem f_155_22 : fetch 155 22 = some (22, .ldc 104, 2, [5], (-2000000000)) := (fm_155 22).trans rfl
theorem u_155_22 {S : Scr} {d : Nat} {a0 a1 a2 a3 a4 a5 : AV} {st : List AV} {sh : Shp} {I : IM} {R : RM} : ev S d 155 22 [a0, a1, a2, a3, a4, a5] st (sh, I, R) = ev S d 155 24 [a0, a1, a2, a3, a4, a5] (.inl (-2000000000) :: st) (sh, I, R) := (ev_eq f_155_22).trans rfl
theorem f_155_24 : fetch 155 24 = some (24, .ireturn, 1, [0], 0) := (fm_155 24).trans rfl
theorem u_155_24 {S : Scr} {d : Nat} {a0 a1 a2 a3 a4 a5 : AV} {sh : Shp} {I : IM} {R : RM} {x : Int} : ev S d 155 24 [a0, a1, a2, a3, a4, a5] [.inl x] (sh, I, R) = some (some (.inl x), (sh, I, R)) := (ev_eq f_155_24).trans fin_iret0
theorem f_155_25 : fetch 155 25 = some (25, .aload_n 0, 1, [0], 0) := (fm_155 25).trans rfl
theorem u_155_25 {S : Scr} {d : Nat} {a1 a2 a3 a4 a5 : AV} {st : List AV} {sh : Shp} {I : IM} {R : RM} {x : Nat} : ev S d 155 25 [.inr (.inl x), a1, a2, a3, a4, a5] st (sh, I, R) = ev S d 155 26 [.inr (.inl x), a1, a2, a3, a4, a5] (.inr (.inl x) :: st) (sh, I, R) := (ev_eq f_155_25).trans rfl
theorem f_155_26 : fetch 155 26 = some (26, .iload_n 1, 1, [1], 0) := (fm_155 26).trans rfl
theorem u_155_26 {S : Scr} {d : Nat} {a0 a2 a3 a4 a5 : AV} {st : List AV} {sh : Shp} {I : IM} {R : RM} {x : Int} : ev S d 155 26 [a0, .inl x, a2, a3, a4, a5] st (sh, I, R) = ev S d 155 27 [a0, .inl x, a2, a3, a4, a5] (.inl x :: st) (sh, I, R) := (ev_eq f_155_26).trans rfl
theorem f_155_27 : fetch 155 27 = some (27, .iload_n 2, 1, [2], 0) := (fm_155 27).trans rfl
theorem u_155_27 {S : Scr} {d : Nat} {a0 a1 a3 a4 a5 : AV} {st : List AV} {sh : Shp} {I : IM} {R : RM} {x : Int} : ev S d 155 27 [a0, a1, .inl x, a3, a4, a5] st (sh, I, R) = ev S d 155 28 [a0, a1, .inl x, a3, a4, a5] (.inl x :: st) (sh, I, R) := (ev_eq f_155_27).trans rfl
theorem f_155_28 : fetch 155 28 = some (28, .invokevirtual 84, 3, [140, 2, 130], 0) := (fm_155 28).trans rfl
theorem u_155_28 {S : Scr} {d : Nat} {a0 a1 a2 a3 a4 a5 : AV} {st : List AV} {sh : Shp} {I : IM} {R : RM} {x0 : Int} {x1 : Int} {k : Nat} (h : tg sh k = 9) (hr : st.length ≤ 8) : ev S d 155 28 [a0, a1, a2, a3, a4, a5] (.inl x1 :: .inl x0 :: .inr (.inl k) :: st) (sh, I, R) = bnd (cl d 140 [.inr (.inl k), .inl x0, .inl x1] (sh, I, R)) (fun v M => ev S d 155 31 [a0, a1, a2, a3, a4, a5] (psh v st) M) := (ev_eq f_155_28).trans (congrArg (fin S d 155) (if_pos ⟨h, rfl, hr⟩))
theorem f_155_31 : fetch 155 31 = some (31, .istore 4, 2, [4], 0) := (fm_155 31).trans rfl
theorem u_155_31 {S : Scr} {d : Nat} {a0 a1 a2 a3 a4 a5 : AV} {st : List AV} {sh : Shp} {I : IM} {R : RM} {x : Int} : ev S d 155 31 [a0, a1, a2, a3, a4, a5] (.inl x :: st) (sh, I, R) = ev S d 155 33 [a0, a1, a2, a3, .inl x, a5] st (sh, I, R) := (ev_eq f_155_31).trans rfl
theorem f_155_33 : fetch 155 33 = some (33, .iload 4, 2, [4], 0) := (fm_155 33).trans rfl
theorem u_155_33 {S : Scr} {d : Nat} {a0 a1 a2 a3 a5 : AV} {st : List AV} {sh : Shp} {I : IM} {R : RM} {x : Int} : ev S d 155 33 [a0, a1, a2, a3, .inl x, a5] st (sh, I, R) = ev S d 155 35 [a0, a1, a2, a3, .inl x, a5] (.inl x :: st) (sh, I, R) := (ev_eq f_155_33).trans rfl
theorem f_155_35 : fetch 155 35 = some (35, .ifCond .lt 41, 3, [76], 0) := (fm_155 35).trans rfl
theorem u_155_35 {S : Scr} {d : Nat} {a0 a1 a2 a3 a4 a5 : AV} {st : List AV} {sh : Shp} {I : IM} {R : RM} {x : Int} : ev S d 155 35 [a0, a1, a2, a3, a4, a5] (.inl x :: st) (sh, I, R) = if x < 0 then ev S d 155 76 [a0, a1, a2, a3, a4, a5] st (sh, I, R) else ev S d 155 38 [a0, a1, a2, a3, a4, a5] st (sh, I, R) := (ev_eq f_155_35).trans fin_if_lt
theorem f_155_38 : fetch 155 38 = some (38, .aload_n 0, 1, [0], 0) := (fm_155 38).trans rfl
theorem u_155_38 {S : Scr} {d : Nat} {a1 a2 a3 a4 a5 : AV} {st : List AV} {sh : Shp} {I : IM} {R : RM} {x : Nat} : ev S d 155 38 [.inr (.inl x), a1, a2, a3, a4, a5] st (sh, I, R) = ev S d 155 39 [.inr (.inl x), a1, a2, a3, a4, a5] (.inr (.inl x) :: st) (sh, I, R) := (ev_eq f_155_38).trans rfl
theorem f_155_39 : fetch 155 39 = some (39, .getfield 9, 3, [9, 0, 1, 79], 0) := (fm_155 39).trans rfl
theorem u_155_39 {S : Scr} {d : Nat} {a0 a1 a2 a3 a4 a5 : AV} {st : List AV} {sh : Shp} {I : IM} {R : RM} {k : Nat} (h : tg sh k = 9) : ev S d 155 39 [a0, a1, a2, a3, a4, a5] (.inr (.inl k) :: st) (sh, I, R) = ev S d 155 42 [a0, a1, a2, a3, a4, a5] (rv (R k 0) :: st) (sh, I, R) := (ev_eq f_155_39).trans (congrArg (fin S d 155) (if_pos h))
theorem f_155_42 : fetch 155 42 = some (42, .sipush 300, 3, [], 300) := (fm_155 42).trans rfl
theorem u_155_42 {S : Scr} {d : Nat} {a0 a1 a2 a3 a4 a5 : AV} {st : List AV} {sh : Shp} {I : IM} {R : RM} : ev S d 155 42 [a0, a1, a2, a3, a4, a5] st (sh, I, R) = ev S d 155 45 [a0, a1, a2, a3, a4, a5] (.inl 300 :: st) (sh, I, R) := (ev_eq f_155_42).trans rfl
theorem f_155_45 : fetch 155 45 = some (45, .bipush 6, 2, [], 6) := (fm_155 45).trans rfl
theorem u_155_45 {S : Scr} {d : Nat} {a0 a1 a2 a3 a4 a5 : AV} {st : List AV} {sh : Shp} {I : IM} {R : RM} : ev S d 155 45 [a0, a1, a2, a3, a4, a5] st (sh, I, R) = ev S d 155 47 [a0, a1, a2, a3, a4, a5] (.inl 6 :: st) (sh, I, R) := (ev_eq f_155_45).trans rfl
theorem f_155_47 : fetch 155 47 = some (47, .iload_n 1, 1, [1], 0) := (fm_155 47).trans rfl
theorem u_155_47 {S : Scr} {d : Nat} {a0 a2 a3 a4 a5 : AV} {st : List AV} {sh : Shp} {I : IM} {R : RM} {x : Int} : ev S d 155 47 [a0, .inl x, a2, a3, a4, a5] st (sh, I, R) = ev S d 155 48 [a0, .inl x, a2, a3, a4, a5] (.inl x :: st) (sh, I, R) := (ev_eq f_155_47).trans rfl
theorem f_155_48 : fetch 155 48 = some (48, .imul, 1, [], 0) := (fm_155 48).trans rfl
theorem u_155_48 {S : Scr} {d : Nat} {a0 a1 a2 a3 a4 a5 : AV} {st : List AV} {sh : Shp} {I : IM} {R : RM} {x y : Int} : ev S d 155 48 [a0, a1, a2, a3, a4, a5] (.inl y :: .inl x :: st) (sh, I, R) = ev S d 155 49 [a0, a1, a2, a3, a4, a5] (.inl (wr (x * y)) :: st) (sh, I, R) := (ev_eq f_155_48).trans rfl
theorem f_155_49 : fetch 155 49 = some (49, .iadd, 1, [], 0) := (fm_155 49).trans rfl
theorem u_155_49 {S : Scr} {d : Nat} {a0 a1 a2 a3 a4 a5 : AV} {st : List AV} {sh : Shp} {I : IM} {R : RM} {x y : Int} : ev S d 155 49 [a0, a1, a2, a3, a4, a5] (.inl y :: .inl x :: st) (sh, I, R) = ev S d 155 50 [a0, a1, a2, a3, a4, a5] (.inl (wr (x + y)) :: st) (sh, I, R) := (ev_eq f_155_49).trans rfl
theorem f_155_50 : fetch 155 50 = some (50, .iload 4, 2, [4], 0) := (fm_155 50).trans rfl
theorem u_155_50 {S : Scr} {d : Nat} {a0 a1 a2 a3 a5 : AV} {st : List AV} {sh : Shp} {I : IM} {R : RM} {x : Int} : ev S d 155 50 [a0, a1, a2, a3, .inl x, a5] st (sh, I, R) = ev S d 155 52 [a0, a1, a2, a3, .inl x, a5] (.inl x :: st) (sh, I, R) := (ev_eq f_155_50).trans rfl
theorem f_155_52 : fetch 155 52 = some (52, .iadd, 1, [], 0) := (fm_155 52).trans rfl
theorem u_155_52 {S : Scr} {d : Nat} {a0 a1 a2 a3 a4 a5 : AV} {st : List AV} {sh : Shp} {I : IM} {R : RM} {x y : Int} : ev S d 155 52 [a0, a1, a2, a3, a4, a5] (.inl y :: .inl x :: st) (sh, I, R) = ev S d 155 53 [a0, a1, a2, a3, a4, a5] (.inl (wr (x + y)) :: st) (sh, I, R) := (ev_eq f_155_52).trans rfl
theorem f_155_53 : fetch 155 53 = some (53, .iaload, 1, [], 0) := (fm_155 53).trans rfl
theorem u_155_53 {S : Scr} {d : Nat} {a0 a1 a2 a3 a4 a5 : AV} {st : List AV} {sh : Shp} {I : IM} {R : RM} {k : Nat} {i : Int} (h : tg sh k = 100) (h0 : 0 ≤ i) (h1 : i < ln sh k) : ev S d 155 53 [a0, a1, a2, a3, a4, a5] (.inl i :: .inr (.inl k) :: st) (sh, I, R) = ev S d 155 54 [a0, a1, a2, a3, a4, a5] (.inl (I k i) :: st) (sh, I, R) := (ev_eq f_155_53).trans (congrArg (fin S d 155) (if_pos ⟨h, h0, h1⟩))
theorem f_155_54 : fetch 155 54 = some (54, .istore 5, 2, [5], 0) := (fm_155 54).trans rfl
theorem u_155_54 {S : Scr} {d : Nat} {a0 a1 a2 a3 a4 a5 : AV} {st : List AV} {sh : Shp} {I : IM} {R : RM} {x : Int} : ev S d 155 54 [a0, a1, a2, a3, a4, a5] (.inl x :: st) (sh, I, R) = ev S d 155 56 [a0, a1, a2, a3, a4, .inl x] st (sh, I, R) := (ev_eq f_155_54).trans rfl
theorem f_155_56 : fetch 155 56 = some (56, .aload_n 0, 1, [0], 0) := (fm_155 56).trans rfl
theorem u_155_56 {S : Scr} {d : Nat} {a1 a2 a3 a4 a5 : AV} {st : List AV} {sh : Shp} {I : IM} {R : RM} {x : Nat} : ev S d 155 56 [.inr (.inl x), a1, a2, a3, a4, a5] st (sh, I, R) = ev S d 155 57 [.inr (.inl x), a1, a2, a3, a4, a5] (.inr (.inl x) :: st) (sh, I, R) := (ev_eq f_155_56).trans rfl
theorem f_155_57 : fetch 155 57 = some (57, .getfield 9, 3, [9, 0, 1, 79], 0) := (fm_155 57).trans rfl
theorem u_155_57 {S : Scr} {d : Nat} {a0 a1 a2 a3 a4 a5 : AV} {st : List AV} {sh : Shp} {I : IM} {R : RM} {k : Nat} (h : tg sh k = 9) : ev S d 155 57 [a0, a1, a2, a3, a4, a5] (.inr (.inl k) :: st) (sh, I, R) = ev S d 155 60 [a0, a1, a2, a3, a4, a5] (rv (R k 0) :: st) (sh, I, R) := (ev_eq f_155_57).trans (congrArg (fin S d 155) (if_pos h))
theorem f_155_60 : fetch 155 60 = some (60, .sipush 300, 3, [], 300) := (fm_155 60).trans rfl
theorem u_155_60 {S : Scr} {d : Nat} {a0 a1 a2 a3 a4 a5 : AV} {st : List AV} {sh : Shp} {I : IM} {R : RM} : ev S d 155 60 [a0, a1, a2, a3, a4, a5] st (sh, I, R) = ev S d 155 63 [a0, a1, a2, a3, a4, a5] (.inl 300 :: st) (sh, I, R) := (ev_eq f_155_60).trans rfl
theorem f_155_63 : fetch 155 63 = some (63, .bipush 6, 2, [], 6) := (fm_155 63).trans rfl
theorem u_155_63 {S : Scr} {d : Nat} {a0 a1 a2 a3 a4 a5 : AV} {st : List AV} {sh : Shp} {I : IM} {R : RM} : ev S d 155 63 [a0, a1, a2, a3, a4, a5] st (sh, I, R) = ev S d 155 65 [a0, a1, a2, a3, a4, a5] (.inl 6 :: st) (sh, I, R) := (ev_eq f_155_63).trans rfl
theorem f_155_65 : fetch 155 65 = some (65, .iload_n 1, 1, [1], 0) := (fm_155 65).trans rfl
theorem u_155_65 {S : Scr} {d : Nat} {a0 a2 a3 a4 a5 : AV} {st : List AV} {sh : Shp} {I : IM} {R : RM} {x : Int} : ev S d 155 65 [a0, .inl x, a2, a3, a4, a5] st (sh, I, R) = ev S d 155 66 [a0, .inl x, a2, a3, a4, a5] (.inl x :: st) (sh, I, R) := (ev_eq f_155_65).trans rfl
theorem f_155_66 : fetch 155 66 = some (66, .imul, 1, [], 0) := (fm_155 66).trans rfl
theorem u_155_66 {S : Scr} {d : Nat} {a0 a1 a2 a3 a4 a5 : AV} {st : List AV} {sh : Shp} {I : IM} {R : RM} {x y : Int} : ev S d 155 66 [a0, a1, a2, a3, a4, a5] (.inl y :: .inl x :: st) (sh, I, R) = ev S d 155 67 [a0, a1, a2, a3, a4, a5] (.inl (wr (x * y)) :: st) (sh, I, R) := (ev_eq f_155_66).trans rfl
theorem f_155_67 : fetch 155 67 = some (67, .iadd, 1, [], 0) := (fm_155 67).trans rfl
theorem u_155_67 {S : Scr} {d : Nat} {a0 a1 a2 a3 a4 a5 : AV} {st : List AV} {sh : Shp} {I : IM} {R : RM} {x y : Int} : ev S d 155 67 [a0, a1, a2, a3, a4, a5] (.inl y :: .inl x :: st) (sh, I, R) = ev S d 155 68 [a0, a1, a2, a3, a4, a5] (.inl (wr (x + y)) :: st) (sh, I, R) := (ev_eq f_155_67).trans rfl
theorem f_155_68 : fetch 155 68 = some (68, .iload 4, 2, [4], 0) := (fm_155 68).trans rfl
theorem u_155_68 {S : Scr} {d : Nat} {a0 a1 a2 a3 a5 : AV} {st : List AV} {sh : Shp} {I : IM} {R : RM} {x : Int} : ev S d 155 68 [a0, a1, a2, a3, .inl x, a5] st (sh, I, R) = ev S d 155 70 [a0, a1, a2, a3, .inl x, a5] (.inl x :: st) (sh, I, R) := (ev_eq f_155_68).trans rfl
theorem f_155_70 : fetch 155 70 = some (70, .iadd, 1, [], 0) := (fm_155 70).trans rfl
theorem u_155_70 {S : Scr} {d : Nat} {a0 a1 a2 a3 a4 a5 : AV} {st : List AV} {sh : Shp} {I : IM} {R : RM} {x y : Int} : ev S d 155 70 [a0, a1, a2, a3, a4, a5] (.inl y :: .inl x :: st) (sh, I, R) = ev S d 155 71 [a0, a1, a2, a3, a4, a5] (.inl (wr (x + y)) :: st) (sh, I, R) := (ev_eq f_155_70).trans rfl
theorem f_155_71 : fetch 155 71 = some (71, .iload_n 3, 1, [3], 0) := (fm_155 71).trans rfl
theorem u_155_71 {S : Scr} {d : Nat} {a0 a1 a2 a4 a5 : AV} {st : List AV} {sh : Shp} {I : IM} {R : RM} {x : Int} : ev S d 155 71 [a0, a1, a2, .inl x, a4, a5] st (sh, I, R) = ev S d 155 72 [a0, a1, a2, .inl x, a4, a5] (.inl x :: st) (sh, I, R) := (ev_eq f_155_71).trans rfl
theorem f_155_72 : fetch 155 72 = some (72, .iastore, 1, [], 0) := (fm_155 72).trans rfl
theorem u_155_72 {S : Scr} {d : Nat} {a0 a1 a2 a3 a4 a5 : AV} {st : List AV} {sh : Shp} {I : IM} {R : RM} {k : Nat} {i x : Int} (h : tg sh k = 100) (h0 : 0 ≤ i) (h1 : i < ln sh k) : ev S d 155 72 [a0, a1, a2, a3, a4, a5] (.inl x :: .inl i :: .inr (.inl k) :: st) (sh, I, R) = ev S d 155 73 [a0, a1, a2, a3, a4, a5] st (sh, up I k i x, R) := (ev_eq f_155_72).trans (congrArg (fin S d 155) (if_pos ⟨h, h0, h1⟩))
theorem f_155_73 : fetch 155 73 = some (73, .iload 5, 2, [5], 0) := (fm_155 73).trans rfl
theorem u_155_73 {S : Scr} {d : Nat} {a0 a1 a2 a3 a4 : AV} {st : List AV} {sh : Shp} {I : IM} {R : RM} {x : Int} : ev S d 155 73 [a0, a1, a2, a3, a4, .inl x] st (sh, I, R) = ev S d 155 75 [a0, a1, a2, a3, a4, .inl x] (.inl x :: st) (sh, I, R) := (ev_eq f_155_73).trans rfl
theorem f_155_75 : fetch 155 75 = some (75, .ireturn, 1, [0], 0) := (fm_155 75).trans rfl
theorem u_155_75 {S : Scr} {d : Nat} {a0 a1 a2 a3 a4 a5 : AV} {sh : Shp} {I : IM} {R : RM} {x : Int} : ev S d 155 75 [a0, a1, a2, a3, a4, a5] [.inl x] (sh, I, R) = some (some (.inl x), (sh, I, R)) := (ev_eq f_155_75).trans fin_iret0
theorem f_155_76 : fetch 155 76 = some (76, .aload_n 0, 1, [0], 0) := (fm_155 76).trans rfl
theorem u_155_76 {S : Scr} {d : Nat} {a1 a2 a3 a4 a5 : AV} {st : List AV} {sh : Shp} {I : IM} {R : RM} {x : Nat} : ev S d 155 76 [.inr (.inl x), a1, a2, a3, a4, a5] st (sh, I, R) = ev S d 155 77 [.inr (.inl x), a1, a2, a3, a4, a5] (.inr (.inl x) :: st) (sh, I, R) := (ev_eq f_155_76).trans rfl
theorem f_155_77 : fetch 155 77 = some (77, .getfield 9, 3, [9, 0, 1, 79], 0) := (fm_155 77).trans rfl
theorem u_155_77 {S : Scr} {d : Nat} {a0 a1 a2 a3 a4 a5 : AV} {st : List AV} {sh : Shp} {I : IM} {R : RM} {k : Nat} (h : tg sh k = 9) : ev S d 155 77 [a0, a1, a2, a3, a4, a5] (.inr (.inl k) :: st) (sh, I, R) = ev S d 155 80 [a0, a1, a2, a3, a4, a5] (rv (R k 0) :: st) (sh, I, R) := (ev_eq f_155_77).trans (congrArg (fin S d 155) (if_pos h))
theorem f_155_80 : fetch 155 80 = some (80, .bipush 90, 2, [], 90) := (fm_155 80).trans rfl
theorem u_155_80 {S : Scr} {d : Nat} {a0 a1 a2 a3 a4 a5 : AV} {st : List AV} {sh : Shp} {I : IM} {R : RM} : ev S d 155 80 [a0, a1, a2, a3, a4, a5] st (sh, I, R) = ev S d 155 82 [a0, a1, a2, a3, a4, a5] (.inl 90 :: st) (sh, I, R) := (ev_eq f_155_80).trans rfl
theorem f_155_82 : fetch 155 82 = some (82, .iload_n 1, 1, [1], 0) := (fm_155 82).trans rfl
theorem u_155_82 {S : Scr} {d : Nat} {a0 a2 a3 a4 a5 : AV} {st : List AV} {sh : Shp} {I : IM} {R : RM} {x : Int} : ev S d 155 82 [a0, .inl x, a2, a3, a4, a5] st (sh, I, R) = ev S d 155 83 [a0, .inl x, a2, a3, a4, a5] (.inl x :: st) (sh, I, R) := (ev_eq f_155_82).trans rfl
theorem f_155_83 : fetch 155 83 = some (83, .iadd, 1, [], 0) := (fm_155 83).trans rfl
theorem u_155_83 {S : Scr} {d : Nat} {a0 a1 a2 a3 a4 a5 : AV} {st : List AV} {sh : Shp} {I : IM} {R : RM} {x y : Int} : ev S d 155 83 [a0, a1, a2, a3, a4, a5] (.inl y :: .inl x :: st) (sh, I, R) = ev S d 155 84 [a0, a1, a2, a3, a4, a5] (.inl (wr (x + y)) :: st) (sh, I, R) := (ev_eq f_155_83).trans rfl
theorem f_155_84 : fetch 155 84 = some (84, .iaload, 1, [], 0) := (fm_155 84).trans rfl
theorem u_155_84 {S : Scr} {d : Nat} {a0 a1 a2 a3 a4 a5 : AV} {st : List AV} {sh : Shp} {I : IM} {R : RM} {k : Nat} {i : Int} (h : tg sh k = 100) (h0 : 0 ≤ i) (h1 : i < ln sh k) : ev S d 155 84 [a0, a1, a2, a3, a4, a5] (.inl i :: .inr (.inl k) :: st) (sh, I, R) = ev S d 155 85 [a0, a1, a2, a3, a4, a5] (.inl (I k i) :: st) (sh, I, R) := (ev_eq f_155_84).trans (congrArg (fin S d 155) (if_pos ⟨h, h0, h1⟩))
theorem f_155_85 : fetch 155 85 = some (85, .bipush 6, 2, [], 6) := (fm_155 85).trans rfl
theorem u_155_85 {S : Scr} {d : Nat} {a0 a1 a2 a3 a4 a5 : AV} {st : List AV} {sh : Shp} {I : IM} {R : RM} : ev S d 155 85 [a0, a1, a2, a3, a4, a5] st (sh, I, R) = ev S d 155 87 [a0, a1, a2, a3, a4, a5] (.inl 6 :: st) (sh, I, R) := (ev_eq f_155_85).trans rfl
theorem f_155_87 : fetch 155 87 = some (87, .if_icmp .ne 6, 3, [93], 0) := (fm_155 87).trans rfl
theorem u_155_87 {S : Scr} {d : Nat} {a0 a1 a2 a3 a4 a5 : AV} {st : List AV} {sh : Shp} {I : IM} {R : RM} {x y : Int} : ev S d 155 87 [a0, a1, a2, a3, a4, a5] (.inl y :: .inl x :: st) (sh, I, R) = if ¬ x = y then ev S d 155 93 [a0, a1, a2, a3, a4, a5] st (sh, I, R) else ev S d 155 90 [a0, a1, a2, a3, a4, a5] st (sh, I, R) := (ev_eq f_155_87).trans fin_icmp_ne
theorem f_155_90 : fetch 155 90 = some (90, .ldc 104, 2, [5], (-2000000000)) := (fm_155 90).trans rfl
theorem u_155_90 {S : Scr} {d : Nat} {a0 a1 a2 a3 a4 a5 : AV} {st : List AV} {sh : Shp} {I : IM} {R : RM} : ev S d 155 90 [a0, a1, a2, a3, a4, a5] st (sh, I, R) = ev S d 155 92 [a0, a1, a2, a3, a4, a5] (.inl (-2000000000) :: st) (sh, I, R) := (ev_eq f_155_90).trans rfl
theorem f_155_92 : fetch 155 92 = some (92, .ireturn, 1, [0], 0) := (fm_155 92).trans rfl
theorem u_155_92 {S : Scr} {d : Nat} {a0 a1 a2 a3 a4 a5 : AV} {sh : Shp} {I : IM} {R : RM} {x : Int} : ev S d 155 92 [a0, a1, a2, a3, a4, a5] [.inl x] (sh, I, R) = some (some (.inl x), (sh, I, R)) := (ev_eq f_155_92).trans fin_iret0
theorem f_155_93 : fetch 155 93 = some (93, .aload_n 0, 1, [0], 0) := (fm_155 93).trans rfl
theorem u_155_93 {S : Scr} {d : Nat} {a1 a2 a3 a4 a5 : AV} {st : List AV} {sh : Shp} {I : IM} {R : RM} {x : Nat} : ev S d 155 93 [.inr (.inl x), a1, a2, a3, a4, a5] st (sh, I, R) = ev S d 155 94 [.inr (.inl x), a1, a2, a3, a4, a5] (.inr (.inl x) :: st) (sh, I, R) := (ev_eq f_155_93).trans rfl
theorem f_155_94 : fetch 155 94 = some (94, .iload_n 1, 1, [1], 0) := (fm_155 94).trans rfl
theorem u_155_94 {S : Scr} {d : Nat} {a0 a2 a3 a4 a5 : AV} {st : List AV} {sh : Shp} {I : IM} {R : RM} {x : Int} : ev S d 155 94 [a0, .inl x, a2, a3, a4, a5] st (sh, I, R) = ev S d 155 95 [a0, .inl x, a2, a3, a4, a5] (.inl x :: st) (sh, I, R) := (ev_eq f_155_94).trans rfl
theorem f_155_95 : fetch 155 95 = some (95, .iload_n 2, 1, [2], 0) := (fm_155 95).trans rfl
theorem u_155_95 {S : Scr} {d : Nat} {a0 a1 a3 a4 a5 : AV} {st : List AV} {sh : Shp} {I : IM} {R : RM} {x : Int} : ev S d 155 95 [a0, a1, .inl x, a3, a4, a5] st (sh, I, R) = ev S d 155 96 [a0, a1, .inl x, a3, a4, a5] (.inl x :: st) (sh, I, R) := (ev_eq f_155_95).trans rfl
theorem f_155_96 : fetch 155 96 = some (96, .iload_n 3, 1, [3], 0) := (fm_155 96).trans rfl
theorem u_155_96 {S : Scr} {d : Nat} {a0 a1 a2 a4 a5 : AV} {st : List AV} {sh : Shp} {I : IM} {R : RM} {x : Int} : ev S d 155 96 [a0, a1, a2, .inl x, a4, a5] st (sh, I, R) = ev S d 155 97 [a0, a1, a2, .inl x, a4, a5] (.inl x :: st) (sh, I, R) := (ev_eq f_155_96).trans rfl
theorem f_155_97 : fetch 155 97 = some (97, .invokevirtual 87, 3, [141, 3, 131], 0) := (fm_155 97).trans rfl
theorem u_155_97 {S : Scr} {d : Nat} {a0 a1 a2 a3 a4 a5 : AV} {st : List AV} {sh : Shp} {I : IM} {R : RM} {x0 : Int} {x1 : Int} {x2 : Int} {k : Nat} (h : tg sh k = 9) (hr : st.length ≤ 8) : ev S d 155 97 [a0, a1, a2, a3, a4, a5] (.inl x2 :: .inl x1 :: .inl x0 :: .inr (.inl k) :: st) (sh, I, R) = bnd (cl d 141 [.inr (.inl k), .inl x0, .inl x1, .inl x2] (sh, I, R)) (fun v M => ev S d 155 100 [a0, a1, a2, a3, a4, a5] (psh v st) M) := (ev_eq f_155_97).trans (congrArg (fin S d 155) (if_pos ⟨h, rfl, hr⟩))
theorem f_155_100 : fetch 155 100 = some (100, .iconst 0, 1, [], 0) := (fm_155 100).trans rfl
theorem u_155_100 {S : Scr} {d : Nat} {a0 a1 a2 a3 a4 a5 : AV} {st : List AV} {sh : Shp} {I : IM} {R : RM} : ev S d 155 100 [a0, a1, a2, a3, a4, a5] st (sh, I, R) = ev S d 155 101 [a0, a1, a2, a3, a4, a5] (.inl 0 :: st) (sh, I, R) := (ev_eq f_155_100).trans rfl
theorem f_155_101 : fetch 155 101 = some (101, .ireturn, 1, [0], 0) := (fm_155 101).trans rfl
theorem u_155_101 {S : Scr} {d : Nat} {a0 a1 a2 a3 a4 a5 : AV} {sh : Shp} {I : IM} {R : RM} {x : Int} : ev S d 155 101 [a0, a1, a2, a3, a4, a5] [.inl x] (sh, I, R) = some (some (.inl x), (sh, I, R)) := (ev_eq f_155_101).trans fin_iret0
theorem c_156 {d : Nat} {a0 a1 a2 : AV} {M : Mem} : cl (d + 1) 156 [a0, a1, a2] M = ev S0 d 156 0 [a0, a1, a2, .inr (.inr 1)] [] M := (cl_eq (as := [a0, a1, a2]) (show 3 ≤ maxOf 156 by decide +kernel)).trans rfl
theorem mt_156 : MT[156]? = some m_156 := rfl
theorem fm_156 (pc : Nat) : fetch 156 pc = lk m_156.2.2.2.2.2 pc := by
  unfold fetch
  rw [mt_156]
theorem f_156_0 : fetch 156 0 = some (0, .aload_n 0, 1, [0], 0) := (fm_156 0).trans rfl
theorem u_156_0 {S : Scr} {d : Nat} {a1 a2 a3 : AV} {st : List AV} {sh : Shp} {I : IM} {R : RM} {x : Nat} : ev S d 156 0 [.inr (.inl x), a1, a2, a3] st (sh, I, R) = ev S d 156 1 [.inr (.inl x), a1, a2, a3] (.inr (.inl x) :: st) (sh, I, R) := (ev_eq f_156_0).trans rfl
theorem f_156_1 : fetch 156 1 = some (1, .iload_n 1, 1, [1], 0) := (fm_156 1).trans rfl
theorem u_156_1 {S : Scr} {d : Nat} {a0 a2 a3 : AV} {st : List AV} {sh : Shp} {I : IM} {R : RM} {x : Int} : ev S d 156 1 [a0, .inl x, a2, a3] st (sh, I, R) = ev S d 156 2 [a0, .inl x, a2, a3] (.inl x :: st) (sh, I, R) := (ev_eq f_156_1).trans rfl
theorem f_156_2 : fetch 156 2 = some (2, .invokevirtual 119, 3, [154, 1, 140], 0) := (fm_156 2).trans rfl
theorem u_156_2 {S : Scr} {d : Nat} {a0 a1 a2 a3 : AV} {st : List AV} {sh : Shp} {I : IM} {R : RM} {x0 : Int} {k : Nat} (h : tg sh k = 9) (hr : st.length ≤ 8) : ev S d 156 2 [a0, a1, a2, a3] (.inl x0 :: .inr (.inl k) :: st) (sh, I, R) = bnd (cl d 154 [.inr (.inl k), .inl x0] (sh, I, R)) (fun v M => ev S d 156 5 [a0, a1, a2, a3] (psh v st) M) := (ev_eq f_156_2).trans (congrArg (fin S d 156) (if_pos ⟨h, rfl, hr⟩))
theorem f_156_5 : fetch 156 5 = some (5, .ifCond .ne 6, 3, [11], 0) := (fm_156 5).trans rfl
theorem u_156_5 {S : Scr} {d : Nat} {a0 a1 a2 a3 : AV} {st : List AV} {sh : Shp} {I : IM} {R : RM} {x : Int} : ev S d 156 5 [a0, a1, a2, a3] (.inl x :: st) (sh, I, R) = if ¬ x = 0 then ev S d 156 11 [a0, a1, a2, a3] st (sh, I, R) else ev S d 156 8 [a0, a1, a2, a3] st (sh, I, R) := (ev_eq f_156_5).trans fin_if_ne
theorem f_156_8 : fetch 156 8 = some (8, .ldc 104, 2, [5], (-2000000000)) := (fm_156 8).trans rfl
theorem u_156_8 {S : Scr} {d : Nat} {a0 a1 a2 a3 : AV} {st : List AV} {sh : Shp} {I : IM} {R : RM} : ev S d 156 8 [a0, a1, a2, a3] st (sh, I, R) = ev S d 156 10 [a0, a1, a2, a3] (.inl (-2000000000) :: st) (sh, I, R) := (ev_eq f_156_8).trans rfl
theorem f_156_10 : fetch 156 10 = some (10, .ireturn, 1, [0], 0) := (fm_156 10).trans rfl
theorem u_156_10 {S : Scr} {d : Nat} {a0 a1 a2 a3 : AV} {sh : Shp} {I : IM} {R : RM} {x : Int} : ev S d 156 10 [a0, a1, a2, a3] [.inl x] (sh, I, R) = some (some (.inl x), (sh, I, R)) := (ev_eq f_156_10).trans fin_iret0
theorem f_156_11 : fetch 156 11 = some (11, .aload_n 0, 1, [0], 0) := (fm_156 11).trans rfl
theorem u_156_11 {S : Scr} {d : Nat} {a1 a2 a3 : AV} {st : List AV} {sh : Shp} {I : IM} {R : RM} {x : Nat} : ev S d 156 11 [.inr (.inl x), a1, a2, a3] st (sh, I, R) = ev S d 156 12 [.inr (.inl x), a1, a2, a3] (.inr (.inl x) :: st) (sh, I, R) := (ev_eq f_156_11).trans rfl
theorem f_156_12 : fetch 156 12 = some (12, .iload_n 1, 1, [1], 0) := (fm_156 12).trans rfl
theorem u_156_12 {S : Scr} {d : Nat} {a0 a2 a3 : AV} {st : List AV} {sh : Shp} {I : IM} {R : RM} {x : Int} : ev S d 156 12 [a0, .inl x, a2, a3] st (sh, I, R) = ev S d 156 13 [a0, .inl x, a2, a3] (.inl x :: st) (sh, I, R) := (ev_eq f_156_12).trans rfl
theorem f_156_13 : fetch 156 13 = some (13, .iload_n 2, 1, [2], 0) := (fm_156 13).trans rfl
theorem u_156_13 {S : Scr} {d : Nat} {a0 a1 a3 : AV} {st : List AV} {sh : Shp} {I : IM} {R : RM} {x : Int} : ev S d 156 13 [a0, a1, .inl x, a3] st (sh, I, R) = ev S d 156 14 [a0, a1, .inl x, a3] (.inl x :: st) (sh, I, R) := (ev_eq f_156_13).trans rfl
theorem f_156_14 : fetch 156 14 = some (14, .invokevirtual 84, 3, [140, 2, 130], 0) := (fm_156 14).trans rfl
theorem u_156_14 {S : Scr} {d : Nat} {a0 a1 a2 a3 : AV} {st : List AV} {sh : Shp} {I : IM} {R : RM} {x0 : Int} {x1 : Int} {k : Nat} (h : tg sh k = 9) (hr : st.length ≤ 8) : ev S d 156 14 [a0, a1, a2, a3] (.inl x1 :: .inl x0 :: .inr (.inl k) :: st) (sh, I, R) = bnd (cl d 140 [.inr (.inl k), .inl x0, .inl x1] (sh, I, R)) (fun v M => ev S d 156 17 [a0, a1, a2, a3] (psh v st) M) := (ev_eq f_156_14).trans (congrArg (fin S d 156) (if_pos ⟨h, rfl, hr⟩))
theorem f_156_17 : fetch 156 17 = some (17, .istore_n 3, 1, [3], 0) := (fm_156 17).trans rfl
theorem u_156_17 {S : Scr} {d : Nat} {a0 a1 a2 a3 : AV} {st : List AV} {sh : Shp} {I : IM} {R : RM} {x : Int} : ev S d 156 17 [a0, a1, a2, a3] (.inl x :: st) (sh, I, R) = ev S d 156 18 [a0, a1, a2, .inl x] st (sh, I, R) := (ev_eq f_156_17).trans rfl
theorem f_156_18 : fetch 156 18 = some (18, .iload_n 3, 1, [3], 0) := (fm_156 18).trans rfl
theorem u_156_18 {S : Scr} {d : Nat} {a0 a1 a2 : AV} {st : List AV} {sh : Shp} {I : IM} {R : RM} {x : Int} : ev S d 156 18 [a0, a1, a2, .inl x] st (sh, I, R) = ev S d 156 19 [a0, a1, a2, .inl x] (.inl x :: st) (sh, I, R) := (ev_eq f_156_18).trans rfl
theorem f_156_19 : fetch 156 19 = some (19, .ifCond .ge 8, 3, [27], 0) := (fm_156 19).trans rfl
theorem u_156_19 {S : Scr} {d : Nat} {a0 a1 a2 a3 : AV} {st : List AV} {sh : Shp} {I : IM} {R : RM} {x : Int} : ev S d 156 19 [a0, a1, a2, a3] (.inl x :: st) (sh, I, R) = if 0 ≤ x then ev S d 156 27 [a0, a1, a2, a3] st (sh, I, R) else ev S d 156 22 [a0, a1, a2, a3] st (sh, I, R) := (ev_eq f_156_19).trans fin_if_ge
theorem f_156_22 : fetch 156 22 = some (22, .ldc 104, 2, [5], (-2000000000)) := (fm_156 22).trans rfl
theorem u_156_22 {S : Scr} {d : Nat} {a0 a1 a2 a3 : AV} {st : List AV} {sh : Shp} {I : IM} {R : RM} : ev S d 156 22 [a0, a1, a2, a3] st (sh, I, R) = ev S d 156 24 [a0, a1, a2, a3] (.inl (-2000000000) :: st) (sh, I, R) := (ev_eq f_156_22).trans rfl
theorem f_156_24 : fetch 156 24 = some (24, .goto 18, 3, [42], 0) := (fm_156 24).trans rfl
theorem u_156_24 {S : Scr} {d : Nat} {a0 a1 a2 a3 : AV} {st : List AV} {sh : Shp} {I : IM} {R : RM} : ev S d 156 24 [a0, a1, a2, a3] st (sh, I, R) = ev S d 156 42 [a0, a1, a2, a3] st (sh, I, R) := (ev_eq f_156_24).trans rfl
theorem f_156_27 : fetch 156 27 = some (27, .aload_n 0, 1, [0], 0) := (fm_156 27).trans rfl
theorem u_156_27 {S : Scr} {d : Nat} {a1 a2 a3 : AV} {st : List AV} {sh : Shp} {I : IM} {R : RM} {x : Nat} : ev S d 156 27 [.inr (.inl x), a1, a2, a3] st (sh, I, R) = ev S d 156 28 [.inr (.inl x), a1, a2, a3] (.inr (.inl x) :: st) (sh, I, R) := (ev_eq f_156_27).trans rfl
theorem f_156_28 : fetch 156 28 = some (28, .getfield 9, 3, [9, 0, 1, 79], 0) := (fm_156 28).trans rfl
theorem u_156_28 {S : Scr} {d : Nat} {a0 a1 a2 a3 : AV} {st : List AV} {sh : Shp} {I : IM} {R : RM} {k : Nat} (h : tg sh k = 9) : ev S d 156 28 [a0, a1, a2, a3] (.inr (.inl k) :: st) (sh, I, R) = ev S d 156 31 [a0, a1, a2, a3] (rv (R k 0) :: st) (sh, I, R) := (ev_eq f_156_28).trans (congrArg (fin S d 156) (if_pos h))
theorem f_156_31 : fetch 156 31 = some (31, .sipush 300, 3, [], 300) := (fm_156 31).trans rfl
theorem u_156_31 {S : Scr} {d : Nat} {a0 a1 a2 a3 : AV} {st : List AV} {sh : Shp} {I : IM} {R : RM} : ev S d 156 31 [a0, a1, a2, a3] st (sh, I, R) = ev S d 156 34 [a0, a1, a2, a3] (.inl 300 :: st) (sh, I, R) := (ev_eq f_156_31).trans rfl
theorem f_156_34 : fetch 156 34 = some (34, .bipush 6, 2, [], 6) := (fm_156 34).trans rfl
theorem u_156_34 {S : Scr} {d : Nat} {a0 a1 a2 a3 : AV} {st : List AV} {sh : Shp} {I : IM} {R : RM} : ev S d 156 34 [a0, a1, a2, a3] st (sh, I, R) = ev S d 156 36 [a0, a1, a2, a3] (.inl 6 :: st) (sh, I, R) := (ev_eq f_156_34).trans rfl
theorem f_156_36 : fetch 156 36 = some (36, .iload_n 1, 1, [1], 0) := (fm_156 36).trans rfl
theorem u_156_36 {S : Scr} {d : Nat} {a0 a2 a3 : AV} {st : List AV} {sh : Shp} {I : IM} {R : RM} {x : Int} : ev S d 156 36 [a0, .inl x, a2, a3] st (sh, I, R) = ev S d 156 37 [a0, .inl x, a2, a3] (.inl x :: st) (sh, I, R) := (ev_eq f_156_36).trans rfl
theorem f_156_37 : fetch 156 37 = some (37, .imul, 1, [], 0) := (fm_156 37).trans rfl
theorem u_156_37 {S : Scr} {d : Nat} {a0 a1 a2 a3 : AV} {st : List AV} {sh : Shp} {I : IM} {R : RM} {x y : Int} : ev S d 156 37 [a0, a1, a2, a3] (.inl y :: .inl x :: st) (sh, I, R) = ev S d 156 38 [a0, a1, a2, a3] (.inl (wr (x * y)) :: st) (sh, I, R) := (ev_eq f_156_37).trans rfl
theorem f_156_38 : fetch 156 38 = some (38, .iadd, 1, [], 0) := (fm_156 38).trans rfl
theorem u_156_38 {S : Scr} {d : Nat} {a0 a1 a2 a3 : AV} {st : List AV} {sh : Shp} {I : IM} {R : RM} {x y : Int} : ev S d 156 38 [a0, a1, a2, a3] (.inl y :: .inl x :: st) (sh, I, R) = ev S d 156 39 [a0, a1, a2, a3] (.inl (wr (x + y)) :: st) (sh, I, R) := (ev_eq f_156_38).trans rfl
theorem f_156_39 : fetch 156 39 = some (39, .iload_n 3, 1, [3], 0) := (fm_156 39).trans rfl
theorem u_156_39 {S : Scr} {d : Nat} {a0 a1 a2 : AV} {st : List AV} {sh : Shp} {I : IM} {R : RM} {x : Int} : ev S d 156 39 [a0, a1, a2, .inl x] st (sh, I, R) = ev S d 156 40 [a0, a1, a2, .inl x] (.inl x :: st) (sh, I, R) := (ev_eq f_156_39).trans rfl
theorem f_156_40 : fetch 156 40 = some (40, .iadd, 1, [], 0) := (fm_156 40).trans rfl
theorem u_156_40 {S : Scr} {d : Nat} {a0 a1 a2 a3 : AV} {st : List AV} {sh : Shp} {I : IM} {R : RM} {x y : Int} : ev S d 156 40 [a0, a1, a2, a3] (.inl y :: .inl x :: st) (sh, I, R) = ev S d 156 41 [a0, a1, a2, a3] (.inl (wr (x + y)) :: st) (sh, I, R) := (ev_eq f_156_40).trans rfl
theorem f_156_41 : fetch 156 41 = some (41, .iaload, 1, [], 0) := (fm_156 41).trans rfl
theorem u_156_41 {S : Scr} {d : Nat} {a0 a1 a2 a3 : AV} {st : List AV} {sh : Shp} {I : IM} {R : RM} {k : Nat} {i : Int} (h : tg sh k = 100) (h0 : 0 ≤ i) (h1 : i < ln sh k) : ev S d 156 41 [a0, a1, a2, a3] (.inl i :: .inr (.inl k) :: st) (sh, I, R) = ev S d 156 42 [a0, a1, a2, a3] (.inl (I k i) :: st) (sh, I, R) := (ev_eq f_156_41).trans (congrArg (fin S d 156) (if_pos ⟨h, h0, h1⟩))
theorem f_156_42 : fetch 156 42 = some (42, .ireturn, 1, [0], 0) := (fm_156 42).trans rfl
theorem u_156_42 {S : Scr} {d : Nat} {a0 a1 a2 a3 : AV} {sh : Shp} {I : IM} {R : RM} {x : Int} : ev S d 156 42 [a0, a1, a2, a3] [.inl x] (sh, I, R) = some (some (.inl x), (sh, I, R)) := (ev_eq f_156_42).trans fin_iret0
theorem c_157 {d : Nat} {a0 a1 a2 : AV} {M : Mem} : cl (d + 1) 157 [a0, a1, a2] M = ev S0 d 157 0 [a0, a1, a2, .inr (.inr 1), .inr (.inr 1)] [] M := (cl_eq (as := [a0, a1, a2]) (show 3 ≤ maxOf 157 by decide +kernel)).trans rfl
theorem mt_157 : MT[157]? = some m_157 := rfl
theorem fm_157 (pc : Nat) : fetch 157 pc = lk m_157.2.2.2.2.2 pc := by
  unfold fetch
  rw [mt_157]
theorem f_157_0 : fetch 157 0 = some (0, .aload_n 0, 1, [0], 0) := (fm_157 0).trans rfl
theorem u_157_0 {S : Scr} {d : Nat} {a1 a2 a3 a4 : AV} {st : List AV} {sh : Shp} {I : IM} {R : RM} {x : Nat} : ev S d 157 0 [.inr (.inl x), a1, a2, a3, a4] st (sh, I, R) = ev S d 157 1 [.inr (.inl x), a1, a2, a3, a4] (.inr (.inl x) :: st) (sh, I, R) := (ev_eq f_157_0).trans rfl
theorem f_157_1 : fetch 157 1 = some (1, .iload_n 1, 1, [1], 0) := (fm_157 1).trans rfl
theorem u_157_1 {S : Scr} {d : Nat} {a0 a2 a3 a4 : AV} {st : List AV} {sh : Shp} {I : IM} {R : RM} {x : Int} : ev S d 157 1 [a0, .inl x, a2, a3, a4] st (sh, I, R) = ev S d 157 2 [a0, .inl x, a2, a3, a4] (.inl x :: st) (sh, I, R) := (ev_eq f_157_1).trans rfl
theorem f_157_2 : fetch 157 2 = some (2, .invokevirtual 68, 3, [133, 1, 126], 0) := (fm_157 2).trans rfl
theorem u_157_2 {S : Scr} {d : Nat} {a0 a1 a2 a3 a4 : AV} {st : List AV} {sh : Shp} {I : IM} {R : RM} {x0 : Int} {k : Nat} (h : tg sh k = 9) (hr : st.length ≤ 8) : ev S d 157 2 [a0, a1, a2, a3, a4] (.inl x0 :: .inr (.inl k) :: st) (sh, I, R) = bnd (cl d 133 [.inr (.inl k), .inl x0] (sh, I, R)) (fun v M => ev S d 157 5 [a0, a1, a2, a3, a4] (psh v st) M) := (ev_eq f_157_2).trans (congrArg (fin S d 157) (if_pos ⟨h, rfl, hr⟩))
theorem f_157_5 : fetch 157 5 = some (5, .ifCond .eq 10, 3, [15], 0) := (fm_157 5).trans rfl
theorem u_157_5 {S : Scr} {d : Nat} {a0 a1 a2 a3 a4 : AV} {st : List AV} {sh : Shp} {I : IM} {R : RM} {x : Int} : ev S d 157 5 [a0, a1, a2, a3, a4] (.inl x :: st) (sh, I, R) = if x = 0 then ev S d 157 15 [a0, a1, a2, a3, a4] st (sh, I, R) else ev S d 157 8 [a0, a1, a2, a3, a4] st (sh, I, R) := (ev_eq f_157_5).trans fin_if_eq
theorem f_157_8 : fetch 157 8 = some (8, .iload_n 2, 1, [2], 0) := (fm_157 8).trans rfl
theorem u_157_8 {S : Scr} {d : Nat} {a0 a1 a3 a4 : AV} {st : List AV} {sh : Shp} {I : IM} {R : RM} {x : Int} : ev S d 157 8 [a0, a1, .inl x, a3, a4] st (sh, I, R) = ev S d 157 9 [a0, a1, .inl x, a3, a4] (.inl x :: st) (sh, I, R) := (ev_eq f_157_8).trans rfl
theorem f_157_9 : fetch 157 9 = some (9, .invokestatic 95, 3, [131, 1, 133], 0) := (fm_157 9).trans rfl
theorem u_157_9 {S : Scr} {d : Nat} {a0 a1 a2 a3 a4 : AV} {st : List AV} {sh : Shp} {I : IM} {R : RM} {x0 : Int} (hr : st.length ≤ 8) : ev S d 157 9 [a0, a1, a2, a3, a4] (.inl x0 :: st) (sh, I, R) = bnd (cl d 131 [.inl x0] (sh, I, R)) (fun v M => ev S d 157 12 [a0, a1, a2, a3, a4] (psh v st) M) := (ev_eq f_157_9).trans (congrArg (fin S d 157) (if_pos ⟨rfl, hr⟩))
theorem f_157_12 : fetch 157 12 = some (12, .ifCond .ne 5, 3, [17], 0) := (fm_157 12).trans rfl
theorem u_157_12 {S : Scr} {d : Nat} {a0 a1 a2 a3 a4 : AV} {st : List AV} {sh : Shp} {I : IM} {R : RM} {x : Int} : ev S d 157 12 [a0, a1, a2, a3, a4] (.inl x :: st) (sh, I, R) = if ¬ x = 0 then ev S d 157 17 [a0, a1, a2, a3, a4] st (sh, I, R) else ev S d 157 15 [a0, a1, a2, a3, a4] st (sh, I, R) := (ev_eq f_157_12).trans fin_if_ne
theorem f_157_15 : fetch 157 15 = some (15, .iconst (-1), 1, [], (-1)) := (fm_157 15).trans rfl
theorem u_157_15 {S : Scr} {d : Nat} {a0 a1 a2 a3 a4 : AV} {st : List AV} {sh : Shp} {I : IM} {R : RM} : ev S d 157 15 [a0, a1, a2, a3, a4] st (sh, I, R) = ev S d 157 16 [a0, a1, a2, a3, a4] (.inl (-1) :: st) (sh, I, R) := (ev_eq f_157_15).trans rfl
theorem f_157_16 : fetch 157 16 = some (16, .ireturn, 1, [0], 0) := (fm_157 16).trans rfl
theorem u_157_16 {S : Scr} {d : Nat} {a0 a1 a2 a3 a4 : AV} {sh : Shp} {I : IM} {R : RM} {x : Int} : ev S d 157 16 [a0, a1, a2, a3, a4] [.inl x] (sh, I, R) = some (some (.inl x), (sh, I, R)) := (ev_eq f_157_16).trans fin_iret0
theorem f_157_17 : fetch 157 17 = some (17, .aload_n 0, 1, [0], 0) := (fm_157 17).trans rfl
theorem u_157_17 {S : Scr} {d : Nat} {a1 a2 a3 a4 : AV} {st : List AV} {sh : Shp} {I : IM} {R : RM} {x : Nat} : ev S d 157 17 [.inr (.inl x), a1, a2, a3, a4] st (sh, I, R) = ev S d 157 18 [.inr (.inl x), a1, a2, a3, a4] (.inr (.inl x) :: st) (sh, I, R) := (ev_eq f_157_17).trans rfl
theorem f_157_18 : fetch 157 18 = some (18, .getfield 9, 3, [9, 0, 1, 79], 0) := (fm_157 18).trans rfl
theorem u_157_18 {S : Scr} {d : Nat} {a0 a1 a2 a3 a4 : AV} {st : List AV} {sh : Shp} {I : IM} {R : RM} {k : Nat} (h : tg sh k = 9) : ev S d 157 18 [a0, a1, a2, a3, a4] (.inr (.inl k) :: st) (sh, I, R) = ev S d 157 21 [a0, a1, a2, a3, a4] (rv (R k 0) :: st) (sh, I, R) := (ev_eq f_157_18).trans (congrArg (fin S d 157) (if_pos h))
theorem f_157_21 : fetch 157 21 = some (21, .iconst 0, 1, [], 0) := (fm_157 21).trans rfl
theorem u_157_21 {S : Scr} {d : Nat} {a0 a1 a2 a3 a4 : AV} {st : List AV} {sh : Shp} {I : IM} {R : RM} : ev S d 157 21 [a0, a1, a2, a3, a4] st (sh, I, R) = ev S d 157 22 [a0, a1, a2, a3, a4] (.inl 0 :: st) (sh, I, R) := (ev_eq f_157_21).trans rfl
theorem f_157_22 : fetch 157 22 = some (22, .iload_n 1, 1, [1], 0) := (fm_157 22).trans rfl
theorem u_157_22 {S : Scr} {d : Nat} {a0 a2 a3 a4 : AV} {st : List AV} {sh : Shp} {I : IM} {R : RM} {x : Int} : ev S d 157 22 [a0, .inl x, a2, a3, a4] st (sh, I, R) = ev S d 157 23 [a0, .inl x, a2, a3, a4] (.inl x :: st) (sh, I, R) := (ev_eq f_157_22).trans rfl
theorem f_157_23 : fetch 157 23 = some (23, .iadd, 1, [], 0) := (fm_157 23).trans rfl
theorem u_157_23 {S : Scr} {d : Nat} {a0 a1 a2 a3 a4 : AV} {st : List AV} {sh : Shp} {I : IM} {R : RM} {x y : Int} : ev S d 157 23 [a0, a1, a2, a3, a4] (.inl y :: .inl x :: st) (sh, I, R) = ev S d 157 24 [a0, a1, a2, a3, a4] (.inl (wr (x + y)) :: st) (sh, I, R) := (ev_eq f_157_23).trans rfl
theorem f_157_24 : fetch 157 24 = some (24, .iaload, 1, [], 0) := (fm_157 24).trans rfl
theorem u_157_24 {S : Scr} {d : Nat} {a0 a1 a2 a3 a4 : AV} {st : List AV} {sh : Shp} {I : IM} {R : RM} {k : Nat} {i : Int} (h : tg sh k = 100) (h0 : 0 ≤ i) (h1 : i < ln sh k) : ev S d 157 24 [a0, a1, a2, a3, a4] (.inl i :: .inr (.inl k) :: st) (sh, I, R) = ev S d 157 25 [a0, a1, a2, a3, a4] (.inl (I k i) :: st) (sh, I, R) := (ev_eq f_157_24).trans (congrArg (fin S d 157) (if_pos ⟨h, h0, h1⟩))
theorem f_157_25 : fetch 157 25 = some (25, .iconst 4, 1, [], 4) := (fm_157 25).trans rfl
theorem u_157_25 {S : Scr} {d : Nat} {a0 a1 a2 a3 a4 : AV} {st : List AV} {sh : Shp} {I : IM} {R : RM} : ev S d 157 25 [a0, a1, a2, a3, a4] st (sh, I, R) = ev S d 157 26 [a0, a1, a2, a3, a4] (.inl 4 :: st) (sh, I, R) := (ev_eq f_157_25).trans rfl
theorem f_157_26 : fetch 157 26 = some (26, .if_icmp .ne 6, 3, [32], 0) := (fm_157 26).trans rfl
theorem u_157_26 {S : Scr} {d : Nat} {a0 a1 a2 a3 a4 : AV} {st : List AV} {sh : Shp} {I : IM} {R : RM} {x y : Int} : ev S d 157 26 [a0, a1, a2, a3, a4] (.inl y :: .inl x :: st) (sh, I, R) = if ¬ x = y then ev S d 157 32 [a0, a1, a2, a3, a4] st (sh, I, R) else ev S d 157 29 [a0, a1, a2, a3, a4] st (sh, I, R) := (ev_eq f_157_26).trans fin_icmp_ne
theorem f_157_29 : fetch 157 29 = some (29, .bipush (-12), 2, [], (-12)) := (fm_157 29).trans rfl
theorem u_157_29 {S : Scr} {d : Nat} {a0 a1 a2 a3 a4 : AV} {st : List AV} {sh : Shp} {I : IM} {R : RM} : ev S d 157 29 [a0, a1, a2, a3, a4] st (sh, I, R) = ev S d 157 31 [a0, a1, a2, a3, a4] (.inl (-12) :: st) (sh, I, R) := (ev_eq f_157_29).trans rfl
theorem f_157_31 : fetch 157 31 = some (31, .ireturn, 1, [0], 0) := (fm_157 31).trans rfl
theorem u_157_31 {S : Scr} {d : Nat} {a0 a1 a2 a3 a4 : AV} {sh : Shp} {I : IM} {R : RM} {x : Int} : ev S d 157 31 [a0, a1, a2, a3, a4] [.inl x] (sh, I, R) = some (some (.inl x), (sh, I, R)) := (ev_eq f_157_31).trans fin_iret0
theorem f_157_32 : fetch 157 32 = some (32, .aload_n 0, 1, [0], 0) := (fm_157 32).trans rfl
theorem u_157_32 {S : Scr} {d : Nat} {a1 a2 a3 a4 : AV} {st : List AV} {sh : Shp} {I : IM} {R : RM} {x : Nat} : ev S d 157 32 [.inr (.inl x), a1, a2, a3, a4] st (sh, I, R) = ev S d 157 33 [.inr (.inl x), a1, a2, a3, a4] (.inr (.inl x) :: st) (sh, I, R) := (ev_eq f_157_32).trans rfl
theorem f_157_33 : fetch 157 33 = some (33, .iload_n 1, 1, [1], 0) := (fm_157 33).trans rfl
theorem u_157_33 {S : Scr} {d : Nat} {a0 a2 a3 a4 : AV} {st : List AV} {sh : Shp} {I : IM} {R : RM} {x : Int} : ev S d 157 33 [a0, .inl x, a2, a3, a4] st (sh, I, R) = ev S d 157 34 [a0, .inl x, a2, a3, a4] (.inl x :: st) (sh, I, R) := (ev_eq f_157_33).trans rfl
theorem f_157_34 : fetch 157 34 = some (34, .iload_n 2, 1, [2], 0) := (fm_157 34).trans rfl
theorem u_157_34 {S : Scr} {d : Nat} {a0 a1 a3 a4 : AV} {st : List AV} {sh : Shp} {I : IM} {R : RM} {x : Int} : ev S d 157 34 [a0, a1, .inl x, a3, a4] st (sh, I, R) = ev S d 157 35 [a0, a1, .inl x, a3, a4] (.inl x :: st) (sh, I, R) := (ev_eq f_157_34).trans rfl
theorem f_157_35 : fetch 157 35 = some (35, .invokevirtual 84, 3, [140, 2, 130], 0) := (fm_157 35).trans rfl
theorem u_157_35 {S : Scr} {d : Nat} {a0 a1 a2 a3 a4 : AV} {st : List AV} {sh : Shp} {I : IM} {R : RM} {x0 : Int} {x1 : Int} {k : Nat} (h : tg sh k = 9) (hr : st.length ≤ 8) : ev S d 157 35 [a0, a1, a2, a3, a4] (.inl x1 :: .inl x0 :: .inr (.inl k) :: st) (sh, I, R) = bnd (cl d 140 [.inr (.inl k), .inl x0, .inl x1] (sh, I, R)) (fun v M => ev S d 157 38 [a0, a1, a2, a3, a4] (psh v st) M) := (ev_eq f_157_35).trans (congrArg (fin S d 157) (if_pos ⟨h, rfl, hr⟩))
theorem f_157_38 : fetch 157 38 = some (38, .istore_n 3, 1, [3], 0) := (fm_157 38).trans rfl
theorem u_157_38 {S : Scr} {d : Nat} {a0 a1 a2 a3 a4 : AV} {st : List AV} {sh : Shp} {I : IM} {R : RM} {x : Int} : ev S d 157 38 [a0, a1, a2, a3, a4] (.inl x :: st) (sh, I, R) = ev S d 157 39 [a0, a1, a2, .inl x, a4] st (sh, I, R) := (ev_eq f_157_38).trans rfl
theorem f_157_39 : fetch 157 39 = some (39, .iload_n 3, 1, [3], 0) := (fm_157 39).trans rfl
theorem u_157_39 {S : Scr} {d : Nat} {a0 a1 a2 a4 : AV} {st : List AV} {sh : Shp} {I : IM} {R : RM} {x : Int} : ev S d 157 39 [a0, a1, a2, .inl x, a4] st (sh, I, R) = ev S d 157 40 [a0, a1, a2, .inl x, a4] (.inl x :: st) (sh, I, R) := (ev_eq f_157_39).trans rfl
theorem f_157_40 : fetch 157 40 = some (40, .ifCond .ge 6, 3, [46], 0) := (fm_157 40).trans rfl
theorem u_157_40 {S : Scr} {d : Nat} {a0 a1 a2 a3 a4 : AV} {st : List AV} {sh : Shp} {I : IM} {R : RM} {x : Int} : ev S d 157 40 [a0, a1, a2, a3, a4] (.inl x :: st) (sh, I, R) = if 0 ≤ x then ev S d 157 46 [a0, a1, a2, a3, a4] st (sh, I, R) else ev S d 157 43 [a0, a1, a2, a3, a4] st (sh, I, R) := (ev_eq f_157_40).trans fin_if_ge
theorem f_157_43 : fetch 157 43 = some (43, .bipush (-2), 2, [], (-2)) := (fm_157 43).trans rfl
theorem u_157_43 {S : Scr} {d : Nat} {a0 a1 a2 a3 a4 : AV} {st : List AV} {sh : Shp} {I : IM} {R : RM} : ev S d 157 43 [a0, a1, a2, a3, a4] st (sh, I, R) = ev S d 157 45 [a0, a1, a2, a3, a4] (.inl (-2) :: st) (sh, I, R) := (ev_eq f_157_43).trans rfl
theorem f_157_45 : fetch 157 45 = some (45, .ireturn, 1, [0], 0) := (fm_157 45).trans rfl
theorem u_157_45 {S : Scr} {d : Nat} {a0 a1 a2 a3 a4 : AV} {sh : Shp} {I : IM} {R : RM} {x : Int} : ev S d 157 45 [a0, a1, a2, a3, a4] [.inl x] (sh, I, R) = some (some (.inl x), (sh, I, R)) := (ev_eq f_157_45).trans fin_iret0
theorem f_157_46 : fetch 157 46 = some (46, .aload_n 0, 1, [0], 0) := (fm_157 46).trans rfl
theorem u_157_46 {S : Scr} {d : Nat} {a1 a2 a3 a4 : AV} {st : List AV} {sh : Shp} {I : IM} {R : RM} {x : Nat} : ev S d 157 46 [.inr (.inl x), a1, a2, a3, a4] st (sh, I, R) = ev S d 157 47 [.inr (.inl x), a1, a2, a3, a4] (.inr (.inl x) :: st) (sh, I, R) := (ev_eq f_157_46).trans rfl
theorem f_157_47 : fetch 157 47 = some (47, .getfield 9, 3, [9, 0, 1, 79], 0) := (fm_157 47).trans rfl
theorem u_157_47 {S : Scr} {d : Nat} {a0 a1 a2 a3 a4 : AV} {st : List AV} {sh : Shp} {I : IM} {R : RM} {k : Nat} (h : tg sh k = 9) : ev S d 157 47 [a0, a1, a2, a3, a4] (.inr (.inl k) :: st) (sh, I, R) = ev S d 157 50 [a0, a1, a2, a3, a4] (rv (R k 0) :: st) (sh, I, R) := (ev_eq f_157_47).trans (congrArg (fin S d 157) (if_pos h))
theorem f_157_50 : fetch 157 50 = some (50, .bipush 90, 2, [], 90) := (fm_157 50).trans rfl
theorem u_157_50 {S : Scr} {d : Nat} {a0 a1 a2 a3 a4 : AV} {st : List AV} {sh : Shp} {I : IM} {R : RM} : ev S d 157 50 [a0, a1, a2, a3, a4] st (sh, I, R) = ev S d 157 52 [a0, a1, a2, a3, a4] (.inl 90 :: st) (sh, I, R) := (ev_eq f_157_50).trans rfl
theorem f_157_52 : fetch 157 52 = some (52, .iload_n 1, 1, [1], 0) := (fm_157 52).trans rfl
theorem u_157_52 {S : Scr} {d : Nat} {a0 a2 a3 a4 : AV} {st : List AV} {sh : Shp} {I : IM} {R : RM} {x : Int} : ev S d 157 52 [a0, .inl x, a2, a3, a4] st (sh, I, R) = ev S d 157 53 [a0, .inl x, a2, a3, a4] (.inl x :: st) (sh, I, R) := (ev_eq f_157_52).trans rfl
theorem f_157_53 : fetch 157 53 = some (53, .iadd, 1, [], 0) := (fm_157 53).trans rfl
theorem u_157_53 {S : Scr} {d : Nat} {a0 a1 a2 a3 a4 : AV} {st : List AV} {sh : Shp} {I : IM} {R : RM} {x y : Int} : ev S d 157 53 [a0, a1, a2, a3, a4] (.inl y :: .inl x :: st) (sh, I, R) = ev S d 157 54 [a0, a1, a2, a3, a4] (.inl (wr (x + y)) :: st) (sh, I, R) := (ev_eq f_157_53).trans rfl
theorem f_157_54 : fetch 157 54 = some (54, .dup2, 1, [], 0) := (fm_157 54).trans rfl
theorem u_157_54 {S : Scr} {d : Nat} {a0 a1 a2 a3 a4 : AV} {st : List AV} {sh : Shp} {I : IM} {R : RM} {x y : AV} : ev S d 157 54 [a0, a1, a2, a3, a4] (y :: x :: st) (sh, I, R) = ev S d 157 55 [a0, a1, a2, a3, a4] (y :: x :: y :: x :: st) (sh, I, R) := (ev_eq f_157_54).trans rfl
theorem f_157_55 : fetch 157 55 = some (55, .iaload, 1, [], 0) := (fm_157 55).trans rfl
theorem u_157_55 {S : Scr} {d : Nat} {a0 a1 a2 a3 a4 : AV} {st : List AV} {sh : Shp} {I : IM} {R : RM} {k : Nat} {i : Int} (h : tg sh k = 100) (h0 : 0 ≤ i) (h1 : i < ln sh k) : ev S d 157 55 [a0, a1, a2, a3, a4] (.inl i :: .inr (.inl k) :: st) (sh, I, R) = ev S d 157 56 [a0, a1, a2, a3, a4] (.inl (I k i) :: st) (sh, I, R) := (ev_eq f_157_55).trans (congrArg (fin S d 157) (if_pos ⟨h, h0, h1⟩))
theorem f_157_56 : fetch 157 56 = some (56, .iconst 1, 1, [], 1) := (fm_157 56).trans rfl
theorem u_157_56 {S : Scr} {d : Nat} {a0 a1 a2 a3 a4 : AV} {st : List AV} {sh : Shp} {I : IM} {R : RM} : ev S d 157 56 [a0, a1, a2, a3, a4] st (sh, I, R) = ev S d 157 57 [a0, a1, a2, a3, a4] (.inl 1 :: st) (sh, I, R) := (ev_eq f_157_56).trans rfl
theorem f_157_57 : fetch 157 57 = some (57, .isub, 1, [], 0) := (fm_157 57).trans rfl
theorem u_157_57 {S : Scr} {d : Nat} {a0 a1 a2 a3 a4 : AV} {st : List AV} {sh : Shp} {I : IM} {R : RM} {x y : Int} : ev S d 157 57 [a0, a1, a2, a3, a4] (.inl y :: .inl x :: st) (sh, I, R) = ev S d 157 58 [a0, a1, a2, a3, a4] (.inl (wr (x - y)) :: st) (sh, I, R) := (ev_eq f_157_57).trans rfl
theorem f_157_58 : fetch 157 58 = some (58, .iastore, 1, [], 0) := (fm_157 58).trans rfl
theorem u_157_58 {S : Scr} {d : Nat} {a0 a1 a2 a3 a4 : AV} {st : List AV} {sh : Shp} {I : IM} {R : RM} {k : Nat} {i x : Int} (h : tg sh k = 100) (h0 : 0 ≤ i) (h1 : i < ln sh k) : ev S d 157 58 [a0, a1, a2, a3, a4] (.inl x :: .inl i :: .inr (.inl k) :: st) (sh, I, R) = ev S d 157 59 [a0, a1, a2, a3, a4] st (sh, up I k i x, R) := (ev_eq f_157_58).trans (congrArg (fin S d 157) (if_pos ⟨h, h0, h1⟩))
theorem f_157_59 : fetch 157 59 = some (59, .iload_n 3, 1, [3], 0) := (fm_157 59).trans rfl
theorem u_157_59 {S : Scr} {d : Nat} {a0 a1 a2 a4 : AV} {st : List AV} {sh : Shp} {I : IM} {R : RM} {x : Int} : ev S d 157 59 [a0, a1, a2, .inl x, a4] st (sh, I, R) = ev S d 157 60 [a0, a1, a2, .inl x, a4] (.inl x :: st) (sh, I, R) := (ev_eq f_157_59).trans rfl
theorem f_157_60 : fetch 157 60 = some (60, .istore 4, 2, [4], 0) := (fm_157 60).trans rfl
theorem u_157_60 {S : Scr} {d : Nat} {a0 a1 a2 a3 a4 : AV} {st : List AV} {sh : Shp} {I : IM} {R : RM} {x : Int} : ev S d 157 60 [a0, a1, a2, a3, a4] (.inl x :: st) (sh, I, R) = ev S d 157 62 [a0, a1, a2, a3, .inl x] st (sh, I, R) := (ev_eq f_157_60).trans rfl
theorem f_157_62 : fetch 157 62 = some (62, .iload 4, 2, [4], 0) := (fm_157 62).trans rfl
theorem u_157_62 {S : Scr} {d : Nat} {a0 a1 a2 a3 : AV} {st : List AV} {sh : Shp} {I : IM} {R : RM} {x : Int} : ev S d 157 62 [a0, a1, a2, a3, .inl x] st (sh, I, R) = ev S d 157 64 [a0, a1, a2, a3, .inl x] (.inl x :: st) (sh, I, R) := (ev_eq f_157_62).trans rfl
theorem f_157_64 : fetch 157 64 = some (64, .aload_n 0, 1, [0], 0) := (fm_157 64).trans rfl
theorem u_157_64 {S : Scr} {d : Nat} {a1 a2 a3 a4 : AV} {st : List AV} {sh : Shp} {I : IM} {R : RM} {x : Nat} : ev S d 157 64 [.inr (.inl x), a1, a2, a3, a4] st (sh, I, R) = ev S d 157 65 [.inr (.inl x), a1, a2, a3, a4] (.inr (.inl x) :: st) (sh, I, R) := (ev_eq f_157_64).trans rfl
theorem f_157_65 : fetch 157 65 = some (65, .getfield 9, 3, [9, 0, 1, 79], 0) := (fm_157 65).trans rfl
theorem u_157_65 {S : Scr} {d : Nat} {a0 a1 a2 a3 a4 : AV} {st : List AV} {sh : Shp} {I : IM} {R : RM} {k : Nat} (h : tg sh k = 9) : ev S d 157 65 [a0, a1, a2, a3, a4] (.inr (.inl k) :: st) (sh, I, R) = ev S d 157 68 [a0, a1, a2, a3, a4] (rv (R k 0) :: st) (sh, I, R) := (ev_eq f_157_65).trans (congrArg (fin S d 157) (if_pos h))
theorem f_157_68 : fetch 157 68 = some (68, .bipush 90, 2, [], 90) := (fm_157 68).trans rfl
theorem u_157_68 {S : Scr} {d : Nat} {a0 a1 a2 a3 a4 : AV} {st : List AV} {sh : Shp} {I : IM} {R : RM} : ev S d 157 68 [a0, a1, a2, a3, a4] st (sh, I, R) = ev S d 157 70 [a0, a1, a2, a3, a4] (.inl 90 :: st) (sh, I, R) := (ev_eq f_157_68).trans rfl
theorem f_157_70 : fetch 157 70 = some (70, .iload_n 1, 1, [1], 0) := (fm_157 70).trans rfl
theorem u_157_70 {S : Scr} {d : Nat} {a0 a2 a3 a4 : AV} {st : List AV} {sh : Shp} {I : IM} {R : RM} {x : Int} : ev S d 157 70 [a0, .inl x, a2, a3, a4] st (sh, I, R) = ev S d 157 71 [a0, .inl x, a2, a3, a4] (.inl x :: st) (sh, I, R) := (ev_eq f_157_70).trans rfl
theorem f_157_71 : fetch 157 71 = some (71, .iadd, 1, [], 0) := (fm_157 71).trans rfl
theorem u_157_71 {S : Scr} {d : Nat} {a0 a1 a2 a3 a4 : AV} {st : List AV} {sh : Shp} {I : IM} {R : RM} {x y : Int} : ev S d 157 71 [a0, a1, a2, a3, a4] (.inl y :: .inl x :: st) (sh, I, R) = ev S d 157 72 [a0, a1, a2, a3, a4] (.inl (wr (x + y)) :: st) (sh, I, R) := (ev_eq f_157_71).trans rfl
theorem f_157_72 : fetch 157 72 = some (72, .iaload, 1, [], 0) := (fm_157 72).trans rfl
theorem u_157_72 {S : Scr} {d : Nat} {a0 a1 a2 a3 a4 : AV} {st : List AV} {sh : Shp} {I : IM} {R : RM} {k : Nat} {i : Int} (h : tg sh k = 100) (h0 : 0 ≤ i) (h1 : i < ln sh k) : ev S d 157 72 [a0, a1, a2, a3, a4] (.inl i :: .inr (.inl k) :: st) (sh, I, R) = ev S d 157 73 [a0, a1, a2, a3, a4] (.inl (I k i) :: st) (sh, I, R) := (ev_eq f_157_72).trans (congrArg (fin S d 157) (if_pos ⟨h, h0, h1⟩))
theorem f_157_73 : fetch 157 73 = some (73, .if_icmp .ge 75, 3, [148], 0) := (fm_157 73).trans rfl
theorem u_157_73 {S : Scr} {d : Nat} {a0 a1 a2 a3 a4 : AV} {st : List AV} {sh : Shp} {I : IM} {R : RM} {x y : Int} : ev S d 157 73 [a0, a1, a2, a3, a4] (.inl y :: .inl x :: st) (sh, I, R) = if y ≤ x then ev S d 157 148 [a0, a1, a2, a3, a4] st (sh, I, R) else ev S d 157 76 [a0, a1, a2, a3, a4] st (sh, I, R) := (ev_eq f_157_73).trans fin_icmp_ge
theorem f_157_76 : fetch 157 76 = some (76, .aload_n 0, 1, [0], 0) := (fm_157 76).trans rfl
theorem u_157_76 {S : Scr} {d : Nat} {a1 a2 a3 a4 : AV} {st : List AV} {sh : Shp} {I : IM} {R : RM} {x : Nat} : ev S d 157 76 [.inr (.inl x), a1, a2, a3, a4] st (sh, I, R) = ev S d 157 77 [.inr (.inl x), a1, a2, a3, a4] (.inr (.inl x) :: st) (sh, I, R) := (ev_eq f_157_76).trans rfl
theorem f_157_77 : fetch 157 77 = some (77, .getfield 9, 3, [9, 0, 1, 79], 0) := (fm_157 77).trans rfl
theorem u_157_77 {S : Scr} {d : Nat} {a0 a1 a2 a3 a4 : AV} {st : List AV} {sh : Shp} {I : IM} {R : RM} {k : Nat} (h : tg sh k = 9) : ev S d 157 77 [a0, a1, a2, a3, a4] (.inr (.inl k) :: st) (sh, I, R) = ev S d 157 80 [a0, a1, a2, a3, a4] (rv (R k 0) :: st) (sh, I, R) := (ev_eq f_157_77).trans (congrArg (fin S d 157) (if_pos h))
theorem f_157_80 : fetch 157 80 = some (80, .bipush 120, 2, [], 120) := (fm_157 80).trans rfl
theorem u_157_80 {S : Scr} {d : Nat} {a0 a1 a2 a3 a4 : AV} {st : List AV} {sh : Shp} {I : IM} {R : RM} : ev S d 157 80 [a0, a1, a2, a3, a4] st (sh, I, R) = ev S d 157 82 [a0, a1, a2, a3, a4] (.inl 120 :: st) (sh, I, R) := (ev_eq f_157_80).trans rfl
theorem f_157_82 : fetch 157 82 = some (82, .bipush 6, 2, [], 6) := (fm_157 82).trans rfl
theorem u_157_82 {S : Scr} {d : Nat} {a0 a1 a2 a3 a4 : AV} {st : List AV} {sh : Shp} {I : IM} {R : RM} : ev S d 157 82 [a0, a1, a2, a3, a4] st (sh, I, R) = ev S d 157 84 [a0, a1, a2, a3, a4] (.inl 6 :: st) (sh, I, R) := (ev_eq f_157_82).trans rfl
theorem f_157_84 : fetch 157 84 = some (84, .iload_n 1, 1, [1], 0) := (fm_157 84).trans rfl
theorem u_157_84 {S : Scr} {d : Nat} {a0 a2 a3 a4 : AV} {st : List AV} {sh : Shp} {I : IM} {R : RM} {x : Int} : ev S d 157 84 [a0, .inl x, a2, a3, a4] st (sh, I, R) = ev S d 157 85 [a0, .inl x, a2, a3, a4] (.inl x :: st) (sh, I, R) := (ev_eq f_157_84).trans rfl
theorem f_157_85 : fetch 157 85 = some (85, .imul, 1, [], 0) := (fm_157 85).trans rfl
theorem u_157_85 {S : Scr} {d : Nat} {a0 a1 a2 a3 a4 : AV} {st : List AV} {sh : Shp} {I : IM} {R : RM} {x y : Int} : ev S d 157 85 [a0, a1, a2, a3, a4] (.inl y :: .inl x :: st) (sh, I, R) = ev S d 157 86 [a0, a1, a2, a3, a4] (.inl (wr (x * y)) :: st) (sh, I, R) := (ev_eq f_157_85).trans rfl
theorem f_157_86 : fetch 157 86 = some (86, .iadd, 1, [], 0) := (fm_157 86).trans rfl
theorem u_157_86 {S : Scr} {d : Nat} {a0 a1 a2 a3 a4 : AV} {st : List AV} {sh : Shp} {I : IM} {R : RM} {x y : Int} : ev S d 157 86 [a0, a1, a2, a3, a4] (.inl y :: .inl x :: st) (sh, I, R) = ev S d 157 87 [a0, a1, a2, a3, a4] (.inl (wr (x + y)) :: st) (sh, I, R) := (ev_eq f_157_86).trans rfl
theorem f_157_87 : fetch 157 87 = some (87, .iload 4, 2, [4], 0) := (fm_157 87).trans rfl
theorem u_157_87 {S : Scr} {d : Nat} {a0 a1 a2 a3 : AV} {st : List AV} {sh : Shp} {I : IM} {R : RM} {x : Int} : ev S d 157 87 [a0, a1, a2, a3, .inl x] st (sh, I, R) = ev S d 157 89 [a0, a1, a2, a3, .inl x] (.inl x :: st) (sh, I, R) := (ev_eq f_157_87).trans rfl
theorem f_157_89 : fetch 157 89 = some (89, .iadd, 1, [], 0) := (fm_157 89).trans rfl
theorem u_157_89 {S : Scr} {d : Nat} {a0 a1 a2 a3 a4 : AV} {st : List AV} {sh : Shp} {I : IM} {R : RM} {x y : Int} : ev S d 157 89 [a0, a1, a2, a3, a4] (.inl y :: .inl x :: st) (sh, I, R) = ev S d 157 90 [a0, a1, a2, a3, a4] (.inl (wr (x + y)) :: st) (sh, I, R) := (ev_eq f_157_89).trans rfl
theorem f_157_90 : fetch 157 90 = some (90, .aload_n 0, 1, [0], 0) := (fm_157 90).trans rfl
theorem u_157_90 {S : Scr} {d : Nat} {a1 a2 a3 a4 : AV} {st : List AV} {sh : Shp} {I : IM} {R : RM} {x : Nat} : ev S d 157 90 [.inr (.inl x), a1, a2, a3, a4] st (sh, I, R) = ev S d 157 91 [.inr (.inl x), a1, a2, a3, a4] (.inr (.inl x) :: st) (sh, I, R) := (ev_eq f_157_90).trans rfl
theorem f_157_91 : fetch 157 91 = some (91, .getfield 9, 3, [9, 0, 1, 79], 0) := (fm_157 91).trans rfl
theorem u_157_91 {S : Scr} {d : Nat} {a0 a1 a2 a3 a4 : AV} {st : List AV} {sh : Shp} {I : IM} {R : RM} {k : Nat} (h : tg sh k = 9) : ev S d 157 91 [a0, a1, a2, a3, a4] (.inr (.inl k) :: st) (sh, I, R) = ev S d 157 94 [a0, a1, a2, a3, a4] (rv (R k 0) :: st) (sh, I, R) := (ev_eq f_157_91).trans (congrArg (fin S d 157) (if_pos h))
theorem f_157_94 : fetch 157 94 = some (94, .bipush 120, 2, [], 120) := (fm_157 94).trans rfl
theorem u_157_94 {S : Scr} {d : Nat} {a0 a1 a2 a3 a4 : AV} {st : List AV} {sh : Shp} {I : IM} {R : RM} : ev S d 157 94 [a0, a1, a2, a3, a4] st (sh, I, R) = ev S d 157 96 [a0, a1, a2, a3, a4] (.inl 120 :: st) (sh, I, R) := (ev_eq f_157_94).trans rfl
theorem f_157_96 : fetch 157 96 = some (96, .bipush 6, 2, [], 6) := (fm_157 96).trans rfl
theorem u_157_96 {S : Scr} {d : Nat} {a0 a1 a2 a3 a4 : AV} {st : List AV} {sh : Shp} {I : IM} {R : RM} : ev S d 157 96 [a0, a1, a2, a3, a4] st (sh, I, R) = ev S d 157 98 [a0, a1, a2, a3, a4] (.inl 6 :: st) (sh, I, R) := (ev_eq f_157_96).trans rfl
theorem f_157_98 : fetch 157 98 = some (98, .iload_n 1, 1, [1], 0) := (fm_157 98).trans rfl
theorem u_157_98 {S : Scr} {d : Nat} {a0 a2 a3 a4 : AV} {st : List AV} {sh : Shp} {I : IM} {R : RM} {x : Int} : ev S d 157 98 [a0, .inl x, a2, a3, a4] st (sh, I, R) = ev S d 157 99 [a0, .inl x, a2, a3, a4] (.inl x :: st) (sh, I, R) := (ev_eq f_157_98).trans rfl
theorem f_157_99 : fetch 157 99 = some (99, .imul, 1, [], 0) := (fm_157 99).trans rfl
theorem u_157_99 {S : Scr} {d : Nat} {a0 a1 a2 a3 a4 : AV} {st : List AV} {sh : Shp} {I : IM} {R : RM} {x y : Int} : ev S d 157 99 [a0, a1, a2, a3, a4] (.inl y :: .inl x :: st) (sh, I, R) = ev S d 157 100 [a0, a1, a2, a3, a4] (.inl (wr (x * y)) :: st) (sh, I, R) := (ev_eq f_157_99).trans rfl
theorem f_157_100 : fetch 157 100 = some (100, .iadd, 1, [], 0) := (fm_157 100).trans rfl
theorem u_157_100 {S : Scr} {d : Nat} {a0 a1 a2 a3 a4 : AV} {st : List AV} {sh : Shp} {I : IM} {R : RM} {x y : Int} : ev S d 157 100 [a0, a1, a2, a3, a4] (.inl y :: .inl x :: st) (sh, I, R) = ev S d 157 101 [a0, a1, a2, a3, a4] (.inl (wr (x + y)) :: st) (sh, I, R) := (ev_eq f_157_100).trans rfl
theorem f_157_101 : fetch 157 101 = some (101, .iload 4, 2, [4], 0) := (fm_157 101).trans rfl
theorem u_157_101 {S : Scr} {d : Nat} {a0 a1 a2 a3 : AV} {st : List AV} {sh : Shp} {I : IM} {R : RM} {x : Int} : ev S d 157 101 [a0, a1, a2, a3, .inl x] st (sh, I, R) = ev S d 157 103 [a0, a1, a2, a3, .inl x] (.inl x :: st) (sh, I, R) := (ev_eq f_157_101).trans rfl
theorem f_157_103 : fetch 157 103 = some (103, .iadd, 1, [], 0) := (fm_157 103).trans rfl
theorem u_157_103 {S : Scr} {d : Nat} {a0 a1 a2 a3 a4 : AV} {st : List AV} {sh : Shp} {I : IM} {R : RM} {x y : Int} : ev S d 157 103 [a0, a1, a2, a3, a4] (.inl y :: .inl x :: st) (sh, I, R) = ev S d 157 104 [a0, a1, a2, a3, a4] (.inl (wr (x + y)) :: st) (sh, I, R) := (ev_eq f_157_103).trans rfl
theorem f_157_104 : fetch 157 104 = some (104, .iconst 1, 1, [], 1) := (fm_157 104).trans rfl
theorem u_157_104 {S : Scr} {d : Nat} {a0 a1 a2 a3 a4 : AV} {st : List AV} {sh : Shp} {I : IM} {R : RM} : ev S d 157 104 [a0, a1, a2, a3, a4] st (sh, I, R) = ev S d 157 105 [a0, a1, a2, a3, a4] (.inl 1 :: st) (sh, I, R) := (ev_eq f_157_104).trans rfl
theorem f_157_105 : fetch 157 105 = some (105, .iadd, 1, [], 0) := (fm_157 105).trans rfl
theorem u_157_105 {S : Scr} {d : Nat} {a0 a1 a2 a3 a4 : AV} {st : List AV} {sh : Shp} {I : IM} {R : RM} {x y : Int} : ev S d 157 105 [a0, a1, a2, a3, a4] (.inl y :: .inl x :: st) (sh, I, R) = ev S d 157 106 [a0, a1, a2, a3, a4] (.inl (wr (x + y)) :: st) (sh, I, R) := (ev_eq f_157_105).trans rfl
theorem f_157_106 : fetch 157 106 = some (106, .iaload, 1, [], 0) := (fm_157 106).trans rfl
theorem u_157_106 {S : Scr} {d : Nat} {a0 a1 a2 a3 a4 : AV} {st : List AV} {sh : Shp} {I : IM} {R : RM} {k : Nat} {i : Int} (h : tg sh k = 100) (h0 : 0 ≤ i) (h1 : i < ln sh k) : ev S d 157 106 [a0, a1, a2, a3, a4] (.inl i :: .inr (.inl k) :: st) (sh, I, R) = ev S d 157 107 [a0, a1, a2, a3, a4] (.inl (I k i) :: st) (sh, I, R) := (ev_eq f_157_106).trans (congrArg (fin S d 157) (if_pos ⟨h, h0, h1⟩))
theorem f_157_107 : fetch 157 107 = some (107, .iastore, 1, [], 0) := (fm_157 107).trans rfl
theorem u_157_107 {S : Scr} {d : Nat} {a0 a1 a2 a3 a4 : AV} {st : List AV} {sh : Shp} {I : IM} {R : RM} {k : Nat} {i x : Int} (h : tg sh k = 100) (h0 : 0 ≤ i) (h1 : i < ln sh k) : ev S d 157 107 [a0, a1, a2, a3, a4] (.inl x :: .inl i :: .inr (.inl k) :: st) (sh, I, R) = ev S d 157 108 [a0, a1, a2, a3, a4] st (sh, up I k i x, R) := (ev_eq f_157_107).trans (congrArg (fin S d 157) (if_pos ⟨h, h0, h1⟩))
theorem f_157_108 : fetch 157 108 = some (108, .aload_n 0, 1, [0], 0) := (fm_157 108).trans rfl
theorem u_157_108 {S : Scr} {d : Nat} {a1 a2 a3 a4 : AV} {st : List AV} {sh : Shp} {I : IM} {R : RM} {x : Nat} : ev S d 157 108 [.inr (.inl x), a1, a2, a3, a4] st (sh, I, R) = ev S d 157 109 [.inr (.inl x), a1, a2, a3, a4] (.inr (.inl x) :: st) (sh, I, R) := (ev_eq f_157_108).trans rfl
theorem f_157_109 : fetch 157 109 = some (109, .getfield 9, 3, [9, 0, 1, 79], 0) := (fm_157 109).trans rfl
theorem u_157_109 {S : Scr} {d : Nat} {a0 a1 a2 a3 a4 : AV} {st : List AV} {sh : Shp} {I : IM} {R : RM} {k : Nat} (h : tg sh k = 9) : ev S d 157 109 [a0, a1, a2, a3, a4] (.inr (.inl k) :: st) (sh, I, R) = ev S d 157 112 [a0, a1, a2, a3, a4] (rv (R k 0) :: st) (sh, I, R) := (ev_eq f_157_109).trans (congrArg (fin S d 157) (if_pos h))
theorem f_157_112 : fetch 157 112 = some (112, .sipush 300, 3, [], 300) := (fm_157 112).trans rfl
theorem u_157_112 {S : Scr} {d : Nat} {a0 a1 a2 a3 a4 : AV} {st : List AV} {sh : Shp} {I : IM} {R : RM} : ev S d 157 112 [a0, a1, a2, a3, a4] st (sh, I, R) = ev S d 157 115 [a0, a1, a2, a3, a4] (.inl 300 :: st) (sh, I, R) := (ev_eq f_157_112).trans rfl
theorem f_157_115 : fetch 157 115 = some (115, .bipush 6, 2, [], 6) := (fm_157 115).trans rfl
theorem u_157_115 {S : Scr} {d : Nat} {a0 a1 a2 a3 a4 : AV} {st : List AV} {sh : Shp} {I : IM} {R : RM} : ev S d 157 115 [a0, a1, a2, a3, a4] st (sh, I, R) = ev S d 157 117 [a0, a1, a2, a3, a4] (.inl 6 :: st) (sh, I, R) := (ev_eq f_157_115).trans rfl
theorem f_157_117 : fetch 157 117 = some (117, .iload_n 1, 1, [1], 0) := (fm_157 117).trans rfl
theorem u_157_117 {S : Scr} {d : Nat} {a0 a2 a3 a4 : AV} {st : List AV} {sh : Shp} {I : IM} {R : RM} {x : Int} : ev S d 157 117 [a0, .inl x, a2, a3, a4] st (sh, I, R) = ev S d 157 118 [a0, .inl x, a2, a3, a4] (.inl x :: st) (sh, I, R) := (ev_eq f_157_117).trans rfl
theorem f_157_118 : fetch 157 118 = some (118, .imul, 1, [], 0) := (fm_157 118).trans rfl
theorem u_157_118 {S : Scr} {d : Nat} {a0 a1 a2 a3 a4 : AV} {st : List AV} {sh : Shp} {I : IM} {R : RM} {x y : Int} : ev S d 157 118 [a0, a1, a2, a3, a4] (.inl y :: .inl x :: st) (sh, I, R) = ev S d 157 119 [a0, a1, a2, a3, a4] (.inl (wr (x * y)) :: st) (sh, I, R) := (ev_eq f_157_118).trans rfl
theorem f_157_119 : fetch 157 119 = some (119, .iadd, 1, [], 0) := (fm_157 119).trans rfl
theorem u_157_119 {S : Scr} {d : Nat} {a0 a1 a2 a3 a4 : AV} {st : List AV} {sh : Shp} {I : IM} {R : RM} {x y : Int} : ev S d 157 119 [a0, a1, a2, a3, a4] (.inl y :: .inl x :: st) (sh, I, R) = ev S d 157 120 [a0, a1, a2, a3, a4] (.inl (wr (x + y)) :: st) (sh, I, R) := (ev_eq f_157_119).trans rfl
theorem f_157_120 : fetch 157 120 = some (120, .iload 4, 2, [4], 0) := (fm_157 120).trans rfl
theorem u_157_120 {S : Scr} {d : Nat} {a0 a1 a2 a3 : AV} {st : List AV} {sh : Shp} {I : IM} {R : RM} {x : Int} : ev S d 157 120 [a0, a1, a2, a3, .inl x] st (sh, I, R) = ev S d 157 122 [a0, a1, a2, a3, .inl x] (.inl x :: st) (sh, I, R) := (ev_eq f_157_120).trans rfl
theorem f_157_122 : fetch 157 122 = some (122, .iadd, 1, [], 0) := (fm_157 122).trans rfl
theorem u_157_122 {S : Scr} {d : Nat} {a0 a1 a2 a3 a4 : AV} {st : List AV} {sh : Shp} {I : IM} {R : RM} {x y : Int} : ev S d 157 122 [a0, a1, a2, a3, a4] (.inl y :: .inl x :: st) (sh, I, R) = ev S d 157 123 [a0, a1, a2, a3, a4] (.inl (wr (x + y)) :: st) (sh, I, R) := (ev_eq f_157_122).trans rfl
theorem f_157_123 : fetch 157 123 = some (123, .aload_n 0, 1, [0], 0) := (fm_157 123).trans rfl
theorem u_157_123 {S : Scr} {d : Nat} {a1 a2 a3 a4 : AV} {st : List AV} {sh : Shp} {I : IM} {R : RM} {x : Nat} : ev S d 157 123 [.inr (.inl x), a1, a2, a3, a4] st (sh, I, R) = ev S d 157 124 [.inr (.inl x), a1, a2, a3, a4] (.inr (.inl x) :: st) (sh, I, R) := (ev_eq f_157_123).trans rfl
theorem f_157_124 : fetch 157 124 = some (124, .getfield 9, 3, [9, 0, 1, 79], 0) := (fm_157 124).trans rfl
theorem u_157_124 {S : Scr} {d : Nat} {a0 a1 a2 a3 a4 : AV} {st : List AV} {sh : Shp} {I : IM} {R : RM} {k : Nat} (h : tg sh k = 9) : ev S d 157 124 [a0, a1, a2, a3, a4] (.inr (.inl k) :: st) (sh, I, R) = ev S d 157 127 [a0, a1, a2, a3, a4] (rv (R k 0) :: st) (sh, I, R) := (ev_eq f_157_124).trans (congrArg (fin S d 157) (if_pos h))
theorem f_157_127 : fetch 157 127 = some (127, .sipush 300, 3, [], 300) := (fm_157 127).trans rfl
theorem u_157_127 {S : Scr} {d : Nat} {a0 a1 a2 a3 a4 : AV} {st : List AV} {sh : Shp} {I : IM} {R : RM} : ev S d 157 127 [a0, a1, a2, a3, a4] st (sh, I, R) = ev S d 157 130 [a0, a1, a2, a3, a4] (.inl 300 :: st) (sh, I, R) := (ev_eq f_157_127).trans rfl
theorem f_157_130 : fetch 157 130 = some (130, .bipush 6, 2, [], 6) := (fm_157 130).trans rfl
theorem u_157_130 {S : Scr} {d : Nat} {a0 a1 a2 a3 a4 : AV} {st : List AV} {sh : Shp} {I : IM} {R : RM} : ev S d 157 130 [a0, a1, a2, a3, a4] st (sh, I, R) = ev S d 157 132 [a0, a1, a2, a3, a4] (.inl 6 :: st) (sh, I, R) := (ev_eq f_157_130).trans rfl
theorem f_157_132 : fetch 157 132 = some (132, .iload_n 1, 1, [1], 0) := (fm_157 132).trans rfl
theorem u_157_132 {S : Scr} {d : Nat} {a0 a2 a3 a4 : AV} {st : List AV} {sh : Shp} {I : IM} {R : RM} {x : Int} : ev S d 157 132 [a0, .inl x, a2, a3, a4] st (sh, I, R) = ev S d 157 133 [a0, .inl x, a2, a3, a4] (.inl x :: st) (sh, I, R) := (ev_eq f_157_132).trans rfl
theorem f_157_133 : fetch 157 133 = some (133, .imul, 1, [], 0) := (fm_157 133).trans rfl
theorem u_157_133 {S : Scr} {d : Nat} {a0 a1 a2 a3 a4 : AV} {st : List AV} {sh : Shp} {I : IM} {R : RM} {x y : Int} : ev S d 157 133 [a0, a1, a2, a3, a4] (.inl y :: .inl x :: st) (sh, I, R) = ev S d 157 134 [a0, a1, a2, a3, a4] (.inl (wr (x * y)) :: st) (sh, I, R) := (ev_eq f_157_133).trans rfl
theorem f_157_134 : fetch 157 134 = some (134, .iadd, 1, [], 0) := (fm_157 134).trans rfl
theorem u_157_134 {S : Scr} {d : Nat} {a0 a1 a2 a3 a4 : AV} {st : List AV} {sh : Shp} {I : IM} {R : RM} {x y : Int} : ev S d 157 134 [a0, a1, a2, a3, a4] (.inl y :: .inl x :: st) (sh, I, R) = ev S d 157 135 [a0, a1, a2, a3, a4] (.inl (wr (x + y)) :: st) (sh, I, R) := (ev_eq f_157_134).trans rfl
theorem f_157_135 : fetch 157 135 = some (135, .iload 4, 2, [4], 0) := (fm_157 135).trans rfl
theorem u_157_135 {S : Scr} {d : Nat} {a0 a1 a2 a3 : AV} {st : List AV} {sh : Shp} {I : IM} {R : RM} {x : Int} : ev S d 157 135 [a0, a1, a2, a3, .inl x] st (sh, I, R) = ev S d 157 137 [a0, a1, a2, a3, .inl x] (.inl x :: st) (sh, I, R) := (ev_eq f_157_135).trans rfl
theorem f_157_137 : fetch 157 137 = some (137, .iadd, 1, [], 0) := (fm_157 137).trans rfl
theorem u_157_137 {S : Scr} {d : Nat} {a0 a1 a2 a3 a4 : AV} {st : List AV} {sh : Shp} {I : IM} {R : RM} {x y : Int} : ev S d 157 137 [a0, a1, a2, a3, a4] (.inl y :: .inl x :: st) (sh, I, R) = ev S d 157 138 [a0, a1, a2, a3, a4] (.inl (wr (x + y)) :: st) (sh, I, R) := (ev_eq f_157_137).trans rfl
theorem f_157_138 : fetch 157 138 = some (138, .iconst 1, 1, [], 1) := (fm_157 138).trans rfl
theorem u_157_138 {S : Scr} {d : Nat} {a0 a1 a2 a3 a4 : AV} {st : List AV} {sh : Shp} {I : IM} {R : RM} : ev S d 157 138 [a0, a1, a2, a3, a4] st (sh, I, R) = ev S d 157 139 [a0, a1, a2, a3, a4] (.inl 1 :: st) (sh, I, R) := (ev_eq f_157_138).trans rfl
theorem f_157_139 : fetch 157 139 = some (139, .iadd, 1, [], 0) := (fm_157 139).trans rfl
theorem u_157_139 {S : Scr} {d : Nat} {a0 a1 a2 a3 a4 : AV} {st : List AV} {sh : Shp} {I : IM} {R : RM} {x y : Int} : ev S d 157 139 [a0, a1, a2, a3, a4] (.inl y :: .inl x :: st) (sh, I, R) = ev S d 157 140 [a0, a1, a2, a3, a4] (.inl (wr (x + y)) :: st) (sh, I, R) := (ev_eq f_157_139).trans rfl
theorem f_157_140 : fetch 157 140 = some (140, .iaload, 1, [], 0) := (fm_157 140).trans rfl
theorem u_157_140 {S : Scr} {d : Nat} {a0 a1 a2 a3 a4 : AV} {st : List AV} {sh : Shp} {I : IM} {R : RM} {k : Nat} {i : Int} (h : tg sh k = 100) (h0 : 0 ≤ i) (h1 : i < ln sh k) : ev S d 157 140 [a0, a1, a2, a3, a4] (.inl i :: .inr (.inl k) :: st) (sh, I, R) = ev S d 157 141 [a0, a1, a2, a3, a4] (.inl (I k i) :: st) (sh, I, R) := (ev_eq f_157_140).trans (congrArg (fin S d 157) (if_pos ⟨h, h0, h1⟩))
theorem f_157_141 : fetch 157 141 = some (141, .iastore, 1, [], 0) := (fm_157 141).trans rfl
theorem u_157_141 {S : Scr} {d : Nat} {a0 a1 a2 a3 a4 : AV} {st : List AV} {sh : Shp} {I : IM} {R : RM} {k : Nat} {i x : Int} (h : tg sh k = 100) (h0 : 0 ≤ i) (h1 : i < ln sh k) : ev S d 157 141 [a0, a1, a2, a3, a4] (.inl x :: .inl i :: .inr (.inl k) :: st) (sh, I, R) = ev S d 157 142 [a0, a1, a2, a3, a4] st (sh, up I k i x, R) := (ev_eq f_157_141).trans (congrArg (fin S d 157) (if_pos ⟨h, h0, h1⟩))
theorem f_157_142 : fetch 157 142 = some (142, .iinc 4 1, 3, [4], 1) := (fm_157 142).trans rfl
theorem u_157_142 {S : Scr} {d : Nat} {a0 a1 a2 a3 : AV} {st : List AV} {sh : Shp} {I : IM} {R : RM} {x : Int} : ev S d 157 142 [a0, a1, a2, a3, .inl x] st (sh, I, R) = ev S d 157 145 [a0, a1, a2, a3, .inl (wr (x + 1))] st (sh, I, R) := (ev_eq f_157_142).trans rfl
theorem f_157_145 : fetch 157 145 = some (145, .goto (-83), 3, [62], 0) := (fm_157 145).trans rfl
theorem u_157_145 {S : Scr} {d : Nat} {a0 a1 a2 a3 a4 : AV} {st : List AV} {sh : Shp} {I : IM} {R : RM} : ev S d 157 145 [a0, a1, a2, a3, a4] st (sh, I, R) = ev S d 157 62 [a0, a1, a2, a3, a4] st (sh, I, R) := (ev_eq f_157_145).trans rfl
theorem f_157_148 : fetch 157 148 = some (148, .aload_n 0, 1, [0], 0) := (fm_157 148).trans rfl
theorem u_157_148 {S : Scr} {d : Nat} {a1 a2 a3 a4 : AV} {st : List AV} {sh : Shp} {I : IM} {R : RM} {x : Nat} : ev S d 157 148 [.inr (.inl x), a1, a2, a3, a4] st (sh, I, R) = ev S d 157 149 [.inr (.inl x), a1, a2, a3, a4] (.inr (.inl x) :: st) (sh, I, R) := (ev_eq f_157_148).trans rfl
theorem f_157_149 : fetch 157 149 = some (149, .getfield 9, 3, [9, 0, 1, 79], 0) := (fm_157 149).trans rfl
theorem u_157_149 {S : Scr} {d : Nat} {a0 a1 a2 a3 a4 : AV} {st : List AV} {sh : Shp} {I : IM} {R : RM} {k : Nat} (h : tg sh k = 9) : ev S d 157 149 [a0, a1, a2, a3, a4] (.inr (.inl k) :: st) (sh, I, R) = ev S d 157 152 [a0, a1, a2, a3, a4] (rv (R k 0) :: st) (sh, I, R) := (ev_eq f_157_149).trans (congrArg (fin S d 157) (if_pos h))
theorem f_157_152 : fetch 157 152 = some (152, .bipush 90, 2, [], 90) := (fm_157 152).trans rfl
theorem u_157_152 {S : Scr} {d : Nat} {a0 a1 a2 a3 a4 : AV} {st : List AV} {sh : Shp} {I : IM} {R : RM} : ev S d 157 152 [a0, a1, a2, a3, a4] st (sh, I, R) = ev S d 157 154 [a0, a1, a2, a3, a4] (.inl 90 :: st) (sh, I, R) := (ev_eq f_157_152).trans rfl
theorem f_157_154 : fetch 157 154 = some (154, .iload_n 1, 1, [1], 0) := (fm_157 154).trans rfl
theorem u_157_154 {S : Scr} {d : Nat} {a0 a2 a3 a4 : AV} {st : List AV} {sh : Shp} {I : IM} {R : RM} {x : Int} : ev S d 157 154 [a0, .inl x, a2, a3, a4] st (sh, I, R) = ev S d 157 155 [a0, .inl x, a2, a3, a4] (.inl x :: st) (sh, I, R) := (ev_eq f_157_154).trans rfl
theorem f_157_155 : fetch 157 155 = some (155, .iadd, 1, [], 0) := (fm_157 155).trans rfl
theorem u_157_155 {S : Scr} {d : Nat} {a0 a1 a2 a3 a4 : AV} {st : List AV} {sh : Shp} {I : IM} {R : RM} {x y : Int} : ev S d 157 155 [a0, a1, a2, a3, a4] (.inl y :: .inl x :: st) (sh, I, R) = ev S d 157 156 [a0, a1, a2, a3, a4] (.inl (wr (x + y)) :: st) (sh, I, R) := (ev_eq f_157_155).trans rfl
theorem f_157_156 : fetch 157 156 = some (156, .iaload, 1, [], 0) := (fm_157 156).trans rfl
theorem u_157_156 {S : Scr} {d : Nat} {a0 a1 a2 a3 a4 : AV} {st : List AV} {sh : Shp} {I : IM} {R : RM} {k : Nat} {i : Int} (h : tg sh k = 100) (h0 : 0 ≤ i) (h1 : i < ln sh k) : ev S d 157 156 [a0, a1, a2, a3, a4] (.inl i :: .inr (.inl k) :: st) (sh, I, R) = ev S d 157 157 [a0, a1, a2, a3, a4] (.inl (I k i) :: st) (sh, I, R) := (ev_eq f_157_156).trans (congrArg (fin S d 157) (if_pos ⟨h, h0, h1⟩))
theorem f_157_157 : fetch 157 157 = some (157, .ireturn, 1, [0], 0) := (fm_157 157).trans rfl
theorem u_157_157 {S : Scr} {d : Nat} {a0 a1 a2 a3 a4 : AV} {sh : Shp} {I : IM} {R : RM} {x : Int} : ev S d 157 157 [a0, a1, a2, a3, a4] [.inl x] (sh, I, R) = some (some (.inl x), (sh, I, R)) := (ev_eq f_157_157).trans fin_iret0
theorem c_158 {d : Nat} {a0 a1 a2 a3 : AV} {M : Mem} : cl (d + 1) 158 [a0, a1, a2, a3] M = ev S0 d 158 0 [a0, a1, a2, a3, .inr (.inr 1)] [] M := (cl_eq (as := [a0, a1, a2, a3]) (show 4 ≤ maxOf 158 by decide +kernel)).trans rfl
theorem mt_158 : MT[158]? = some m_158 := rfl
theorem fm_158 (pc : Nat) : fetch 158 pc = lk m_158.2.2.2.2.2 pc := by
  unfold fetch
  rw [mt_158]
theorem f_158_0 : fetch 158 0 = some (0, .aload_n 0, 1, [0], 0) := (fm_158 0).trans rfl
theorem u_158_0 {S : Scr} {d : Nat} {a1 a2 a3 a4 : AV} {st : List AV} {sh : Shp} {I : IM} {R : RM} {x : Nat} : ev S d 158 0 [.inr (.inl x), a1, a2, a3, a4] st (sh, I, R) = ev S d 158 1 [.inr (.inl x), a1, a2, a3, a4] (.inr (.inl x) :: st) (sh, I, R) := (ev_eq f_158_0).trans rfl
theorem f_158_1 : fetch 158 1 = some (1, .iload_n 1, 1, [1], 0) := (fm_158 1).trans rfl
theorem u_158_1 {S : Scr} {d : Nat} {a0 a2 a3 a4 : AV} {st : List AV} {sh : Shp} {I : IM} {R : RM} {x : Int} : ev S d 158 1 [a0, .inl x, a2, a3, a4] st (sh, I, R) = ev S d 158 2 [a0, .inl x, a2, a3, a4] (.inl x :: st) (sh, I, R) := (ev_eq f_158_1).trans rfl
theorem f_158_2 : fetch 158 2 = some (2, .invokevirtual 68, 3, [133, 1, 126], 0) := (fm_158 2).trans rfl
theorem u_158_2 {S : Scr} {d : Nat} {a0 a1 a2 a3 a4 : AV} {st : List AV} {sh : Shp} {I : IM} {R : RM} {x0 : Int} {k : Nat} (h : tg sh k = 9) (hr : st.length ≤ 8) : ev S d 158 2 [a0, a1, a2, a3, a4] (.inl x0 :: .inr (.inl k) :: st) (sh, I, R) = bnd (cl d 133 [.inr (.inl k), .inl x0] (sh, I, R)) (fun v M => ev S d 158 5 [a0, a1, a2, a3, a4] (psh v st) M) := (ev_eq f_158_2).trans (congrArg (fin S d 158) (if_pos ⟨h, rfl, hr⟩))
theorem f_158_5 : fetch 158 5 = some (5, .ifCond .eq 11, 3, [16], 0) := (fm_158 5).trans rfl
theorem u_158_5 {S : Scr} {d : Nat} {a0 a1 a2 a3 a4 : AV} {st : List AV} {sh : Shp} {I : IM} {R : RM} {x : Int} : ev S d 158 5 [a0, a1, a2, a3, a4] (.inl x :: st) (sh, I, R) = if x = 0 then ev S d 158 16 [a0, a1, a2, a3, a4] st (sh, I, R) else ev S d 158 8 [a0, a1, a2, a3, a4] st (sh, I, R) := (ev_eq f_158_5).trans fin_if_eq
theorem f_158_8 : fetch 158 8 = some (8, .aload_n 0, 1, [0], 0) := (fm_158 8).trans rfl
theorem u_158_8 {S : Scr} {d : Nat} {a1 a2 a3 a4 : AV} {st : List AV} {sh : Shp} {I : IM} {R : RM} {x : Nat} : ev S d 158 8 [.inr (.inl x), a1, a2, a3, a4] st (sh, I, R) = ev S d 158 9 [.inr (.inl x), a1, a2, a3, a4] (.inr (.inl x) :: st) (sh, I, R) := (ev_eq f_158_8).trans rfl
theorem f_158_9 : fetch 158 9 = some (9, .iload_n 3, 1, [3], 0) := (fm_158 9).trans rfl
theorem u_158_9 {S : Scr} {d : Nat} {a0 a1 a2 a4 : AV} {st : List AV} {sh : Shp} {I : IM} {R : RM} {x : Int} : ev S d 158 9 [a0, a1, a2, .inl x, a4] st (sh, I, R) = ev S d 158 10 [a0, a1, a2, .inl x, a4] (.inl x :: st) (sh, I, R) := (ev_eq f_158_9).trans rfl
theorem f_158_10 : fetch 158 10 = some (10, .invokevirtual 122, 3, [134, 1, 141], 0) := (fm_158 10).trans rfl
theorem u_158_10 {S : Scr} {d : Nat} {a0 a1 a2 a3 a4 : AV} {st : List AV} {sh : Shp} {I : IM} {R : RM} {x0 : Int} {k : Nat} (h : tg sh k = 9) (hr : st.length ≤ 8) : ev S d 158 10 [a0, a1, a2, a3, a4] (.inl x0 :: .inr (.inl k) :: st) (sh, I, R) = bnd (cl d 134 [.inr (.inl k), .inl x0] (sh, I, R)) (fun v M => ev S d 158 13 [a0, a1, a2, a3, a4] (psh v st) M) := (ev_eq f_158_10).trans (congrArg (fin S d 158) (if_pos ⟨h, rfl, hr⟩))
theorem f_158_13 : fetch 158 13 = some (13, .ifCond .ne 5, 3, [18], 0) := (fm_158 13).trans rfl
theorem u_158_13 {S : Scr} {d : Nat} {a0 a1 a2 a3 a4 : AV} {st : List AV} {sh : Shp} {I : IM} {R : RM} {x : Int} : ev S d 158 13 [a0, a1, a2, a3, a4] (.inl x :: st) (sh, I, R) = if ¬ x = 0 then ev S d 158 18 [a0, a1, a2, a3, a4] st (sh, I, R) else ev S d 158 16 [a0, a1, a2, a3, a4] st (sh, I, R) := (ev_eq f_158_13).trans fin_if_ne
theorem f_158_16 : fetch 158 16 = some (16, .iconst (-1), 1, [], (-1)) := (fm_158 16).trans rfl
theorem u_158_16 {S : Scr} {d : Nat} {a0 a1 a2 a3 a4 : AV} {st : List AV} {sh : Shp} {I : IM} {R : RM} : ev S d 158 16 [a0, a1, a2, a3, a4] st (sh, I, R) = ev S d 158 17 [a0, a1, a2, a3, a4] (.inl (-1) :: st) (sh, I, R) := (ev_eq f_158_16).trans rfl
theorem f_158_17 : fetch 158 17 = some (17, .ireturn, 1, [0], 0) := (fm_158 17).trans rfl
theorem u_158_17 {S : Scr} {d : Nat} {a0 a1 a2 a3 a4 : AV} {sh : Shp} {I : IM} {R : RM} {x : Int} : ev S d 158 17 [a0, a1, a2, a3, a4] [.inl x] (sh, I, R) = some (some (.inl x), (sh, I, R)) := (ev_eq f_158_17).trans fin_iret0
theorem f_158_18 : fetch 158 18 = some (18, .iload_n 2, 1, [2], 0) := (fm_158 18).trans rfl
theorem u_158_18 {S : Scr} {d : Nat} {a0 a1 a3 a4 : AV} {st : List AV} {sh : Shp} {I : IM} {R : RM} {x : Int} : ev S d 158 18 [a0, a1, .inl x, a3, a4] st (sh, I, R) = ev S d 158 19 [a0, a1, .inl x, a3, a4] (.inl x :: st) (sh, I, R) := (ev_eq f_158_18).trans rfl
theorem f_158_19 : fetch 158 19 = some (19, .iconst 0, 1, [], 0) := (fm_158 19).trans rfl
theorem u_158_19 {S : Scr} {d : Nat} {a0 a1 a2 a3 a4 : AV} {st : List AV} {sh : Shp} {I : IM} {R : RM} : ev S d 158 19 [a0, a1, a2, a3, a4] st (sh, I, R) = ev S d 158 20 [a0, a1, a2, a3, a4] (.inl 0 :: st) (sh, I, R) := (ev_eq f_158_19).trans rfl
theorem f_158_20 : fetch 158 20 = some (20, .aload_n 0, 1, [0], 0) := (fm_158 20).trans rfl
theorem u_158_20 {S : Scr} {d : Nat} {a1 a2 a3 a4 : AV} {st : List AV} {sh : Shp} {I : IM} {R : RM} {x : Nat} : ev S d 158 20 [.inr (.inl x), a1, a2, a3, a4] st (sh, I, R) = ev S d 158 21 [.inr (.inl x), a1, a2, a3, a4] (.inr (.inl x) :: st) (sh, I, R) := (ev_eq f_158_20).trans rfl
theorem f_158_21 : fetch 158 21 = some (21, .getfield 9, 3, [9, 0, 1, 79], 0) := (fm_158 21).trans rfl
theorem u_158_21 {S : Scr} {d : Nat} {a0 a1 a2 a3 a4 : AV} {st : List AV} {sh : Shp} {I : IM} {R : RM} {k : Nat} (h : tg sh k = 9) : ev S d 158 21 [a0, a1, a2, a3, a4] (.inr (.inl k) :: st) (sh, I, R) = ev S d 158 24 [a0, a1, a2, a3, a4] (rv (R k 0) :: st) (sh, I, R) := (ev_eq f_158_21).trans (congrArg (fin S d 158) (if_pos h))
theorem f_158_24 : fetch 158 24 = some (24, .bipush 60, 2, [], 60) := (fm_158 24).trans rfl
theorem u_158_24 {S : Scr} {d : Nat} {a0 a1 a2 a3 a4 : AV} {st : List AV} {sh : Shp} {I : IM} {R : RM} : ev S d 158 24 [a0, a1, a2, a3, a4] st (sh, I, R) = ev S d 158 26 [a0, a1, a2, a3, a4] (.inl 60 :: st) (sh, I, R) := (ev_eq f_158_24).trans rfl
theorem f_158_26 : fetch 158 26 = some (26, .iload_n 1, 1, [1], 0) := (fm_158 26).trans rfl
theorem u_158_26 {S : Scr} {d : Nat} {a0 a2 a3 a4 : AV} {st : List AV} {sh : Shp} {I : IM} {R : RM} {x : Int} : ev S d 158 26 [a0, .inl x, a2, a3, a4] st (sh, I, R) = ev S d 158 27 [a0, .inl x, a2, a3, a4] (.inl x :: st) (sh, I, R) := (ev_eq f_158_26).trans rfl
theorem f_158_27 : fetch 158 27 = some (27, .iadd, 1, [], 0) := (fm_158 27).trans rfl
theorem u_158_27 {S : Scr} {d : Nat} {a0 a1 a2 a3 a4 : AV} {st : List AV} {sh : Shp} {I : IM} {R : RM} {x y : Int} : ev S d 158 27 [a0, a1, a2, a3, a4] (.inl y :: .inl x :: st) (sh, I, R) = ev S d 158 28 [a0, a1, a2, a3, a4] (.inl (wr (x + y)) :: st) (sh, I, R) := (ev_eq f_158_27).trans rfl
theorem f_158_28 : fetch 158 28 = some (28, .iaload, 1, [], 0) := (fm_158 28).trans rfl
theorem u_158_28 {S : Scr} {d : Nat} {a0 a1 a2 a3 a4 : AV} {st : List AV} {sh : Shp} {I : IM} {R : RM} {k : Nat} {i : Int} (h : tg sh k = 100) (h0 : 0 ≤ i) (h1 : i < ln sh k) : ev S d 158 28 [a0, a1, a2, a3, a4] (.inl i :: .inr (.inl k) :: st) (sh, I, R) = ev S d 158 29 [a0, a1, a2, a3, a4] (.inl (I k i) :: st) (sh, I, R) := (ev_eq f_158_28).trans (congrArg (fin S d 158) (if_pos ⟨h, h0, h1⟩))
theorem f_158_29 : fetch 158 29 = some (29, .iconst 1, 1, [], 1) := (fm_158 29).trans rfl
theorem u_158_29 {S : Scr} {d : Nat} {a0 a1 a2 a3 a4 : AV} {st : List AV} {sh : Shp} {I : IM} {R : RM} : ev S d 158 29 [a0, a1, a2, a3, a4] st (sh, I, R) = ev S d 158 30 [a0, a1, a2, a3, a4] (.inl 1 :: st) (sh, I, R) := (ev_eq f_158_29).trans rfl
theorem f_158_30 : fetch 158 30 = some (30, .isub, 1, [], 0) := (fm_158 30).trans rfl
theorem u_158_30 {S : Scr} {d : Nat} {a0 a1 a2 a3 a4 : AV} {st : List AV} {sh : Shp} {I : IM} {R : RM} {x y : Int} : ev S d 158 30 [a0, a1, a2, a3, a4] (.inl y :: .inl x :: st) (sh, I, R) = ev S d 158 31 [a0, a1, a2, a3, a4] (.inl (wr (x - y)) :: st) (sh, I, R) := (ev_eq f_158_30).trans rfl
theorem f_158_31 : fetch 158 31 = some (31, .invokestatic 64, 3, [129, 3, 125], 0) := (fm_158 31).trans rfl
theorem u_158_31 {S : Scr} {d : Nat} {a0 a1 a2 a3 a4 : AV} {st : List AV} {sh : Shp} {I : IM} {R : RM} {x0 : Int} {x1 : Int} {x2 : Int} (hr : st.length ≤ 8) : ev S d 158 31 [a0, a1, a2, a3, a4] (.inl x2 :: .inl x1 :: .inl x0 :: st) (sh, I, R) = bnd (cl d 129 [.inl x0, .inl x1, .inl x2] (sh, I, R)) (fun v M => ev S d 158 34 [a0, a1, a2, a3, a4] (psh v st) M) := (ev_eq f_158_31).trans (congrArg (fin S d 158) (if_pos ⟨rfl, hr⟩))
theorem f_158_34 : fetch 158 34 = some (34, .ifCond .ne 6, 3, [40], 0) := (fm_158 34).trans rfl
theorem u_158_34 {S : Scr} {d : Nat} {a0 a1 a2 a3 a4 : AV} {st : List AV} {sh : Shp} {I : IM} {R : RM} {x : Int} : ev S d 158 34 [a0, a1, a2, a3, a4] (.inl x :: st) (sh, I, R) = if ¬ x = 0 then ev S d 158 40 [a0, a1, a2, a3, a4] st (sh, I, R) else ev S d 158 37 [a0, a1, a2, a3, a4] st (sh, I, R) := (ev_eq f_158_34).trans fin_if_ne
theorem f_158_37 : fetch 158 37 = some (37, .bipush (-13), 2, [], (-13)) := (fm_158 37).trans rfl
theorem u_158_37 {S : Scr} {d : Nat} {a0 a1 a2 a3 a4 : AV} {st : List AV} {sh : Shp} {I : IM} {R : RM} : ev S d 158 37 [a0, a1, a2, a3, a4] st (sh, I, R) = ev S d 158 39 [a0, a1, a2, a3, a4] (.inl (-13) :: st) (sh, I, R) := (ev_eq f_158_37).trans rfl
theorem f_158_39 : fetch 158 39 = some (39, .ireturn, 1, [0], 0) := (fm_158 39).trans rfl
theorem u_158_39 {S : Scr} {d : Nat} {a0 a1 a2 a3 a4 : AV} {sh : Shp} {I : IM} {R : RM} {x : Int} : ev S d 158 39 [a0, a1, a2, a3, a4] [.inl x] (sh, I, R) = some (some (.inl x), (sh, I, R)) := (ev_eq f_158_39).trans fin_iret0
theorem f_158_40 : fetch 158 40 = some (40, .iload_n 3, 1, [3], 0) := (fm_158 40).trans rfl
theorem u_158_40 {S : Scr} {d : Nat} {a0 a1 a2 a4 : AV} {st : List AV} {sh : Shp} {I : IM} {R : RM} {x : Int} : ev S d 158 40 [a0, a1, a2, .inl x, a4] st (sh, I, R) = ev S d 158 41 [a0, a1, a2, .inl x, a4] (.inl x :: st) (sh, I, R) := (ev_eq f_158_40).trans rfl
theorem f_158_41 : fetch 158 41 = some (41, .ifCond .lt 27, 3, [68], 0) := (fm_158 41).trans rfl
theorem u_158_41 {S : Scr} {d : Nat} {a0 a1 a2 a3 a4 : AV} {st : List AV} {sh : Shp} {I : IM} {R : RM} {x : Int} : ev S d 158 41 [a0, a1, a2, a3, a4] (.inl x :: st) (sh, I, R) = if x < 0 then ev S d 158 68 [a0, a1, a2, a3, a4] st (sh, I, R) else ev S d 158 44 [a0, a1, a2, a3, a4] st (sh, I, R) := (ev_eq f_158_41).trans fin_if_lt
theorem f_158_44 : fetch 158 44 = some (44, .aload_n 0, 1, [0], 0) := (fm_158 44).trans rfl
theorem u_158_44 {S : Scr} {d : Nat} {a1 a2 a3 a4 : AV} {st : List AV} {sh : Shp} {I : IM} {R : RM} {x : Nat} : ev S d 158 44 [.inr (.inl x), a1, a2, a3, a4] st (sh, I, R) = ev S d 158 45 [.inr (.inl x), a1, a2, a3, a4] (.inr (.inl x) :: st) (sh, I, R) := (ev_eq f_158_44).trans rfl
theorem f_158_45 : fetch 158 45 = some (45, .getfield 9, 3, [9, 0, 1, 79], 0) := (fm_158 45).trans rfl
theorem u_158_45 {S : Scr} {d : Nat} {a0 a1 a2 a3 a4 : AV} {st : List AV} {sh : Shp} {I : IM} {R : RM} {k : Nat} (h : tg sh k = 9) : ev S d 158 45 [a0, a1, a2, a3, a4] (.inr (.inl k) :: st) (sh, I, R) = ev S d 158 48 [a0, a1, a2, a3, a4] (rv (R k 0) :: st) (sh, I, R) := (ev_eq f_158_45).trans (congrArg (fin S d 158) (if_pos h))
theorem f_158_48 : fetch 158 48 = some (48, .iconst 0, 1, [], 0) := (fm_158 48).trans rfl
theorem u_158_48 {S : Scr} {d : Nat} {a0 a1 a2 a3 a4 : AV} {st : List AV} {sh : Shp} {I : IM} {R : RM} : ev S d 158 48 [a0, a1, a2, a3, a4] st (sh, I, R) = ev S d 158 49 [a0, a1, a2, a3, a4] (.inl 0 :: st) (sh, I, R) := (ev_eq f_158_48).trans rfl
theorem f_158_49 : fetch 158 49 = some (49, .iload_n 1, 1, [1], 0) := (fm_158 49).trans rfl
theorem u_158_49 {S : Scr} {d : Nat} {a0 a2 a3 a4 : AV} {st : List AV} {sh : Shp} {I : IM} {R : RM} {x : Int} : ev S d 158 49 [a0, .inl x, a2, a3, a4] st (sh, I, R) = ev S d 158 50 [a0, .inl x, a2, a3, a4] (.inl x :: st) (sh, I, R) := (ev_eq f_158_49).trans rfl
theorem f_158_50 : fetch 158 50 = some (50, .iadd, 1, [], 0) := (fm_158 50).trans rfl
theorem u_158_50 {S : Scr} {d : Nat} {a0 a1 a2 a3 a4 : AV} {st : List AV} {sh : Shp} {I : IM} {R : RM} {x y : Int} : ev S d 158 50 [a0, a1, a2, a3, a4] (.inl y :: .inl x :: st) (sh, I, R) = ev S d 158 51 [a0, a1, a2, a3, a4] (.inl (wr (x + y)) :: st) (sh, I, R) := (ev_eq f_158_50).trans rfl
theorem f_158_51 : fetch 158 51 = some (51, .iaload, 1, [], 0) := (fm_158 51).trans rfl
theorem u_158_51 {S : Scr} {d : Nat} {a0 a1 a2 a3 a4 : AV} {st : List AV} {sh : Shp} {I : IM} {R : RM} {k : Nat} {i : Int} (h : tg sh k = 100) (h0 : 0 ≤ i) (h1 : i < ln sh k) : ev S d 158 51 [a0, a1, a2, a3, a4] (.inl i :: .inr (.inl k) :: st) (sh, I, R) = ev S d 158 52 [a0, a1, a2, a3, a4] (.inl (I k i) :: st) (sh, I, R) := (ev_eq f_158_51).trans (congrArg (fin S d 158) (if_pos ⟨h, h0, h1⟩))
theorem f_158_52 : fetch 158 52 = some (52, .iconst 4, 1, [], 4) := (fm_158 52).trans rfl
theorem u_158_52 {S : Scr} {d : Nat} {a0 a1 a2 a3 a4 : AV} {st : List AV} {sh : Shp} {I : IM} {R : RM} : ev S d 158 52 [a0, a1, a2, a3, a4] st (sh, I, R) = ev S d 158 53 [a0, a1, a2, a3, a4] (.inl 4 :: st) (sh, I, R) := (ev_eq f_158_52).trans rfl
theorem f_158_53 : fetch 158 53 = some (53, .if_icmp .ne 15, 3, [68], 0) := (fm_158 53).trans rfl
theorem u_158_53 {S : Scr} {d : Nat} {a0 a1 a2 a3 a4 : AV} {st : List AV} {sh : Shp} {I : IM} {R : RM} {x y : Int} : ev S d 158 53 [a0, a1, a2, a3, a4] (.inl y :: .inl x :: st) (sh, I, R) = if ¬ x = y then ev S d 158 68 [a0, a1, a2, a3, a4] st (sh, I, R) else ev S d 158 56 [a0, a1, a2, a3, a4] st (sh, I, R) := (ev_eq f_158_53).trans fin_icmp_ne
theorem f_158_56 : fetch 158 56 = some (56, .aload_n 0, 1, [0], 0) := (fm_158 56).trans rfl
theorem u_158_56 {S : Scr} {d : Nat} {a1 a2 a3 a4 : AV} {st : List AV} {sh : Shp} {I : IM} {R : RM} {x : Nat} : ev S d 158 56 [.inr (.inl x), a1, a2, a3, a4] st (sh, I, R) = ev S d 158 57 [.inr (.inl x), a1, a2, a3, a4] (.inr (.inl x) :: st) (sh, I, R) := (ev_eq f_158_56).trans rfl
theorem f_158_57 : fetch 158 57 = some (57, .iload_n 1, 1, [1], 0) := (fm_158 57).trans rfl
theorem u_158_57 {S : Scr} {d : Nat} {a0 a2 a3 a4 : AV} {st : List AV} {sh : Shp} {I : IM} {R : RM} {x : Int} : ev S d 158 57 [a0, .inl x, a2, a3, a4] st (sh, I, R) = ev S d 158 58 [a0, .inl x, a2, a3, a4] (.inl x :: st) (sh, I, R) := (ev_eq f_158_57).trans rfl
theorem f_158_58 : fetch 158 58 = some (58, .iload_n 3, 1, [3], 0) := (fm_158 58).trans rfl
theorem u_158_58 {S : Scr} {d : Nat} {a0 a1 a2 a4 : AV} {st : List AV} {sh : Shp} {I : IM} {R : RM} {x : Int} : ev S d 158 58 [a0, a1, a2, .inl x, a4] st (sh, I, R) = ev S d 158 59 [a0, a1, a2, .inl x, a4] (.inl x :: st) (sh, I, R) := (ev_eq f_158_58).trans rfl
theorem f_158_59 : fetch 158 59 = some (59, .invokevirtual 125, 3, [146, 2, 142], 0) := (fm_158 59).trans rfl
theorem u_158_59 {S : Scr} {d : Nat} {a0 a1 a2 a3 a4 : AV} {st : List AV} {sh : Shp} {I : IM} {R : RM} {x0 : Int} {x1 : Int} {k : Nat} (h : tg sh k = 9) (hr : st.length ≤ 8) : ev S d 158 59 [a0, a1, a2, a3, a4] (.inl x1 :: .inl x0 :: .inr (.inl k) :: st) (sh, I, R) = bnd (cl d 146 [.inr (.inl k), .inl x0, .inl x1] (sh, I, R)) (fun v M => ev S d 158 62 [a0, a1, a2, a3, a4] (psh v st) M) := (ev_eq f_158_59).trans (congrArg (fin S d 158) (if_pos ⟨h, rfl, hr⟩))
theorem f_158_62 : fetch 158 62 = some (62, .ifCond .ne 6, 3, [68], 0) := (fm_158 62).trans rfl
theorem u_158_62 {S : Scr} {d : Nat} {a0 a1 a2 a3 a4 : AV} {st : List AV} {sh : Shp} {I : IM} {R : RM} {x : Int} : ev S d 158 62 [a0, a1, a2, a3, a4] (.inl x :: st) (sh, I, R) = if ¬ x = 0 then ev S d 158 68 [a0, a1, a2, a3, a4] st (sh, I, R) else ev S d 158 65 [a0, a1, a2, a3, a4] st (sh, I, R) := (ev_eq f_158_62).trans fin_if_ne
theorem f_158_65 : fetch 158 65 = some (65, .bipush (-16), 2, [], (-16)) := (fm_158 65).trans rfl
theorem u_158_65 {S : Scr} {d : Nat} {a0 a1 a2 a3 a4 : AV} {st : List AV} {sh : Shp} {I : IM} {R : RM} : ev S d 158 65 [a0, a1, a2, a3, a4] st (sh, I, R) = ev S d 158 67 [a0, a1, a2, a3, a4] (.inl (-16) :: st) (sh, I, R) := (ev_eq f_158_65).trans rfl
theorem f_158_67 : fetch 158 67 = some (67, .ireturn, 1, [0], 0) := (fm_158 67).trans rfl
theorem u_158_67 {S : Scr} {d : Nat} {a0 a1 a2 a3 a4 : AV} {sh : Shp} {I : IM} {R : RM} {x : Int} : ev S d 158 67 [a0, a1, a2, a3, a4] [.inl x] (sh, I, R) = some (some (.inl x), (sh, I, R)) := (ev_eq f_158_67).trans fin_iret0
theorem f_158_68 : fetch 158 68 = some (68, .aload_n 0, 1, [0], 0) := (fm_158 68).trans rfl
theorem u_158_68 {S : Scr} {d : Nat} {a1 a2 a3 a4 : AV} {st : List AV} {sh : Shp} {I : IM} {R : RM} {x : Nat} : ev S d 158 68 [.inr (.inl x), a1, a2, a3, a4] st (sh, I, R) = ev S d 158 69 [.inr (.inl x), a1, a2, a3, a4] (.inr (.inl x) :: st) (sh, I, R) := (ev_eq f_158_68).trans rfl
theorem f_158_69 : fetch 158 69 = some (69, .iload_n 1, 1, [1], 0) := (fm_158 69).trans rfl
theorem u_158_69 {S : Scr} {d : Nat} {a0 a2 a3 a4 : AV} {st : List AV} {sh : Shp} {I : IM} {R : RM} {x : Int} : ev S d 158 69 [a0, .inl x, a2, a3, a4] st (sh, I, R) = ev S d 158 70 [a0, .inl x, a2, a3, a4] (.inl x :: st) (sh, I, R) := (ev_eq f_158_69).trans rfl
theorem f_158_70 : fetch 158 70 = some (70, .iload_n 2, 1, [2], 0) := (fm_158 70).trans rfl
theorem u_158_70 {S : Scr} {d : Nat} {a0 a1 a3 a4 : AV} {st : List AV} {sh : Shp} {I : IM} {R : RM} {x : Int} : ev S d 158 70 [a0, a1, .inl x, a3, a4] st (sh, I, R) = ev S d 158 71 [a0, a1, .inl x, a3, a4] (.inl x :: st) (sh, I, R) := (ev_eq f_158_70).trans rfl
theorem f_158_71 : fetch 158 71 = some (71, .invokevirtual 128, 3, [135, 2, 143], 0) := (fm_158 71).trans rfl
theorem u_158_71 {S : Scr} {d : Nat} {a0 a1 a2 a3 a4 : AV} {st : List AV} {sh : Shp} {I : IM} {R : RM} {x0 : Int} {x1 : Int} {k : Nat} (h : tg sh k = 9) (hr : st.length ≤ 8) : ev S d 158 71 [a0, a1, a2, a3, a4] (.inl x1 :: .inl x0 :: .inr (.inl k) :: st) (sh, I, R) = bnd (cl d 135 [.inr (.inl k), .inl x0, .inl x1] (sh, I, R)) (fun v M => ev S d 158 74 [a0, a1, a2, a3, a4] (psh v st) M) := (ev_eq f_158_71).trans (congrArg (fin S d 158) (if_pos ⟨h, rfl, hr⟩))
theorem f_158_74 : fetch 158 74 = some (74, .istore 4, 2, [4], 0) := (fm_158 74).trans rfl
theorem u_158_74 {S : Scr} {d : Nat} {a0 a1 a2 a3 a4 : AV} {st : List AV} {sh : Shp} {I : IM} {R : RM} {x : Int} : ev S d 158 74 [a0, a1, a2, a3, a4] (.inl x :: st) (sh, I, R) = ev S d 158 76 [a0, a1, a2, a3, .inl x] st (sh, I, R) := (ev_eq f_158_74).trans rfl
theorem f_158_76 : fetch 158 76 = some (76, .aload_n 0, 1, [0], 0) := (fm_158 76).trans rfl
theorem u_158_76 {S : Scr} {d : Nat} {a1 a2 a3 a4 : AV} {st : List AV} {sh : Shp} {I : IM} {R : RM} {x : Nat} : ev S d 158 76 [.inr (.inl x), a1, a2, a3, a4] st (sh, I, R) = ev S d 158 77 [.inr (.inl x), a1, a2, a3, a4] (.inr (.inl x) :: st) (sh, I, R) := (ev_eq f_158_76).trans rfl
theorem f_158_77 : fetch 158 77 = some (77, .getfield 9, 3, [9, 0, 1, 79], 0) := (fm_158 77).trans rfl
theorem u_158_77 {S : Scr} {d : Nat} {a0 a1 a2 a3 a4 : AV} {st : List AV} {sh : Shp} {I : IM} {R : RM} {k : Nat} (h : tg sh k = 9) : ev S d 158 77 [a0, a1, a2, a3, a4] (.inr (.inl k) :: st) (sh, I, R) = ev S d 158 80 [a0, a1, a2, a3, a4] (rv (R k 0) :: st) (sh, I, R) := (ev_eq f_158_77).trans (congrArg (fin S d 158) (if_pos h))
theorem f_158_80 : fetch 158 80 = some (80, .sipush 480, 3, [], 480) := (fm_158 80).trans rfl
theorem u_158_80 {S : Scr} {d : Nat} {a0 a1 a2 a3 a4 : AV} {st : List AV} {sh : Shp} {I : IM} {R : RM} : ev S d 158 80 [a0, a1, a2, a3, a4] st (sh, I, R) = ev S d 158 83 [a0, a1, a2, a3, a4] (.inl 480 :: st) (sh, I, R) := (ev_eq f_158_80).trans rfl
theorem f_158_83 : fetch 158 83 = some (83, .bipush 6, 2, [], 6) := (fm_158 83).trans rfl
theorem u_158_83 {S : Scr} {d : Nat} {a0 a1 a2 a3 a4 : AV} {st : List AV} {sh : Shp} {I : IM} {R : RM} : ev S d 158 83 [a0, a1, a2, a3, a4] st (sh, I, R) = ev S d 158 85 [a0, a1, a2, a3, a4] (.inl 6 :: st) (sh, I, R) := (ev_eq f_158_83).trans rfl
theorem f_158_85 : fetch 158 85 = some (85, .iload_n 1, 1, [1], 0) := (fm_158 85).trans rfl
theorem u_158_85 {S : Scr} {d : Nat} {a0 a2 a3 a4 : AV} {st : List AV} {sh : Shp} {I : IM} {R : RM} {x : Int} : ev S d 158 85 [a0, .inl x, a2, a3, a4] st (sh, I, R) = ev S d 158 86 [a0, .inl x, a2, a3, a4] (.inl x :: st) (sh, I, R) := (ev_eq f_158_85).trans rfl
theorem f_158_86 : fetch 158 86 = some (86, .imul, 1, [], 0) := (fm_158 86).trans rfl
theorem u_158_86 {S : Scr} {d : Nat} {a0 a1 a2 a3 a4 : AV} {st : List AV} {sh : Shp} {I : IM} {R : RM} {x y : Int} : ev S d 158 86 [a0, a1, a2, a3, a4] (.inl y :: .inl x :: st) (sh, I, R) = ev S d 158 87 [a0, a1, a2, a3, a4] (.inl (wr (x * y)) :: st) (sh, I, R) := (ev_eq f_158_86).trans rfl
theorem f_158_87 : fetch 158 87 = some (87, .iadd, 1, [], 0) := (fm_158 87).trans rfl
theorem u_158_87 {S : Scr} {d : Nat} {a0 a1 a2 a3 a4 : AV} {st : List AV} {sh : Shp} {I : IM} {R : RM} {x y : Int} : ev S d 158 87 [a0, a1, a2, a3, a4] (.inl y :: .inl x :: st) (sh, I, R) = ev S d 158 88 [a0, a1, a2, a3, a4] (.inl (wr (x + y)) :: st) (sh, I, R) := (ev_eq f_158_87).trans rfl
theorem f_158_88 : fetch 158 88 = some (88, .iload_n 2, 1, [2], 0) := (fm_158 88).trans rfl
theorem u_158_88 {S : Scr} {d : Nat} {a0 a1 a3 a4 : AV} {st : List AV} {sh : Shp} {I : IM} {R : RM} {x : Int} : ev S d 158 88 [a0, a1, .inl x, a3, a4] st (sh, I, R) = ev S d 158 89 [a0, a1, .inl x, a3, a4] (.inl x :: st) (sh, I, R) := (ev_eq f_158_88).trans rfl
theorem f_158_89 : fetch 158 89 = some (89, .iadd, 1, [], 0) := (fm_158 89).trans rfl
theorem u_158_89 {S : Scr} {d : Nat} {a0 a1 a2 a3 a4 : AV} {st : List AV} {sh : Shp} {I : IM} {R : RM} {x y : Int} : ev S d 158 89 [a0, a1, a2, a3, a4] (.inl y :: .inl x :: st) (sh, I, R) = ev S d 158 90 [a0, a1, a2, a3, a4] (.inl (wr (x + y)) :: st) (sh, I, R) := (ev_eq f_158_89).trans rfl
theorem f_158_90 : fetch 158 90 = some (90, .iload_n 3, 1, [3], 0) := (fm_158 90).trans rfl
theorem u_158_90 {S : Scr} {d : Nat} {a0 a1 a2 a4 : AV} {st : List AV} {sh : Shp} {I : IM} {R : RM} {x : Int} : ev S d 158 90 [a0, a1, a2, .inl x, a4] st (sh, I, R) = ev S d 158 91 [a0, a1, a2, .inl x, a4] (.inl x :: st) (sh, I, R) := (ev_eq f_158_90).trans rfl
theorem f_158_91 : fetch 158 91 = some (91, .iastore, 1, [], 0) := (fm_158 91).trans rfl
theorem u_158_91 {S : Scr} {d : Nat} {a0 a1 a2 a3 a4 : AV} {st : List AV} {sh : Shp} {I : IM} {R : RM} {k : Nat} {i x : Int} (h : tg sh k = 100) (h0 : 0 ≤ i) (h1 : i < ln sh k) : ev S d 158 91 [a0, a1, a2, a3, a4] (.inl x :: .inl i :: .inr (.inl k) :: st) (sh, I, R) = ev S d 158 92 [a0, a1, a2, a3, a4] st (sh, up I k i x, R) := (ev_eq f_158_91).trans (congrArg (fin S d 158) (if_pos ⟨h, h0, h1⟩))
theorem f_158_92 : fetch 158 92 = some (92, .iload 4, 2, [4], 0) := (fm_158 92).trans rfl
theorem u_158_92 {S : Scr} {d : Nat} {a0 a1 a2 a3 : AV} {st : List AV} {sh : Shp} {I : IM} {R : RM} {x : Int} : ev S d 158 92 [a0, a1, a2, a3, .inl x] st (sh, I, R) = ev S d 158 94 [a0, a1, a2, a3, .inl x] (.inl x :: st) (sh, I, R) := (ev_eq f_158_92).trans rfl
theorem f_158_94 : fetch 158 94 = some (94, .invokestatic 131, 3, [136, 1, 144], 0) := (fm_158 94).trans rfl
theorem u_158_94 {S : Scr} {d : Nat} {a0 a1 a2 a3 a4 : AV} {st : List AV} {sh : Shp} {I : IM} {R : RM} {x0 : Int} (hr : st.length ≤ 8) : ev S d 158 94 [a0, a1, a2, a3, a4] (.inl x0 :: st) (sh, I, R) = bnd (cl d 136 [.inl x0] (sh, I, R)) (fun v M => ev S d 158 97 [a0, a1, a2, a3, a4] (psh v st) M) := (ev_eq f_158_94).trans (congrArg (fin S d 158) (if_pos ⟨rfl, hr⟩))
theorem f_158_97 : fetch 158 97 = some (97, .ireturn, 1, [0], 0) := (fm_158 97).trans rfl
theorem u_158_97 {S : Scr} {d : Nat} {a0 a1 a2 a3 a4 : AV} {sh : Shp} {I : IM} {R : RM} {x : Int} : ev S d 158 97 [a0, a1, a2, a3, a4] [.inl x] (sh, I, R) = some (some (.inl x), (sh, I, R)) := (ev_eq f_158_97).trans fin_iret0
theorem c_159 {d : Nat} {a0 a1 a2 : AV} {M : Mem} : cl (d + 1) 159 [a0, a1, a2] M = ev S0 d 159 0 [a0, a1, a2] [] M := (cl_eq (as := [a0, a1, a2]) (show 3 ≤ maxOf 159 by decide +kernel)).trans rfl
theorem mt_159 : MT[159]? = some m_159 := rfl
theorem fm_159 (pc : Nat) : fetch 159 pc = lk m_159.2.2.2.2.2 pc := by
  unfold fetch
  rw [mt_159]
theorem f_159_0 : fetch 159 0 = some (0, .aload_n 0, 1, [0], 0) := (fm_159 0).trans rfl
theorem u_159_0 {S : Scr} {d : Nat} {a1 a2 : AV} {st : List AV} {sh : Shp} {I : IM} {R : RM} {x : Nat} : ev S d 159 0 [.inr (.inl x), a1, a2] st (sh, I, R) = ev S d 159 1 [.inr (.inl x), a1, a2] (.inr (.inl x) :: st) (sh, I, R) := (ev_eq f_159_0).trans rfl
theorem f_159_1 : fetch 159 1 = some (1, .iload_n 1, 1, [1], 0) := (fm_159 1).trans rfl
theorem u_159_1 {S : Scr} {d : Nat} {a0 a2 : AV} {st : List AV} {sh : Shp} {I : IM} {R : RM} {x : Int} : ev S d 159 1 [a0, .inl x, a2] st (sh, I, R) = ev S d 159 2 [a0, .inl x, a2] (.inl x :: st) (sh, I, R) := (ev_eq f_159_1).trans rfl
theorem f_159_2 : fetch 159 2 = some (2, .invokevirtual 68, 3, [133, 1, 126], 0) := (fm_159 2).trans rfl
theorem u_159_2 {S : Scr} {d : Nat} {a0 a1 a2 : AV} {st : List AV} {sh : Shp} {I : IM} {R : RM} {x0 : Int} {k : Nat} (h : tg sh k = 9) (hr : st.length ≤ 8) : ev S d 159 2 [a0, a1, a2] (.inl x0 :: .inr (.inl k) :: st) (sh, I, R) = bnd (cl d 133 [.inr (.inl k), .inl x0] (sh, I, R)) (fun v M => ev S d 159 5 [a0, a1, a2] (psh v st) M) := (ev_eq f_159_2).trans (congrArg (fin S d 159) (if_pos ⟨h, rfl, hr⟩))
theorem f_159_5 : fetch 159 5 = some (5, .ifCond .ne 5, 3, [10], 0) := (fm_159 5).trans rfl
theorem u_159_5 {S : Scr} {d : Nat} {a0 a1 a2 : AV} {st : List AV} {sh : Shp} {I : IM} {R : RM} {x : Int} : ev S d 159 5 [a0, a1, a2] (.inl x :: st) (sh, I, R) = if ¬ x = 0 then ev S d 159 10 [a0, a1, a2] st (sh, I, R) else ev S d 159 8 [a0, a1, a2] st (sh, I, R) := (ev_eq f_159_5).trans fin_if_ne
theorem f_159_8 : fetch 159 8 = some (8, .iconst (-1), 1, [], (-1)) := (fm_159 8).trans rfl
theorem u_159_8 {S : Scr} {d : Nat} {a0 a1 a2 : AV} {st : List AV} {sh : Shp} {I : IM} {R : RM} : ev S d 159 8 [a0, a1, a2] st (sh, I, R) = ev S d 159 9 [a0, a1, a2] (.inl (-1) :: st) (sh, I, R) := (ev_eq f_159_8).trans rfl
theorem f_159_9 : fetch 159 9 = some (9, .ireturn, 1, [0], 0) := (fm_159 9).trans rfl
theorem u_159_9 {S : Scr} {d : Nat} {a0 a1 a2 : AV} {sh : Shp} {I : IM} {R : RM} {x : Int} : ev S d 159 9 [a0, a1, a2] [.inl x] (sh, I, R) = some (some (.inl x), (sh, I, R)) := (ev_eq f_159_9).trans fin_iret0
theorem f_159_10 : fetch 159 10 = some (10, .iload_n 2, 1, [2], 0) := (fm_159 10).trans rfl
theorem u_159_10 {S : Scr} {d : Nat} {a0 a1 : AV} {st : List AV} {sh : Shp} {I : IM} {R : RM} {x : Int} : ev S d 159 10 [a0, a1, .inl x] st (sh, I, R) = ev S d 159 11 [a0, a1, .inl x] (.inl x :: st) (sh, I, R) := (ev_eq f_159_10).trans rfl
theorem f_159_11 : fetch 159 11 = some (11, .iconst 0, 1, [], 0) := (fm_159 11).trans rfl
theorem u_159_11 {S : Scr} {d : Nat} {a0 a1 a2 : AV} {st : List AV} {sh : Shp} {I : IM} {R : RM} : ev S d 159 11 [a0, a1, a2] st (sh, I, R) = ev S d 159 12 [a0, a1, a2] (.inl 0 :: st) (sh, I, R) := (ev_eq f_159_11).trans rfl
theorem f_159_12 : fetch 159 12 = some (12, .aload_n 0, 1, [0], 0) := (fm_159 12).trans rfl
theorem u_159_12 {S : Scr} {d : Nat} {a1 a2 : AV} {st : List AV} {sh : Shp} {I : IM} {R : RM} {x : Nat} : ev S d 159 12 [.inr (.inl x), a1, a2] st (sh, I, R) = ev S d 159 13 [.inr (.inl x), a1, a2] (.inr (.inl x) :: st) (sh, I, R) := (ev_eq f_159_12).trans rfl
theorem f_159_13 : fetch 159 13 = some (13, .getfield 9, 3, [9, 0, 1, 79], 0) := (fm_159 13).trans rfl
theorem u_159_13 {S : Scr} {d : Nat} {a0 a1 a2 : AV} {st : List AV} {sh : Shp} {I : IM} {R : RM} {k : Nat} (h : tg sh k = 9) : ev S d 159 13 [a0, a1, a2] (.inr (.inl k) :: st) (sh, I, R) = ev S d 159 16 [a0, a1, a2] (rv (R k 0) :: st) (sh, I, R) := (ev_eq f_159_13).trans (congrArg (fin S d 159) (if_pos h))
theorem f_159_16 : fetch 159 16 = some (16, .bipush 60, 2, [], 60) := (fm_159 16).trans rfl
theorem u_159_16 {S : Scr} {d : Nat} {a0 a1 a2 : AV} {st : List AV} {sh : Shp} {I : IM} {R : RM} : ev S d 159 16 [a0, a1, a2] st (sh, I, R) = ev S d 159 18 [a0, a1, a2] (.inl 60 :: st) (sh, I, R) := (ev_eq f_159_16).trans rfl
theorem f_159_18 : fetch 159 18 = some (18, .iload_n 1, 1, [1], 0) := (fm_159 18).trans rfl
theorem u_159_18 {S : Scr} {d : Nat} {a0 a2 : AV} {st : List AV} {sh : Shp} {I : IM} {R : RM} {x : Int} : ev S d 159 18 [a0, .inl x, a2] st (sh, I, R) = ev S d 159 19 [a0, .inl x, a2] (.inl x :: st) (sh, I, R) := (ev_eq f_159_18).trans rfl
theorem f_159_19 : fetch 159 19 = some (19, .iadd, 1, [], 0) := (fm_159 19).trans rfl
theorem u_159_19 {S : Scr} {d : Nat} {a0 a1 a2 : AV} {st : List AV} {sh : Shp} {I : IM} {R : RM} {x y : Int} : ev S d 159 19 [a0, a1, a2] (.inl y :: .inl x :: st) (sh, I, R) = ev S d 159 20 [a0, a1, a2] (.inl (wr (x + y)) :: st) (sh, I, R) := (ev_eq f_159_19).trans rfl
theorem f_159_20 : fetch 159 20 = some (20, .iaload, 1, [], 0) := (fm_159 20).trans rfl
theorem u_159_20 {S : Scr} {d : Nat} {a0 a1 a2 : AV} {st : List AV} {sh : Shp} {I : IM} {R : RM} {k : Nat} {i : Int} (h : tg sh k = 100) (h0 : 0 ≤ i) (h1 : i < ln sh k) : ev S d 159 20 [a0, a1, a2] (.inl i :: .inr (.inl k) :: st) (sh, I, R) = ev S d 159 21 [a0, a1, a2] (.inl (I k i) :: st) (sh, I, R) := (ev_eq f_159_20).trans (congrArg (fin S d 159) (if_pos ⟨h, h0, h1⟩))
theorem f_159_21 : fetch 159 21 = some (21, .iconst 1, 1, [], 1) := (fm_159 21).trans rfl
theorem u_159_21 {S : Scr} {d : Nat} {a0 a1 a2 : AV} {st : List AV} {sh : Shp} {I : IM} {R : RM} : ev S d 159 21 [a0, a1, a2] st (sh, I, R) = ev S d 159 22 [a0, a1, a2] (.inl 1 :: st) (sh, I, R) := (ev_eq f_159_21).trans rfl
theorem f_159_22 : fetch 159 22 = some (22, .isub, 1, [], 0) := (fm_159 22).trans rfl
theorem u_159_22 {S : Scr} {d : Nat} {a0 a1 a2 : AV} {st : List AV} {sh : Shp} {I : IM} {R : RM} {x y : Int} : ev S d 159 22 [a0, a1, a2] (.inl y :: .inl x :: st) (sh, I, R) = ev S d 159 23 [a0, a1, a2] (.inl (wr (x - y)) :: st) (sh, I, R) := (ev_eq f_159_22).trans rfl
theorem f_159_23 : fetch 159 23 = some (23, .invokestatic 64, 3, [129, 3, 125], 0) := (fm_159 23).trans rfl
theorem u_159_23 {S : Scr} {d : Nat} {a0 a1 a2 : AV} {st : List AV} {sh : Shp} {I : IM} {R : RM} {x0 : Int} {x1 : Int} {x2 : Int} (hr : st.length ≤ 8) : ev S d 159 23 [a0, a1, a2] (.inl x2 :: .inl x1 :: .inl x0 :: st) (sh, I, R) = bnd (cl d 129 [.inl x0, .inl x1, .inl x2] (sh, I, R)) (fun v M => ev S d 159 26 [a0, a1, a2] (psh v st) M) := (ev_eq f_159_23).trans (congrArg (fin S d 159) (if_pos ⟨rfl, hr⟩))
theorem f_159_26 : fetch 159 26 = some (26, .ifCond .eq 15, 3, [41], 0) := (fm_159 26).trans rfl
theorem u_159_26 {S : Scr} {d : Nat} {a0 a1 a2 : AV} {st : List AV} {sh : Shp} {I : IM} {R : RM} {x : Int} : ev S d 159 26 [a0, a1, a2] (.inl x :: st) (sh, I, R) = if x = 0 then ev S d 159 41 [a0, a1, a2] st (sh, I, R) else ev S d 159 29 [a0, a1, a2] st (sh, I, R) := (ev_eq f_159_26).trans fin_if_eq
theorem f_159_29 : fetch 159 29 = some (29, .aload_n 0, 1, [0], 0) := (fm_159 29).trans rfl
theorem u_159_29 {S : Scr} {d : Nat} {a1 a2 : AV} {st : List AV} {sh : Shp} {I : IM} {R : RM} {x : Nat} : ev S d 159 29 [.inr (.inl x), a1, a2] st (sh, I, R) = ev S d 159 30 [.inr (.inl x), a1, a2] (.inr (.inl x) :: st) (sh, I, R) := (ev_eq f_159_29).trans rfl
theorem f_159_30 : fetch 159 30 = some (30, .iload_n 1, 1, [1], 0) := (fm_159 30).trans rfl
theorem u_159_30 {S : Scr} {d : Nat} {a0 a2 : AV} {st : List AV} {sh : Shp} {I : IM} {R : RM} {x : Int} : ev S d 159 30 [a0, .inl x, a2] st (sh, I, R) = ev S d 159 31 [a0, .inl x, a2] (.inl x :: st) (sh, I, R) := (ev_eq f_159_30).trans rfl
theorem f_159_31 : fetch 159 31 = some (31, .iload_n 2, 1, [2], 0) := (fm_159 31).trans rfl
theorem u_159_31 {S : Scr} {d : Nat} {a0 a1 : AV} {st : List AV} {sh : Shp} {I : IM} {R : RM} {x : Int} : ev S d 159 31 [a0, a1, .inl x] st (sh, I, R) = ev S d 159 32 [a0, a1, .inl x] (.inl x :: st) (sh, I, R) := (ev_eq f_159_31).trans rfl
theorem f_159_32 : fetch 159 32 = some (32, .invokevirtual 128, 3, [135, 2, 143], 0) := (fm_159 32).trans rfl
theorem u_159_32 {S : Scr} {d : Nat} {a0 a1 a2 : AV} {st : List AV} {sh : Shp} {I : IM} {R : RM} {x0 : Int} {x1 : Int} {k : Nat} (h : tg sh k = 9) (hr : st.length ≤ 8) : ev S d 159 32 [a0, a1, a2] (.inl x1 :: .inl x0 :: .inr (.inl k) :: st) (sh, I, R) = bnd (cl d 135 [.inr (.inl k), .inl x0, .inl x1] (sh, I, R)) (fun v M => ev S d 159 35 [a0, a1, a2] (psh v st) M) := (ev_eq f_159_32).trans (congrArg (fin S d 159) (if_pos ⟨h, rfl, hr⟩))
theorem f_159_35 : fetch 159 35 = some (35, .invokestatic 131, 3, [136, 1, 144], 0) := (fm_159 35).trans rfl
theorem u_159_35 {S : Scr} {d : Nat} {a0 a1 a2 : AV} {st : List AV} {sh : Shp} {I : IM} {R : RM} {x0 : Int} (hr : st.length ≤ 8) : ev S d 159 35 [a0, a1, a2] (.inl x0 :: st) (sh, I, R) = bnd (cl d 136 [.inl x0] (sh, I, R)) (fun v M => ev S d 159 38 [a0, a1, a2] (psh v st) M) := (ev_eq f_159_35).trans (congrArg (fin S d 159) (if_pos ⟨rfl, hr⟩))
theorem f_159_38 : fetch 159 38 = some (38, .goto 5, 3, [43], 0) := (fm_159 38).trans rfl
theorem u_159_38 {S : Scr} {d : Nat} {a0 a1 a2 : AV} {st : List AV} {sh : Shp} {I : IM} {R : RM} : ev S d 159 38 [a0, a1, a2] st (sh, I, R) = ev S d 159 43 [a0, a1, a2] st (sh, I, R) := (ev_eq f_159_38).trans rfl
theorem f_159_41 : fetch 159 41 = some (41, .bipush (-13), 2, [], (-13)) := (fm_159 41).trans rfl
theorem u_159_41 {S : Scr} {d : Nat} {a0 a1 a2 : AV} {st : List AV} {sh : Shp} {I : IM} {R : RM} : ev S d 159 41 [a0, a1, a2] st (sh, I, R) = ev S d 159 43 [a0, a1, a2] (.inl (-13) :: st) (sh, I, R) := (ev_eq f_159_41).trans rfl
theorem f_159_43 : fetch 159 43 = some (43, .ireturn, 1, [0], 0) := (fm_159 43).trans rfl
theorem u_159_43 {S : Scr} {d : Nat} {a0 a1 a2 : AV} {sh : Shp} {I : IM} {R : RM} {x : Int} : ev S d 159 43 [a0, a1, a2] [.inl x] (sh, I, R) = some (some (.inl x), (sh, I, R)) := (ev_eq f_159_43).trans fin_iret0
theorem c_160 {d : Nat} {a0 a1 : AV} {M : Mem} : cl (d + 1) 160 [a0, a1] M = ev S0 d 160 0 [a0, a1, .inr (.inr 1), .inr (.inr 1)] [] M := (cl_eq (as := [a0, a1]) (show 2 ≤ maxOf 160 by decide +kernel)).trans rfl
theorem mt_160 : MT[160]? = some m_160 := rfl
theorem fm_160 (pc : Nat) : fetch 160 pc = lk m_160.2.2.2.2.2 pc := by
  unfold fetch
  rw [mt_160]
theorem f_160_0 : fetch 160 0 = some (0, .iconst 0, 1, [], 0) := (fm_160 0).trans rfl
theorem u_160_0 {S : Scr} {d : Nat} {a0 a1 a2 a3 : AV} {st : List AV} {sh : Shp} {I : IM} {R : RM} : ev S d 160 0 [a0, a1, a2, a3] st (sh, I, R) = ev S d 160 1 [a0, a1, a2, a3] (.inl 0 :: st) (sh, I, R) := (ev_eq f_160_0).trans rfl
theorem f_160_1 : fetch 160 1 = some (1, .istore_n 2, 1, [2], 0) := (fm_160 1).trans rfl
theorem u_160_1 {S : Scr} {d : Nat} {a0 a1 a2 a3 : AV} {st : List AV} {sh : Shp} {I : IM} {R : RM} {x : Int} : ev S d 160 1 [a0, a1, a2, a3] (.inl x :: st) (sh, I, R) = ev S d 160 2 [a0, a1, .inl x, a3] st (sh, I, R) := (ev_eq f_160_1).trans rfl
theorem f_160_2 : fetch 160 2 = some (2, .iconst 0, 1, [], 0) := (fm_160 2).trans rfl
theorem u_160_2 {S : Scr} {d : Nat} {a0 a1 a2 a3 : AV} {st : List AV} {sh : Shp} {I : IM} {R : RM} : ev S d 160 2 [a0, a1, a2, a3] st (sh, I, R) = ev S d 160 3 [a0, a1, a2, a3] (.inl 0 :: st) (sh, I, R) := (ev_eq f_160_2).trans rfl
theorem f_160_3 : fetch 160 3 = some (3, .istore_n 3, 1, [3], 0) := (fm_160 3).trans rfl
theorem u_160_3 {S : Scr} {d : Nat} {a0 a1 a2 a3 : AV} {st : List AV} {sh : Shp} {I : IM} {R : RM} {x : Int} : ev S d 160 3 [a0, a1, a2, a3] (.inl x :: st) (sh, I, R) = ev S d 160 4 [a0, a1, a2, .inl x] st (sh, I, R) := (ev_eq f_160_3).trans rfl
theorem f_160_4 : fetch 160 4 = some (4, .iload_n 3, 1, [3], 0) := (fm_160 4).trans rfl
theorem u_160_4 {S : Scr} {d : Nat} {a0 a1 a2 : AV} {st : List AV} {sh : Shp} {I : IM} {R : RM} {x : Int} : ev S d 160 4 [a0, a1, a2, .inl x] st (sh, I, R) = ev S d 160 5 [a0, a1, a2, .inl x] (.inl x :: st) (sh, I, R) := (ev_eq f_160_4).trans rfl
theorem f_160_5 : fetch 160 5 = some (5, .aload_n 0, 1, [0], 0) := (fm_160 5).trans rfl
theorem u_160_5 {S : Scr} {d : Nat} {a1 a2 a3 : AV} {st : List AV} {sh : Shp} {I : IM} {R : RM} {x : Nat} : ev S d 160 5 [.inr (.inl x), a1, a2, a3] st (sh, I, R) = ev S d 160 6 [.inr (.inl x), a1, a2, a3] (.inr (.inl x) :: st) (sh, I, R) := (ev_eq f_160_5).trans rfl
theorem f_160_6 : fetch 160 6 = some (6, .getfield 9, 3, [9, 0, 1, 79], 0) := (fm_160 6).trans rfl
theorem u_160_6 {S : Scr} {d : Nat} {a0 a1 a2 a3 : AV} {st : List AV} {sh : Shp} {I : IM} {R : RM} {k : Nat} (h : tg sh k = 9) : ev S d 160 6 [a0, a1, a2, a3] (.inr (.inl k) :: st) (sh, I, R) = ev S d 160 9 [a0, a1, a2, a3] (rv (R k 0) :: st) (sh, I, R) := (ev_eq f_160_6).trans (congrArg (fin S d 160) (if_pos h))
theorem f_160_9 : fetch 160 9 = some (9, .bipush 90, 2, [], 90) := (fm_160 9).trans rfl
theorem u_160_9 {S : Scr} {d : Nat} {a0 a1 a2 a3 : AV} {st : List AV} {sh : Shp} {I : IM} {R : RM} : ev S d 160 9 [a0, a1, a2, a3] st (sh, I, R) = ev S d 160 11 [a0, a1, a2, a3] (.inl 90 :: st) (sh, I, R) := (ev_eq f_160_9).trans rfl
theorem f_160_11 : fetch 160 11 = some (11, .iload_n 1, 1, [1], 0) := (fm_160 11).trans rfl
theorem u_160_11 {S : Scr} {d : Nat} {a0 a2 a3 : AV} {st : List AV} {sh : Shp} {I : IM} {R : RM} {x : Int} : ev S d 160 11 [a0, .inl x, a2, a3] st (sh, I, R) = ev S d 160 12 [a0, .inl x, a2, a3] (.inl x :: st) (sh, I, R) := (ev_eq f_160_11).trans rfl
theorem f_160_12 : fetch 160 12 = some (12, .iadd, 1, [], 0) := (fm_160 12).trans rfl
theorem u_160_12 {S : Scr} {d : Nat} {a0 a1 a2 a3 : AV} {st : List AV} {sh : Shp} {I : IM} {R : RM} {x y : Int} : ev S d 160 12 [a0, a1, a2, a3] (.inl y :: .inl x :: st) (sh, I, R) = ev S d 160 13 [a0, a1, a2, a3] (.inl (wr (x + y)) :: st) (sh, I, R) := (ev_eq f_160_12).trans rfl
theorem f_160_13 : fetch 160 13 = some (13, .iaload, 1, [], 0) := (fm_160 13).trans rfl
theorem u_160_13 {S : Scr} {d : Nat} {a0 a1 a2 a3 : AV} {st : List AV} {sh : Shp} {I : IM} {R : RM} {k : Nat} {i : Int} (h : tg sh k = 100) (h0 : 0 ≤ i) (h1 : i < ln sh k) : ev S d 160 13 [a0, a1, a2, a3] (.inl i :: .inr (.inl k) :: st) (sh, I, R) = ev S d 160 14 [a0, a1, a2, a3] (.inl (I k i) :: st) (sh, I, R) := (ev_eq f_160_13).trans (congrArg (fin S d 160) (if_pos ⟨h, h0, h1⟩))
theorem f_160_14 : fetch 160 14 = some (14, .if_icmp .ge 50, 3, [64], 0) := (fm_160 14).trans rfl
theorem u_160_14 {S : Scr} {d : Nat} {a0 a1 a2 a3 : AV} {st : List AV} {sh : Shp} {I : IM} {R : RM} {x y : Int} : ev S d 160 14 [a0, a1, a2, a3] (.inl y :: .inl x :: st) (sh, I, R) = if y ≤ x then ev S d 160 64 [a0, a1, a2, a3] st (sh, I, R) else ev S d 160 17 [a0, a1, a2, a3] st (sh, I, R) := (ev_eq f_160_14).trans fin_icmp_ge
theorem f_160_17 : fetch 160 17 = some (17, .iload_n 2, 1, [2], 0) := (fm_160 17).trans rfl
theorem u_160_17 {S : Scr} {d : Nat} {a0 a1 a3 : AV} {st : List AV} {sh : Shp} {I : IM} {R : RM} {x : Int} : ev S d 160 17 [a0, a1, .inl x, a3] st (sh, I, R) = ev S d 160 18 [a0, a1, .inl x, a3] (.inl x :: st) (sh, I, R) := (ev_eq f_160_17).trans rfl
theorem f_160_18 : fetch 160 18 = some (18, .aload_n 0, 1, [0], 0) := (fm_160 18).trans rfl
theorem u_160_18 {S : Scr} {d : Nat} {a1 a2 a3 : AV} {st : List AV} {sh : Shp} {I : IM} {R : RM} {x : Nat} : ev S d 160 18 [.inr (.inl x), a1, a2, a3] st (sh, I, R) = ev S d 160 19 [.inr (.inl x), a1, a2, a3] (.inr (.inl x) :: st) (sh, I, R) := (ev_eq f_160_18).trans rfl
theorem f_160_19 : fetch 160 19 = some (19, .aload_n 0, 1, [0], 0) := (fm_160 19).trans rfl
theorem u_160_19 {S : Scr} {d : Nat} {a1 a2 a3 : AV} {st : List AV} {sh : Shp} {I : IM} {R : RM} {x : Nat} : ev S d 160 19 [.inr (.inl x), a1, a2, a3] st (sh, I, R) = ev S d 160 20 [.inr (.inl x), a1, a2, a3] (.inr (.inl x) :: st) (sh, I, R) := (ev_eq f_160_19).trans rfl
theorem f_160_20 : fetch 160 20 = some (20, .aload_n 0, 1, [0], 0) := (fm_160 20).trans rfl
theorem u_160_20 {S : Scr} {d : Nat} {a1 a2 a3 : AV} {st : List AV} {sh : Shp} {I : IM} {R : RM} {x : Nat} : ev S d 160 20 [.inr (.inl x), a1, a2, a3] st (sh, I, R) = ev S d 160 21 [.inr (.inl x), a1, a2, a3] (.inr (.inl x) :: st) (sh, I, R) := (ev_eq f_160_20).trans rfl
theorem f_160_21 : fetch 160 21 = some (21, .getfield 9, 3, [9, 0, 1, 79], 0) := (fm_160 21).trans rfl
theorem u_160_21 {S : Scr} {d : Nat} {a0 a1 a2 a3 : AV} {st : List AV} {sh : Shp} {I : IM} {R : RM} {k : Nat} (h : tg sh k = 9) : ev S d 160 21 [a0, a1, a2, a3] (.inr (.inl k) :: st) (sh, I, R) = ev S d 160 24 [a0, a1, a2, a3] (rv (R k 0) :: st) (sh, I, R) := (ev_eq f_160_21).trans (congrArg (fin S d 160) (if_pos h))
theorem f_160_24 : fetch 160 24 = some (24, .iconst 0, 1, [], 0) := (fm_160 24).trans rfl
theorem u_160_24 {S : Scr} {d : Nat} {a0 a1 a2 a3 : AV} {st : List AV} {sh : Shp} {I : IM} {R : RM} : ev S d 160 24 [a0, a1, a2, a3] st (sh, I, R) = ev S d 160 25 [a0, a1, a2, a3] (.inl 0 :: st) (sh, I, R) := (ev_eq f_160_24).trans rfl
theorem f_160_25 : fetch 160 25 = some (25, .iload_n 1, 1, [1], 0) := (fm_160 25).trans rfl
theorem u_160_25 {S : Scr} {d : Nat} {a0 a2 a3 : AV} {st : List AV} {sh : Shp} {I : IM} {R : RM} {x : Int} : ev S d 160 25 [a0, .inl x, a2, a3] st (sh, I, R) = ev S d 160 26 [a0, .inl x, a2, a3] (.inl x :: st) (sh, I, R) := (ev_eq f_160_25).trans rfl
theorem f_160_26 : fetch 160 26 = some (26, .iadd, 1, [], 0) := (fm_160 26).trans rfl
theorem u_160_26 {S : Scr} {d : Nat} {a0 a1 a2 a3 : AV} {st : List AV} {sh : Shp} {I : IM} {R : RM} {x y : Int} : ev S d 160 26 [a0, a1, a2, a3] (.inl y :: .inl x :: st) (sh, I, R) = ev S d 160 27 [a0, a1, a2, a3] (.inl (wr (x + y)) :: st) (sh, I, R) := (ev_eq f_160_26).trans rfl
theorem f_160_27 : fetch 160 27 = some (27, .iaload, 1, [], 0) := (fm_160 27).trans rfl
theorem u_160_27 {S : Scr} {d : Nat} {a0 a1 a2 a3 : AV} {st : List AV} {sh : Shp} {I : IM} {R : RM} {k : Nat} {i : Int} (h : tg sh k = 100) (h0 : 0 ≤ i) (h1 : i < ln sh k) : ev S d 160 27 [a0, a1, a2, a3] (.inl i :: .inr (.inl k) :: st) (sh, I, R) = ev S d 160 28 [a0, a1, a2, a3] (.inl (I k i) :: st) (sh, I, R) := (ev_eq f_160_27).trans (congrArg (fin S d 160) (if_pos ⟨h, h0, h1⟩))
theorem f_160_28 : fetch 160 28 = some (28, .invokevirtual 80, 3, [143, 1, 129], 0) := (fm_160 28).trans rfl
theorem u_160_28 {S : Scr} {d : Nat} {a0 a1 a2 a3 : AV} {st : List AV} {sh : Shp} {I : IM} {R : RM} {x0 : Int} {k : Nat} (h : tg sh k = 9) (hr : st.length ≤ 8) : ev S d 160 28 [a0, a1, a2, a3] (.inl x0 :: .inr (.inl k) :: st) (sh, I, R) = bnd (cl d 143 [.inr (.inl k), .inl x0] (sh, I, R)) (fun v M => ev S d 160 31 [a0, a1, a2, a3] (psh v st) M) := (ev_eq f_160_28).trans (congrArg (fin S d 160) (if_pos ⟨h, rfl, hr⟩))
theorem f_160_31 : fetch 160 31 = some (31, .aload_n 0, 1, [0], 0) := (fm_160 31).trans rfl
theorem u_160_31 {S : Scr} {d : Nat} {a1 a2 a3 : AV} {st : List AV} {sh : Shp} {I : IM} {R : RM} {x : Nat} : ev S d 160 31 [.inr (.inl x), a1, a2, a3] st (sh, I, R) = ev S d 160 32 [.inr (.inl x), a1, a2, a3] (.inr (.inl x) :: st) (sh, I, R) := (ev_eq f_160_31).trans rfl
theorem f_160_32 : fetch 160 32 = some (32, .getfield 9, 3, [9, 0, 1, 79], 0) := (fm_160 32).trans rfl
theorem u_160_32 {S : Scr} {d : Nat} {a0 a1 a2 a3 : AV} {st : List AV} {sh : Shp} {I : IM} {R : RM} {k : Nat} (h : tg sh k = 9) : ev S d 160 32 [a0, a1, a2, a3] (.inr (.inl k) :: st) (sh, I, R) = ev S d 160 35 [a0, a1, a2, a3] (rv (R k 0) :: st) (sh, I, R) := (ev_eq f_160_32).trans (congrArg (fin S d 160) (if_pos h))
theorem f_160_35 : fetch 160 35 = some (35, .bipush 120, 2, [], 120) := (fm_160 35).trans rfl
theorem u_160_35 {S : Scr} {d : Nat} {a0 a1 a2 a3 : AV} {st : List AV} {sh : Shp} {I : IM} {R : RM} : ev S d 160 35 [a0, a1, a2, a3] st (sh, I, R) = ev S d 160 37 [a0, a1, a2, a3] (.inl 120 :: st) (sh, I, R) := (ev_eq f_160_35).trans rfl
theorem f_160_37 : fetch 160 37 = some (37, .bipush 6, 2, [], 6) := (fm_160 37).trans rfl
theorem u_160_37 {S : Scr} {d : Nat} {a0 a1 a2 a3 : AV} {st : List AV} {sh : Shp} {I : IM} {R : RM} : ev S d 160 37 [a0, a1, a2, a3] st (sh, I, R) = ev S d 160 39 [a0, a1, a2, a3] (.inl 6 :: st) (sh, I, R) := (ev_eq f_160_37).trans rfl
theorem f_160_39 : fetch 160 39 = some (39, .iload_n 1, 1, [1], 0) := (fm_160 39).trans rfl
theorem u_160_39 {S : Scr} {d : Nat} {a0 a2 a3 : AV} {st : List AV} {sh : Shp} {I : IM} {R : RM} {x : Int} : ev S d 160 39 [a0, .inl x, a2, a3] st (sh, I, R) = ev S d 160 40 [a0, .inl x, a2, a3] (.inl x :: st) (sh, I, R) := (ev_eq f_160_39).trans rfl
theorem f_160_40 : fetch 160 40 = some (40, .imul, 1, [], 0) := (fm_160 40).trans rfl
theorem u_160_40 {S : Scr} {d : Nat} {a0 a1 a2 a3 : AV} {st : List AV} {sh : Shp} {I : IM} {R : RM} {x y : Int} : ev S d 160 40 [a0, a1, a2, a3] (.inl y :: .inl x :: st) (sh, I, R) = ev S d 160 41 [a0, a1, a2, a3] (.inl (wr (x * y)) :: st) (sh, I, R) := (ev_eq f_160_40).trans rfl
theorem f_160_41 : fetch 160 41 = some (41, .iadd, 1, [], 0) := (fm_160 41).trans rfl
theorem u_160_41 {S : Scr} {d : Nat} {a0 a1 a2 a3 : AV} {st : List AV} {sh : Shp} {I : IM} {R : RM} {x y : Int} : ev S d 160 41 [a0, a1, a2, a3] (.inl y :: .inl x :: st) (sh, I, R) = ev S d 160 42 [a0, a1, a2, a3] (.inl (wr (x + y)) :: st) (sh, I, R) := (ev_eq f_160_41).trans rfl
theorem f_160_42 : fetch 160 42 = some (42, .iload_n 3, 1, [3], 0) := (fm_160 42).trans rfl
theorem u_160_42 {S : Scr} {d : Nat} {a0 a1 a2 : AV} {st : List AV} {sh : Shp} {I : IM} {R : RM} {x : Int} : ev S d 160 42 [a0, a1, a2, .inl x] st (sh, I, R) = ev S d 160 43 [a0, a1, a2, .inl x] (.inl x :: st) (sh, I, R) := (ev_eq f_160_42).trans rfl
theorem f_160_43 : fetch 160 43 = some (43, .iadd, 1, [], 0) := (fm_160 43).trans rfl
theorem u_160_43 {S : Scr} {d : Nat} {a0 a1 a2 a3 : AV} {st : List AV} {sh : Shp} {I : IM} {R : RM} {x y : Int} : ev S d 160 43 [a0, a1, a2, a3] (.inl y :: .inl x :: st) (sh, I, R) = ev S d 160 44 [a0, a1, a2, a3] (.inl (wr (x + y)) :: st) (sh, I, R) := (ev_eq f_160_43).trans rfl
theorem f_160_44 : fetch 160 44 = some (44, .iaload, 1, [], 0) := (fm_160 44).trans rfl
theorem u_160_44 {S : Scr} {d : Nat} {a0 a1 a2 a3 : AV} {st : List AV} {sh : Shp} {I : IM} {R : RM} {k : Nat} {i : Int} (h : tg sh k = 100) (h0 : 0 ≤ i) (h1 : i < ln sh k) : ev S d 160 44 [a0, a1, a2, a3] (.inl i :: .inr (.inl k) :: st) (sh, I, R) = ev S d 160 45 [a0, a1, a2, a3] (.inl (I k i) :: st) (sh, I, R) := (ev_eq f_160_44).trans (congrArg (fin S d 160) (if_pos ⟨h, h0, h1⟩))
theorem f_160_45 : fetch 160 45 = some (45, .invokevirtual 101, 3, [144, 2, 135], 0) := (fm_160 45).trans rfl
theorem u_160_45 {S : Scr} {d : Nat} {a0 a1 a2 a3 : AV} {st : List AV} {sh : Shp} {I : IM} {R : RM} {x0 : Int} {x1 : Int} {k : Nat} (h : tg sh k = 9) (hr : st.length ≤ 8) : ev S d 160 45 [a0, a1, a2, a3] (.inl x1 :: .inl x0 :: .inr (.inl k) :: st) (sh, I, R) = bnd (cl d 144 [.inr (.inl k), .inl x0, .inl x1] (sh, I, R)) (fun v M => ev S d 160 48 [a0, a1, a2, a3] (psh v st) M) := (ev_eq f_160_45).trans (congrArg (fin S d 160) (if_pos ⟨h, rfl, hr⟩))
theorem f_160_48 : fetch 160 48 = some (48, .ifCond .ge 7, 3, [55], 0) := (fm_160 48).trans rfl
theorem u_160_48 {S : Scr} {d : Nat} {a0 a1 a2 a3 : AV} {st : List AV} {sh : Shp} {I : IM} {R : RM} {x : Int} : ev S d 160 48 [a0, a1, a2, a3] (.inl x :: st) (sh, I, R) = if 0 ≤ x then ev S d 160 55 [a0, a1, a2, a3] st (sh, I, R) else ev S d 160 51 [a0, a1, a2, a3] st (sh, I, R) := (ev_eq f_160_48).trans fin_if_ge
theorem f_160_51 : fetch 160 51 = some (51, .iconst 1, 1, [], 1) := (fm_160 51).trans rfl
theorem u_160_51 {S : Scr} {d : Nat} {a0 a1 a2 a3 : AV} {st : List AV} {sh : Shp} {I : IM} {R : RM} : ev S d 160 51 [a0, a1, a2, a3] st (sh, I, R) = ev S d 160 52 [a0, a1, a2, a3] (.inl 1 :: st) (sh, I, R) := (ev_eq f_160_51).trans rfl
theorem f_160_52 : fetch 160 52 = some (52, .goto 4, 3, [56], 0) := (fm_160 52).trans rfl
theorem u_160_52 {S : Scr} {d : Nat} {a0 a1 a2 a3 : AV} {st : List AV} {sh : Shp} {I : IM} {R : RM} : ev S d 160 52 [a0, a1, a2, a3] st (sh, I, R) = ev S d 160 56 [a0, a1, a2, a3] st (sh, I, R) := (ev_eq f_160_52).trans rfl
theorem f_160_55 : fetch 160 55 = some (55, .iconst 0, 1, [], 0) := (fm_160 55).trans rfl
theorem u_160_55 {S : Scr} {d : Nat} {a0 a1 a2 a3 : AV} {st : List AV} {sh : Shp} {I : IM} {R : RM} : ev S d 160 55 [a0, a1, a2, a3] st (sh, I, R) = ev S d 160 56 [a0, a1, a2, a3] (.inl 0 :: st) (sh, I, R) := (ev_eq f_160_55).trans rfl
theorem f_160_56 : fetch 160 56 = some (56, .iadd, 1, [], 0) := (fm_160 56).trans rfl
theorem u_160_56 {S : Scr} {d : Nat} {a0 a1 a2 a3 : AV} {st : List AV} {sh : Shp} {I : IM} {R : RM} {x y : Int} : ev S d 160 56 [a0, a1, a2, a3] (.inl y :: .inl x :: st) (sh, I, R) = ev S d 160 57 [a0, a1, a2, a3] (.inl (wr (x + y)) :: st) (sh, I, R) := (ev_eq f_160_56).trans rfl
theorem f_160_57 : fetch 160 57 = some (57, .istore_n 2, 1, [2], 0) := (fm_160 57).trans rfl
theorem u_160_57 {S : Scr} {d : Nat} {a0 a1 a2 a3 : AV} {st : List AV} {sh : Shp} {I : IM} {R : RM} {x : Int} : ev S d 160 57 [a0, a1, a2, a3] (.inl x :: st) (sh, I, R) = ev S d 160 58 [a0, a1, .inl x, a3] st (sh, I, R) := (ev_eq f_160_57).trans rfl
theorem f_160_58 : fetch 160 58 = some (58, .iinc 3 1, 3, [3], 1) := (fm_160 58).trans rfl
theorem u_160_58 {S : Scr} {d : Nat} {a0 a1 a2 : AV} {st : List AV} {sh : Shp} {I : IM} {R : RM} {x : Int} : ev S d 160 58 [a0, a1, a2, .inl x] st (sh, I, R) = ev S d 160 61 [a0, a1, a2, .inl (wr (x + 1))] st (sh, I, R) := (ev_eq f_160_58).trans rfl
theorem f_160_61 : fetch 160 61 = some (61, .goto (-57), 3, [4], 0) := (fm_160 61).trans rfl
theorem u_160_61 {S : Scr} {d : Nat} {a0 a1 a2 a3 : AV} {st : List AV} {sh : Shp} {I : IM} {R : RM} : ev S d 160 61 [a0, a1, a2, a3] st (sh, I, R) = ev S d 160 4 [a0, a1, a2, a3] st (sh, I, R) := (ev_eq f_160_61).trans rfl
theorem f_160_64 : fetch 160 64 = some (64, .iload_n 2, 1, [2], 0) := (fm_160 64).trans rfl
theorem u_160_64 {S : Scr} {d : Nat} {a0 a1 a3 : AV} {st : List AV} {sh : Shp} {I : IM} {R : RM} {x : Int} : ev S d 160 64 [a0, a1, .inl x, a3] st (sh, I, R) = ev S d 160 65 [a0, a1, .inl x, a3] (.inl x :: st) (sh, I, R) := (ev_eq f_160_64).trans rfl
theorem f_160_65 : fetch 160 65 = some (65, .ireturn, 1, [0], 0) := (fm_160 65).trans rfl
theorem u_160_65 {S : Scr} {d : Nat} {a0 a1 a2 a3 : AV} {sh : Shp} {I : IM} {R : RM} {x : Int} : ev S d 160 65 [a0, a1, a2, a3] [.inl x] (sh, I, R) = some (some (.inl x), (sh, I, R)) := (ev_eq f_160_65).trans fin_iret0
theorem c_161 {d : Nat} {a0 a1 a2 : AV} {M : Mem} : cl (d + 1) 161 [a0, a1, a2] M = ev S0 d 161 0 [a0, a1, a2] [] M := (cl_eq (as := [a0, a1, a2]) (show 3 ≤ maxOf 161 by decide +kernel)).trans rfl
theorem mt_161 : MT[161]? = some m_161 := rfl
theorem fm_161 (pc : Nat) : fetch 161 pc = lk m_161.2.2.2.2.2 pc := by
  unfold fetch
  rw [mt_161]
theorem f_161_0 : fetch 161 0 = some (0, .aload_n 0, 1, [0], 0) := (fm_161 0).trans rfl
theorem u_161_0 {S : Scr} {d : Nat} {a1 a2 : AV} {st : List AV} {sh : Shp} {I : IM} {R : RM} {x : Nat} : ev S d 161 0 [.inr (.inl x), a1, a2] st (sh, I, R) = ev S d 161 1 [.inr (.inl x), a1, a2] (.inr (.inl x) :: st) (sh, I, R) := (ev_eq f_161_0).trans rfl
theorem f_161_1 : fetch 161 1 = some (1, .iload_n 1, 1, [1], 0) := (fm_161 1).trans rfl
theorem u_161_1 {S : Scr} {d : Nat} {a0 a2 : AV} {st : List AV} {sh : Shp} {I : IM} {R : RM} {x : Int} : ev S d 161 1 [a0, .inl x, a2] st (sh, I, R) = ev S d 161 2 [a0, .inl x, a2] (.inl x :: st) (sh, I, R) := (ev_eq f_161_1).trans rfl
theorem f_161_2 : fetch 161 2 = some (2, .invokevirtual 68, 3, [133, 1, 126], 0) := (fm_161 2).trans rfl
theorem u_161_2 {S : Scr} {d : Nat} {a0 a1 a2 : AV} {st : List AV} {sh : Shp} {I : IM} {R : RM} {x0 : Int} {k : Nat} (h : tg sh k = 9) (hr : st.length ≤ 8) : ev S d 161 2 [a0, a1, a2] (.inl x0 :: .inr (.inl k) :: st) (sh, I, R) = bnd (cl d 133 [.inr (.inl k), .inl x0] (sh, I, R)) (fun v M => ev S d 161 5 [a0, a1, a2] (psh v st) M) := (ev_eq f_161_2).trans (congrArg (fin S d 161) (if_pos ⟨h, rfl, hr⟩))
theorem f_161_5 : fetch 161 5 = some (5, .ifCond .ne 5, 3, [10], 0) := (fm_161 5).trans rfl
theorem u_161_5 {S : Scr} {d : Nat} {a0 a1 a2 : AV} {st : List AV} {sh : Shp} {I : IM} {R : RM} {x : Int} : ev S d 161 5 [a0, a1, a2] (.inl x :: st) (sh, I, R) = if ¬ x = 0 then ev S d 161 10 [a0, a1, a2] st (sh, I, R) else ev S d 161 8 [a0, a1, a2] st (sh, I, R) := (ev_eq f_161_5).trans fin_if_ne
theorem f_161_8 : fetch 161 8 = some (8, .iconst (-1), 1, [], (-1)) := (fm_161 8).trans rfl
theorem u_161_8 {S : Scr} {d : Nat} {a0 a1 a2 : AV} {st : List AV} {sh : Shp} {I : IM} {R : RM} : ev S d 161 8 [a0, a1, a2] st (sh, I, R) = ev S d 161 9 [a0, a1, a2] (.inl (-1) :: st) (sh, I, R) := (ev_eq f_161_8).trans rfl
theorem f_161_9 : fetch 161 9 = some (9, .ireturn, 1, [0], 0) := (fm_161 9).trans rfl
theorem u_161_9 {S : Scr} {d : Nat} {a0 a1 a2 : AV} {sh : Shp} {I : IM} {R : RM} {x : Int} : ev S d 161 9 [a0, a1, a2] [.inl x] (sh, I, R) = some (some (.inl x), (sh, I, R)) := (ev_eq f_161_9).trans fin_iret0
theorem f_161_10 : fetch 161 10 = some (10, .iload_n 2, 1, [2], 0) := (fm_161 10).trans rfl
theorem u_161_10 {S : Scr} {d : Nat} {a0 a1 : AV} {st : List AV} {sh : Shp} {I : IM} {R : RM} {x : Int} : ev S d 161 10 [a0, a1, .inl x] st (sh, I, R) = ev S d 161 11 [a0, a1, .inl x] (.inl x :: st) (sh, I, R) := (ev_eq f_161_10).trans rfl
theorem f_161_11 : fetch 161 11 = some (11, .tableswitch 95 0 4 #[33, 42, 52, 62, 68], 33, [106, 0, 44, 1, 53, 2, 63, 3, 73, 4, 79], 0) := (fm_161 11).trans rfl
theorem u_161_11 {S : Scr} {d : Nat} {a0 a1 a2 : AV} {st : List AV} {sh : Shp} {I : IM} {R : RM} {x : Int} : ev S d 161 11 [a0, a1, a2] (.inl x :: st) (sh, I, R) = if x = 0 then ev S d 161 44 [a0, a1, a2] st (sh, I, R) else if x = 1 then ev S d 161 53 [a0, a1, a2] st (sh, I, R) else if x = 2 then ev S d 161 63 [a0, a1, a2] st (sh, I, R) else if x = 3 then ev S d 161 73 [a0, a1, a2] st (sh, I, R) else if x = 4 then ev S d 161 79 [a0, a1, a2] st (sh, I, R) else ev S d 161 106 [a0, a1, a2] st (sh, I, R) := by
  rw [ev_eq f_161_11]
  show ev S d 161 (swt 106 x [0, 44, 1, 53, 2, 63, 3, 73, 4, 79]) _ _ _ = _
  rw [ev_sw, ev_sw, ev_sw, ev_sw, ev_sw, ev_sw0]
  rfl
theorem f_161_44 : fetch 161 44 = some (44, .aload_n 0, 1, [0], 0) := (fm_161 44).trans rfl
theorem u_161_44 {S : Scr} {d : Nat} {a1 a2 : AV} {st : List AV} {sh : Shp} {I : IM} {R : RM} {x : Nat} : ev S d 161 44 [.inr (.inl x), a1, a2] st (sh, I, R) = ev S d 161 45 [.inr (.inl x), a1, a2] (.inr (.inl x) :: st) (sh, I, R) := (ev_eq f_161_44).trans rfl
theorem f_161_45 : fetch 161 45 = some (45, .getfield 9, 3, [9, 0, 1, 79], 0) := (fm_161 45).trans rfl
theorem u_161_45 {S : Scr} {d : Nat} {a0 a1 a2 : AV} {st : List AV} {sh : Shp} {I : IM} {R : RM} {k : Nat} (h : tg sh k = 9) : ev S d 161 45 [a0, a1, a2] (.inr (.inl k) :: st) (sh, I, R) = ev S d 161 48 [a0, a1, a2] (rv (R k 0) :: st) (sh, I, R) := (ev_eq f_161_45).trans (congrArg (fin S d 161) (if_pos h))
theorem f_161_48 : fetch 161 48 = some (48, .iconst 0, 1, [], 0) := (fm_161 48).trans rfl
theorem u_161_48 {S : Scr} {d : Nat} {a0 a1 a2 : AV} {st : List AV} {sh : Shp} {I : IM} {R : RM} : ev S d 161 48 [a0, a1, a2] st (sh, I, R) = ev S d 161 49 [a0, a1, a2] (.inl 0 :: st) (sh, I, R) := (ev_eq f_161_48).trans rfl
theorem f_161_49 : fetch 161 49 = some (49, .iload_n 1, 1, [1], 0) := (fm_161 49).trans rfl
theorem u_161_49 {S : Scr} {d : Nat} {a0 a2 : AV} {st : List AV} {sh : Shp} {I : IM} {R : RM} {x : Int} : ev S d 161 49 [a0, .inl x, a2] st (sh, I, R) = ev S d 161 50 [a0, .inl x, a2] (.inl x :: st) (sh, I, R) := (ev_eq f_161_49).trans rfl
theorem f_161_50 : fetch 161 50 = some (50, .iadd, 1, [], 0) := (fm_161 50).trans rfl
theorem u_161_50 {S : Scr} {d : Nat} {a0 a1 a2 : AV} {st : List AV} {sh : Shp} {I : IM} {R : RM} {x y : Int} : ev S d 161 50 [a0, a1, a2] (.inl y :: .inl x :: st) (sh, I, R) = ev S d 161 51 [a0, a1, a2] (.inl (wr (x + y)) :: st) (sh, I, R) := (ev_eq f_161_50).trans rfl
theorem f_161_51 : fetch 161 51 = some (51, .iaload, 1, [], 0) := (fm_161 51).trans rfl
theorem u_161_51 {S : Scr} {d : Nat} {a0 a1 a2 : AV} {st : List AV} {sh : Shp} {I : IM} {R : RM} {k : Nat} {i : Int} (h : tg sh k = 100) (h0 : 0 ≤ i) (h1 : i < ln sh k) : ev S d 161 51 [a0, a1, a2] (.inl i :: .inr (.inl k) :: st) (sh, I, R) = ev S d 161 52 [a0, a1, a2] (.inl (I k i) :: st) (sh, I, R) := (ev_eq f_161_51).trans (congrArg (fin S d 161) (if_pos ⟨h, h0, h1⟩))
theorem f_161_52 : fetch 161 52 = some (52, .ireturn, 1, [0], 0) := (fm_161 52).trans rfl
theorem u_161_52 {S : Scr} {d : Nat} {a0 a1 a2 : AV} {sh : Shp} {I : IM} {R : RM} {x : Int} : ev S d 161 52 [a0, a1, a2] [.inl x] (sh, I, R) = some (some (.inl x), (sh, I, R)) := (ev_eq f_161_52).trans fin_iret0
theorem f_161_53 : fetch 161 53 = some (53, .aload_n 0, 1, [0], 0) := (fm_161 53).trans rfl
theorem u_161_53 {S : Scr} {d : Nat} {a1 a2 : AV} {st : List AV} {sh : Shp} {I : IM} {R : RM} {x : Nat} : ev S d 161 53 [.inr (.inl x), a1, a2] st (sh, I, R) = ev S d 161 54 [.inr (.inl x), a1, a2] (.inr (.inl x) :: st) (sh, I, R) := (ev_eq f_161_53).trans rfl
theorem f_161_54 : fetch 161 54 = some (54, .getfield 9, 3, [9, 0, 1, 79], 0) := (fm_161 54).trans rfl
theorem u_161_54 {S : Scr} {d : Nat} {a0 a1 a2 : AV} {st : List AV} {sh : Shp} {I : IM} {R : RM} {k : Nat} (h : tg sh k = 9) : ev S d 161 54 [a0, a1, a2] (.inr (.inl k) :: st) (sh, I, R) = ev S d 161 57 [a0, a1, a2] (rv (R k 0) :: st) (sh, I, R) := (ev_eq f_161_54).trans (congrArg (fin S d 161) (if_pos h))
theorem f_161_57 : fetch 161 57 = some (57, .bipush 90, 2, [], 90) := (fm_161 57).trans rfl
theorem u_161_57 {S : Scr} {d : Nat} {a0 a1 a2 : AV} {st : List AV} {sh : Shp} {I : IM} {R : RM} : ev S d 161 57 [a0, a1, a2] st (sh, I, R) = ev S d 161 59 [a0, a1, a2] (.inl 90 :: st) (sh, I, R) := (ev_eq f_161_57).trans rfl
theorem f_161_59 : fetch 161 59 = some (59, .iload_n 1, 1, [1], 0) := (fm_161 59).trans rfl
theorem u_161_59 {S : Scr} {d : Nat} {a0 a2 : AV} {st : List AV} {sh : Shp} {I : IM} {R : RM} {x : Int} : ev S d 161 59 [a0, .inl x, a2] st (sh, I, R) = ev S d 161 60 [a0, .inl x, a2] (.inl x :: st) (sh, I, R) := (ev_eq f_161_59).trans rfl
theorem f_161_60 : fetch 161 60 = some (60, .iadd, 1, [], 0) := (fm_161 60).trans rfl
theorem u_161_60 {S : Scr} {d : Nat} {a0 a1 a2 : AV} {st : List AV} {sh : Shp} {I : IM} {R : RM} {x y : Int} : ev S d 161 60 [a0, a1, a2] (.inl y :: .inl x :: st) (sh, I, R) = ev S d 161 61 [a0, a1, a2] (.inl (wr (x + y)) :: st) (sh, I, R) := (ev_eq f_161_60).trans rfl
theorem f_161_61 : fetch 161 61 = some (61, .iaload, 1, [], 0) := (fm_161 61).trans rfl
theorem u_161_61 {S : Scr} {d : Nat} {a0 a1 a2 : AV} {st : List AV} {sh : Shp} {I : IM} {R : RM} {k : Nat} {i : Int} (h : tg sh k = 100) (h0 : 0 ≤ i) (h1 : i < ln sh k) : ev S d 161 61 [a0, a1, a2] (.inl i :: .inr (.inl k) :: st) (sh, I, R) = ev S d 161 62 [a0, a1, a2] (.inl (I k i) :: st) (sh, I, R) := (ev_eq f_161_61).trans (congrArg (fin S d 161) (if_pos ⟨h, h0, h1⟩))
theorem f_161_62 : fetch 161 62 = some (62, .ireturn, 1, [0], 0) := (fm_161 62).trans rfl
theorem u_161_62 {S : Scr} {d : Nat} {a0 a1 a2 : AV} {sh : Shp} {I : IM} {R : RM} {x : Int} : ev S d 161 62 [a0, a1, a2] [.inl x] (sh, I, R) = some (some (.inl x), (sh, I, R)) := (ev_eq f_161_62).trans fin_iret0
theorem f_161_63 : fetch 161 63 = some (63, .aload_n 0, 1, [0], 0) := (fm_161 63).trans rfl
theorem u_161_63 {S : Scr} {d : Nat} {a1 a2 : AV} {st : List AV} {sh : Shp} {I : IM} {R : RM} {x : Nat} : ev S d 161 63 [.inr (.inl x), a1, a2] st (sh, I, R) = ev S d 161 64 [.inr (.inl x), a1, a2] (.inr (.inl x) :: st) (sh, I, R) := (ev_eq f_161_63).trans rfl
theorem f_161_64 : fetch 161 64 = some (64, .getfield 9, 3, [9, 0, 1, 79], 0) := (fm_161 64).trans rfl
theorem u_161_64 {S : Scr} {d : Nat} {a0 a1 a2 : AV} {st : List AV} {sh : Shp} {I : IM} {R : RM} {k : Nat} (h : tg sh k = 9) : ev S d 161 64 [a0, a1, a2] (.inr (.inl k) :: st) (sh, I, R) = ev S d 161 67 [a0, a1, a2] (rv (R k 0) :: st) (sh, I, R) := (ev_eq f_161_64).trans (congrArg (fin S d 161) (if_pos h))
theorem f_161_67 : fetch 161 67 = some (67, .bipush 60, 2, [], 60) := (fm_161 67).trans rfl
theorem u_161_67 {S : Scr} {d : Nat} {a0 a1 a2 : AV} {st : List AV} {sh : Shp} {I : IM} {R : RM} : ev S d 161 67 [a0, a1, a2] st (sh, I, R) = ev S d 161 69 [a0, a1, a2] (.inl 60 :: st) (sh, I, R) := (ev_eq f_161_67).trans rfl
theorem f_161_69 : fetch 161 69 = some (69, .iload_n 1, 1, [1], 0) := (fm_161 69).trans rfl
theorem u_161_69 {S : Scr} {d : Nat} {a0 a2 : AV} {st : List AV} {sh : Shp} {I : IM} {R : RM} {x : Int} : ev S d 161 69 [a0, .inl x, a2] st (sh, I, R) = ev S d 161 70 [a0, .inl x, a2] (.inl x :: st) (sh, I, R) := (ev_eq f_161_69).trans rfl
theorem f_161_70 : fetch 161 70 = some (70, .iadd, 1, [], 0) := (fm_161 70).trans rfl
theorem u_161_70 {S : Scr} {d : Nat} {a0 a1 a2 : AV} {st : List AV} {sh : Shp} {I : IM} {R : RM} {x y : Int} : ev S d 161 70 [a0, a1, a2] (.inl y :: .inl x :: st) (sh, I, R) = ev S d 161 71 [a0, a1, a2] (.inl (wr (x + y)) :: st) (sh, I, R) := (ev_eq f_161_70).trans rfl
theorem f_161_71 : fetch 161 71 = some (71, .iaload, 1, [], 0) := (fm_161 71).trans rfl
theorem u_161_71 {S : Scr} {d : Nat} {a0 a1 a2 : AV} {st : List AV} {sh : Shp} {I : IM} {R : RM} {k : Nat} {i : Int} (h : tg sh k = 100) (h0 : 0 ≤ i) (h1 : i < ln sh k) : ev S d 161 71 [a0, a1, a2] (.inl i :: .inr (.inl k) :: st) (sh, I, R) = ev S d 161 72 [a0, a1, a2] (.inl (I k i) :: st) (sh, I, R) := (ev_eq f_161_71).trans (congrArg (fin S d 161) (if_pos ⟨h, h0, h1⟩))
theorem f_161_72 : fetch 161 72 = some (72, .ireturn, 1, [0], 0) := (fm_161 72).trans rfl
theorem u_161_72 {S : Scr} {d : Nat} {a0 a1 a2 : AV} {sh : Shp} {I : IM} {R : RM} {x : Int} : ev S d 161 72 [a0, a1, a2] [.inl x] (sh, I, R) = some (some (.inl x), (sh, I, R)) := (ev_eq f_161_72).trans fin_iret0
theorem f_161_73 : fetch 161 73 = some (73, .aload_n 0, 1, [0], 0) := (fm_161 73).trans rfl
theorem u_161_73 {S : Scr} {d : Nat} {a1 a2 : AV} {st : List AV} {sh : Shp} {I : IM} {R : RM} {x : Nat} : ev S d 161 73 [.inr (.inl x), a1, a2] st (sh, I, R) = ev S d 161 74 [.inr (.inl x), a1, a2] (.inr (.inl x) :: st) (sh, I, R) := (ev_eq f_161_73).trans rfl
theorem f_161_74 : fetch 161 74 = some (74, .iload_n 1, 1, [1], 0) := (fm_161 74).trans rfl
theorem u_161_74 {S : Scr} {d : Nat} {a0 a2 : AV} {st : List AV} {sh : Shp} {I : IM} {R : RM} {x : Int} : ev S d 161 74 [a0, .inl x, a2] st (sh, I, R) = ev S d 161 75 [a0, .inl x, a2] (.inl x :: st) (sh, I, R) := (ev_eq f_161_74).trans rfl
theorem f_161_75 : fetch 161 75 = some (75, .invokevirtual 134, 3, [160, 1, 145], 0) := (fm_161 75).trans rfl
theorem u_161_75 {S : Scr} {d : Nat} {a0 a1 a2 : AV} {st : List AV} {sh : Shp} {I : IM} {R : RM} {x0 : Int} {k : Nat} (h : tg sh k = 9) (hr : st.length ≤ 8) : ev S d 161 75 [a0, a1, a2] (.inl x0 :: .inr (.inl k) :: st) (sh, I, R) = bnd (cl d 160 [.inr (.inl k), .inl x0] (sh, I, R)) (fun v M => ev S d 161 78 [a0, a1, a2] (psh v st) M) := (ev_eq f_161_75).trans (congrArg (fin S d 161) (if_pos ⟨h, rfl, hr⟩))
theorem f_161_78 : fetch 161 78 = some (78, .ireturn, 1, [0], 0) := (fm_161 78).trans rfl
theorem u_161_78 {S : Scr} {d : Nat} {a0 a1 a2 : AV} {sh : Shp} {I : IM} {R : RM} {x : Int} : ev S d 161 78 [a0, a1, a2] [.inl x] (sh, I, R) = some (some (.inl x), (sh, I, R)) := (ev_eq f_161_78).trans fin_iret0
theorem f_161_79 : fetch 161 79 = some (79, .aload_n 0, 1, [0], 0) := (fm_161 79).trans rfl
theorem u_161_79 {S : Scr} {d : Nat} {a1 a2 : AV} {st : List AV} {sh : Shp} {I : IM} {R : RM} {x : Nat} : ev S d 161 79 [.inr (.inl x), a1, a2] st (sh, I, R) = ev S d 161 80 [.inr (.inl x), a1, a2] (.inr (.inl x) :: st) (sh, I, R) := (ev_eq f_161_79).trans rfl
theorem f_161_80 : fetch 161 80 = some (80, .getfield 9, 3, [9, 0, 1, 79], 0) := (fm_161 80).trans rfl
theorem u_161_80 {S : Scr} {d : Nat} {a0 a1 a2 : AV} {st : List AV} {sh : Shp} {I : IM} {R : RM} {k : Nat} (h : tg sh k = 9) : ev S d 161 80 [a0, a1, a2] (.inr (.inl k) :: st) (sh, I, R) = ev S d 161 83 [a0, a1, a2] (rv (R k 0) :: st) (sh, I, R) := (ev_eq f_161_80).trans (congrArg (fin S d 161) (if_pos h))
theorem f_161_83 : fetch 161 83 = some (83, .iconst 0, 1, [], 0) := (fm_161 83).trans rfl
theorem u_161_83 {S : Scr} {d : Nat} {a0 a1 a2 : AV} {st : List AV} {sh : Shp} {I : IM} {R : RM} : ev S d 161 83 [a0, a1, a2] st (sh, I, R) = ev S d 161 84 [a0, a1, a2] (.inl 0 :: st) (sh, I, R) := (ev_eq f_161_83).trans rfl
theorem f_161_84 : fetch 161 84 = some (84, .iload_n 1, 1, [1], 0) := (fm_161 84).trans rfl
theorem u_161_84 {S : Scr} {d : Nat} {a0 a2 : AV} {st : List AV} {sh : Shp} {I : IM} {R : RM} {x : Int} : ev S d 161 84 [a0, .inl x, a2] st (sh, I, R) = ev S d 161 85 [a0, .inl x, a2] (.inl x :: st) (sh, I, R) := (ev_eq f_161_84).trans rfl
theorem f_161_85 : fetch 161 85 = some (85, .iadd, 1, [], 0) := (fm_161 85).trans rfl
theorem u_161_85 {S : Scr} {d : Nat} {a0 a1 a2 : AV} {st : List AV} {sh : Shp} {I : IM} {R : RM} {x y : Int} : ev S d 161 85 [a0, a1, a2] (.inl y :: .inl x :: st) (sh, I, R) = ev S d 161 86 [a0, a1, a2] (.inl (wr (x + y)) :: st) (sh, I, R) := (ev_eq f_161_85).trans rfl
theorem f_161_86 : fetch 161 86 = some (86, .iaload, 1, [], 0) := (fm_161 86).trans rfl
theorem u_161_86 {S : Scr} {d : Nat} {a0 a1 a2 : AV} {st : List AV} {sh : Shp} {I : IM} {R : RM} {k : Nat} {i : Int} (h : tg sh k = 100) (h0 : 0 ≤ i) (h1 : i < ln sh k) : ev S d 161 86 [a0, a1, a2] (.inl i :: .inr (.inl k) :: st) (sh, I, R) = ev S d 161 87 [a0, a1, a2] (.inl (I k i) :: st) (sh, I, R) := (ev_eq f_161_86).trans (congrArg (fin S d 161) (if_pos ⟨h, h0, h1⟩))
theorem f_161_87 : fetch 161 87 = some (87, .iconst 4, 1, [], 4) := (fm_161 87).trans rfl
theorem u_161_87 {S : Scr} {d : Nat} {a0 a1 a2 : AV} {st : List AV} {sh : Shp} {I : IM} {R : RM} : ev S d 161 87 [a0, a1, a2] st (sh, I, R) = ev S d 161 88 [a0, a1, a2] (.inl 4 :: st) (sh, I, R) := (ev_eq f_161_87).trans rfl
theorem f_161_88 : fetch 161 88 = some (88, .if_icmp .ne 15, 3, [103], 0) := (fm_161 88).trans rfl
theorem u_161_88 {S : Scr} {d : Nat} {a0 a1 a2 : AV} {st : List AV} {sh : Shp} {I : IM} {R : RM} {x y : Int} : ev S d 161 88 [a0, a1, a2] (.inl y :: .inl x :: st) (sh, I, R) = if ¬ x = y then ev S d 161 103 [a0, a1, a2] st (sh, I, R) else ev S d 161 91 [a0, a1, a2] st (sh, I, R) := (ev_eq f_161_88).trans fin_icmp_ne
theorem f_161_91 : fetch 161 91 = some (91, .aload_n 0, 1, [0], 0) := (fm_161 91).trans rfl
theorem u_161_91 {S : Scr} {d : Nat} {a1 a2 : AV} {st : List AV} {sh : Shp} {I : IM} {R : RM} {x : Nat} : ev S d 161 91 [.inr (.inl x), a1, a2] st (sh, I, R) = ev S d 161 92 [.inr (.inl x), a1, a2] (.inr (.inl x) :: st) (sh, I, R) := (ev_eq f_161_91).trans rfl
theorem f_161_92 : fetch 161 92 = some (92, .getfield 9, 3, [9, 0, 1, 79], 0) := (fm_161 92).trans rfl
theorem u_161_92 {S : Scr} {d : Nat} {a0 a1 a2 : AV} {st : List AV} {sh : Shp} {I : IM} {R : RM} {k : Nat} (h : tg sh k = 9) : ev S d 161 92 [a0, a1, a2] (.inr (.inl k) :: st) (sh, I, R) = ev S d 161 95 [a0, a1, a2] (rv (R k 0) :: st) (sh, I, R) := (ev_eq f_161_92).trans (congrArg (fin S d 161) (if_pos h))
theorem f_161_95 : fetch 161 95 = some (95, .bipush 30, 2, [], 30) := (fm_161 95).trans rfl
theorem u_161_95 {S : Scr} {d : Nat} {a0 a1 a2 : AV} {st : List AV} {sh : Shp} {I : IM} {R : RM} : ev S d 161 95 [a0, a1, a2] st (sh, I, R) = ev S d 161 97 [a0, a1, a2] (.inl 30 :: st) (sh, I, R) := (ev_eq f_161_95).trans rfl
theorem f_161_97 : fetch 161 97 = some (97, .iload_n 1, 1, [1], 0) := (fm_161 97).trans rfl
theorem u_161_97 {S : Scr} {d : Nat} {a0 a2 : AV} {st : List AV} {sh : Shp} {I : IM} {R : RM} {x : Int} : ev S d 161 97 [a0, .inl x, a2] st (sh, I, R) = ev S d 161 98 [a0, .inl x, a2] (.inl x :: st) (sh, I, R) := (ev_eq f_161_97).trans rfl
theorem f_161_98 : fetch 161 98 = some (98, .iadd, 1, [], 0) := (fm_161 98).trans rfl
theorem u_161_98 {S : Scr} {d : Nat} {a0 a1 a2 : AV} {st : List AV} {sh : Shp} {I : IM} {R : RM} {x y : Int} : ev S d 161 98 [a0, a1, a2] (.inl y :: .inl x :: st) (sh, I, R) = ev S d 161 99 [a0, a1, a2] (.inl (wr (x + y)) :: st) (sh, I, R) := (ev_eq f_161_98).trans rfl
theorem f_161_99 : fetch 161 99 = some (99, .iaload, 1, [], 0) := (fm_161 99).trans rfl
theorem u_161_99 {S : Scr} {d : Nat} {a0 a1 a2 : AV} {st : List AV} {sh : Shp} {I : IM} {R : RM} {k : Nat} {i : Int} (h : tg sh k = 100) (h0 : 0 ≤ i) (h1 : i < ln sh k) : ev S d 161 99 [a0, a1, a2] (.inl i :: .inr (.inl k) :: st) (sh, I, R) = ev S d 161 100 [a0, a1, a2] (.inl (I k i) :: st) (sh, I, R) := (ev_eq f_161_99).trans (congrArg (fin S d 161) (if_pos ⟨h, h0, h1⟩))
theorem f_161_100 : fetch 161 100 = some (100, .goto 5, 3, [105], 0) := (fm_161 100).trans rfl
theorem u_161_100 {S : Scr} {d : Nat} {a0 a1 a2 : AV} {st : List AV} {sh : Shp} {I : IM} {R : RM} : ev S d 161 100 [a0, a1, a2] st (sh, I, R) = ev S d 161 105 [a0, a1, a2] st (sh, I, R) := (ev_eq f_161_100).trans rfl
theorem f_161_103 : fetch 161 103 = some (103, .bipush (-2), 2, [], (-2)) := (fm_161 103).trans rfl
theorem u_161_103 {S : Scr} {d : Nat} {a0 a1 a2 : AV} {st : List AV} {sh : Shp} {I : IM} {R : RM} : ev S d 161 103 [a0, a1, a2] st (sh, I, R) = ev S d 161 105 [a0, a1, a2] (.inl (-2) :: st) (sh, I, R) := (ev_eq f_161_103).trans rfl
theorem f_161_105 : fetch 161 105 = some (105, .ireturn, 1, [0], 0) := (fm_161 105).trans rfl
theorem u_161_105 {S : Scr} {d : Nat} {a0 a1 a2 : AV} {sh : Shp} {I : IM} {R : RM} {x : Int} : ev S d 161 105 [a0, a1, a2] [.inl x] (sh, I, R) = some (some (.inl x), (sh, I, R)) := (ev_eq f_161_105).trans fin_iret0
theorem f_161_106 : fetch 161 106 = some (106, .iconst (-1), 1, [], (-1)) := (fm_161 106).trans rfl
theorem u_161_106 {S : Scr} {d : Nat} {a0 a1 a2 : AV} {st : List AV} {sh : Shp} {I : IM} {R : RM} : ev S d 161 106 [a0, a1, a2] st (sh, I, R) = ev S d 161 107 [a0, a1, a2] (.inl (-1) :: st) (sh, I, R) := (ev_eq f_161_106).trans rfl
theorem f_161_107 : fetch 161 107 = some (107, .ireturn, 1, [0], 0) := (fm_161 107).trans rfl
theorem u_161_107 {S : Scr} {d : Nat} {a0 a1 a2 : AV} {sh : Shp} {I : IM} {R : RM} {x : Int} : ev S d 161 107 [a0, a1, a2] [.inl x] (sh, I, R) = some (some (.inl x), (sh, I, R)) := (ev_eq f_161_107).trans fin_iret0
theorem c_162 {d : Nat} {a0 a1 a2 : AV} {M : Mem} : cl (d + 1) 162 [a0, a1, a2] M = ev S0 d 162 0 [a0, a1, a2] [] M := (cl_eq (as := [a0, a1, a2]) (show 3 ≤ maxOf 162 by decide +kernel)).trans rfl
theorem mt_162 : MT[162]? = some m_162 := rfl
theorem fm_162 (pc : Nat) : fetch 162 pc = lk m_162.2.2.2.2.2 pc := by
  unfold fetch
  rw [mt_162]
theorem f_162_0 : fetch 162 0 = some (0, .aload_n 0, 1, [0], 0) := (fm_162 0).trans rfl
theorem u_162_0 {S : Scr} {d : Nat} {a1 a2 : AV} {st : List AV} {sh : Shp} {I : IM} {R : RM} {x : Nat} : ev S d 162 0 [.inr (.inl x), a1, a2] st (sh, I, R) = ev S d 162 1 [.inr (.inl x), a1, a2] (.inr (.inl x) :: st) (sh, I, R) := (ev_eq f_162_0).trans rfl
theorem f_162_1 : fetch 162 1 = some (1, .iload_n 1, 1, [1], 0) := (fm_162 1).trans rfl
theorem u_162_1 {S : Scr} {d : Nat} {a0 a2 : AV} {st : List AV} {sh : Shp} {I : IM} {R : RM} {x : Int} : ev S d 162 1 [a0, .inl x, a2] st (sh, I, R) = ev S d 162 2 [a0, .inl x, a2] (.inl x :: st) (sh, I, R) := (ev_eq f_162_1).trans rfl
theorem f_162_2 : fetch 162 2 = some (2, .invokevirtual 68, 3, [133, 1, 126], 0) := (fm_162 2).trans rfl
theorem u_162_2 {S : Scr} {d : Nat} {a0 a1 a2 : AV} {st : List AV} {sh : Shp} {I : IM} {R : RM} {x0 : Int} {k : Nat} (h : tg sh k = 9) (hr : st.length ≤ 8) : ev S d 162 2 [a0, a1, a2] (.inl x0 :: .inr (.inl k) :: st) (sh, I, R) = bnd (cl d 133 [.inr (.inl k), .inl x0] (sh, I, R)) (fun v M => ev S d 162 5 [a0, a1, a2] (psh v st) M) := (ev_eq f_162_2).trans (congrArg (fin S d 162) (if_pos ⟨h, rfl, hr⟩))
theorem f_162_5 : fetch 162 5 = some (5, .ifCond .eq 7, 3, [12], 0) := (fm_162 5).trans rfl
theorem u_162_5 {S : Scr} {d : Nat} {a0 a1 a2 : AV} {st : List AV} {sh : Shp} {I : IM} {R : RM} {x : Int} : ev S d 162 5 [a0, a1, a2] (.inl x :: st) (sh, I, R) = if x = 0 then ev S d 162 12 [a0, a1, a2] st (sh, I, R) else ev S d 162 8 [a0, a1, a2] st (sh, I, R) := (ev_eq f_162_5).trans fin_if_eq
theorem f_162_8 : fetch 162 8 = some (8, .iload_n 2, 1, [2], 0) := (fm_162 8).trans rfl
theorem u_162_8 {S : Scr} {d : Nat} {a0 a1 : AV} {st : List AV} {sh : Shp} {I : IM} {R : RM} {x : Int} : ev S d 162 8 [a0, a1, .inl x] st (sh, I, R) = ev S d 162 9 [a0, a1, .inl x] (.inl x :: st) (sh, I, R) := (ev_eq f_162_8).trans rfl
theorem f_162_9 : fetch 162 9 = some (9, .ifCond .ge 5, 3, [14], 0) := (fm_162 9).trans rfl
theorem u_162_9 {S : Scr} {d : Nat} {a0 a1 a2 : AV} {st : List AV} {sh : Shp} {I : IM} {R : RM} {x : Int} : ev S d 162 9 [a0, a1, a2] (.inl x :: st) (sh, I, R) = if 0 ≤ x then ev S d 162 14 [a0, a1, a2] st (sh, I, R) else ev S d 162 12 [a0, a1, a2] st (sh, I, R) := (ev_eq f_162_9).trans fin_if_ge
theorem f_162_12 : fetch 162 12 = some (12, .iconst (-1), 1, [], (-1)) := (fm_162 12).trans rfl
theorem u_162_12 {S : Scr} {d : Nat} {a0 a1 a2 : AV} {st : List AV} {sh : Shp} {I : IM} {R : RM} : ev S d 162 12 [a0, a1, a2] st (sh, I, R) = ev S d 162 13 [a0, a1, a2] (.inl (-1) :: st) (sh, I, R) := (ev_eq f_162_12).trans rfl
theorem f_162_13 : fetch 162 13 = some (13, .ireturn, 1, [0], 0) := (fm_162 13).trans rfl
theorem u_162_13 {S : Scr} {d : Nat} {a0 a1 a2 : AV} {sh : Shp} {I : IM} {R : RM} {x : Int} : ev S d 162 13 [a0, a1, a2] [.inl x] (sh, I, R) = some (some (.inl x), (sh, I, R)) := (ev_eq f_162_13).trans fin_iret0
theorem f_162_14 : fetch 162 14 = some (14, .aload_n 0, 1, [0], 0) := (fm_162 14).trans rfl
theorem u_162_14 {S : Scr} {d : Nat} {a1 a2 : AV} {st : List AV} {sh : Shp} {I : IM} {R : RM} {x : Nat} : ev S d 162 14 [.inr (.inl x), a1, a2] st (sh, I, R) = ev S d 162 15 [.inr (.inl x), a1, a2] (.inr (.inl x) :: st) (sh, I, R) := (ev_eq f_162_14).trans rfl
theorem f_162_15 : fetch 162 15 = some (15, .getfield 9, 3, [9, 0, 1, 79], 0) := (fm_162 15).trans rfl
theorem u_162_15 {S : Scr} {d : Nat} {a0 a1 a2 : AV} {st : List AV} {sh : Shp} {I : IM} {R : RM} {k : Nat} (h : tg sh k = 9) : ev S d 162 15 [a0, a1, a2] (.inr (.inl k) :: st) (sh, I, R) = ev S d 162 18 [a0, a1, a2] (rv (R k 0) :: st) (sh, I, R) := (ev_eq f_162_15).trans (congrArg (fin S d 162) (if_pos h))
theorem f_162_18 : fetch 162 18 = some (18, .iconst 0, 1, [], 0) := (fm_162 18).trans rfl
theorem u_162_18 {S : Scr} {d : Nat} {a0 a1 a2 : AV} {st : List AV} {sh : Shp} {I : IM} {R : RM} : ev S d 162 18 [a0, a1, a2] st (sh, I, R) = ev S d 162 19 [a0, a1, a2] (.inl 0 :: st) (sh, I, R) := (ev_eq f_162_18).trans rfl
theorem f_162_19 : fetch 162 19 = some (19, .iload_n 1, 1, [1], 0) := (fm_162 19).trans rfl
theorem u_162_19 {S : Scr} {d : Nat} {a0 a2 : AV} {st : List AV} {sh : Shp} {I : IM} {R : RM} {x : Int} : ev S d 162 19 [a0, .inl x, a2] st (sh, I, R) = ev S d 162 20 [a0, .inl x, a2] (.inl x :: st) (sh, I, R) := (ev_eq f_162_19).trans rfl
theorem f_162_20 : fetch 162 20 = some (20, .iadd, 1, [], 0) := (fm_162 20).trans rfl
theorem u_162_20 {S : Scr} {d : Nat} {a0 a1 a2 : AV} {st : List AV} {sh : Shp} {I : IM} {R : RM} {x y : Int} : ev S d 162 20 [a0, a1, a2] (.inl y :: .inl x :: st) (sh, I, R) = ev S d 162 21 [a0, a1, a2] (.inl (wr (x + y)) :: st) (sh, I, R) := (ev_eq f_162_20).trans rfl
theorem f_162_21 : fetch 162 21 = some (21, .iaload, 1, [], 0) := (fm_162 21).trans rfl
theorem u_162_21 {S : Scr} {d : Nat} {a0 a1 a2 : AV} {st : List AV} {sh : Shp} {I : IM} {R : RM} {k : Nat} {i : Int} (h : tg sh k = 100) (h0 : 0 ≤ i) (h1 : i < ln sh k) : ev S d 162 21 [a0, a1, a2] (.inl i :: .inr (.inl k) :: st) (sh, I, R) = ev S d 162 22 [a0, a1, a2] (.inl (I k i) :: st) (sh, I, R) := (ev_eq f_162_21).trans (congrArg (fin S d 162) (if_pos ⟨h, h0, h1⟩))
theorem f_162_22 : fetch 162 22 = some (22, .iconst 4, 1, [], 4) := (fm_162 22).trans rfl
theorem u_162_22 {S : Scr} {d : Nat} {a0 a1 a2 : AV} {st : List AV} {sh : Shp} {I : IM} {R : RM} : ev S d 162 22 [a0, a1, a2] st (sh, I, R) = ev S d 162 23 [a0, a1, a2] (.inl 4 :: st) (sh, I, R) := (ev_eq f_162_22).trans rfl
theorem f_162_23 : fetch 162 23 = some (23, .if_icmp .ne 6, 3, [29], 0) := (fm_162 23).trans rfl
theorem u_162_23 {S : Scr} {d : Nat} {a0 a1 a2 : AV} {st : List AV} {sh : Shp} {I : IM} {R : RM} {x y : Int} : ev S d 162 23 [a0, a1, a2] (.inl y :: .inl x :: st) (sh, I, R) = if ¬ x = y then ev S d 162 29 [a0, a1, a2] st (sh, I, R) else ev S d 162 26 [a0, a1, a2] st (sh, I, R) := (ev_eq f_162_23).trans fin_icmp_ne
theorem f_162_26 : fetch 162 26 = some (26, .bipush (-12), 2, [], (-12)) := (fm_162 26).trans rfl
theorem u_162_26 {S : Scr} {d : Nat} {a0 a1 a2 : AV} {st : List AV} {sh : Shp} {I : IM} {R : RM} : ev S d 162 26 [a0, a1, a2] st (sh, I, R) = ev S d 162 28 [a0, a1, a2] (.inl (-12) :: st) (sh, I, R) := (ev_eq f_162_26).trans rfl
theorem f_162_28 : fetch 162 28 = some (28, .ireturn, 1, [0], 0) := (fm_162 28).trans rfl
theorem u_162_28 {S : Scr} {d : Nat} {a0 a1 a2 : AV} {sh : Shp} {I : IM} {R : RM} {x : Int} : ev S d 162 28 [a0, a1, a2] [.inl x] (sh, I, R) = some (some (.inl x), (sh, I, R)) := (ev_eq f_162_28).trans fin_iret0
theorem f_162_29 : fetch 162 29 = some (29, .iload_n 2, 1, [2], 0) := (fm_162 29).trans rfl
theorem u_162_29 {S : Scr} {d : Nat} {a0 a1 : AV} {st : List AV} {sh : Shp} {I : IM} {R : RM} {x : Int} : ev S d 162 29 [a0, a1, .inl x] st (sh, I, R) = ev S d 162 30 [a0, a1, .inl x] (.inl x :: st) (sh, I, R) := (ev_eq f_162_29).trans rfl
theorem f_162_30 : fetch 162 30 = some (30, .aload_n 0, 1, [0], 0) := (fm_162 30).trans rfl
theorem u_162_30 {S : Scr} {d : Nat} {a1 a2 : AV} {st : List AV} {sh : Shp} {I : IM} {R : RM} {x : Nat} : ev S d 162 30 [.inr (.inl x), a1, a2] st (sh, I, R) = ev S d 162 31 [.inr (.inl x), a1, a2] (.inr (.inl x) :: st) (sh, I, R) := (ev_eq f_162_30).trans rfl
theorem f_162_31 : fetch 162 31 = some (31, .getfield 9, 3, [9, 0, 1, 79], 0) := (fm_162 31).trans rfl
theorem u_162_31 {S : Scr} {d : Nat} {a0 a1 a2 : AV} {st : List AV} {sh : Shp} {I : IM} {R : RM} {k : Nat} (h : tg sh k = 9) : ev S d 162 31 [a0, a1, a2] (.inr (.inl k) :: st) (sh, I, R) = ev S d 162 34 [a0, a1, a2] (rv (R k 0) :: st) (sh, I, R) := (ev_eq f_162_31).trans (congrArg (fin S d 162) (if_pos h))
theorem f_162_34 : fetch 162 34 = some (34, .bipush 90, 2, [], 90) := (fm_162 34).trans rfl
theorem u_162_34 {S : Scr} {d : Nat} {a0 a1 a2 : AV} {st : List AV} {sh : Shp} {I : IM} {R : RM} : ev S d 162 34 [a0, a1, a2] st (sh, I, R) = ev S d 162 36 [a0, a1, a2] (.inl 90 :: st) (sh, I, R) := (ev_eq f_162_34).trans rfl
theorem f_162_36 : fetch 162 36 = some (36, .iload_n 1, 1, [1], 0) := (fm_162 36).trans rfl
theorem u_162_36 {S : Scr} {d : Nat} {a0 a2 : AV} {st : List AV} {sh : Shp} {I : IM} {R : RM} {x : Int} : ev S d 162 36 [a0, .inl x, a2] st (sh, I, R) = ev S d 162 37 [a0, .inl x, a2] (.inl x :: st) (sh, I, R) := (ev_eq f_162_36).trans rfl
theorem f_162_37 : fetch 162 37 = some (37, .iadd, 1, [], 0) := (fm_162 37).trans rfl
theorem u_162_37 {S : Scr} {d : Nat} {a0 a1 a2 : AV} {st : List AV} {sh : Shp} {I : IM} {R : RM} {x y : Int} : ev S d 162 37 [a0, a1, a2] (.inl y :: .inl x :: st) (sh, I, R) = ev S d 162 38 [a0, a1, a2] (.inl (wr (x + y)) :: st) (sh, I, R) := (ev_eq f_162_37).trans rfl
theorem f_162_38 : fetch 162 38 = some (38, .iaload, 1, [], 0) := (fm_162 38).trans rfl
theorem u_162_38 {S : Scr} {d : Nat} {a0 a1 a2 : AV} {st : List AV} {sh : Shp} {I : IM} {R : RM} {k : Nat} {i : Int} (h : tg sh k = 100) (h0 : 0 ≤ i) (h1 : i < ln sh k) : ev S d 162 38 [a0, a1, a2] (.inl i :: .inr (.inl k) :: st) (sh, I, R) = ev S d 162 39 [a0, a1, a2] (.inl (I k i) :: st) (sh, I, R) := (ev_eq f_162_38).trans (congrArg (fin S d 162) (if_pos ⟨h, h0, h1⟩))
theorem f_162_39 : fetch 162 39 = some (39, .if_icmp .ge 20, 3, [59], 0) := (fm_162 39).trans rfl
theorem u_162_39 {S : Scr} {d : Nat} {a0 a1 a2 : AV} {st : List AV} {sh : Shp} {I : IM} {R : RM} {x y : Int} : ev S d 162 39 [a0, a1, a2] (.inl y :: .inl x :: st) (sh, I, R) = if y ≤ x then ev S d 162 59 [a0, a1, a2] st (sh, I, R) else ev S d 162 42 [a0, a1, a2] st (sh, I, R) := (ev_eq f_162_39).trans fin_icmp_ge
theorem f_162_42 : fetch 162 42 = some (42, .aload_n 0, 1, [0], 0) := (fm_162 42).trans rfl
theorem u_162_42 {S : Scr} {d : Nat} {a1 a2 : AV} {st : List AV} {sh : Shp} {I : IM} {R : RM} {x : Nat} : ev S d 162 42 [.inr (.inl x), a1, a2] st (sh, I, R) = ev S d 162 43 [.inr (.inl x), a1, a2] (.inr (.inl x) :: st) (sh, I, R) := (ev_eq f_162_42).trans rfl
theorem f_162_43 : fetch 162 43 = some (43, .getfield 9, 3, [9, 0, 1, 79], 0) := (fm_162 43).trans rfl
theorem u_162_43 {S : Scr} {d : Nat} {a0 a1 a2 : AV} {st : List AV} {sh : Shp} {I : IM} {R : RM} {k : Nat} (h : tg sh k = 9) : ev S d 162 43 [a0, a1, a2] (.inr (.inl k) :: st) (sh, I, R) = ev S d 162 46 [a0, a1, a2] (rv (R k 0) :: st) (sh, I, R) := (ev_eq f_162_43).trans (congrArg (fin S d 162) (if_pos h))
theorem f_162_46 : fetch 162 46 = some (46, .bipush 120, 2, [], 120) := (fm_162 46).trans rfl
theorem u_162_46 {S : Scr} {d : Nat} {a0 a1 a2 : AV} {st : List AV} {sh : Shp} {I : IM} {R : RM} : ev S d 162 46 [a0, a1, a2] st (sh, I, R) = ev S d 162 48 [a0, a1, a2] (.inl 120 :: st) (sh, I, R) := (ev_eq f_162_46).trans rfl
theorem f_162_48 : fetch 162 48 = some (48, .bipush 6, 2, [], 6) := (fm_162 48).trans rfl
theorem u_162_48 {S : Scr} {d : Nat} {a0 a1 a2 : AV} {st : List AV} {sh : Shp} {I : IM} {R : RM} : ev S d 162 48 [a0, a1, a2] st (sh, I, R) = ev S d 162 50 [a0, a1, a2] (.inl 6 :: st) (sh, I, R) := (ev_eq f_162_48).trans rfl
theorem f_162_50 : fetch 162 50 = some (50, .iload_n 1, 1, [1], 0) := (fm_162 50).trans rfl
theorem u_162_50 {S : Scr} {d : Nat} {a0 a2 : AV} {st : List AV} {sh : Shp} {I : IM} {R : RM} {x : Int} : ev S d 162 50 [a0, .inl x, a2] st (sh, I, R) = ev S d 162 51 [a0, .inl x, a2] (.inl x :: st) (sh, I, R) := (ev_eq f_162_50).trans rfl
theorem f_162_51 : fetch 162 51 = some (51, .imul, 1, [], 0) := (fm_162 51).trans rfl
theorem u_162_51 {S : Scr} {d : Nat} {a0 a1 a2 : AV} {st : List AV} {sh : Shp} {I : IM} {R : RM} {x y : Int} : ev S d 162 51 [a0, a1, a2] (.inl y :: .inl x :: st) (sh, I, R) = ev S d 162 52 [a0, a1, a2] (.inl (wr (x * y)) :: st) (sh, I, R) := (ev_eq f_162_51).trans rfl
theorem f_162_52 : fetch 162 52 = some (52, .iadd, 1, [], 0) := (fm_162 52).trans rfl
theorem u_162_52 {S : Scr} {d : Nat} {a0 a1 a2 : AV} {st : List AV} {sh : Shp} {I : IM} {R : RM} {x y : Int} : ev S d 162 52 [a0, a1, a2] (.inl y :: .inl x :: st) (sh, I, R) = ev S d 162 53 [a0, a1, a2] (.inl (wr (x + y)) :: st) (sh, I, R) := (ev_eq f_162_52).trans rfl
theorem f_162_53 : fetch 162 53 = some (53, .iload_n 2, 1, [2], 0) := (fm_162 53).trans rfl
theorem u_162_53 {S : Scr} {d : Nat} {a0 a1 : AV} {st : List AV} {sh : Shp} {I : IM} {R : RM} {x : Int} : ev S d 162 53 [a0, a1, .inl x] st (sh, I, R) = ev S d 162 54 [a0, a1, .inl x] (.inl x :: st) (sh, I, R) := (ev_eq f_162_53).trans rfl
theorem f_162_54 : fetch 162 54 = some (54, .iadd, 1, [], 0) := (fm_162 54).trans rfl
theorem u_162_54 {S : Scr} {d : Nat} {a0 a1 a2 : AV} {st : List AV} {sh : Shp} {I : IM} {R : RM} {x y : Int} : ev S d 162 54 [a0, a1, a2] (.inl y :: .inl x :: st) (sh, I, R) = ev S d 162 55 [a0, a1, a2] (.inl (wr (x + y)) :: st) (sh, I, R) := (ev_eq f_162_54).trans rfl
theorem f_162_55 : fetch 162 55 = some (55, .iaload, 1, [], 0) := (fm_162 55).trans rfl
theorem u_162_55 {S : Scr} {d : Nat} {a0 a1 a2 : AV} {st : List AV} {sh : Shp} {I : IM} {R : RM} {k : Nat} {i : Int} (h : tg sh k = 100) (h0 : 0 ≤ i) (h1 : i < ln sh k) : ev S d 162 55 [a0, a1, a2] (.inl i :: .inr (.inl k) :: st) (sh, I, R) = ev S d 162 56 [a0, a1, a2] (.inl (I k i) :: st) (sh, I, R) := (ev_eq f_162_55).trans (congrArg (fin S d 162) (if_pos ⟨h, h0, h1⟩))
theorem f_162_56 : fetch 162 56 = some (56, .goto 5, 3, [61], 0) := (fm_162 56).trans rfl
theorem u_162_56 {S : Scr} {d : Nat} {a0 a1 a2 : AV} {st : List AV} {sh : Shp} {I : IM} {R : RM} : ev S d 162 56 [a0, a1, a2] st (sh, I, R) = ev S d 162 61 [a0, a1, a2] st (sh, I, R) := (ev_eq f_162_56).trans rfl
theorem f_162_59 : fetch 162 59 = some (59, .bipush (-2), 2, [], (-2)) := (fm_162 59).trans rfl
theorem u_162_59 {S : Scr} {d : Nat} {a0 a1 a2 : AV} {st : List AV} {sh : Shp} {I : IM} {R : RM} : ev S d 162 59 [a0, a1, a2] st (sh, I, R) = ev S d 162 61 [a0, a1, a2] (.inl (-2) :: st) (sh, I, R) := (ev_eq f_162_59).trans rfl
theorem f_162_61 : fetch 162 61 = some (61, .ireturn, 1, [0], 0) := (fm_162 61).trans rfl
theorem u_162_61 {S : Scr} {d : Nat} {a0 a1 a2 : AV} {sh : Shp} {I : IM} {R : RM} {x : Int} : ev S d 162 61 [a0, a1, a2] [.inl x] (sh, I, R) = some (some (.inl x), (sh, I, R)) := (ev_eq f_162_61).trans fin_iret0
theorem c_163 {d : Nat} {a0 a1 : AV} {M : Mem} : cl (d + 1) 163 [a0, a1] M = ev S0 d 163 0 [a0, a1, .inr (.inr 1), .inr (.inr 1)] [] M := (cl_eq (as := [a0, a1]) (show 2 ≤ maxOf 163 by decide +kernel)).trans rfl
theorem mt_163 : MT[163]? = some m_163 := rfl
theorem fm_163 (pc : Nat) : fetch 163 pc = lk m_163.2.2.2.2.2 pc := by
  unfold fetch
  rw [mt_163]
theorem f_163_0 : fetch 163 0 = some (0, .aload_n 0, 1, [0], 0) := (fm_163 0).trans rfl
theorem u_163_0 {S : Scr} {d : Nat} {a1 a2 a3 : AV} {st : List AV} {sh : Shp} {I : IM} {R : RM} {x : Nat} : ev S d 163 0 [.inr (.inl x), a1, a2, a3] st (sh, I, R) = ev S d 163 1 [.inr (.inl x), a1, a2, a3] (.inr (.inl x) :: st) (sh, I, R) := (ev_eq f_163_0).trans rfl
theorem f_163_1 : fetch 163 1 = some (1, .iload_n 1, 1, [1], 0) := (fm_163 1).trans rfl
theorem u_163_1 {S : Scr} {d : Nat} {a0 a2 a3 : AV} {st : List AV} {sh : Shp} {I : IM} {R : RM} {x : Int} : ev S d 163 1 [a0, .inl x, a2, a3] st (sh, I, R) = ev S d 163 2 [a0, .inl x, a2, a3] (.inl x :: st) (sh, I, R) := (ev_eq f_163_1).trans rfl
theorem f_163_2 : fetch 163 2 = some (2, .invokevirtual 68, 3, [133, 1, 126], 0) := (fm_163 2).trans rfl
theorem u_163_2 {S : Scr} {d : Nat} {a0 a1 a2 a3 : AV} {st : List AV} {sh : Shp} {I : IM} {R : RM} {x0 : Int} {k : Nat} (h : tg sh k = 9) (hr : st.length ≤ 8) : ev S d 163 2 [a0, a1, a2, a3] (.inl x0 :: .inr (.inl k) :: st) (sh, I, R) = bnd (cl d 133 [.inr (.inl k), .inl x0] (sh, I, R)) (fun v M => ev S d 163 5 [a0, a1, a2, a3] (psh v st) M) := (ev_eq f_163_2).trans (congrArg (fin S d 163) (if_pos ⟨h, rfl, hr⟩))
theorem f_163_5 : fetch 163 5 = some (5, .ifCond .ne 5, 3, [10], 0) := (fm_163 5).trans rfl
theorem u_163_5 {S : Scr} {d : Nat} {a0 a1 a2 a3 : AV} {st : List AV} {sh : Shp} {I : IM} {R : RM} {x : Int} : ev S d 163 5 [a0, a1, a2, a3] (.inl x :: st) (sh, I, R) = if ¬ x = 0 then ev S d 163 10 [a0, a1, a2, a3] st (sh, I, R) else ev S d 163 8 [a0, a1, a2, a3] st (sh, I, R) := (ev_eq f_163_5).trans fin_if_ne
theorem f_163_8 : fetch 163 8 = some (8, .iconst (-1), 1, [], (-1)) := (fm_163 8).trans rfl
theorem u_163_8 {S : Scr} {d : Nat} {a0 a1 a2 a3 : AV} {st : List AV} {sh : Shp} {I : IM} {R : RM} : ev S d 163 8 [a0, a1, a2, a3] st (sh, I, R) = ev S d 163 9 [a0, a1, a2, a3] (.inl (-1) :: st) (sh, I, R) := (ev_eq f_163_8).trans rfl
theorem f_163_9 : fetch 163 9 = some (9, .ireturn, 1, [0], 0) := (fm_163 9).trans rfl
theorem u_163_9 {S : Scr} {d : Nat} {a0 a1 a2 a3 : AV} {sh : Shp} {I : IM} {R : RM} {x : Int} : ev S d 163 9 [a0, a1, a2, a3] [.inl x] (sh, I, R) = some (some (.inl x), (sh, I, R)) := (ev_eq f_163_9).trans fin_iret0
theorem f_163_10 : fetch 163 10 = some (10, .aload_n 0, 1, [0], 0) := (fm_163 10).trans rfl
theorem u_163_10 {S : Scr} {d : Nat} {a1 a2 a3 : AV} {st : List AV} {sh : Shp} {I : IM} {R : RM} {x : Nat} : ev S d 163 10 [.inr (.inl x), a1, a2, a3] st (sh, I, R) = ev S d 163 11 [.inr (.inl x), a1, a2, a3] (.inr (.inl x) :: st) (sh, I, R) := (ev_eq f_163_10).trans rfl
theorem f_163_11 : fetch 163 11 = some (11, .getfield 9, 3, [9, 0, 1, 79], 0) := (fm_163 11).trans rfl
theorem u_163_11 {S : Scr} {d : Nat} {a0 a1 a2 a3 : AV} {st : List AV} {sh : Shp} {I : IM} {R : RM} {k : Nat} (h : tg sh k = 9) : ev S d 163 11 [a0, a1, a2, a3] (.inr (.inl k) :: st) (sh, I, R) = ev S d 163 14 [a0, a1, a2, a3] (rv (R k 0) :: st) (sh, I, R) := (ev_eq f_163_11).trans (congrArg (fin S d 163) (if_pos h))
theorem f_163_14 : fetch 163 14 = some (14, .iconst 0, 1, [], 0) := (fm_163 14).trans rfl
theorem u_163_14 {S : Scr} {d : Nat} {a0 a1 a2 a3 : AV} {st : List AV} {sh : Shp} {I : IM} {R : RM} : ev S d 163 14 [a0, a1, a2, a3] st (sh, I, R) = ev S d 163 15 [a0, a1, a2, a3] (.inl 0 :: st) (sh, I, R) := (ev_eq f_163_14).trans rfl
theorem f_163_15 : fetch 163 15 = some (15, .iload_n 1, 1, [1], 0) := (fm_163 15).trans rfl
theorem u_163_15 {S : Scr} {d : Nat} {a0 a2 a3 : AV} {st : List AV} {sh : Shp} {I : IM} {R : RM} {x : Int} : ev S d 163 15 [a0, .inl x, a2, a3] st (sh, I, R) = ev S d 163 16 [a0, .inl x, a2, a3] (.inl x :: st) (sh, I, R) := (ev_eq f_163_15).trans rfl
theorem f_163_16 : fetch 163 16 = some (16, .iadd, 1, [], 0) := (fm_163 16).trans rfl
theorem u_163_16 {S : Scr} {d : Nat} {a0 a1 a2 a3 : AV} {st : List AV} {sh : Shp} {I : IM} {R : RM} {x y : Int} : ev S d 163 16 [a0, a1, a2, a3] (.inl y :: .inl x :: st) (sh, I, R) = ev S d 163 17 [a0, a1, a2, a3] (.inl (wr (x + y)) :: st) (sh, I, R) := (ev_eq f_163_16).trans rfl
theorem f_163_17 : fetch 163 17 = some (17, .iaload, 1, [], 0) := (fm_163 17).trans rfl
theorem u_163_17 {S : Scr} {d : Nat} {a0 a1 a2 a3 : AV} {st : List AV} {sh : Shp} {I : IM} {R : RM} {k : Nat} {i : Int} (h : tg sh k = 100) (h0 : 0 ≤ i) (h1 : i < ln sh k) : ev S d 163 17 [a0, a1, a2, a3] (.inl i :: .inr (.inl k) :: st) (sh, I, R) = ev S d 163 18 [a0, a1, a2, a3] (.inl (I k i) :: st) (sh, I, R) := (ev_eq f_163_17).trans (congrArg (fin S d 163) (if_pos ⟨h, h0, h1⟩))
theorem f_163_18 : fetch 163 18 = some (18, .iconst 4, 1, [], 4) := (fm_163 18).trans rfl
theorem u_163_18 {S : Scr} {d : Nat} {a0 a1 a2 a3 : AV} {st : List AV} {sh : Shp} {I : IM} {R : RM} : ev S d 163 18 [a0, a1, a2, a3] st (sh, I, R) = ev S d 163 19 [a0, a1, a2, a3] (.inl 4 :: st) (sh, I, R) := (ev_eq f_163_18).trans rfl
theorem f_163_19 : fetch 163 19 = some (19, .if_icmp .eq 6, 3, [25], 0) := (fm_163 19).trans rfl
theorem u_163_19 {S : Scr} {d : Nat} {a0 a1 a2 a3 : AV} {st : List AV} {sh : Shp} {I : IM} {R : RM} {x y : Int} : ev S d 163 19 [a0, a1, a2, a3] (.inl y :: .inl x :: st) (sh, I, R) = if x = y then ev S d 163 25 [a0, a1, a2, a3] st (sh, I, R) else ev S d 163 22 [a0, a1, a2, a3] st (sh, I, R) := (ev_eq f_163_19).trans fin_icmp_eq
theorem f_163_22 : fetch 163 22 = some (22, .bipush (-12), 2, [], (-12)) := (fm_163 22).trans rfl
theorem u_163_22 {S : Scr} {d : Nat} {a0 a1 a2 a3 : AV} {st : List AV} {sh : Shp} {I : IM} {R : RM} : ev S d 163 22 [a0, a1, a2, a3] st (sh, I, R) = ev S d 163 24 [a0, a1, a2, a3] (.inl (-12) :: st) (sh, I, R) := (ev_eq f_163_22).trans rfl
theorem f_163_24 : fetch 163 24 = some (24, .ireturn, 1, [0], 0) := (fm_163 24).trans rfl
theorem u_163_24 {S : Scr} {d : Nat} {a0 a1 a2 a3 : AV} {sh : Shp} {I : IM} {R : RM} {x : Int} : ev S d 163 24 [a0, a1, a2, a3] [.inl x] (sh, I, R) = some (some (.inl x), (sh, I, R)) := (ev_eq f_163_24).trans fin_iret0
theorem f_163_25 : fetch 163 25 = some (25, .aload_n 0, 1, [0], 0) := (fm_163 25).trans rfl
theorem u_163_25 {S : Scr} {d : Nat} {a1 a2 a3 : AV} {st : List AV} {sh : Shp} {I : IM} {R : RM} {x : Nat} : ev S d 163 25 [.inr (.inl x), a1, a2, a3] st (sh, I, R) = ev S d 163 26 [.inr (.inl x), a1, a2, a3] (.inr (.inl x) :: st) (sh, I, R) := (ev_eq f_163_25).trans rfl
theorem f_163_26 : fetch 163 26 = some (26, .invokevirtual 105, 3, [137, 0, 136], 0) := (fm_163 26).trans rfl
theorem u_163_26 {S : Scr} {d : Nat} {a0 a1 a2 a3 : AV} {st : List AV} {sh : Shp} {I : IM} {R : RM} {k : Nat} (h : tg sh k = 9) (hr : st.length ≤ 8) : ev S d 163 26 [a0, a1, a2, a3] (.inr (.inl k) :: st) (sh, I, R) = bnd (cl d 137 [.inr (.inl k)] (sh, I, R)) (fun v M => ev S d 163 29 [a0, a1, a2, a3] (psh v st) M) := (ev_eq f_163_26).trans (congrArg (fin S d 163) (if_pos ⟨h, rfl, hr⟩))
theorem f_163_29 : fetch 163 29 = some (29, .bipush 30, 2, [], 30) := (fm_163 29).trans rfl
theorem u_163_29 {S : Scr} {d : Nat} {a0 a1 a2 a3 : AV} {st : List AV} {sh : Shp} {I : IM} {R : RM} : ev S d 163 29 [a0, a1, a2, a3] st (sh, I, R) = ev S d 163 31 [a0, a1, a2, a3] (.inl 30 :: st) (sh, I, R) := (ev_eq f_163_29).trans rfl
theorem f_163_31 : fetch 163 31 = some (31, .if_icmp .ne 6, 3, [37], 0) := (fm_163 31).trans rfl
theorem u_163_31 {S : Scr} {d : Nat} {a0 a1 a2 a3 : AV} {st : List AV} {sh : Shp} {I : IM} {R : RM} {x y : Int} : ev S d 163 31 [a0, a1, a2, a3] (.inl y :: .inl x :: st) (sh, I, R) = if ¬ x = y then ev S d 163 37 [a0, a1, a2, a3] st (sh, I, R) else ev S d 163 34 [a0, a1, a2, a3] st (sh, I, R) := (ev_eq f_163_31).trans fin_icmp_ne
theorem f_163_34 : fetch 163 34 = some (34, .bipush (-3), 2, [], (-3)) := (fm_163 34).trans rfl
theorem u_163_34 {S : Scr} {d : Nat} {a0 a1 a2 a3 : AV} {st : List AV} {sh : Shp} {I : IM} {R : RM} : ev S d 163 34 [a0, a1, a2, a3] st (sh, I, R) = ev S d 163 36 [a0, a1, a2, a3] (.inl (-3) :: st) (sh, I, R) := (ev_eq f_163_34).trans rfl
theorem f_163_36 : fetch 163 36 = some (36, .ireturn, 1, [0], 0) := (fm_163 36).trans rfl
theorem u_163_36 {S : Scr} {d : Nat} {a0 a1 a2 a3 : AV} {sh : Shp} {I : IM} {R : RM} {x : Int} : ev S d 163 36 [a0, a1, a2, a3] [.inl x] (sh, I, R) = some (some (.inl x), (sh, I, R)) := (ev_eq f_163_36).trans fin_iret0
theorem f_163_37 : fetch 163 37 = some (37, .aload_n 0, 1, [0], 0) := (fm_163 37).trans rfl
theorem u_163_37 {S : Scr} {d : Nat} {a1 a2 a3 : AV} {st : List AV} {sh : Shp} {I : IM} {R : RM} {x : Nat} : ev S d 163 37 [.inr (.inl x), a1, a2, a3] st (sh, I, R) = ev S d 163 38 [.inr (.inl x), a1, a2, a3] (.inr (.inl x) :: st) (sh, I, R) := (ev_eq f_163_37).trans rfl
theorem f_163_38 : fetch 163 38 = some (38, .iconst 4, 1, [], 4) := (fm_163 38).trans rfl
theorem u_163_38 {S : Scr} {d : Nat} {a0 a1 a2 a3 : AV} {st : List AV} {sh : Shp} {I : IM} {R : RM} : ev S d 163 38 [a0, a1, a2, a3] st (sh, I, R) = ev S d 163 39 [a0, a1, a2, a3] (.inl 4 :: st) (sh, I, R) := (ev_eq f_163_38).trans rfl
theorem f_163_39 : fetch 163 39 = some (39, .aload_n 0, 1, [0], 0) := (fm_163 39).trans rfl
theorem u_163_39 {S : Scr} {d : Nat} {a1 a2 a3 : AV} {st : List AV} {sh : Shp} {I : IM} {R : RM} {x : Nat} : ev S d 163 39 [.inr (.inl x), a1, a2, a3] st (sh, I, R) = ev S d 163 40 [.inr (.inl x), a1, a2, a3] (.inr (.inl x) :: st) (sh, I, R) := (ev_eq f_163_39).trans rfl
theorem f_163_40 : fetch 163 40 = some (40, .getfield 9, 3, [9, 0, 1, 79], 0) := (fm_163 40).trans rfl
theorem u_163_40 {S : Scr} {d : Nat} {a0 a1 a2 a3 : AV} {st : List AV} {sh : Shp} {I : IM} {R : RM} {k : Nat} (h : tg sh k = 9) : ev S d 163 40 [a0, a1, a2, a3] (.inr (.inl k) :: st) (sh, I, R) = ev S d 163 43 [a0, a1, a2, a3] (rv (R k 0) :: st) (sh, I, R) := (ev_eq f_163_40).trans (congrArg (fin S d 163) (if_pos h))
theorem f_163_43 : fetch 163 43 = some (43, .bipush 30, 2, [], 30) := (fm_163 43).trans rfl
theorem u_163_43 {S : Scr} {d : Nat} {a0 a1 a2 a3 : AV} {st : List AV} {sh : Shp} {I : IM} {R : RM} : ev S d 163 43 [a0, a1, a2, a3] st (sh, I, R) = ev S d 163 45 [a0, a1, a2, a3] (.inl 30 :: st) (sh, I, R) := (ev_eq f_163_43).trans rfl
theorem f_163_45 : fetch 163 45 = some (45, .iload_n 1, 1, [1], 0) := (fm_163 45).trans rfl
theorem u_163_45 {S : Scr} {d : Nat} {a0 a2 a3 : AV} {st : List AV} {sh : Shp} {I : IM} {R : RM} {x : Int} : ev S d 163 45 [a0, .inl x, a2, a3] st (sh, I, R) = ev S d 163 46 [a0, .inl x, a2, a3] (.inl x :: st) (sh, I, R) := (ev_eq f_163_45).trans rfl
theorem f_163_46 : fetch 163 46 = some (46, .iadd, 1, [], 0) := (fm_163 46).trans rfl
theorem u_163_46 {S : Scr} {d : Nat} {a0 a1 a2 a3 : AV} {st : List AV} {sh : Shp} {I : IM} {R : RM} {x y : Int} : ev S d 163 46 [a0, a1, a2, a3] (.inl y :: .inl x :: st) (sh, I, R) = ev S d 163 47 [a0, a1, a2, a3] (.inl (wr (x + y)) :: st) (sh, I, R) := (ev_eq f_163_46).trans rfl
theorem f_163_47 : fetch 163 47 = some (47, .iaload, 1, [], 0) := (fm_163 47).trans rfl
theorem u_163_47 {S : Scr} {d : Nat} {a0 a1 a2 a3 : AV} {st : List AV} {sh : Shp} {I : IM} {R : RM} {k : Nat} {i : Int} (h : tg sh k = 100) (h0 : 0 ≤ i) (h1 : i < ln sh k) : ev S d 163 47 [a0, a1, a2, a3] (.inl i :: .inr (.inl k) :: st) (sh, I, R) = ev S d 163 48 [a0, a1, a2, a3] (.inl (I k i) :: st) (sh, I, R) := (ev_eq f_163_47).trans (congrArg (fin S d 163) (if_pos ⟨h, h0, h1⟩))
theorem f_163_48 : fetch 163 48 = some (48, .aload_n 0, 1, [0], 0) := (fm_163 48).trans rfl
theorem u_163_48 {S : Scr} {d : Nat} {a1 a2 a3 : AV} {st : List AV} {sh : Shp} {I : IM} {R : RM} {x : Nat} : ev S d 163 48 [.inr (.inl x), a1, a2, a3] st (sh, I, R) = ev S d 163 49 [.inr (.inl x), a1, a2, a3] (.inr (.inl x) :: st) (sh, I, R) := (ev_eq f_163_48).trans rfl
theorem f_163_49 : fetch 163 49 = some (49, .getfield 9, 3, [9, 0, 1, 79], 0) := (fm_163 49).trans rfl
theorem u_163_49 {S : Scr} {d : Nat} {a0 a1 a2 a3 : AV} {st : List AV} {sh : Shp} {I : IM} {R : RM} {k : Nat} (h : tg sh k = 9) : ev S d 163 49 [a0, a1, a2, a3] (.inr (.inl k) :: st) (sh, I, R) = ev S d 163 52 [a0, a1, a2, a3] (rv (R k 0) :: st) (sh, I, R) := (ev_eq f_163_49).trans (congrArg (fin S d 163) (if_pos h))
theorem f_163_52 : fetch 163 52 = some (52, .bipush 60, 2, [], 60) := (fm_163 52).trans rfl
theorem u_163_52 {S : Scr} {d : Nat} {a0 a1 a2 a3 : AV} {st : List AV} {sh : Shp} {I : IM} {R : RM} : ev S d 163 52 [a0, a1, a2, a3] st (sh, I, R) = ev S d 163 54 [a0, a1, a2, a3] (.inl 60 :: st) (sh, I, R) := (ev_eq f_163_52).trans rfl
theorem f_163_54 : fetch 163 54 = some (54, .iload_n 1, 1, [1], 0) := (fm_163 54).trans rfl
theorem u_163_54 {S : Scr} {d : Nat} {a0 a2 a3 : AV} {st : List AV} {sh : Shp} {I : IM} {R : RM} {x : Int} : ev S d 163 54 [a0, .inl x, a2, a3] st (sh, I, R) = ev S d 163 55 [a0, .inl x, a2, a3] (.inl x :: st) (sh, I, R) := (ev_eq f_163_54).trans rfl
theorem f_163_55 : fetch 163 55 = some (55, .iadd, 1, [], 0) := (fm_163 55).trans rfl
theorem u_163_55 {S : Scr} {d : Nat} {a0 a1 a2 a3 : AV} {st : List AV} {sh : Shp} {I : IM} {R : RM} {x y : Int} : ev S d 163 55 [a0, a1, a2, a3] (.inl y :: .inl x :: st) (sh, I, R) = ev S d 163 56 [a0, a1, a2, a3] (.inl (wr (x + y)) :: st) (sh, I, R) := (ev_eq f_163_55).trans rfl
theorem f_163_56 : fetch 163 56 = some (56, .iaload, 1, [], 0) := (fm_163 56).trans rfl
theorem u_163_56 {S : Scr} {d : Nat} {a0 a1 a2 a3 : AV} {st : List AV} {sh : Shp} {I : IM} {R : RM} {k : Nat} {i : Int} (h : tg sh k = 100) (h0 : 0 ≤ i) (h1 : i < ln sh k) : ev S d 163 56 [a0, a1, a2, a3] (.inl i :: .inr (.inl k) :: st) (sh, I, R) = ev S d 163 57 [a0, a1, a2, a3] (.inl (I k i) :: st) (sh, I, R) := (ev_eq f_163_56).trans (congrArg (fin S d 163) (if_pos ⟨h, h0, h1⟩))
theorem f_163_57 : fetch 163 57 = some (57, .invokevirtual 111, 3, [139, 3, 138], 0) := (fm_163 57).trans rfl
theorem u_163_57 {S : Scr} {d : Nat} {a0 a1 a2 a3 : AV} {st : List AV} {sh : Shp} {I : IM} {R : RM} {x0 : Int} {x1 : Int} {x2 : Int} {k : Nat} (h : tg sh k = 9) (hr : st.length ≤ 8) : ev S d 163 57 [a0, a1, a2, a3] (.inl x2 :: .inl x1 :: .inl x0 :: .inr (.inl k) :: st) (sh, I, R) = bnd (cl d 139 [.inr (.inl k), .inl x0, .inl x1, .inl x2] (sh, I, R)) (fun v M => ev S d 163 60 [a0, a1, a2, a3] (psh v st) M) := (ev_eq f_163_57).trans (congrArg (fin S d 163) (if_pos ⟨h, rfl, hr⟩))
theorem f_163_60 : fetch 163 60 = some (60, .istore_n 2, 1, [2], 0) := (fm_163 60).trans rfl
theorem u_163_60 {S : Scr} {d : Nat} {a0 a1 a2 a3 : AV} {st : List AV} {sh : Shp} {I : IM} {R : RM} {x : Int} : ev S d 163 60 [a0, a1, a2, a3] (.inl x :: st) (sh, I, R) = ev S d 163 61 [a0, a1, .inl x, a3] st (sh, I, R) := (ev_eq f_163_60).trans rfl
theorem f_163_61 : fetch 163 61 = some (61, .iconst 0, 1, [], 0) := (fm_163 61).trans rfl
theorem u_163_61 {S : Scr} {d : Nat} {a0 a1 a2 a3 : AV} {st : List AV} {sh : Shp} {I : IM} {R : RM} : ev S d 163 61 [a0, a1, a2, a3] st (sh, I, R) = ev S d 163 62 [a0, a1, a2, a3] (.inl 0 :: st) (sh, I, R) := (ev_eq f_163_61).trans rfl
theorem f_163_62 : fetch 163 62 = some (62, .istore_n 3, 1, [3], 0) := (fm_163 62).trans rfl
theorem u_163_62 {S : Scr} {d : Nat} {a0 a1 a2 a3 : AV} {st : List AV} {sh : Shp} {I : IM} {R : RM} {x : Int} : ev S d 163 62 [a0, a1, a2, a3] (.inl x :: st) (sh, I, R) = ev S d 163 63 [a0, a1, a2, .inl x] st (sh, I, R) := (ev_eq f_163_62).trans rfl
theorem f_163_63 : fetch 163 63 = some (63, .iload_n 3, 1, [3], 0) := (fm_163 63).trans rfl
theorem u_163_63 {S : Scr} {d : Nat} {a0 a1 a2 : AV} {st : List AV} {sh : Shp} {I : IM} {R : RM} {x : Int} : ev S d 163 63 [a0, a1, a2, .inl x] st (sh, I, R) = ev S d 163 64 [a0, a1, a2, .inl x] (.inl x :: st) (sh, I, R) := (ev_eq f_163_63).trans rfl
theorem f_163_64 : fetch 163 64 = some (64, .aload_n 0, 1, [0], 0) := (fm_163 64).trans rfl
theorem u_163_64 {S : Scr} {d : Nat} {a1 a2 a3 : AV} {st : List AV} {sh : Shp} {I : IM} {R : RM} {x : Nat} : ev S d 163 64 [.inr (.inl x), a1, a2, a3] st (sh, I, R) = ev S d 163 65 [.inr (.inl x), a1, a2, a3] (.inr (.inl x) :: st) (sh, I, R) := (ev_eq f_163_64).trans rfl
theorem f_163_65 : fetch 163 65 = some (65, .getfield 9, 3, [9, 0, 1, 79], 0) := (fm_163 65).trans rfl
theorem u_163_65 {S : Scr} {d : Nat} {a0 a1 a2 a3 : AV} {st : List AV} {sh : Shp} {I : IM} {R : RM} {k : Nat} (h : tg sh k = 9) : ev S d 163 65 [a0, a1, a2, a3] (.inr (.inl k) :: st) (sh, I, R) = ev S d 163 68 [a0, a1, a2, a3] (rv (R k 0) :: st) (sh, I, R) := (ev_eq f_163_65).trans (congrArg (fin S d 163) (if_pos h))
theorem f_163_68 : fetch 163 68 = some (68, .bipush 60, 2, [], 60) := (fm_163 68).trans rfl
theorem u_163_68 {S : Scr} {d : Nat} {a0 a1 a2 a3 : AV} {st : List AV} {sh : Shp} {I : IM} {R : RM} : ev S d 163 68 [a0, a1, a2, a3] st (sh, I, R) = ev S d 163 70 [a0, a1, a2, a3] (.inl 60 :: st) (sh, I, R) := (ev_eq f_163_68).trans rfl
theorem f_163_70 : fetch 163 70 = some (70, .iload_n 2, 1, [2], 0) := (fm_163 70).trans rfl
theorem u_163_70 {S : Scr} {d : Nat} {a0 a1 a3 : AV} {st : List AV} {sh : Shp} {I : IM} {R : RM} {x : Int} : ev S d 163 70 [a0, a1, .inl x, a3] st (sh, I, R) = ev S d 163 71 [a0, a1, .inl x, a3] (.inl x :: st) (sh, I, R) := (ev_eq f_163_70).trans rfl
theorem f_163_71 : fetch 163 71 = some (71, .iadd, 1, [], 0) := (fm_163 71).trans rfl
theorem u_163_71 {S : Scr} {d : Nat} {a0 a1 a2 a3 : AV} {st : List AV} {sh : Shp} {I : IM} {R : RM} {x y : Int} : ev S d 163 71 [a0, a1, a2, a3] (.inl y :: .inl x :: st) (sh, I, R) = ev S d 163 72 [a0, a1, a2, a3] (.inl (wr (x + y)) :: st) (sh, I, R) := (ev_eq f_163_71).trans rfl
theorem f_163_72 : fetch 163 72 = some (72, .iaload, 1, [], 0) := (fm_163 72).trans rfl
theorem u_163_72 {S : Scr} {d : Nat} {a0 a1 a2 a3 : AV} {st : List AV} {sh : Shp} {I : IM} {R : RM} {k : Nat} {i : Int} (h : tg sh k = 100) (h0 : 0 ≤ i) (h1 : i < ln sh k) : ev S d 163 72 [a0, a1, a2, a3] (.inl i :: .inr (.inl k) :: st) (sh, I, R) = ev S d 163 73 [a0, a1, a2, a3] (.inl (I k i) :: st) (sh, I, R) := (ev_eq f_163_72).trans (congrArg (fin S d 163) (if_pos ⟨h, h0, h1⟩))
theorem f_163_73 : fetch 163 73 = some (73, .if_icmp .ge 30, 3, [103], 0) := (fm_163 73).trans rfl
theorem u_163_73 {S : Scr} {d : Nat} {a0 a1 a2 a3 : AV} {st : List AV} {sh : Shp} {I : IM} {R : RM} {x y : Int} : ev S d 163 73 [a0, a1, a2, a3] (.inl y :: .inl x :: st) (sh, I, R) = if y ≤ x then ev S d 163 103 [a0, a1, a2, a3] st (sh, I, R) else ev S d 163 76 [a0, a1, a2, a3] st (sh, I, R) := (ev_eq f_163_73).trans fin_icmp_ge
theorem f_163_76 : fetch 163 76 = some (76, .aload_n 0, 1, [0], 0) := (fm_163 76).trans rfl
theorem u_163_76 {S : Scr} {d : Nat} {a1 a2 a3 : AV} {st : List AV} {sh : Shp} {I : IM} {R : RM} {x : Nat} : ev S d 163 76 [.inr (.inl x), a1, a2, a3] st (sh, I, R) = ev S d 163 77 [.inr (.inl x), a1, a2, a3] (.inr (.inl x) :: st) (sh, I, R) := (ev_eq f_163_76).trans rfl
theorem f_163_77 : fetch 163 77 = some (77, .getfield 9, 3, [9, 0, 1, 79], 0) := (fm_163 77).trans rfl
theorem u_163_77 {S : Scr} {d : Nat} {a0 a1 a2 a3 : AV} {st : List AV} {sh : Shp} {I : IM} {R : RM} {k : Nat} (h : tg sh k = 9) : ev S d 163 77 [a0, a1, a2, a3] (.inr (.inl k) :: st) (sh, I, R) = ev S d 163 80 [a0, a1, a2, a3] (rv (R k 0) :: st) (sh, I, R) := (ev_eq f_163_77).trans (congrArg (fin S d 163) (if_pos h))
theorem f_163_80 : fetch 163 80 = some (80, .sipush 480, 3, [], 480) := (fm_163 80).trans rfl
theorem u_163_80 {S : Scr} {d : Nat} {a0 a1 a2 a3 : AV} {st : List AV} {sh : Shp} {I : IM} {R : RM} : ev S d 163 80 [a0, a1, a2, a3] st (sh, I, R) = ev S d 163 83 [a0, a1, a2, a3] (.inl 480 :: st) (sh, I, R) := (ev_eq f_163_80).trans rfl
theorem f_163_83 : fetch 163 83 = some (83, .bipush 6, 2, [], 6) := (fm_163 83).trans rfl
theorem u_163_83 {S : Scr} {d : Nat} {a0 a1 a2 a3 : AV} {st : List AV} {sh : Shp} {I : IM} {R : RM} : ev S d 163 83 [a0, a1, a2, a3] st (sh, I, R) = ev S d 163 85 [a0, a1, a2, a3] (.inl 6 :: st) (sh, I, R) := (ev_eq f_163_83).trans rfl
theorem f_163_85 : fetch 163 85 = some (85, .iload_n 2, 1, [2], 0) := (fm_163 85).trans rfl
theorem u_163_85 {S : Scr} {d : Nat} {a0 a1 a3 : AV} {st : List AV} {sh : Shp} {I : IM} {R : RM} {x : Int} : ev S d 163 85 [a0, a1, .inl x, a3] st (sh, I, R) = ev S d 163 86 [a0, a1, .inl x, a3] (.inl x :: st) (sh, I, R) := (ev_eq f_163_85).trans rfl
theorem f_163_86 : fetch 163 86 = some (86, .imul, 1, [], 0) := (fm_163 86).trans rfl
theorem u_163_86 {S : Scr} {d : Nat} {a0 a1 a2 a3 : AV} {st : List AV} {sh : Shp} {I : IM} {R : RM} {x y : Int} : ev S d 163 86 [a0, a1, a2, a3] (.inl y :: .inl x :: st) (sh, I, R) = ev S d 163 87 [a0, a1, a2, a3] (.inl (wr (x * y)) :: st) (sh, I, R) := (ev_eq f_163_86).trans rfl
theorem f_163_87 : fetch 163 87 = some (87, .iadd, 1, [], 0) := (fm_163 87).trans rfl
theorem u_163_87 {S : Scr} {d : Nat} {a0 a1 a2 a3 : AV} {st : List AV} {sh : Shp} {I : IM} {R : RM} {x y : Int} : ev S d 163 87 [a0, a1, a2, a3] (.inl y :: .inl x :: st) (sh, I, R) = ev S d 163 88 [a0, a1, a2, a3] (.inl (wr (x + y)) :: st) (sh, I, R) := (ev_eq f_163_87).trans rfl
theorem f_163_88 : fetch 163 88 = some (88, .iload_n 3, 1, [3], 0) := (fm_163 88).trans rfl
theorem u_163_88 {S : Scr} {d : Nat} {a0 a1 a2 : AV} {st : List AV} {sh : Shp} {I : IM} {R : RM} {x : Int} : ev S d 163 88 [a0, a1, a2, .inl x] st (sh, I, R) = ev S d 163 89 [a0, a1, a2, .inl x] (.inl x :: st) (sh, I, R) := (ev_eq f_163_88).trans rfl
theorem f_163_89 : fetch 163 89 = some (89, .iadd, 1, [], 0) := (fm_163 89).trans rfl
theorem u_163_89 {S : Scr} {d : Nat} {a0 a1 a2 a3 : AV} {st : List AV} {sh : Shp} {I : IM} {R : RM} {x y : Int} : ev S d 163 89 [a0, a1, a2, a3] (.inl y :: .inl x :: st) (sh, I, R) = ev S d 163 90 [a0, a1, a2, a3] (.inl (wr (x + y)) :: st) (sh, I, R) := (ev_eq f_163_89).trans rfl
theorem f_163_90 : fetch 163 90 = some (90, .aload_n 0, 1, [0], 0) := (fm_163 90).trans rfl
theorem u_163_90 {S : Scr} {d : Nat} {a1 a2 a3 : AV} {st : List AV} {sh : Shp} {I : IM} {R : RM} {x : Nat} : ev S d 163 90 [.inr (.inl x), a1, a2, a3] st (sh, I, R) = ev S d 163 91 [.inr (.inl x), a1, a2, a3] (.inr (.inl x) :: st) (sh, I, R) := (ev_eq f_163_90).trans rfl
theorem f_163_91 : fetch 163 91 = some (91, .iload_n 1, 1, [1], 0) := (fm_163 91).trans rfl
theorem u_163_91 {S : Scr} {d : Nat} {a0 a2 a3 : AV} {st : List AV} {sh : Shp} {I : IM} {R : RM} {x : Int} : ev S d 163 91 [a0, .inl x, a2, a3] st (sh, I, R) = ev S d 163 92 [a0, .inl x, a2, a3] (.inl x :: st) (sh, I, R) := (ev_eq f_163_91).trans rfl
theorem f_163_92 : fetch 163 92 = some (92, .iload_n 3, 1, [3], 0) := (fm_163 92).trans rfl
theorem u_163_92 {S : Scr} {d : Nat} {a0 a1 a2 : AV} {st : List AV} {sh : Shp} {I : IM} {R : RM} {x : Int} : ev S d 163 92 [a0, a1, a2, .inl x] st (sh, I, R) = ev S d 163 93 [a0, a1, a2, .inl x] (.inl x :: st) (sh, I, R) := (ev_eq f_163_92).trans rfl
theorem f_163_93 : fetch 163 93 = some (93, .invokevirtual 128, 3, [135, 2, 143], 0) := (fm_163 93).trans rfl
theorem u_163_93 {S : Scr} {d : Nat} {a0 a1 a2 a3 : AV} {st : List AV} {sh : Shp} {I : IM} {R : RM} {x0 : Int} {x1 : Int} {k : Nat} (h : tg sh k = 9) (hr : st.length ≤ 8) : ev S d 163 93 [a0, a1, a2, a3] (.inl x1 :: .inl x0 :: .inr (.inl k) :: st) (sh, I, R) = bnd (cl d 135 [.inr (.inl k), .inl x0, .inl x1] (sh, I, R)) (fun v M => ev S d 163 96 [a0, a1, a2, a3] (psh v st) M) := (ev_eq f_163_93).trans (congrArg (fin S d 163) (if_pos ⟨h, rfl, hr⟩))
theorem f_163_96 : fetch 163 96 = some (96, .iastore, 1, [], 0) := (fm_163 96).trans rfl
theorem u_163_96 {S : Scr} {d : Nat} {a0 a1 a2 a3 : AV} {st : List AV} {sh : Shp} {I : IM} {R : RM} {k : Nat} {i x : Int} (h : tg sh k = 100) (h0 : 0 ≤ i) (h1 : i < ln sh k) : ev S d 163 96 [a0, a1, a2, a3] (.inl x :: .inl i :: .inr (.inl k) :: st) (sh, I, R) = ev S d 163 97 [a0, a1, a2, a3] st (sh, up I k i x, R) := (ev_eq f_163_96).trans (congrArg (fin S d 163) (if_pos ⟨h, h0, h1⟩))
theorem f_163_97 : fetch 163 97 = some (97, .iinc 3 1, 3, [3], 1) := (fm_163 97).trans rfl
theorem u_163_97 {S : Scr} {d : Nat} {a0 a1 a2 : AV} {st : List AV} {sh : Shp} {I : IM} {R : RM} {x : Int} : ev S d 163 97 [a0, a1, a2, .inl x] st (sh, I, R) = ev S d 163 100 [a0, a1, a2, .inl (wr (x + 1))] st (sh, I, R) := (ev_eq f_163_97).trans rfl
theorem f_163_100 : fetch 163 100 = some (100, .goto (-37), 3, [63], 0) := (fm_163 100).trans rfl
theorem u_163_100 {S : Scr} {d : Nat} {a0 a1 a2 a3 : AV} {st : List AV} {sh : Shp} {I : IM} {R : RM} : ev S d 163 100 [a0, a1, a2, a3] st (sh, I, R) = ev S d 163 63 [a0, a1, a2, a3] st (sh, I, R) := (ev_eq f_163_100).trans rfl
theorem f_163_103 : fetch 163 103 = some (103, .iload_n 2, 1, [2], 0) := (fm_163 103).trans rfl
theorem u_163_103 {S : Scr} {d : Nat} {a0 a1 a3 : AV} {st : List AV} {sh : Shp} {I : IM} {R : RM} {x : Int} : ev S d 163 103 [a0, a1, .inl x, a3] st (sh, I, R) = ev S d 163 104 [a0, a1, .inl x, a3] (.inl x :: st) (sh, I, R) := (ev_eq f_163_103).trans rfl
theorem f_163_104 : fetch 163 104 = some (104, .ireturn, 1, [0], 0) := (fm_163 104).trans rfl
theorem u_163_104 {S : Scr} {d : Nat} {a0 a1 a2 a3 : AV} {sh : Shp} {I : IM} {R : RM} {x : Int} : ev S d 163 104 [a0, a1, a2, a3] [.inl x] (sh, I, R) = some (some (.inl x), (sh, I, R)) := (ev_eq f_163_104).trans fin_iret0
theorem c_164 {d : Nat} {a0 : AV} {M : Mem} : cl (d + 1) 164 [a0] M = ev S0 d 164 0 [a0, .inr (.inr 1)] [] M := (cl_eq (as := [a0]) (show 1 ≤ maxOf 164 by decide +kernel)).trans rfl
theorem mt_164 : MT[164]? = some m_164 := rfl
theorem fm_164 (pc : Nat) : fetch 164 pc = lk m_164.2.2.2.2.2 pc := by
  unfold fetch
  rw [mt_164]
theorem f_164_0 : fetch 164 0 = some (0, .aload_n 0, 1, [0], 0) := (fm_164 0).trans rfl
theorem u_164_0 {S : Scr} {d : Nat} {a1 : AV} {st : List AV} {sh : Shp} {I : IM} {R : RM} {x : Nat} : ev S d 164 0 [.inr (.inl x), a1] st (sh, I, R) = ev S d 164 1 [.inr (.inl x), a1] (.inr (.inl x) :: st) (sh, I, R) := (ev_eq f_164_0).trans rfl
theorem f_164_1 : fetch 164 1 = some (1, .iconst 0, 1, [], 0) := (fm_164 1).trans rfl
theorem u_164_1 {S : Scr} {d : Nat} {a0 a1 : AV} {st : List AV} {sh : Shp} {I : IM} {R : RM} : ev S d 164 1 [a0, a1] st (sh, I, R) = ev S d 164 2 [a0, a1] (.inl 0 :: st) (sh, I, R) := (ev_eq f_164_1).trans rfl
theorem f_164_2 : fetch 164 2 = some (2, .putfield 137, 3, [9, 10, 0, 97], 0) := (fm_164 2).trans rfl
theorem u_164_2 {S : Scr} {d : Nat} {a0 a1 : AV} {st : List AV} {sh : Shp} {I : IM} {R : RM} {k : Nat} {x : Int} (h : tg sh k = 9) : ev S d 164 2 [a0, a1] (.inl x :: .inr (.inl k) :: st) (sh, I, R) = ev S d 164 5 [a0, a1] st (sh, up I k 10 x, R) := (ev_eq f_164_2).trans (congrArg (fin S d 164) (if_pos h))
theorem f_164_5 : fetch 164 5 = some (5, .iconst 0, 1, [], 0) := (fm_164 5).trans rfl
theorem u_164_5 {S : Scr} {d : Nat} {a0 a1 : AV} {st : List AV} {sh : Shp} {I : IM} {R : RM} : ev S d 164 5 [a0, a1] st (sh, I, R) = ev S d 164 6 [a0, a1] (.inl 0 :: st) (sh, I, R) := (ev_eq f_164_5).trans rfl
theorem f_164_6 : fetch 164 6 = some (6, .istore_n 1, 1, [1], 0) := (fm_164 6).trans rfl
theorem u_164_6 {S : Scr} {d : Nat} {a0 a1 : AV} {st : List AV} {sh : Shp} {I : IM} {R : RM} {x : Int} : ev S d 164 6 [a0, a1] (.inl x :: st) (sh, I, R) = ev S d 164 7 [a0, .inl x] st (sh, I, R) := (ev_eq f_164_6).trans rfl
theorem f_164_7 : fetch 164 7 = some (7, .iload_n 1, 1, [1], 0) := (fm_164 7).trans rfl
theorem u_164_7 {S : Scr} {d : Nat} {a0 : AV} {st : List AV} {sh : Shp} {I : IM} {R : RM} {x : Int} : ev S d 164 7 [a0, .inl x] st (sh, I, R) = ev S d 164 8 [a0, .inl x] (.inl x :: st) (sh, I, R) := (ev_eq f_164_7).trans rfl
theorem f_164_8 : fetch 164 8 = some (8, .bipush 30, 2, [], 30) := (fm_164 8).trans rfl
theorem u_164_8 {S : Scr} {d : Nat} {a0 a1 : AV} {st : List AV} {sh : Shp} {I : IM} {R : RM} : ev S d 164 8 [a0, a1] st (sh, I, R) = ev S d 164 10 [a0, a1] (.inl 30 :: st) (sh, I, R) := (ev_eq f_164_8).trans rfl
theorem f_164_10 : fetch 164 10 = some (10, .if_icmp .ge 16, 3, [26], 0) := (fm_164 10).trans rfl
theorem u_164_10 {S : Scr} {d : Nat} {a0 a1 : AV} {st : List AV} {sh : Shp} {I : IM} {R : RM} {x y : Int} : ev S d 164 10 [a0, a1] (.inl y :: .inl x :: st) (sh, I, R) = if y ≤ x then ev S d 164 26 [a0, a1] st (sh, I, R) else ev S d 164 13 [a0, a1] st (sh, I, R) := (ev_eq f_164_10).trans fin_icmp_ge
theorem f_164_13 : fetch 164 13 = some (13, .aload_n 0, 1, [0], 0) := (fm_164 13).trans rfl
theorem u_164_13 {S : Scr} {d : Nat} {a1 : AV} {st : List AV} {sh : Shp} {I : IM} {R : RM} {x : Nat} : ev S d 164 13 [.inr (.inl x), a1] st (sh, I, R) = ev S d 164 14 [.inr (.inl x), a1] (.inr (.inl x) :: st) (sh, I, R) := (ev_eq f_164_13).trans rfl
theorem f_164_14 : fetch 164 14 = some (14, .getfield 31, 3, [9, 8, 1, 86], 0) := (fm_164 14).trans rfl
theorem u_164_14 {S : Scr} {d : Nat} {a0 a1 : AV} {st : List AV} {sh : Shp} {I : IM} {R : RM} {k : Nat} (h : tg sh k = 9) : ev S d 164 14 [a0, a1] (.inr (.inl k) :: st) (sh, I, R) = ev S d 164 17 [a0, a1] (rv (R k 8) :: st) (sh, I, R) := (ev_eq f_164_14).trans (congrArg (fin S d 164) (if_pos h))
theorem f_164_17 : fetch 164 17 = some (17, .iload_n 1, 1, [1], 0) := (fm_164 17).trans rfl
theorem u_164_17 {S : Scr} {d : Nat} {a0 : AV} {st : List AV} {sh : Shp} {I : IM} {R : RM} {x : Int} : ev S d 164 17 [a0, .inl x] st (sh, I, R) = ev S d 164 18 [a0, .inl x] (.inl x :: st) (sh, I, R) := (ev_eq f_164_17).trans rfl
theorem f_164_18 : fetch 164 18 = some (18, .iconst (-1), 1, [], (-1)) := (fm_164 18).trans rfl
theorem u_164_18 {S : Scr} {d : Nat} {a0 a1 : AV} {st : List AV} {sh : Shp} {I : IM} {R : RM} : ev S d 164 18 [a0, a1] st (sh, I, R) = ev S d 164 19 [a0, a1] (.inl (-1) :: st) (sh, I, R) := (ev_eq f_164_18).trans rfl
theorem f_164_19 : fetch 164 19 = some (19, .iastore, 1, [], 0) := (fm_164 19).trans rfl
theorem u_164_19 {S : Scr} {d : Nat} {a0 a1 : AV} {st : List AV} {sh : Shp} {I : IM} {R : RM} {k : Nat} {i x : Int} (h : tg sh k = 100) (h0 : 0 ≤ i) (h1 : i < ln sh k) : ev S d 164 19 [a0, a1] (.inl x :: .inl i :: .inr (.inl k) :: st) (sh, I, R) = ev S d 164 20 [a0, a1] st (sh, up I k i x, R) := (ev_eq f_164_19).trans (congrArg (fin S d 164) (if_pos ⟨h, h0, h1⟩))
theorem f_164_20 : fetch 164 20 = some (20, .iinc 1 1, 3, [1], 1) := (fm_164 20).trans rfl
theorem u_164_20 {S : Scr} {d : Nat} {a0 : AV} {st : List AV} {sh : Shp} {I : IM} {R : RM} {x : Int} : ev S d 164 20 [a0, .inl x] st (sh, I, R) = ev S d 164 23 [a0, .inl (wr (x + 1))] st (sh, I, R) := (ev_eq f_164_20).trans rfl
theorem f_164_23 : fetch 164 23 = some (23, .goto (-16), 3, [7], 0) := (fm_164 23).trans rfl
theorem u_164_23 {S : Scr} {d : Nat} {a0 a1 : AV} {st : List AV} {sh : Shp} {I : IM} {R : RM} : ev S d 164 23 [a0, a1] st (sh, I, R) = ev S d 164 7 [a0, a1] st (sh, I, R) := (ev_eq f_164_23).trans rfl
theorem f_164_26 : fetch 164 26 = some (26, .return_, 1, [], 0) := (fm_164 26).trans rfl
theorem u_164_26 {S : Scr} {d : Nat} {a0 a1 : AV} {sh : Shp} {I : IM} {R : RM} : ev S d 164 26 [a0, a1] [] (sh, I, R) = some (none, (sh, I, R)) := (ev_eq f_164_26).trans rfl
theorem c_165 {d : Nat} {a0 a1 : AV} {M : Mem} : cl (d + 1) 165 [a0, a1] M = ev S0 d 165 0 [a0, a1] [] M := (cl_eq (as := [a0, a1]) (show 2 ≤ maxOf 165 by decide +kernel)).trans rfl
theorem mt_165 : MT[165]? = some m_165 := rfl
theorem fm_165 (pc : Nat) : fetch 165 pc = lk m_165.2.2.2.2.2 pc := by
  unfold fetch
  rw [mt_165]
theorem f_165_0 : fetch 165 0 = some (0, .aload_n 0, 1, [0], 0) := (fm_165 0).trans rfl
theorem u_165_0 {S : Scr} {d : Nat} {a1 : AV} {st : List AV} {sh : Shp} {I : IM} {R : RM} {x : Nat} : ev S d 165 0 [.inr (.inl x), a1] st (sh, I, R) = ev S d 165 1 [.inr (.inl x), a1] (.inr (.inl x) :: st) (sh, I, R) := (ev_eq f_165_0).trans rfl
theorem f_165_1 : fetch 165 1 = some (1, .getfield 31, 3, [9, 8, 1, 86], 0) := (fm_165 1).trans rfl
theorem u_165_1 {S : Scr} {d : Nat} {a0 a1 : AV} {st : List AV} {sh : Shp} {I : IM} {R : RM} {k : Nat} (h : tg sh k = 9) : ev S d 165 1 [a0, a1] (.inr (.inl k) :: st) (sh, I, R) = ev S d 165 4 [a0, a1] (rv (R k 8) :: st) (sh, I, R) := (ev_eq f_165_1).trans (congrArg (fin S d 165) (if_pos h))
theorem f_165_4 : fetch 165 4 = some (4, .iload_n 1, 1, [1], 0) := (fm_165 4).trans rfl
theorem u_165_4 {S : Scr} {d : Nat} {a0 : AV} {st : List AV} {sh : Shp} {I : IM} {R : RM} {x : Int} : ev S d 165 4 [a0, .inl x] st (sh, I, R) = ev S d 165 5 [a0, .inl x] (.inl x :: st) (sh, I, R) := (ev_eq f_165_4).trans rfl
theorem f_165_5 : fetch 165 5 = some (5, .aload_n 0, 1, [0], 0) := (fm_165 5).trans rfl
theorem u_165_5 {S : Scr} {d : Nat} {a1 : AV} {st : List AV} {sh : Shp} {I : IM} {R : RM} {x : Nat} : ev S d 165 5 [.inr (.inl x), a1] st (sh, I, R) = ev S d 165 6 [.inr (.inl x), a1] (.inr (.inl x) :: st) (sh, I, R) := (ev_eq f_165_5).trans rfl
theorem f_165_6 : fetch 165 6 = some (6, .getfield 137, 3, [9, 10, 0, 97], 0) := (fm_165 6).trans rfl
theorem u_165_6 {S : Scr} {d : Nat} {a0 a1 : AV} {st : List AV} {sh : Shp} {I : IM} {R : RM} {k : Nat} (h : tg sh k = 9) : ev S d 165 6 [a0, a1] (.inr (.inl k) :: st) (sh, I, R) = ev S d 165 9 [a0, a1] (.inl (I k 10) :: st) (sh, I, R) := (ev_eq f_165_6).trans (congrArg (fin S d 165) (if_pos h))
theorem f_165_9 : fetch 165 9 = some (9, .iastore, 1, [], 0) := (fm_165 9).trans rfl
theorem u_165_9 {S : Scr} {d : Nat} {a0 a1 : AV} {st : List AV} {sh : Shp} {I : IM} {R : RM} {k : Nat} {i x : Int} (h : tg sh k = 100) (h0 : 0 ≤ i) (h1 : i < ln sh k) : ev S d 165 9 [a0, a1] (.inl x :: .inl i :: .inr (.inl k) :: st) (sh, I, R) = ev S d 165 10 [a0, a1] st (sh, up I k i x, R) := (ev_eq f_165_9).trans (congrArg (fin S d 165) (if_pos ⟨h, h0, h1⟩))
theorem f_165_10 : fetch 165 10 = some (10, .aload_n 0, 1, [0], 0) := (fm_165 10).trans rfl
theorem u_165_10 {S : Scr} {d : Nat} {a1 : AV} {st : List AV} {sh : Shp} {I : IM} {R : RM} {x : Nat} : ev S d 165 10 [.inr (.inl x), a1] st (sh, I, R) = ev S d 165 11 [.inr (.inl x), a1] (.inr (.inl x) :: st) (sh, I, R) := (ev_eq f_165_10).trans rfl
theorem f_165_11 : fetch 165 11 = some (11, .getfield 28, 3, [9, 7, 1, 85], 0) := (fm_165 11).trans rfl
theorem u_165_11 {S : Scr} {d : Nat} {a0 a1 : AV} {st : List AV} {sh : Shp} {I : IM} {R : RM} {k : Nat} (h : tg sh k = 9) : ev S d 165 11 [a0, a1] (.inr (.inl k) :: st) (sh, I, R) = ev S d 165 14 [a0, a1] (rv (R k 7) :: st) (sh, I, R) := (ev_eq f_165_11).trans (congrArg (fin S d 165) (if_pos h))
theorem f_165_14 : fetch 165 14 = some (14, .aload_n 0, 1, [0], 0) := (fm_165 14).trans rfl
theorem u_165_14 {S : Scr} {d : Nat} {a1 : AV} {st : List AV} {sh : Shp} {I : IM} {R : RM} {x : Nat} : ev S d 165 14 [.inr (.inl x), a1] st (sh, I, R) = ev S d 165 15 [.inr (.inl x), a1] (.inr (.inl x) :: st) (sh, I, R) := (ev_eq f_165_14).trans rfl
theorem f_165_15 : fetch 165 15 = some (15, .getfield 137, 3, [9, 10, 0, 97], 0) := (fm_165 15).trans rfl
theorem u_165_15 {S : Scr} {d : Nat} {a0 a1 : AV} {st : List AV} {sh : Shp} {I : IM} {R : RM} {k : Nat} (h : tg sh k = 9) : ev S d 165 15 [a0, a1] (.inr (.inl k) :: st) (sh, I, R) = ev S d 165 18 [a0, a1] (.inl (I k 10) :: st) (sh, I, R) := (ev_eq f_165_15).trans (congrArg (fin S d 165) (if_pos h))
theorem f_165_18 : fetch 165 18 = some (18, .iload_n 1, 1, [1], 0) := (fm_165 18).trans rfl
theorem u_165_18 {S : Scr} {d : Nat} {a0 : AV} {st : List AV} {sh : Shp} {I : IM} {R : RM} {x : Int} : ev S d 165 18 [a0, .inl x] st (sh, I, R) = ev S d 165 19 [a0, .inl x] (.inl x :: st) (sh, I, R) := (ev_eq f_165_18).trans rfl
theorem f_165_19 : fetch 165 19 = some (19, .iastore, 1, [], 0) := (fm_165 19).trans rfl
theorem u_165_19 {S : Scr} {d : Nat} {a0 a1 : AV} {st : List AV} {sh : Shp} {I : IM} {R : RM} {k : Nat} {i x : Int} (h : tg sh k = 100) (h0 : 0 ≤ i) (h1 : i < ln sh k) : ev S d 165 19 [a0, a1] (.inl x :: .inl i :: .inr (.inl k) :: st) (sh, I, R) = ev S d 165 20 [a0, a1] st (sh, up I k i x, R) := (ev_eq f_165_19).trans (congrArg (fin S d 165) (if_pos ⟨h, h0, h1⟩))
theorem f_165_20 : fetch 165 20 = some (20, .aload_n 0, 1, [0], 0) := (fm_165 20).trans rfl
theorem u_165_20 {S : Scr} {d : Nat} {a1 : AV} {st : List AV} {sh : Shp} {I : IM} {R : RM} {x : Nat} : ev S d 165 20 [.inr (.inl x), a1] st (sh, I, R) = ev S d 165 21 [.inr (.inl x), a1] (.inr (.inl x) :: st) (sh, I, R) := (ev_eq f_165_20).trans rfl
theorem f_165_21 : fetch 165 21 = some (21, .dup, 1, [], 0) := (fm_165 21).trans rfl
theorem u_165_21 {S : Scr} {d : Nat} {a0 a1 : AV} {st : List AV} {sh : Shp} {I : IM} {R : RM} {x : AV} : ev S d 165 21 [a0, a1] (x :: st) (sh, I, R) = ev S d 165 22 [a0, a1] (x :: x :: st) (sh, I, R) := (ev_eq f_165_21).trans rfl
theorem f_165_22 : fetch 165 22 = some (22, .getfield 137, 3, [9, 10, 0, 97], 0) := (fm_165 22).trans rfl
theorem u_165_22 {S : Scr} {d : Nat} {a0 a1 : AV} {st : List AV} {sh : Shp} {I : IM} {R : RM} {k : Nat} (h : tg sh k = 9) : ev S d 165 22 [a0, a1] (.inr (.inl k) :: st) (sh, I, R) = ev S d 165 25 [a0, a1] (.inl (I k 10) :: st) (sh, I, R) := (ev_eq f_165_22).trans (congrArg (fin S d 165) (if_pos h))
theorem f_165_25 : fetch 165 25 = some (25, .iconst 1, 1, [], 1) := (fm_165 25).trans rfl
theorem u_165_25 {S : Scr} {d : Nat} {a0 a1 : AV} {st : List AV} {sh : Shp} {I : IM} {R : RM} : ev S d 165 25 [a0, a1] st (sh, I, R) = ev S d 165 26 [a0, a1] (.inl 1 :: st) (sh, I, R) := (ev_eq f_165_25).trans rfl
theorem f_165_26 : fetch 165 26 = some (26, .iadd, 1, [], 0) := (fm_165 26).trans rfl
theorem u_165_26 {S : Scr} {d : Nat} {a0 a1 : AV} {st : List AV} {sh : Shp} {I : IM} {R : RM} {x y : Int} : ev S d 165 26 [a0, a1] (.inl y :: .inl x :: st) (sh, I, R) = ev S d 165 27 [a0, a1] (.inl (wr (x + y)) :: st) (sh, I, R) := (ev_eq f_165_26).trans rfl
theorem f_165_27 : fetch 165 27 = some (27, .putfield 137, 3, [9, 10, 0, 97], 0) := (fm_165 27).trans rfl
theorem u_165_27 {S : Scr} {d : Nat} {a0 a1 : AV} {st : List AV} {sh : Shp} {I : IM} {R : RM} {k : Nat} {x : Int} (h : tg sh k = 9) : ev S d 165 27 [a0, a1] (.inl x :: .inr (.inl k) :: st) (sh, I, R) = ev S d 165 30 [a0, a1] st (sh, up I k 10 x, R) := (ev_eq f_165_27).trans (congrArg (fin S d 165) (if_pos h))
theorem f_165_30 : fetch 165 30 = some (30, .return_, 1, [], 0) := (fm_165 30).trans rfl
theorem u_165_30 {S : Scr} {d : Nat} {a0 a1 : AV} {sh : Shp} {I : IM} {R : RM} : ev S d 165 30 [a0, a1] [] (sh, I, R) = some (none, (sh, I, R)) := (ev_eq f_165_30).trans rfl
theorem c_166 {d : Nat} {a0 a1 : AV} {M : Mem} : cl (d + 1) 166 [a0, a1] M = ev S0 d 166 0 [a0, a1, .inr (.inr 1), .inr (.inr 1)] [] M := (cl_eq (as := [a0, a1]) (show 2 ≤ maxOf 166 by decide +kernel)).trans rfl
theorem mt_166 : MT[166]? = some m_166 := rfl
theorem fm_166 (pc : Nat) : fetch 166 pc = lk m_166.2.2.2.2.2 pc := by
  unfold fetch
  rw [mt_166]
theorem f_166_0 : fetch 166 0 = some (0, .aload_n 0, 1, [0], 0) := (fm_166 0).trans rfl
theorem u_166_0 {S : Scr} {d : Nat} {a1 a2 a3 : AV} {st : List AV} {sh : Shp} {I : IM} {R : RM} {x : Nat} : ev S d 166 0 [.inr (.inl x), a1, a2, a3] st (sh, I, R) = ev S d 166 1 [.inr (.inl x), a1, a2, a3] (.inr (.inl x) :: st) (sh, I, R) := (ev_eq f_166_0).trans rfl
theorem f_166_1 : fetch 166 1 = some (1, .iload_n 1, 1, [1], 0) := (fm_166 1).trans rfl
theorem u_166_1 {S : Scr} {d : Nat} {a0 a2 a3 : AV} {st : List AV} {sh : Shp} {I : IM} {R : RM} {x : Int} : ev S d 166 1 [a0, .inl x, a2, a3] st (sh, I, R) = ev S d 166 2 [a0, .inl x, a2, a3] (.inl x :: st) (sh, I, R) := (ev_eq f_166_1).trans rfl
theorem f_166_2 : fetch 166 2 = some (2, .invokevirtual 141, 3, [165, 1, 146], 0) := (fm_166 2).trans rfl
theorem u_166_2 {S : Scr} {d : Nat} {a0 a1 a2 a3 : AV} {st : List AV} {sh : Shp} {I : IM} {R : RM} {x0 : Int} {k : Nat} (h : tg sh k = 9) (hr : st.length ≤ 8) : ev S d 166 2 [a0, a1, a2, a3] (.inl x0 :: .inr (.inl k) :: st) (sh, I, R) = bnd (cl d 165 [.inr (.inl k), .inl x0] (sh, I, R)) (fun v M => ev S d 166 5 [a0, a1, a2, a3] (psh v st) M) := (ev_eq f_166_2).trans (congrArg (fin S d 166) (if_pos ⟨h, rfl, hr⟩))
theorem f_166_5 : fetch 166 5 = some (5, .iconst 0, 1, [], 0) := (fm_166 5).trans rfl
theorem u_166_5 {S : Scr} {d : Nat} {a0 a1 a2 a3 : AV} {st : List AV} {sh : Shp} {I : IM} {R : RM} : ev S d 166 5 [a0, a1, a2, a3] st (sh, I, R) = ev S d 166 6 [a0, a1, a2, a3] (.inl 0 :: st) (sh, I, R) := (ev_eq f_166_5).trans rfl
theorem f_166_6 : fetch 166 6 = some (6, .istore_n 2, 1, [2], 0) := (fm_166 6).trans rfl
theorem u_166_6 {S : Scr} {d : Nat} {a0 a1 a2 a3 : AV} {st : List AV} {sh : Shp} {I : IM} {R : RM} {x : Int} : ev S d 166 6 [a0, a1, a2, a3] (.inl x :: st) (sh, I, R) = ev S d 166 7 [a0, a1, .inl x, a3] st (sh, I, R) := (ev_eq f_166_6).trans rfl
theorem f_166_7 : fetch 166 7 = some (7, .iload_n 2, 1, [2], 0) := (fm_166 7).trans rfl
theorem u_166_7 {S : Scr} {d : Nat} {a0 a1 a3 : AV} {st : List AV} {sh : Shp} {I : IM} {R : RM} {x : Int} : ev S d 166 7 [a0, a1, .inl x, a3] st (sh, I, R) = ev S d 166 8 [a0, a1, .inl x, a3] (.inl x :: st) (sh, I, R) := (ev_eq f_166_7).trans rfl
theorem f_166_8 : fetch 166 8 = some (8, .aload_n 0, 1, [0], 0) := (fm_166 8).trans rfl
theorem u_166_8 {S : Scr} {d : Nat} {a1 a2 a3 : AV} {st : List AV} {sh : Shp} {I : IM} {R : RM} {x : Nat} : ev S d 166 8 [.inr (.inl x), a1, a2, a3] st (sh, I, R) = ev S d 166 9 [.inr (.inl x), a1, a2, a3] (.inr (.inl x) :: st) (sh, I, R) := (ev_eq f_166_8).trans rfl
theorem f_166_9 : fetch 166 9 = some (9, .getfield 9, 3, [9, 0, 1, 79], 0) := (fm_166 9).trans rfl
theorem u_166_9 {S : Scr} {d : Nat} {a0 a1 a2 a3 : AV} {st : List AV} {sh : Shp} {I : IM} {R : RM} {k : Nat} (h : tg sh k = 9) : ev S d 166 9 [a0, a1, a2, a3] (.inr (.inl k) :: st) (sh, I, R) = ev S d 166 12 [a0, a1, a2, a3] (rv (R k 0) :: st) (sh, I, R) := (ev_eq f_166_9).trans (congrArg (fin S d 166) (if_pos h))
theorem f_166_12 : fetch 166 12 = some (12, .bipush 60, 2, [], 60) := (fm_166 12).trans rfl
theorem u_166_12 {S : Scr} {d : Nat} {a0 a1 a2 a3 : AV} {st : List AV} {sh : Shp} {I : IM} {R : RM} : ev S d 166 12 [a0, a1, a2, a3] st (sh, I, R) = ev S d 166 14 [a0, a1, a2, a3] (.inl 60 :: st) (sh, I, R) := (ev_eq f_166_12).trans rfl
theorem f_166_14 : fetch 166 14 = some (14, .iload_n 1, 1, [1], 0) := (fm_166 14).trans rfl
theorem u_166_14 {S : Scr} {d : Nat} {a0 a2 a3 : AV} {st : List AV} {sh : Shp} {I : IM} {R : RM} {x : Int} : ev S d 166 14 [a0, .inl x, a2, a3] st (sh, I, R) = ev S d 166 15 [a0, .inl x, a2, a3] (.inl x :: st) (sh, I, R) := (ev_eq f_166_14).trans rfl
theorem f_166_15 : fetch 166 15 = some (15, .iadd, 1, [], 0) := (fm_166 15).trans rfl
theorem u_166_15 {S : Scr} {d : Nat} {a0 a1 a2 a3 : AV} {st : List AV} {sh : Shp} {I : IM} {R : RM} {x y : Int} : ev S d 166 15 [a0, a1, a2, a3] (.inl y :: .inl x :: st) (sh, I, R) = ev S d 166 16 [a0, a1, a2, a3] (.inl (wr (x + y)) :: st) (sh, I, R) := (ev_eq f_166_15).trans rfl
theorem f_166_16 : fetch 166 16 = some (16, .iaload, 1, [], 0) := (fm_166 16).trans rfl
theorem u_166_16 {S : Scr} {d : Nat} {a0 a1 a2 a3 : AV} {st : List AV} {sh : Shp} {I : IM} {R : RM} {k : Nat} {i : Int} (h : tg sh k = 100) (h0 : 0 ≤ i) (h1 : i < ln sh k) : ev S d 166 16 [a0, a1, a2, a3] (.inl i :: .inr (.inl k) :: st) (sh, I, R) = ev S d 166 17 [a0, a1, a2, a3] (.inl (I k i) :: st) (sh, I, R) := (ev_eq f_166_16).trans (congrArg (fin S d 166) (if_pos ⟨h, h0, h1⟩))
theorem f_166_17 : fetch 166 17 = some (17, .if_icmp .ge 34, 3, [51], 0) := (fm_166 17).trans rfl
theorem u_166_17 {S : Scr} {d : Nat} {a0 a1 a2 a3 : AV} {st : List AV} {sh : Shp} {I : IM} {R : RM} {x y : Int} : ev S d 166 17 [a0, a1, a2, a3] (.inl y :: .inl x :: st) (sh, I, R) = if y ≤ x then ev S d 166 51 [a0, a1, a2, a3] st (sh, I, R) else ev S d 166 20 [a0, a1, a2, a3] st (sh, I, R) := (ev_eq f_166_17).trans fin_icmp_ge
theorem f_166_20 : fetch 166 20 = some (20, .aload_n 0, 1, [0], 0) := (fm_166 20).trans rfl
theorem u_166_20 {S : Scr} {d : Nat} {a1 a2 a3 : AV} {st : List AV} {sh : Shp} {I : IM} {R : RM} {x : Nat} : ev S d 166 20 [.inr (.inl x), a1, a2, a3] st (sh, I, R) = ev S d 166 21 [.inr (.inl x), a1, a2, a3] (.inr (.inl x) :: st) (sh, I, R) := (ev_eq f_166_20).trans rfl
theorem f_166_21 : fetch 166 21 = some (21, .iload_n 1, 1, [1], 0) := (fm_166 21).trans rfl
theorem u_166_21 {S : Scr} {d : Nat} {a0 a2 a3 : AV} {st : List AV} {sh : Shp} {I : IM} {R : RM} {x : Int} : ev S d 166 21 [a0, .inl x, a2, a3] st (sh, I, R) = ev S d 166 22 [a0, .inl x, a2, a3] (.inl x :: st) (sh, I, R) := (ev_eq f_166_21).trans rfl
theorem f_166_22 : fetch 166 22 = some (22, .iload_n 2, 1, [2], 0) := (fm_166 22).trans rfl
theorem u_166_22 {S : Scr} {d : Nat} {a0 a1 a3 : AV} {st : List AV} {sh : Shp} {I : IM} {R : RM} {x : Int} : ev S d 166 22 [a0, a1, .inl x, a3] st (sh, I, R) = ev S d 166 23 [a0, a1, .inl x, a3] (.inl x :: st) (sh, I, R) := (ev_eq f_166_22).trans rfl
theorem f_166_23 : fetch 166 23 = some (23, .invokevirtual 128, 3, [135, 2, 143], 0) := (fm_166 23).trans rfl
theorem u_166_23 {S : Scr} {d : Nat} {a0 a1 a2 a3 : AV} {st : List AV} {sh : Shp} {I : IM} {R : RM} {x0 : Int} {x1 : Int} {k : Nat} (h : tg sh k = 9) (hr : st.length ≤ 8) : ev S d 166 23 [a0, a1, a2, a3] (.inl x1 :: .inl x0 :: .inr (.inl k) :: st) (sh, I, R) = bnd (cl d 135 [.inr (.inl k), .inl x0, .inl x1] (sh, I, R)) (fun v M => ev S d 166 26 [a0, a1, a2, a3] (psh v st) M) := (ev_eq f_166_23).trans (congrArg (fin S d 166) (if_pos ⟨h, rfl, hr⟩))
theorem f_166_26 : fetch 166 26 = some (26, .istore_n 3, 1, [3], 0) := (fm_166 26).trans rfl
theorem u_166_26 {S : Scr} {d : Nat} {a0 a1 a2 a3 : AV} {st : List AV} {sh : Shp} {I : IM} {R : RM} {x : Int} : ev S d 166 26 [a0, a1, a2, a3] (.inl x :: st) (sh, I, R) = ev S d 166 27 [a0, a1, a2, .inl x] st (sh, I, R) := (ev_eq f_166_26).trans rfl
theorem f_166_27 : fetch 166 27 = some (27, .iload_n 3, 1, [3], 0) := (fm_166 27).trans rfl
theorem u_166_27 {S : Scr} {d : Nat} {a0 a1 a2 : AV} {st : List AV} {sh : Shp} {I : IM} {R : RM} {x : Int} : ev S d 166 27 [a0, a1, a2, .inl x] st (sh, I, R) = ev S d 166 28 [a0, a1, a2, .inl x] (.inl x :: st) (sh, I, R) := (ev_eq f_166_27).trans rfl
theorem f_166_28 : fetch 166 28 = some (28, .ifCond .lt 17, 3, [45], 0) := (fm_166 28).trans rfl
theorem u_166_28 {S : Scr} {d : Nat} {a0 a1 a2 a3 : AV} {st : List AV} {sh : Shp} {I : IM} {R : RM} {x : Int} : ev S d 166 28 [a0, a1, a2, a3] (.inl x :: st) (sh, I, R) = if x < 0 then ev S d 166 45 [a0, a1, a2, a3] st (sh, I, R) else ev S d 166 31 [a0, a1, a2, a3] st (sh, I, R) := (ev_eq f_166_28).trans fin_if_lt
theorem f_166_31 : fetch 166 31 = some (31, .aload_n 0, 1, [0], 0) := (fm_166 31).trans rfl
theorem u_166_31 {S : Scr} {d : Nat} {a1 a2 a3 : AV} {st : List AV} {sh : Shp} {I : IM} {R : RM} {x : Nat} : ev S d 166 31 [.inr (.inl x), a1, a2, a3] st (sh, I, R) = ev S d 166 32 [.inr (.inl x), a1, a2, a3] (.inr (.inl x) :: st) (sh, I, R) := (ev_eq f_166_31).trans rfl
theorem f_166_32 : fetch 166 32 = some (32, .getfield 31, 3, [9, 8, 1, 86], 0) := (fm_166 32).trans rfl
theorem u_166_32 {S : Scr} {d : Nat} {a0 a1 a2 a3 : AV} {st : List AV} {sh : Shp} {I : IM} {R : RM} {k : Nat} (h : tg sh k = 9) : ev S d 166 32 [a0, a1, a2, a3] (.inr (.inl k) :: st) (sh, I, R) = ev S d 166 35 [a0, a1, a2, a3] (rv (R k 8) :: st) (sh, I, R) := (ev_eq f_166_32).trans (congrArg (fin S d 166) (if_pos h))
theorem f_166_35 : fetch 166 35 = some (35, .iload_n 3, 1, [3], 0) := (fm_166 35).trans rfl
theorem u_166_35 {S : Scr} {d : Nat} {a0 a1 a2 : AV} {st : List AV} {sh : Shp} {I : IM} {R : RM} {x : Int} : ev S d 166 35 [a0, a1, a2, .inl x] st (sh, I, R) = ev S d 166 36 [a0, a1, a2, .inl x] (.inl x :: st) (sh, I, R) := (ev_eq f_166_35).trans rfl
theorem f_166_36 : fetch 166 36 = some (36, .iaload, 1, [], 0) := (fm_166 36).trans rfl
theorem u_166_36 {S : Scr} {d : Nat} {a0 a1 a2 a3 : AV} {st : List AV} {sh : Shp} {I : IM} {R : RM} {k : Nat} {i : Int} (h : tg sh k = 100) (h0 : 0 ≤ i) (h1 : i < ln sh k) : ev S d 166 36 [a0, a1, a2, a3] (.inl i :: .inr (.inl k) :: st) (sh, I, R) = ev S d 166 37 [a0, a1, a2, a3] (.inl (I k i) :: st) (sh, I, R) := (ev_eq f_166_36).trans (congrArg (fin S d 166) (if_pos ⟨h, h0, h1⟩))
theorem f_166_37 : fetch 166 37 = some (37, .ifCond .ge 8, 3, [45], 0) := (fm_166 37).trans rfl
theorem u_166_37 {S : Scr} {d : Nat} {a0 a1 a2 a3 : AV} {st : List AV} {sh : Shp} {I : IM} {R : RM} {x : Int} : ev S d 166 37 [a0, a1, a2, a3] (.inl x :: st) (sh, I, R) = if 0 ≤ x then ev S d 166 45 [a0, a1, a2, a3] st (sh, I, R) else ev S d 166 40 [a0, a1, a2, a3] st (sh, I, R) := (ev_eq f_166_37).trans fin_if_ge
theorem f_166_40 : fetch 166 40 = some (40, .aload_n 0, 1, [0], 0) := (fm_166 40).trans rfl
theorem u_166_40 {S : Scr} {d : Nat} {a1 a2 a3 : AV} {st : List AV} {sh : Shp} {I : IM} {R : RM} {x : Nat} : ev S d 166 40 [.inr (.inl x), a1, a2, a3] st (sh, I, R) = ev S d 166 41 [.inr (.inl x), a1, a2, a3] (.inr (.inl x) :: st) (sh, I, R) := (ev_eq f_166_40).trans rfl
theorem f_166_41 : fetch 166 41 = some (41, .iload_n 3, 1, [3], 0) := (fm_166 41).trans rfl
theorem u_166_41 {S : Scr} {d : Nat} {a0 a1 a2 : AV} {st : List AV} {sh : Shp} {I : IM} {R : RM} {x : Int} : ev S d 166 41 [a0, a1, a2, .inl x] st (sh, I, R) = ev S d 166 42 [a0, a1, a2, .inl x] (.inl x :: st) (sh, I, R) := (ev_eq f_166_41).trans rfl
theorem f_166_42 : fetch 166 42 = some (42, .invokevirtual 144, 3, [166, 1, 147], 0) := (fm_166 42).trans rfl
theorem u_166_42 {S : Scr} {d : Nat} {a0 a1 a2 a3 : AV} {st : List AV} {sh : Shp} {I : IM} {R : RM} {x0 : Int} {k : Nat} (h : tg sh k = 9) (hr : st.length ≤ 8) : ev S d 166 42 [a0, a1, a2, a3] (.inl x0 :: .inr (.inl k) :: st) (sh, I, R) = bnd (cl d 166 [.inr (.inl k), .inl x0] (sh, I, R)) (fun v M => ev S d 166 45 [a0, a1, a2, a3] (psh v st) M) := (ev_eq f_166_42).trans (congrArg (fin S d 166) (if_pos ⟨h, rfl, hr⟩))
theorem f_166_45 : fetch 166 45 = some (45, .iinc 2 1, 3, [2], 1) := (fm_166 45).trans rfl
theorem u_166_45 {S : Scr} {d : Nat} {a0 a1 a3 : AV} {st : List AV} {sh : Shp} {I : IM} {R : RM} {x : Int} : ev S d 166 45 [a0, a1, .inl x, a3] st (sh, I, R) = ev S d 166 48 [a0, a1, .inl (wr (x + 1)), a3] st (sh, I, R) := (ev_eq f_166_45).trans rfl
theorem f_166_48 : fetch 166 48 = some (48, .goto (-41), 3, [7], 0) := (fm_166 48).trans rfl
theorem u_166_48 {S : Scr} {d : Nat} {a0 a1 a2 a3 : AV} {st : List AV} {sh : Shp} {I : IM} {R : RM} : ev S d 166 48 [a0, a1, a2, a3] st (sh, I, R) = ev S d 166 7 [a0, a1, a2, a3] st (sh, I, R) := (ev_eq f_166_48).trans rfl
theorem f_166_51 : fetch 166 51 = some (51, .return_, 1, [], 0) := (fm_166 51).trans rfl
theorem u_166_51 {S : Scr} {d : Nat} {a0 a1 a2 a3 : AV} {sh : Shp} {I : IM} {R : RM} : ev S d 166 51 [a0, a1, a2, a3] [] (sh, I, R) = some (none, (sh, I, R)) := (ev_eq f_166_51).trans rfl
theorem c_167 {d : Nat} {a0 a1 : AV} {M : Mem} : cl (d + 1) 167 [a0, a1] M = ev S0 d 167 0 [a0, a1, .inr (.inr 1), .inr (.inr 1), .inr (.inr 1), .inr (.inr 1)] [] M := (cl_eq (as := [a0, a1]) (show 2 ≤ maxOf 167 by decide +kernel)).trans rfl
theorem mt_167 : MT[167]? = some m_167 := rfl
theorem fm_167 (pc : Nat) : fetch 167 pc = lk m_167.2.2.2.2.2 pc := by
  unfold fetch
  rw [mt_167]
theorem f_167_0 : fetch 167 0 = some (0, .aload_n 0, 1, [0], 0) := (fm_167 0).trans rfl
theorem u_167_0 {S : Scr} {d : Nat} {a1 a2 a3 a4 a5 : AV} {st : List AV} {sh : Shp} {I : IM} {R : RM} {x : Nat} : ev S d 167 0 [.inr (.inl x), a1, a2, a3, a4, a5] st (sh, I, R) = ev S d 167 1 [.inr (.inl x), a1, a2, a3, a4, a5] (.inr (.inl x) :: st) (sh, I, R) := (ev_eq f_167_0).trans rfl
theorem f_167_1 : fetch 167 1 = some (1, .iload_n 1, 1, [1], 0) := (fm_167 1).trans rfl
theorem u_167_1 {S : Scr} {d : Nat} {a0 a2 a3 a4 a5 : AV} {st : List AV} {sh : Shp} {I : IM} {R : RM} {x : Int} : ev S d 167 1 [a0, .inl x, a2, a3, a4, a5] st (sh, I, R) = ev S d 167 2 [a0, .inl x, a2, a3, a4, a5] (.inl x :: st) (sh, I, R) := (ev_eq f_167_1).trans rfl
theorem f_167_2 : fetch 167 2 = some (2, .invokevirtual 68, 3, [133, 1, 126], 0) := (fm_167 2).trans rfl
theorem u_167_2 {S : Scr} {d : Nat} {a0 a1 a2 a3 a4 a5 : AV} {st : List AV} {sh : Shp} {I : IM} {R : RM} {x0 : Int} {k : Nat} (h : tg sh k = 9) (hr : st.length ≤ 8) : ev S d 167 2 [a0, a1, a2, a3, a4, a5] (.inl x0 :: .inr (.inl k) :: st) (sh, I, R) = bnd (cl d 133 [.inr (.inl k), .inl x0] (sh, I, R)) (fun v M => ev S d 167 5 [a0, a1, a2, a3, a4, a5] (psh v st) M) := (ev_eq f_167_2).trans (congrArg (fin S d 167) (if_pos ⟨h, rfl, hr⟩))
theorem f_167_5 : fetch 167 5 = some (5, .ifCond .ne 5, 3, [10], 0) := (fm_167 5).trans rfl
theorem u_167_5 {S : Scr} {d : Nat} {a0 a1 a2 a3 a4 a5 : AV} {st : List AV} {sh : Shp} {I : IM} {R : RM} {x : Int} : ev S d 167 5 [a0, a1, a2, a3, a4, a5] (.inl x :: st) (sh, I, R) = if ¬ x = 0 then ev S d 167 10 [a0, a1, a2, a3, a4, a5] st (sh, I, R) else ev S d 167 8 [a0, a1, a2, a3, a4, a5] st (sh, I, R) := (ev_eq f_167_5).trans fin_if_ne
theorem f_167_8 : fetch 167 8 = some (8, .iconst (-1), 1, [], (-1)) := (fm_167 8).trans rfl
theorem u_167_8 {S : Scr} {d : Nat} {a0 a1 a2 a3 a4 a5 : AV} {st : List AV} {sh : Shp} {I : IM} {R : RM} : ev S d 167 8 [a0, a1, a2, a3, a4, a5] st (sh, I, R) = ev S d 167 9 [a0, a1, a2, a3, a4, a5] (.inl (-1) :: st) (sh, I, R) := (ev_eq f_167_8).trans rfl
theorem f_167_9 : fetch 167 9 = some (9, .ireturn, 1, [0], 0) := (fm_167 9).trans rfl
theorem u_167_9 {S : Scr} {d : Nat} {a0 a1 a2 a3 a4 a5 : AV} {sh : Shp} {I : IM} {R : RM} {x : Int} : ev S d 167 9 [a0, a1, a2, a3, a4, a5] [.inl x] (sh, I, R) = some (some (.inl x), (sh, I, R)) := (ev_eq f_167_9).trans fin_iret0
theorem f_167_10 : fetch 167 10 = some (10, .aload_n 0, 1, [0], 0) := (fm_167 10).trans rfl
theorem u_167_10 {S : Scr} {d : Nat} {a1 a2 a3 a4 a5 : AV} {st : List AV} {sh : Shp} {I : IM} {R : RM} {x : Nat} : ev S d 167 10 [.inr (.inl x), a1, a2, a3, a4, a5] st (sh, I, R) = ev S d 167 11 [.inr (.inl x), a1, a2, a3, a4, a5] (.inr (.inl x) :: st) (sh, I, R) := (ev_eq f_167_10).trans rfl
theorem f_167_11 : fetch 167 11 = some (11, .invokevirtual 147, 3, [164, 0, 148], 0) := (fm_167 11).trans rfl
theorem u_167_11 {S : Scr} {d : Nat} {a0 a1 a2 a3 a4 a5 : AV} {st : List AV} {sh : Shp} {I : IM} {R : RM} {k : Nat} (h : tg sh k = 9) (hr : st.length ≤ 8) : ev S d 167 11 [a0, a1, a2, a3, a4, a5] (.inr (.inl k) :: st) (sh, I, R) = bnd (cl d 164 [.inr (.inl k)] (sh, I, R)) (fun v M => ev S d 167 14 [a0, a1, a2, a3, a4, a5] (psh v st) M) := (ev_eq f_167_11).trans (congrArg (fin S d 167) (if_pos ⟨h, rfl, hr⟩))
theorem f_167_14 : fetch 167 14 = some (14, .aload_n 0, 1, [0], 0) := (fm_167 14).trans rfl
theorem u_167_14 {S : Scr} {d : Nat} {a1 a2 a3 a4 a5 : AV} {st : List AV} {sh : Shp} {I : IM} {R : RM} {x : Nat} : ev S d 167 14 [.inr (.inl x), a1, a2, a3, a4, a5] st (sh, I, R) = ev S d 167 15 [.inr (.inl x), a1, a2, a3, a4, a5] (.inr (.inl x) :: st) (sh, I, R) := (ev_eq f_167_14).trans rfl
theorem f_167_15 : fetch 167 15 = some (15, .iload_n 1, 1, [1], 0) := (fm_167 15).trans rfl
theorem u_167_15 {S : Scr} {d : Nat} {a0 a2 a3 a4 a5 : AV} {st : List AV} {sh : Shp} {I : IM} {R : RM} {x : Int} : ev S d 167 15 [a0, .inl x, a2, a3, a4, a5] st (sh, I, R) = ev S d 167 16 [a0, .inl x, a2, a3, a4, a5] (.inl x :: st) (sh, I, R) := (ev_eq f_167_15).trans rfl
theorem f_167_16 : fetch 167 16 = some (16, .invokevirtual 144, 3, [166, 1, 147], 0) := (fm_167 16).trans rfl
theorem u_167_16 {S : Scr} {d : Nat} {a0 a1 a2 a3 a4 a5 : AV} {st : List AV} {sh : Shp} {I : IM} {R : RM} {x0 : Int} {k : Nat} (h : tg sh k = 9) (hr : st.length ≤ 8) : ev S d 167 16 [a0, a1, a2, a3, a4, a5] (.inl x0 :: .inr (.inl k) :: st) (sh, I, R) = bnd (cl d 166 [.inr (.inl k), .inl x0] (sh, I, R)) (fun v M => ev S d 167 19 [a0, a1, a2, a3, a4, a5] (psh v st) M) := (ev_eq f_167_16).trans (congrArg (fin S d 167) (if_pos ⟨h, rfl, hr⟩))
theorem f_167_19 : fetch 167 19 = some (19, .aload_n 0, 1, [0], 0) := (fm_167 19).trans rfl
theorem u_167_19 {S : Scr} {d : Nat} {a1 a2 a3 a4 a5 : AV} {st : List AV} {sh : Shp} {I : IM} {R : RM} {x : Nat} : ev S d 167 19 [.inr (.inl x), a1, a2, a3, a4, a5] st (sh, I, R) = ev S d 167 20 [.inr (.inl x), a1, a2, a3, a4, a5] (.inr (.inl x) :: st) (sh, I, R) := (ev_eq f_167_19).trans rfl
theorem f_167_20 : fetch 167 20 = some (20, .invokevirtual 105, 3, [137, 0, 136], 0) := (fm_167 20).trans rfl
theorem u_167_20 {S : Scr} {d : Nat} {a0 a1 a2 a3 a4 a5 : AV} {st : List AV} {sh : Shp} {I : IM} {R : RM} {k : Nat} (h : tg sh k = 9) (hr : st.length ≤ 8) : ev S d 167 20 [a0, a1, a2, a3, a4, a5] (.inr (.inl k) :: st) (sh, I, R) = bnd (cl d 137 [.inr (.inl k)] (sh, I, R)) (fun v M => ev S d 167 23 [a0, a1, a2, a3, a4, a5] (psh v st) M) := (ev_eq f_167_20).trans (congrArg (fin S d 167) (if_pos ⟨h, rfl, hr⟩))
theorem f_167_23 : fetch 167 23 = some (23, .aload_n 0, 1, [0], 0) := (fm_167 23).trans rfl
theorem u_167_23 {S : Scr} {d : Nat} {a1 a2 a3 a4 a5 : AV} {st : List AV} {sh : Shp} {I : IM} {R : RM} {x : Nat} : ev S d 167 23 [.inr (.inl x), a1, a2, a3, a4, a5] st (sh, I, R) = ev S d 167 24 [.inr (.inl x), a1, a2, a3, a4, a5] (.inr (.inl x) :: st) (sh, I, R) := (ev_eq f_167_23).trans rfl
theorem f_167_24 : fetch 167 24 = some (24, .getfield 137, 3, [9, 10, 0, 97], 0) := (fm_167 24).trans rfl
theorem u_167_24 {S : Scr} {d : Nat} {a0 a1 a2 a3 a4 a5 : AV} {st : List AV} {sh : Shp} {I : IM} {R : RM} {k : Nat} (h : tg sh k = 9) : ev S d 167 24 [a0, a1, a2, a3, a4, a5] (.inr (.inl k) :: st) (sh, I, R) = ev S d 167 27 [a0, a1, a2, a3, a4, a5] (.inl (I k 10) :: st) (sh, I, R) := (ev_eq f_167_24).trans (congrArg (fin S d 167) (if_pos h))
theorem f_167_27 : fetch 167 27 = some (27, .iadd, 1, [], 0) := (fm_167 27).trans rfl
theorem u_167_27 {S : Scr} {d : Nat} {a0 a1 a2 a3 a4 a5 : AV} {st : List AV} {sh : Shp} {I : IM} {R : RM} {x y : Int} : ev S d 167 27 [a0, a1, a2, a3, a4, a5] (.inl y :: .inl x :: st) (sh, I, R) = ev S d 167 28 [a0, a1, a2, a3, a4, a5] (.inl (wr (x + y)) :: st) (sh, I, R) := (ev_eq f_167_27).trans rfl
theorem f_167_28 : fetch 167 28 = some (28, .bipush 30, 2, [], 30) := (fm_167 28).trans rfl
theorem u_167_28 {S : Scr} {d : Nat} {a0 a1 a2 a3 a4 a5 : AV} {st : List AV} {sh : Shp} {I : IM} {R : RM} : ev S d 167 28 [a0, a1, a2, a3, a4, a5] st (sh, I, R) = ev S d 167 30 [a0, a1, a2, a3, a4, a5] (.inl 30 :: st) (sh, I, R) := (ev_eq f_167_28).trans rfl
theorem f_167_30 : fetch 167 30 = some (30, .if_icmp .le 6, 3, [36], 0) := (fm_167 30).trans rfl
theorem u_167_30 {S : Scr} {d : Nat} {a0 a1 a2 a3 a4 a5 : AV} {st : List AV} {sh : Shp} {I : IM} {R : RM} {x y : Int} : ev S d 167 30 [a0, a1, a2, a3, a4, a5] (.inl y :: .inl x :: st) (sh, I, R) = if x ≤ y then ev S d 167 36 [a0, a1, a2, a3, a4, a5] st (sh, I, R) else ev S d 167 33 [a0, a1, a2, a3, a4, a5] st (sh, I, R) := (ev_eq f_167_30).trans fin_icmp_le
theorem f_167_33 : fetch 167 33 = some (33, .bipush (-3), 2, [], (-3)) := (fm_167 33).trans rfl
theorem u_167_33 {S : Scr} {d : Nat} {a0 a1 a2 a3 a4 a5 : AV} {st : List AV} {sh : Shp} {I : IM} {R : RM} : ev S d 167 33 [a0, a1, a2, a3, a4, a5] st (sh, I, R) = ev S d 167 35 [a0, a1, a2, a3, a4, a5] (.inl (-3) :: st) (sh, I, R) := (ev_eq f_167_33).trans rfl
theorem f_167_35 : fetch 167 35 = some (35, .ireturn, 1, [0], 0) := (fm_167 35).trans rfl
theorem u_167_35 {S : Scr} {d : Nat} {a0 a1 a2 a3 a4 a5 : AV} {sh : Shp} {I : IM} {R : RM} {x : Int} : ev S d 167 35 [a0, a1, a2, a3, a4, a5] [.inl x] (sh, I, R) = some (some (.inl x), (sh, I, R)) := (ev_eq f_167_35).trans fin_iret0
theorem f_167_36 : fetch 167 36 = some (36, .iconst 0, 1, [], 0) := (fm_167 36).trans rfl
theorem u_167_36 {S : Scr} {d : Nat} {a0 a1 a2 a3 a4 a5 : AV} {st : List AV} {sh : Shp} {I : IM} {R : RM} : ev S d 167 36 [a0, a1, a2, a3, a4, a5] st (sh, I, R) = ev S d 167 37 [a0, a1, a2, a3, a4, a5] (.inl 0 :: st) (sh, I, R) := (ev_eq f_167_36).trans rfl
theorem f_167_37 : fetch 167 37 = some (37, .istore_n 2, 1, [2], 0) := (fm_167 37).trans rfl
theorem u_167_37 {S : Scr} {d : Nat} {a0 a1 a2 a3 a4 a5 : AV} {st : List AV} {sh : Shp} {I : IM} {R : RM} {x : Int} : ev S d 167 37 [a0, a1, a2, a3, a4, a5] (.inl x :: st) (sh, I, R) = ev S d 167 38 [a0, a1, .inl x, a3, a4, a5] st (sh, I, R) := (ev_eq f_167_37).trans rfl
theorem f_167_38 : fetch 167 38 = some (38, .iload_n 2, 1, [2], 0) := (fm_167 38).trans rfl
theorem u_167_38 {S : Scr} {d : Nat} {a0 a1 a3 a4 a5 : AV} {st : List AV} {sh : Shp} {I : IM} {R : RM} {x : Int} : ev S d 167 38 [a0, a1, .inl x, a3, a4, a5] st (sh, I, R) = ev S d 167 39 [a0, a1, .inl x, a3, a4, a5] (.inl x :: st) (sh, I, R) := (ev_eq f_167_38).trans rfl
theorem f_167_39 : fetch 167 39 = some (39, .aload_n 0, 1, [0], 0) := (fm_167 39).trans rfl
theorem u_167_39 {S : Scr} {d : Nat} {a1 a2 a3 a4 a5 : AV} {st : List AV} {sh : Shp} {I : IM} {R : RM} {x : Nat} : ev S d 167 39 [.inr (.inl x), a1, a2, a3, a4, a5] st (sh, I, R) = ev S d 167 40 [.inr (.inl x), a1, a2, a3, a4, a5] (.inr (.inl x) :: st) (sh, I, R) := (ev_eq f_167_39).trans rfl
theorem f_167_40 : fetch 167 40 = some (40, .getfield 137, 3, [9, 10, 0, 97], 0) := (fm_167 40).trans rfl
theorem u_167_40 {S : Scr} {d : Nat} {a0 a1 a2 a3 a4 a5 : AV} {st : List AV} {sh : Shp} {I : IM} {R : RM} {k : Nat} (h : tg sh k = 9) : ev S d 167 40 [a0, a1, a2, a3, a4, a5] (.inr (.inl k) :: st) (sh, I, R) = ev S d 167 43 [a0, a1, a2, a3, a4, a5] (.inl (I k 10) :: st) (sh, I, R) := (ev_eq f_167_40).trans (congrArg (fin S d 167) (if_pos h))
theorem f_167_43 : fetch 167 43 = some (43, .if_icmp .ge 116, 3, [159], 0) := (fm_167 43).trans rfl
theorem u_167_43 {S : Scr} {d : Nat} {a0 a1 a2 a3 a4 a5 : AV} {st : List AV} {sh : Shp} {I : IM} {R : RM} {x y : Int} : ev S d 167 43 [a0, a1, a2, a3, a4, a5] (.inl y :: .inl x :: st) (sh, I, R) = if y ≤ x then ev S d 167 159 [a0, a1, a2, a3, a4, a5] st (sh, I, R) else ev S d 167 46 [a0, a1, a2, a3, a4, a5] st (sh, I, R) := (ev_eq f_167_43).trans fin_icmp_ge
theorem f_167_46 : fetch 167 46 = some (46, .aload_n 0, 1, [0], 0) := (fm_167 46).trans rfl
theorem u_167_46 {S : Scr} {d : Nat} {a1 a2 a3 a4 a5 : AV} {st : List AV} {sh : Shp} {I : IM} {R : RM} {x : Nat} : ev S d 167 46 [.inr (.inl x), a1, a2, a3, a4, a5] st (sh, I, R) = ev S d 167 47 [.inr (.inl x), a1, a2, a3, a4, a5] (.inr (.inl x) :: st) (sh, I, R) := (ev_eq f_167_46).trans rfl
theorem f_167_47 : fetch 167 47 = some (47, .getfield 28, 3, [9, 7, 1, 85], 0) := (fm_167 47).trans rfl
theorem u_167_47 {S : Scr} {d : Nat} {a0 a1 a2 a3 a4 a5 : AV} {st : List AV} {sh : Shp} {I : IM} {R : RM} {k : Nat} (h : tg sh k = 9) : ev S d 167 47 [a0, a1, a2, a3, a4, a5] (.inr (.inl k) :: st) (sh, I, R) = ev S d 167 50 [a0, a1, a2, a3, a4, a5] (rv (R k 7) :: st) (sh, I, R) := (ev_eq f_167_47).trans (congrArg (fin S d 167) (if_pos h))
theorem f_167_50 : fetch 167 50 = some (50, .iload_n 2, 1, [2], 0) := (fm_167 50).trans rfl
theorem u_167_50 {S : Scr} {d : Nat} {a0 a1 a3 a4 a5 : AV} {st : List AV} {sh : Shp} {I : IM} {R : RM} {x : Int} : ev S d 167 50 [a0, a1, .inl x, a3, a4, a5] st (sh, I, R) = ev S d 167 51 [a0, a1, .inl x, a3, a4, a5] (.inl x :: st) (sh, I, R) := (ev_eq f_167_50).trans rfl
theorem f_167_51 : fetch 167 51 = some (51, .iaload, 1, [], 0) := (fm_167 51).trans rfl
theorem u_167_51 {S : Scr} {d : Nat} {a0 a1 a2 a3 a4 a5 : AV} {st : List AV} {sh : Shp} {I : IM} {R : RM} {k : Nat} {i : Int} (h : tg sh k = 100) (h0 : 0 ≤ i) (h1 : i < ln sh k) : ev S d 167 51 [a0, a1, a2, a3, a4, a5] (.inl i :: .inr (.inl k) :: st) (sh, I, R) = ev S d 167 52 [a0, a1, a2, a3, a4, a5] (.inl (I k i) :: st) (sh, I, R) := (ev_eq f_167_51).trans (congrArg (fin S d 167) (if_pos ⟨h, h0, h1⟩))
theorem f_167_52 : fetch 167 52 = some (52, .istore_n 3, 1, [3], 0) := (fm_167 52).trans rfl
theorem u_167_52 {S : Scr} {d : Nat} {a0 a1 a2 a3 a4 a5 : AV} {st : List AV} {sh : Shp} {I : IM} {R : RM} {x : Int} : ev S d 167 52 [a0, a1, a2, a3, a4, a5] (.inl x :: st) (sh, I, R) = ev S d 167 53 [a0, a1, a2, .inl x, a4, a5] st (sh, I, R) := (ev_eq f_167_52).trans rfl
theorem f_167_53 : fetch 167 53 = some (53, .aload_n 0, 1, [0], 0) := (fm_167 53).trans rfl
theorem u_167_53 {S : Scr} {d : Nat} {a1 a2 a3 a4 a5 : AV} {st : List AV} {sh : Shp} {I : IM} {R : RM} {x : Nat} : ev S d 167 53 [.inr (.inl x), a1, a2, a3, a4, a5] st (sh, I, R) = ev S d 167 54 [.inr (.inl x), a1, a2, a3, a4, a5] (.inr (.inl x) :: st) (sh, I, R) := (ev_eq f_167_53).trans rfl
theorem f_167_54 : fetch 167 54 = some (54, .aload_n 0, 1, [0], 0) := (fm_167 54).trans rfl
theorem u_167_54 {S : Scr} {d : Nat} {a1 a2 a3 a4 a5 : AV} {st : List AV} {sh : Shp} {I : IM} {R : RM} {x : Nat} : ev S d 167 54 [.inr (.inl x), a1, a2, a3, a4, a5] st (sh, I, R) = ev S d 167 55 [.inr (.inl x), a1, a2, a3, a4, a5] (.inr (.inl x) :: st) (sh, I, R) := (ev_eq f_167_54).trans rfl
theorem f_167_55 : fetch 167 55 = some (55, .getfield 9, 3, [9, 0, 1, 79], 0) := (fm_167 55).trans rfl
theorem u_167_55 {S : Scr} {d : Nat} {a0 a1 a2 a3 a4 a5 : AV} {st : List AV} {sh : Shp} {I : IM} {R : RM} {k : Nat} (h : tg sh k = 9) : ev S d 167 55 [a0, a1, a2, a3, a4, a5] (.inr (.inl k) :: st) (sh, I, R) = ev S d 167 58 [a0, a1, a2, a3, a4, a5] (rv (R k 0) :: st) (sh, I, R) := (ev_eq f_167_55).trans (congrArg (fin S d 167) (if_pos h))
theorem f_167_58 : fetch 167 58 = some (58, .iconst 0, 1, [], 0) := (fm_167 58).trans rfl
theorem u_167_58 {S : Scr} {d : Nat} {a0 a1 a2 a3 a4 a5 : AV} {st : List AV} {sh : Shp} {I : IM} {R : RM} : ev S d 167 58 [a0, a1, a2, a3, a4, a5] st (sh, I, R) = ev S d 167 59 [a0, a1, a2, a3, a4, a5] (.inl 0 :: st) (sh, I, R) := (ev_eq f_167_58).trans rfl
theorem f_167_59 : fetch 167 59 = some (59, .iload_n 3, 1, [3], 0) := (fm_167 59).trans rfl
theorem u_167_59 {S : Scr} {d : Nat} {a0 a1 a2 a4 a5 : AV} {st : List AV} {sh : Shp} {I : IM} {R : RM} {x : Int} : ev S d 167 59 [a0, a1, a2, .inl x, a4, a5] st (sh, I, R) = ev S d 167 60 [a0, a1, a2, .inl x, a4, a5] (.inl x :: st) (sh, I, R) := (ev_eq f_167_59).trans rfl
theorem f_167_60 : fetch 167 60 = some (60, .iadd, 1, [], 0) := (fm_167 60).trans rfl
theorem u_167_60 {S : Scr} {d : Nat} {a0 a1 a2 a3 a4 a5 : AV} {st : List AV} {sh : Shp} {I : IM} {R : RM} {x y : Int} : ev S d 167 60 [a0, a1, a2, a3, a4, a5] (.inl y :: .inl x :: st) (sh, I, R) = ev S d 167 61 [a0, a1, a2, a3, a4, a5] (.inl (wr (x + y)) :: st) (sh, I, R) := (ev_eq f_167_60).trans rfl
theorem f_167_61 : fetch 167 61 = some (61, .iaload, 1, [], 0) := (fm_167 61).trans rfl
theorem u_167_61 {S : Scr} {d : Nat} {a0 a1 a2 a3 a4 a5 : AV} {st : List AV} {sh : Shp} {I : IM} {R : RM} {k : Nat} {i : Int} (h : tg sh k = 100) (h0 : 0 ≤ i) (h1 : i < ln sh k) : ev S d 167 61 [a0, a1, a2, a3, a4, a5] (.inl i :: .inr (.inl k) :: st) (sh, I, R) = ev S d 167 62 [a0, a1, a2, a3, a4, a5] (.inl (I k i) :: st) (sh, I, R) := (ev_eq f_167_61).trans (congrArg (fin S d 167) (if_pos ⟨h, h0, h1⟩))
theorem f_167_62 : fetch 167 62 = some (62, .aload_n 0, 1, [0], 0) := (fm_167 62).trans rfl
theorem u_167_62 {S : Scr} {d : Nat} {a1 a2 a3 a4 a5 : AV} {st : List AV} {sh : Shp} {I : IM} {R : RM} {x : Nat} : ev S d 167 62 [.inr (.inl x), a1, a2, a3, a4, a5] st (sh, I, R) = ev S d 167 63 [.inr (.inl x), a1, a2, a3, a4, a5] (.inr (.inl x) :: st) (sh, I, R) := (ev_eq f_167_62).trans rfl
theorem f_167_63 : fetch 167 63 = some (63, .getfield 9, 3, [9, 0, 1, 79], 0) := (fm_167 63).trans rfl
theorem u_167_63 {S : Scr} {d : Nat} {a0 a1 a2 a3 a4 a5 : AV} {st : List AV} {sh : Shp} {I : IM} {R : RM} {k : Nat} (h : tg sh k = 9) : ev S d 167 63 [a0, a1, a2, a3, a4, a5] (.inr (.inl k) :: st) (sh, I, R) = ev S d 167 66 [a0, a1, a2, a3, a4, a5] (rv (R k 0) :: st) (sh, I, R) := (ev_eq f_167_63).trans (congrArg (fin S d 167) (if_pos h))
theorem f_167_66 : fetch 167 66 = some (66, .bipush 30, 2, [], 30) := (fm_167 66).trans rfl
theorem u_167_66 {S : Scr} {d : Nat} {a0 a1 a2 a3 a4 a5 : AV} {st : List AV} {sh : Shp} {I : IM} {R : RM} : ev S d 167 66 [a0, a1, a2, a3, a4, a5] st (sh, I, R) = ev S d 167 68 [a0, a1, a2, a3, a4, a5] (.inl 30 :: st) (sh, I, R) := (ev_eq f_167_66).trans rfl
theorem f_167_68 : fetch 167 68 = some (68, .iload_n 3, 1, [3], 0) := (fm_167 68).trans rfl
theorem u_167_68 {S : Scr} {d : Nat} {a0 a1 a2 a4 a5 : AV} {st : List AV} {sh : Shp} {I : IM} {R : RM} {x : Int} : ev S d 167 68 [a0, a1, a2, .inl x, a4, a5] st (sh, I, R) = ev S d 167 69 [a0, a1, a2, .inl x, a4, a5] (.inl x :: st) (sh, I, R) := (ev_eq f_167_68).trans rfl
theorem f_167_69 : fetch 167 69 = some (69, .iadd, 1, [], 0) := (fm_167 69).trans rfl
theorem u_167_69 {S : Scr} {d : Nat} {a0 a1 a2 a3 a4 a5 : AV} {st : List AV} {sh : Shp} {I : IM} {R : RM} {x y : Int} : ev S d 167 69 [a0, a1, a2, a3, a4, a5] (.inl y :: .inl x :: st) (sh, I, R) = ev S d 167 70 [a0, a1, a2, a3, a4, a5] (.inl (wr (x + y)) :: st) (sh, I, R) := (ev_eq f_167_69).trans rfl
theorem f_167_70 : fetch 167 70 = some (70, .iaload, 1, [], 0) := (fm_167 70).trans rfl
theorem u_167_70 {S : Scr} {d : Nat} {a0 a1 a2 a3 a4 a5 : AV} {st : List AV} {sh : Shp} {I : IM} {R : RM} {k : Nat} {i : Int} (h : tg sh k = 100) (h0 : 0 ≤ i) (h1 : i < ln sh k) : ev S d 167 70 [a0, a1, a2, a3, a4, a5] (.inl i :: .inr (.inl k) :: st) (sh, I, R) = ev S d 167 71 [a0, a1, a2, a3, a4, a5] (.inl (I k i) :: st) (sh, I, R) := (ev_eq f_167_70).trans (congrArg (fin S d 167) (if_pos ⟨h, h0, h1⟩))
theorem f_167_71 : fetch 167 71 = some (71, .aload_n 0, 1, [0], 0) := (fm_167 71).trans rfl
theorem u_167_71 {S : Scr} {d : Nat} {a1 a2 a3 a4 a5 : AV} {st : List AV} {sh : Shp} {I : IM} {R : RM} {x : Nat} : ev S d 167 71 [.inr (.inl x), a1, a2, a3, a4, a5] st (sh, I, R) = ev S d 167 72 [.inr (.inl x), a1, a2, a3, a4, a5] (.inr (.inl x) :: st) (sh, I, R) := (ev_eq f_167_71).trans rfl
theorem f_167_72 : fetch 167 72 = some (72, .getfield 9, 3, [9, 0, 1, 79], 0) := (fm_167 72).trans rfl
theorem u_167_72 {S : Scr} {d : Nat} {a0 a1 a2 a3 a4 a5 : AV} {st : List AV} {sh : Shp} {I : IM} {R : RM} {k : Nat} (h : tg sh k = 9) : ev S d 167 72 [a0, a1, a2, a3, a4, a5] (.inr (.inl k) :: st) (sh, I, R) = ev S d 167 75 [a0, a1, a2, a3, a4, a5] (rv (R k 0) :: st) (sh, I, R) := (ev_eq f_167_72).trans (congrArg (fin S d 167) (if_pos h))
theorem f_167_75 : fetch 167 75 = some (75, .bipush 60, 2, [], 60) := (fm_167 75).trans rfl
theorem u_167_75 {S : Scr} {d : Nat} {a0 a1 a2 a3 a4 a5 : AV} {st : List AV} {sh : Shp} {I : IM} {R : RM} : ev S d 167 75 [a0, a1, a2, a3, a4, a5] st (sh, I, R) = ev S d 167 77 [a0, a1, a2, a3, a4, a5] (.inl 60 :: st) (sh, I, R) := (ev_eq f_167_75).trans rfl
theorem f_167_77 : fetch 167 77 = some (77, .iload_n 3, 1, [3], 0) := (fm_167 77).trans rfl
theorem u_167_77 {S : Scr} {d : Nat} {a0 a1 a2 a4 a5 : AV} {st : List AV} {sh : Shp} {I : IM} {R : RM} {x : Int} : ev S d 167 77 [a0, a1, a2, .inl x, a4, a5] st (sh, I, R) = ev S d 167 78 [a0, a1, a2, .inl x, a4, a5] (.inl x :: st) (sh, I, R) := (ev_eq f_167_77).trans rfl
theorem f_167_78 : fetch 167 78 = some (78, .iadd, 1, [], 0) := (fm_167 78).trans rfl
theorem u_167_78 {S : Scr} {d : Nat} {a0 a1 a2 a3 a4 a5 : AV} {st : List AV} {sh : Shp} {I : IM} {R : RM} {x y : Int} : ev S d 167 78 [a0, a1, a2, a3, a4, a5] (.inl y :: .inl x :: st) (sh, I, R) = ev S d 167 79 [a0, a1, a2, a3, a4, a5] (.inl (wr (x + y)) :: st) (sh, I, R) := (ev_eq f_167_78).trans rfl
theorem f_167_79 : fetch 167 79 = some (79, .iaload, 1, [], 0) := (fm_167 79).trans rfl
theorem u_167_79 {S : Scr} {d : Nat} {a0 a1 a2 a3 a4 a5 : AV} {st : List AV} {sh : Shp} {I : IM} {R : RM} {k : Nat} {i : Int} (h : tg sh k = 100) (h0 : 0 ≤ i) (h1 : i < ln sh k) : ev S d 167 79 [a0, a1, a2, a3, a4, a5] (.inl i :: .inr (.inl k) :: st) (sh, I, R) = ev S d 167 80 [a0, a1, a2, a3, a4, a5] (.inl (I k i) :: st) (sh, I, R) := (ev_eq f_167_79).trans (congrArg (fin S d 167) (if_pos ⟨h, h0, h1⟩))
theorem f_167_80 : fetch 167 80 = some (80, .invokevirtual 111, 3, [139, 3, 138], 0) := (fm_167 80).trans rfl
theorem u_167_80 {S : Scr} {d : Nat} {a0 a1 a2 a3 a4 a5 : AV} {st : List AV} {sh : Shp} {I : IM} {R : RM} {x0 : Int} {x1 : Int} {x2 : Int} {k : Nat} (h : tg sh k = 9) (hr : st.length ≤ 8) : ev S d 167 80 [a0, a1, a2, a3, a4, a5] (.inl x2 :: .inl x1 :: .inl x0 :: .inr (.inl k) :: st) (sh, I, R) = bnd (cl d 139 [.inr (.inl k), .inl x0, .inl x1, .inl x2] (sh, I, R)) (fun v M => ev S d 167 83 [a0, a1, a2, a3, a4, a5] (psh v st) M) := (ev_eq f_167_80).trans (congrArg (fin S d 167) (if_pos ⟨h, rfl, hr⟩))
theorem f_167_83 : fetch 167 83 = some (83, .istore 4, 2, [4], 0) := (fm_167 83).trans rfl
theorem u_167_83 {S : Scr} {d : Nat} {a0 a1 a2 a3 a4 a5 : AV} {st : List AV} {sh : Shp} {I : IM} {R : RM} {x : Int} : ev S d 167 83 [a0, a1, a2, a3, a4, a5] (.inl x :: st) (sh, I, R) = ev S d 167 85 [a0, a1, a2, a3, .inl x, a5] st (sh, I, R) := (ev_eq f_167_83).trans rfl
theorem f_167_85 : fetch 167 85 = some (85, .iconst 0, 1, [], 0) := (fm_167 85).trans rfl
theorem u_167_85 {S : Scr} {d : Nat} {a0 a1 a2 a3 a4 a5 : AV} {st : List AV} {sh : Shp} {I : IM} {R : RM} : ev S d 167 85 [a0, a1, a2, a3, a4, a5] st (sh, I, R) = ev S d 167 86 [a0, a1, a2, a3, a4, a5] (.inl 0 :: st) (sh, I, R) := (ev_eq f_167_85).trans rfl
theorem f_167_86 : fetch 167 86 = some (86, .istore 5, 2, [5], 0) := (fm_167 86).trans rfl
theorem u_167_86 {S : Scr} {d : Nat} {a0 a1 a2 a3 a4 a5 : AV} {st : List AV} {sh : Shp} {I : IM} {R : RM} {x : Int} : ev S d 167 86 [a0, a1, a2, a3, a4, a5] (.inl x :: st) (sh, I, R) = ev S d 167 88 [a0, a1, a2, a3, a4, .inl x] st (sh, I, R) := (ev_eq f_167_86).trans rfl
theorem f_167_88 : fetch 167 88 = some (88, .iload 5, 2, [5], 0) := (fm_167 88).trans rfl
theorem u_167_88 {S : Scr} {d : Nat} {a0 a1 a2 a3 a4 : AV} {st : List AV} {sh : Shp} {I : IM} {R : RM} {x : Int} : ev S d 167 88 [a0, a1, a2, a3, a4, .inl x] st (sh, I, R) = ev S d 167 90 [a0, a1, a2, a3, a4, .inl x] (.inl x :: st) (sh, I, R) := (ev_eq f_167_88).trans rfl
theorem f_167_90 : fetch 167 90 = some (90, .aload_n 0, 1, [0], 0) := (fm_167 90).trans rfl
theorem u_167_90 {S : Scr} {d : Nat} {a1 a2 a3 a4 a5 : AV} {st : List AV} {sh : Shp} {I : IM} {R : RM} {x : Nat} : ev S d 167 90 [.inr (.inl x), a1, a2, a3, a4, a5] st (sh, I, R) = ev S d 167 91 [.inr (.inl x), a1, a2, a3, a4, a5] (.inr (.inl x) :: st) (sh, I, R) := (ev_eq f_167_90).trans rfl
theorem f_167_91 : fetch 167 91 = some (91, .getfield 9, 3, [9, 0, 1, 79], 0) := (fm_167 91).trans rfl
theorem u_167_91 {S : Scr} {d : Nat} {a0 a1 a2 a3 a4 a5 : AV} {st : List AV} {sh : Shp} {I : IM} {R : RM} {k : Nat} (h : tg sh k = 9) : ev S d 167 91 [a0, a1, a2, a3, a4, a5] (.inr (.inl k) :: st) (sh, I, R) = ev S d 167 94 [a0, a1, a2, a3, a4, a5] (rv (R k 0) :: st) (sh, I, R) := (ev_eq f_167_91).trans (congrArg (fin S d 167) (if_pos h))
theorem f_167_94 : fetch 167 94 = some (94, .bipush 90, 2, [], 90) := (fm_167 94).trans rfl
theorem u_167_94 {S : Scr} {d : Nat} {a0 a1 a2 a3 a4 a5 : AV} {st : List AV} {sh : Shp} {I : IM} {R : RM} : ev S d 167 94 [a0, a1, a2, a3, a4, a5] st (sh, I, R) = ev S d 167 96 [a0, a1, a2, a3, a4, a5] (.inl 90 :: st) (sh, I, R) := (ev_eq f_167_94).trans rfl
theorem f_167_96 : fetch 167 96 = some (96, .iload_n 3, 1, [3], 0) := (fm_167 96).trans rfl
theorem u_167_96 {S : Scr} {d : Nat} {a0 a1 a2 a4 a5 : AV} {st : List AV} {sh : Shp} {I : IM} {R : RM} {x : Int} : ev S d 167 96 [a0, a1, a2, .inl x, a4, a5] st (sh, I, R) = ev S d 167 97 [a0, a1, a2, .inl x, a4, a5] (.inl x :: st) (sh, I, R) := (ev_eq f_167_96).trans rfl
theorem f_167_97 : fetch 167 97 = some (97, .iadd, 1, [], 0) := (fm_167 97).trans rfl
theorem u_167_97 {S : Scr} {d : Nat} {a0 a1 a2 a3 a4 a5 : AV} {st : List AV} {sh : Shp} {I : IM} {R : RM} {x y : Int} : ev S d 167 97 [a0, a1, a2, a3, a4, a5] (.inl y :: .inl x :: st) (sh, I, R) = ev S d 167 98 [a0, a1, a2, a3, a4, a5] (.inl (wr (x + y)) :: st) (sh, I, R) := (ev_eq f_167_97).trans rfl
theorem f_167_98 : fetch 167 98 = some (98, .iaload, 1, [], 0) := (fm_167 98).trans rfl
theorem u_167_98 {S : Scr} {d : Nat} {a0 a1 a2 a3 a4 a5 : AV} {st : List AV} {sh : Shp} {I : IM} {R : RM} {k : Nat} {i : Int} (h : tg sh k = 100) (h0 : 0 ≤ i) (h1 : i < ln sh k) : ev S d 167 98 [a0, a1, a2, a3, a4, a5] (.inl i :: .inr (.inl k) :: st) (sh, I, R) = ev S d 167 99 [a0, a1, a2, a3, a4, a5] (.inl (I k i) :: st) (sh, I, R) := (ev_eq f_167_98).trans (congrArg (fin S d 167) (if_pos ⟨h, h0, h1⟩))
theorem f_167_99 : fetch 167 99 = some (99, .if_icmp .ge 46, 3, [145], 0) := (fm_167 99).trans rfl
theorem u_167_99 {S : Scr} {d : Nat} {a0 a1 a2 a3 a4 a5 : AV} {st : List AV} {sh : Shp} {I : IM} {R : RM} {x y : Int} : ev S d 167 99 [a0, a1, a2, a3, a4, a5] (.inl y :: .inl x :: st) (sh, I, R) = if y ≤ x then ev S d 167 145 [a0, a1, a2, a3, a4, a5] st (sh, I, R) else ev S d 167 102 [a0, a1, a2, a3, a4, a5] st (sh, I, R) := (ev_eq f_167_99).trans fin_icmp_ge
theorem f_167_102 : fetch 167 102 = some (102, .aload_n 0, 1, [0], 0) := (fm_167 102).trans rfl
theorem u_167_102 {S : Scr} {d : Nat} {a1 a2 a3 a4 a5 : AV} {st : List AV} {sh : Shp} {I : IM} {R : RM} {x : Nat} : ev S d 167 102 [.inr (.inl x), a1, a2, a3, a4, a5] st (sh, I, R) = ev S d 167 103 [.inr (.inl x), a1, a2, a3, a4, a5] (.inr (.inl x) :: st) (sh, I, R) := (ev_eq f_167_102).trans rfl
theorem f_167_103 : fetch 167 103 = some (103, .iload 4, 2, [4], 0) := (fm_167 103).trans rfl
theorem u_167_103 {S : Scr} {d : Nat} {a0 a1 a2 a3 a5 : AV} {st : List AV} {sh : Shp} {I : IM} {R : RM} {x : Int} : ev S d 167 103 [a0, a1, a2, a3, .inl x, a5] st (sh, I, R) = ev S d 167 105 [a0, a1, a2, a3, .inl x, a5] (.inl x :: st) (sh, I, R) := (ev_eq f_167_103).trans rfl
theorem f_167_105 : fetch 167 105 = some (105, .aload_n 0, 1, [0], 0) := (fm_167 105).trans rfl
theorem u_167_105 {S : Scr} {d : Nat} {a1 a2 a3 a4 a5 : AV} {st : List AV} {sh : Shp} {I : IM} {R : RM} {x : Nat} : ev S d 167 105 [.inr (.inl x), a1, a2, a3, a4, a5] st (sh, I, R) = ev S d 167 106 [.inr (.inl x), a1, a2, a3, a4, a5] (.inr (.inl x) :: st) (sh, I, R) := (ev_eq f_167_105).trans rfl
theorem f_167_106 : fetch 167 106 = some (106, .getfield 9, 3, [9, 0, 1, 79], 0) := (fm_167 106).trans rfl
theorem u_167_106 {S : Scr} {d : Nat} {a0 a1 a2 a3 a4 a5 : AV} {st : List AV} {sh : Shp} {I : IM} {R : RM} {k : Nat} (h : tg sh k = 9) : ev S d 167 106 [a0, a1, a2, a3, a4, a5] (.inr (.inl k) :: st) (sh, I, R) = ev S d 167 109 [a0, a1, a2, a3, a4, a5] (rv (R k 0) :: st) (sh, I, R) := (ev_eq f_167_106).trans (congrArg (fin S d 167) (if_pos h))
theorem f_167_109 : fetch 167 109 = some (109, .bipush 120, 2, [], 120) := (fm_167 109).trans rfl
theorem u_167_109 {S : Scr} {d : Nat} {a0 a1 a2 a3 a4 a5 : AV} {st : List AV} {sh : Shp} {I : IM} {R : RM} : ev S d 167 109 [a0, a1, a2, a3, a4, a5] st (sh, I, R) = ev S d 167 111 [a0, a1, a2, a3, a4, a5] (.inl 120 :: st) (sh, I, R) := (ev_eq f_167_109).trans rfl
theorem f_167_111 : fetch 167 111 = some (111, .bipush 6, 2, [], 6) := (fm_167 111).trans rfl
theorem u_167_111 {S : Scr} {d : Nat} {a0 a1 a2 a3 a4 a5 : AV} {st : List AV} {sh : Shp} {I : IM} {R : RM} : ev S d 167 111 [a0, a1, a2, a3, a4, a5] st (sh, I, R) = ev S d 167 113 [a0, a1, a2, a3, a4, a5] (.inl 6 :: st) (sh, I, R) := (ev_eq f_167_111).trans rfl
theorem f_167_113 : fetch 167 113 = some (113, .iload_n 3, 1, [3], 0) := (fm_167 113).trans rfl
theorem u_167_113 {S : Scr} {d : Nat} {a0 a1 a2 a4 a5 : AV} {st : List AV} {sh : Shp} {I : IM} {R : RM} {x : Int} : ev S d 167 113 [a0, a1, a2, .inl x, a4, a5] st (sh, I, R) = ev S d 167 114 [a0, a1, a2, .inl x, a4, a5] (.inl x :: st) (sh, I, R) := (ev_eq f_167_113).trans rfl
theorem f_167_114 : fetch 167 114 = some (114, .imul, 1, [], 0) := (fm_167 114).trans rfl
theorem u_167_114 {S : Scr} {d : Nat} {a0 a1 a2 a3 a4 a5 : AV} {st : List AV} {sh : Shp} {I : IM} {R : RM} {x y : Int} : ev S d 167 114 [a0, a1, a2, a3, a4, a5] (.inl y :: .inl x :: st) (sh, I, R) = ev S d 167 115 [a0, a1, a2, a3, a4, a5] (.inl (wr (x * y)) :: st) (sh, I, R) := (ev_eq f_167_114).trans rfl
theorem f_167_115 : fetch 167 115 = some (115, .iadd, 1, [], 0) := (fm_167 115).trans rfl
theorem u_167_115 {S : Scr} {d : Nat} {a0 a1 a2 a3 a4 a5 : AV} {st : List AV} {sh : Shp} {I : IM} {R : RM} {x y : Int} : ev S d 167 115 [a0, a1, a2, a3, a4, a5] (.inl y :: .inl x :: st) (sh, I, R) = ev S d 167 116 [a0, a1, a2, a3, a4, a5] (.inl (wr (x + y)) :: st) (sh, I, R) := (ev_eq f_167_115).trans rfl
theorem f_167_116 : fetch 167 116 = some (116, .iload 5, 2, [5], 0) := (fm_167 116).trans rfl
theorem u_167_116 {S : Scr} {d : Nat} {a0 a1 a2 a3 a4 : AV} {st : List AV} {sh : Shp} {I : IM} {R : RM} {x : Int} : ev S d 167 116 [a0, a1, a2, a3, a4, .inl x] st (sh, I, R) = ev S d 167 118 [a0, a1, a2, a3, a4, .inl x] (.inl x :: st) (sh, I, R) := (ev_eq f_167_116).trans rfl
theorem f_167_118 : fetch 167 118 = some (118, .iadd, 1, [], 0) := (fm_167 118).trans rfl
theorem u_167_118 {S : Scr} {d : Nat} {a0 a1 a2 a3 a4 a5 : AV} {st : List AV} {sh : Shp} {I : IM} {R : RM} {x y : Int} : ev S d 167 118 [a0, a1, a2, a3, a4, a5] (.inl y :: .inl x :: st) (sh, I, R) = ev S d 167 119 [a0, a1, a2, a3, a4, a5] (.inl (wr (x + y)) :: st) (sh, I, R) := (ev_eq f_167_118).trans rfl
theorem f_167_119 : fetch 167 119 = some (119, .iaload, 1, [], 0) := (fm_167 119).trans rfl
theorem u_167_119 {S : Scr} {d : Nat} {a0 a1 a2 a3 a4 a5 : AV} {st : List AV} {sh : Shp} {I : IM} {R : RM} {k : Nat} {i : Int} (h : tg sh k = 100) (h0 : 0 ≤ i) (h1 : i < ln sh k) : ev S d 167 119 [a0, a1, a2, a3, a4, a5] (.inl i :: .inr (.inl k) :: st) (sh, I, R) = ev S d 167 120 [a0, a1, a2, a3, a4, a5] (.inl (I k i) :: st) (sh, I, R) := (ev_eq f_167_119).trans (congrArg (fin S d 167) (if_pos ⟨h, h0, h1⟩))
theorem f_167_120 : fetch 167 120 = some (120, .aload_n 0, 1, [0], 0) := (fm_167 120).trans rfl
theorem u_167_120 {S : Scr} {d : Nat} {a1 a2 a3 a4 a5 : AV} {st : List AV} {sh : Shp} {I : IM} {R : RM} {x : Nat} : ev S d 167 120 [.inr (.inl x), a1, a2, a3, a4, a5] st (sh, I, R) = ev S d 167 121 [.inr (.inl x), a1, a2, a3, a4, a5] (.inr (.inl x) :: st) (sh, I, R) := (ev_eq f_167_120).trans rfl
theorem f_167_121 : fetch 167 121 = some (121, .getfield 9, 3, [9, 0, 1, 79], 0) := (fm_167 121).trans rfl
theorem u_167_121 {S : Scr} {d : Nat} {a0 a1 a2 a3 a4 a5 : AV} {st : List AV} {sh : Shp} {I : IM} {R : RM} {k : Nat} (h : tg sh k = 9) : ev S d 167 121 [a0, a1, a2, a3, a4, a5] (.inr (.inl k) :: st) (sh, I, R) = ev S d 167 124 [a0, a1, a2, a3, a4, a5] (rv (R k 0) :: st) (sh, I, R) := (ev_eq f_167_121).trans (congrArg (fin S d 167) (if_pos h))
theorem f_167_124 : fetch 167 124 = some (124, .sipush 300, 3, [], 300) := (fm_167 124).trans rfl
theorem u_167_124 {S : Scr} {d : Nat} {a0 a1 a2 a3 a4 a5 : AV} {st : List AV} {sh : Shp} {I : IM} {R : RM} : ev S d 167 124 [a0, a1, a2, a3, a4, a5] st (sh, I, R) = ev S d 167 127 [a0, a1, a2, a3, a4, a5] (.inl 300 :: st) (sh, I, R) := (ev_eq f_167_124).trans rfl
theorem f_167_127 : fetch 167 127 = some (127, .bipush 6, 2, [], 6) := (fm_167 127).trans rfl
theorem u_167_127 {S : Scr} {d : Nat} {a0 a1 a2 a3 a4 a5 : AV} {st : List AV} {sh : Shp} {I : IM} {R : RM} : ev S d 167 127 [a0, a1, a2, a3, a4, a5] st (sh, I, R) = ev S d 167 129 [a0, a1, a2, a3, a4, a5] (.inl 6 :: st) (sh, I, R) := (ev_eq f_167_127).trans rfl
theorem f_167_129 : fetch 167 129 = some (129, .iload_n 3, 1, [3], 0) := (fm_167 129).trans rfl
theorem u_167_129 {S : Scr} {d : Nat} {a0 a1 a2 a4 a5 : AV} {st : List AV} {sh : Shp} {I : IM} {R : RM} {x : Int} : ev S d 167 129 [a0, a1, a2, .inl x, a4, a5] st (sh, I, R) = ev S d 167 130 [a0, a1, a2, .inl x, a4, a5] (.inl x :: st) (sh, I, R) := (ev_eq f_167_129).trans rfl
theorem f_167_130 : fetch 167 130 = some (130, .imul, 1, [], 0) := (fm_167 130).trans rfl
theorem u_167_130 {S : Scr} {d : Nat} {a0 a1 a2 a3 a4 a5 : AV} {st : List AV} {sh : Shp} {I : IM} {R : RM} {x y : Int} : ev S d 167 130 [a0, a1, a2, a3, a4, a5] (.inl y :: .inl x :: st) (sh, I, R) = ev S d 167 131 [a0, a1, a2, a3, a4, a5] (.inl (wr (x * y)) :: st) (sh, I, R) := (ev_eq f_167_130).trans rfl
theorem f_167_131 : fetch 167 131 = some (131, .iadd, 1, [], 0) := (fm_167 131).trans rfl
theorem u_167_131 {S : Scr} {d : Nat} {a0 a1 a2 a3 a4 a5 : AV} {st : List AV} {sh : Shp} {I : IM} {R : RM} {x y : Int} : ev S d 167 131 [a0, a1, a2, a3, a4, a5] (.inl y :: .inl x :: st) (sh, I, R) = ev S d 167 132 [a0, a1, a2, a3, a4, a5] (.inl (wr (x + y)) :: st) (sh, I, R) := (ev_eq f_167_131).trans rfl
theorem f_167_132 : fetch 167 132 = some (132, .iload 5, 2, [5], 0) := (fm_167 132).trans rfl
theorem u_167_132 {S : Scr} {d : Nat} {a0 a1 a2 a3 a4 : AV} {st : List AV} {sh : Shp} {I : IM} {R : RM} {x : Int} : ev S d 167 132 [a0, a1, a2, a3, a4, .inl x] st (sh, I, R) = ev S d 167 134 [a0, a1, a2, a3, a4, .inl x] (.inl x :: st) (sh, I, R) := (ev_eq f_167_132).trans rfl
theorem f_167_134 : fetch 167 134 = some (134, .iadd, 1, [], 0) := (fm_167 134).trans rfl
theorem u_167_134 {S : Scr} {d : Nat} {a0 a1 a2 a3 a4 a5 : AV} {st : List AV} {sh : Shp} {I : IM} {R : RM} {x y : Int} : ev S d 167 134 [a0, a1, a2, a3, a4, a5] (.inl y :: .inl x :: st) (sh, I, R) = ev S d 167 135 [a0, a1, a2, a3, a4, a5] (.inl (wr (x + y)) :: st) (sh, I, R) := (ev_eq f_167_134).trans rfl
theorem f_167_135 : fetch 167 135 = some (135, .iaload, 1, [], 0) := (fm_167 135).trans rfl
theorem u_167_135 {S : Scr} {d : Nat} {a0 a1 a2 a3 a4 a5 : AV} {st : List AV} {sh : Shp} {I : IM} {R : RM} {k : Nat} {i : Int} (h : tg sh k = 100) (h0 : 0 ≤ i) (h1 : i < ln sh k) : ev S d 167 135 [a0, a1, a2, a3, a4, a5] (.inl i :: .inr (.inl k) :: st) (sh, I, R) = ev S d 167 136 [a0, a1, a2, a3, a4, a5] (.inl (I k i) :: st) (sh, I, R) := (ev_eq f_167_135).trans (congrArg (fin S d 167) (if_pos ⟨h, h0, h1⟩))
theorem f_167_136 : fetch 167 136 = some (136, .invokevirtual 87, 3, [141, 3, 131], 0) := (fm_167 136).trans rfl
theorem u_167_136 {S : Scr} {d : Nat} {a0 a1 a2 a3 a4 a5 : AV} {st : List AV} {sh : Shp} {I : IM} {R : RM} {x0 : Int} {x1 : Int} {x2 : Int} {k : Nat} (h : tg sh k = 9) (hr : st.length ≤ 8) : ev S d 167 136 [a0, a1, a2, a3, a4, a5] (.inl x2 :: .inl x1 :: .inl x0 :: .inr (.inl k) :: st) (sh, I, R) = bnd (cl d 141 [.inr (.inl k), .inl x0, .inl x1, .inl x2] (sh, I, R)) (fun v M => ev S d 167 139 [a0, a1, a2, a3, a4, a5] (psh v st) M) := (ev_eq f_167_136).trans (congrArg (fin S d 167) (if_pos ⟨h, rfl, hr⟩))
theorem f_167_139 : fetch 167 139 = some (139, .iinc 5 1, 3, [5], 1) := (fm_167 139).trans rfl
theorem u_167_139 {S : Scr} {d : Nat} {a0 a1 a2 a3 a4 : AV} {st : List AV} {sh : Shp} {I : IM} {R : RM} {x : Int} : ev S d 167 139 [a0, a1, a2, a3, a4, .inl x] st (sh, I, R) = ev S d 167 142 [a0, a1, a2, a3, a4, .inl (wr (x + 1))] st (sh, I, R) := (ev_eq f_167_139).trans rfl
theorem f_167_142 : fetch 167 142 = some (142, .goto (-54), 3, [88], 0) := (fm_167 142).trans rfl
theorem u_167_142 {S : Scr} {d : Nat} {a0 a1 a2 a3 a4 a5 : AV} {st : List AV} {sh : Shp} {I : IM} {R : RM} : ev S d 167 142 [a0, a1, a2, a3, a4, a5] st (sh, I, R) = ev S d 167 88 [a0, a1, a2, a3, a4, a5] st (sh, I, R) := (ev_eq f_167_142).trans rfl
theorem f_167_145 : fetch 167 145 = some (145, .aload_n 0, 1, [0], 0) := (fm_167 145).trans rfl
theorem u_167_145 {S : Scr} {d : Nat} {a1 a2 a3 a4 a5 : AV} {st : List AV} {sh : Shp} {I : IM} {R : RM} {x : Nat} : ev S d 167 145 [.inr (.inl x), a1, a2, a3, a4, a5] st (sh, I, R) = ev S d 167 146 [.inr (.inl x), a1, a2, a3, a4, a5] (.inr (.inl x) :: st) (sh, I, R) := (ev_eq f_167_145).trans rfl
theorem f_167_146 : fetch 167 146 = some (146, .getfield 34, 3, [9, 9, 1, 87], 0) := (fm_167 146).trans rfl
theorem u_167_146 {S : Scr} {d : Nat} {a0 a1 a2 a3 a4 a5 : AV} {st : List AV} {sh : Shp} {I : IM} {R : RM} {k : Nat} (h : tg sh k = 9) : ev S d 167 146 [a0, a1, a2, a3, a4, a5] (.inr (.inl k) :: st) (sh, I, R) = ev S d 167 149 [a0, a1, a2, a3, a4, a5] (rv (R k 9) :: st) (sh, I, R) := (ev_eq f_167_146).trans (congrArg (fin S d 167) (if_pos h))
theorem f_167_149 : fetch 167 149 = some (149, .iload_n 2, 1, [2], 0) := (fm_167 149).trans rfl
theorem u_167_149 {S : Scr} {d : Nat} {a0 a1 a3 a4 a5 : AV} {st : List AV} {sh : Shp} {I : IM} {R : RM} {x : Int} : ev S d 167 149 [a0, a1, .inl x, a3, a4, a5] st (sh, I, R) = ev S d 167 150 [a0, a1, .inl x, a3, a4, a5] (.inl x :: st) (sh, I, R) := (ev_eq f_167_149).trans rfl
theorem f_167_150 : fetch 167 150 = some (150, .iload 4, 2, [4], 0) := (fm_167 150).trans rfl
theorem u_167_150 {S : Scr} {d : Nat} {a0 a1 a2 a3 a5 : AV} {st : List AV} {sh : Shp} {I : IM} {R : RM} {x : Int} : ev S d 167 150 [a0, a1, a2, a3, .inl x, a5] st (sh, I, R) = ev S d 167 152 [a0, a1, a2, a3, .inl x, a5] (.inl x :: st) (sh, I, R) := (ev_eq f_167_150).trans rfl
theorem f_167_152 : fetch 167 152 = some (152, .iastore, 1, [], 0) := (fm_167 152).trans rfl
theorem u_167_152 {S : Scr} {d : Nat} {a0 a1 a2 a3 a4 a5 : AV} {st : List AV} {sh : Shp} {I : IM} {R : RM} {k : Nat} {i x : Int} (h : tg sh k = 100) (h0 : 0 ≤ i) (h1 : i < ln sh k) : ev S d 167 152 [a0, a1, a2, a3, a4, a5] (.inl x :: .inl i :: .inr (.inl k) :: st) (sh, I, R) = ev S d 167 153 [a0, a1, a2, a3, a4, a5] st (sh, up I k i x, R) := (ev_eq f_167_152).trans (congrArg (fin S d 167) (if_pos ⟨h, h0, h1⟩))
theorem f_167_153 : fetch 167 153 = some (153, .iinc 2 1, 3, [2], 1) := (fm_167 153).trans rfl
theorem u_167_153 {S : Scr} {d : Nat} {a0 a1 a3 a4 a5 : AV} {st : List AV} {sh : Shp} {I : IM} {R : RM} {x : Int} : ev S d 167 153 [a0, a1, .inl x, a3, a4, a5] st (sh, I, R) = ev S d 167 156 [a0, a1, .inl (wr (x + 1)), a3, a4, a5] st (sh, I, R) := (ev_eq f_167_153).trans rfl
theorem f_167_156 : fetch 167 156 = some (156, .goto (-118), 3, [38], 0) := (fm_167 156).trans rfl
theorem u_167_156 {S : Scr} {d : Nat} {a0 a1 a2 a3 a4 a5 : AV} {st : List AV} {sh : Shp} {I : IM} {R : RM} : ev S d 167 156 [a0, a1, a2, a3, a4, a5] st (sh, I, R) = ev S d 167 38 [a0, a1, a2, a3, a4, a5] st (sh, I, R) := (ev_eq f_167_156).trans rfl
theorem f_167_159 : fetch 167 159 = some (159, .iconst 0, 1, [], 0) := (fm_167 159).trans rfl
theorem u_167_159 {S : Scr} {d : Nat} {a0 a1 a2 a3 a4 a5 : AV} {st : List AV} {sh : Shp} {I : IM} {R : RM} : ev S d 167 159 [a0, a1, a2, a3, a4, a5] st (sh, I, R) = ev S d 167 160 [a0, a1, a2, a3, a4, a5] (.inl 0 :: st) (sh, I, R) := (ev_eq f_167_159).trans rfl
theorem f_167_160 : fetch 167 160 = some (160, .istore_n 2, 1, [2], 0) := (fm_167 160).trans rfl
theorem u_167_160 {S : Scr} {d : Nat} {a0 a1 a2 a3 a4 a5 : AV} {st : List AV} {sh : Shp} {I : IM} {R : RM} {x : Int} : ev S d 167 160 [a0, a1, a2, a3, a4, a5] (.inl x :: st) (sh, I, R) = ev S d 167 161 [a0, a1, .inl x, a3, a4, a5] st (sh, I, R) := (ev_eq f_167_160).trans rfl
theorem f_167_161 : fetch 167 161 = some (161, .iload_n 2, 1, [2], 0) := (fm_167 161).trans rfl
theorem u_167_161 {S : Scr} {d : Nat} {a0 a1 a3 a4 a5 : AV} {st : List AV} {sh : Shp} {I : IM} {R : RM} {x : Int} : ev S d 167 161 [a0, a1, .inl x, a3, a4, a5] st (sh, I, R) = ev S d 167 162 [a0, a1, .inl x, a3, a4, a5] (.inl x :: st) (sh, I, R) := (ev_eq f_167_161).trans rfl
theorem f_167_162 : fetch 167 162 = some (162, .aload_n 0, 1, [0], 0) := (fm_167 162).trans rfl
theorem u_167_162 {S : Scr} {d : Nat} {a1 a2 a3 a4 a5 : AV} {st : List AV} {sh : Shp} {I : IM} {R : RM} {x : Nat} : ev S d 167 162 [.inr (.inl x), a1, a2, a3, a4, a5] st (sh, I, R) = ev S d 167 163 [.inr (.inl x), a1, a2, a3, a4, a5] (.inr (.inl x) :: st) (sh, I, R) := (ev_eq f_167_162).trans rfl
theorem f_167_163 : fetch 167 163 = some (163, .getfield 137, 3, [9, 10, 0, 97], 0) := (fm_167 163).trans rfl
theorem u_167_163 {S : Scr} {d : Nat} {a0 a1 a2 a3 a4 a5 : AV} {st : List AV} {sh : Shp} {I : IM} {R : RM} {k : Nat} (h : tg sh k = 9) : ev S d 167 163 [a0, a1, a2, a3, a4, a5] (.inr (.inl k) :: st) (sh, I, R) = ev S d 167 166 [a0, a1, a2, a3, a4, a5] (.inl (I k 10) :: st) (sh, I, R) := (ev_eq f_167_163).trans (congrArg (fin S d 167) (if_pos h))
theorem f_167_166 : fetch 167 166 = some (166, .if_icmp .ge 89, 3, [255], 0) := (fm_167 166).trans rfl
theorem u_167_166 {S : Scr} {d : Nat} {a0 a1 a2 a3 a4 a5 : AV} {st : List AV} {sh : Shp} {I : IM} {R : RM} {x y : Int} : ev S d 167 166 [a0, a1, a2, a3, a4, a5] (.inl y :: .inl x :: st) (sh, I, R) = if y ≤ x then ev S d 167 255 [a0, a1, a2, a3, a4, a5] st (sh, I, R) else ev S d 167 169 [a0, a1, a2, a3, a4, a5] st (sh, I, R) := (ev_eq f_167_166).trans fin_icmp_ge
theorem f_167_169 : fetch 167 169 = some (169, .iconst 0, 1, [], 0) := (fm_167 169).trans rfl
theorem u_167_169 {S : Scr} {d : Nat} {a0 a1 a2 a3 a4 a5 : AV} {st : List AV} {sh : Shp} {I : IM} {R : RM} : ev S d 167 169 [a0, a1, a2, a3, a4, a5] st (sh, I, R) = ev S d 167 170 [a0, a1, a2, a3, a4, a5] (.inl 0 :: st) (sh, I, R) := (ev_eq f_167_169).trans rfl
theorem f_167_170 : fetch 167 170 = some (170, .istore_n 3, 1, [3], 0) := (fm_167 170).trans rfl
theorem u_167_170 {S : Scr} {d : Nat} {a0 a1 a2 a3 a4 a5 : AV} {st : List AV} {sh : Shp} {I : IM} {R : RM} {x : Int} : ev S d 167 170 [a0, a1, a2, a3, a4, a5] (.inl x :: st) (sh, I, R) = ev S d 167 171 [a0, a1, a2, .inl x, a4, a5] st (sh, I, R) := (ev_eq f_167_170).trans rfl
theorem f_167_171 : fetch 167 171 = some (171, .iload_n 3, 1, [3], 0) := (fm_167 171).trans rfl
theorem u_167_171 {S : Scr} {d : Nat} {a0 a1 a2 a4 a5 : AV} {st : List AV} {sh : Shp} {I : IM} {R : RM} {x : Int} : ev S d 167 171 [a0, a1, a2, .inl x, a4, a5] st (sh, I, R) = ev S d 167 172 [a0, a1, a2, .inl x, a4, a5] (.inl x :: st) (sh, I, R) := (ev_eq f_167_171).trans rfl
theorem f_167_172 : fetch 167 172 = some (172, .aload_n 0, 1, [0], 0) := (fm_167 172).trans rfl
theorem u_167_172 {S : Scr} {d : Nat} {a1 a2 a3 a4 a5 : AV} {st : List AV} {sh : Shp} {I : IM} {R : RM} {x : Nat} : ev S d 167 172 [.inr (.inl x), a1, a2, a3, a4, a5] st (sh, I, R) = ev S d 167 173 [.inr (.inl x), a1, a2, a3, a4, a5] (.inr (.inl x) :: st) (sh, I, R) := (ev_eq f_167_172).trans rfl
theorem f_167_173 : fetch 167 173 = some (173, .getfield 9, 3, [9, 0, 1, 79], 0) := (fm_167 173).trans rfl
theorem u_167_173 {S : Scr} {d : Nat} {a0 a1 a2 a3 a4 a5 : AV} {st : List AV} {sh : Shp} {I : IM} {R : RM} {k : Nat} (h : tg sh k = 9) : ev S d 167 173 [a0, a1, a2, a3, a4, a5] (.inr (.inl k) :: st) (sh, I, R) = ev S d 167 176 [a0, a1, a2, a3, a4, a5] (rv (R k 0) :: st) (sh, I, R) := (ev_eq f_167_173).trans (congrArg (fin S d 167) (if_pos h))
theorem f_167_176 : fetch 167 176 = some (176, .bipush 60, 2, [], 60) := (fm_167 176).trans rfl
theorem u_167_176 {S : Scr} {d : Nat} {a0 a1 a2 a3 a4 a5 : AV} {st : List AV} {sh : Shp} {I : IM} {R : RM} : ev S d 167 176 [a0, a1, a2, a3, a4, a5] st (sh, I, R) = ev S d 167 178 [a0, a1, a2, a3, a4, a5] (.inl 60 :: st) (sh, I, R) := (ev_eq f_167_176).trans rfl
theorem f_167_178 : fetch 167 178 = some (178, .aload_n 0, 1, [0], 0) := (fm_167 178).trans rfl
theorem u_167_178 {S : Scr} {d : Nat} {a1 a2 a3 a4 a5 : AV} {st : List AV} {sh : Shp} {I : IM} {R : RM} {x : Nat} : ev S d 167 178 [.inr (.inl x), a1, a2, a3, a4, a5] st (sh, I, R) = ev S d 167 179 [.inr (.inl x), a1, a2, a3, a4, a5] (.inr (.inl x) :: st) (sh, I, R) := (ev_eq f_167_178).trans rfl
theorem f_167_179 : fetch 167 179 = some (179, .getfield 28, 3, [9, 7, 1, 85], 0) := (fm_167 179).trans rfl
theorem u_167_179 {S : Scr} {d : Nat} {a0 a1 a2 a3 a4 a5 : AV} {st : List AV} {sh : Shp} {I : IM} {R : RM} {k : Nat} (h : tg sh k = 9) : ev S d 167 179 [a0, a1, a2, a3, a4, a5] (.inr (.inl k) :: st) (sh, I, R) = ev S d 167 182 [a0, a1, a2, a3, a4, a5] (rv (R k 7) :: st) (sh, I, R) := (ev_eq f_167_179).trans (congrArg (fin S d 167) (if_pos h))
theorem f_167_182 : fetch 167 182 = some (182, .iload_n 2, 1, [2], 0) := (fm_167 182).trans rfl
theorem u_167_182 {S : Scr} {d : Nat} {a0 a1 a3 a4 a5 : AV} {st : List AV} {sh : Shp} {I : IM} {R : RM} {x : Int} : ev S d 167 182 [a0, a1, .inl x, a3, a4, a5] st (sh, I, R) = ev S d 167 183 [a0, a1, .inl x, a3, a4, a5] (.inl x :: st) (sh, I, R) := (ev_eq f_167_182).trans rfl
theorem f_167_183 : fetch 167 183 = some (183, .iaload, 1, [], 0) := (fm_167 183).trans rfl
theorem u_167_183 {S : Scr} {d : Nat} {a0 a1 a2 a3 a4 a5 : AV} {st : List AV} {sh : Shp} {I : IM} {R : RM} {k : Nat} {i : Int} (h : tg sh k = 100) (h0 : 0 ≤ i) (h1 : i < ln sh k) : ev S d 167 183 [a0, a1, a2, a3, a4, a5] (.inl i :: .inr (.inl k) :: st) (sh, I, R) = ev S d 167 184 [a0, a1, a2, a3, a4, a5] (.inl (I k i) :: st) (sh, I, R) := (ev_eq f_167_183).trans (congrArg (fin S d 167) (if_pos ⟨h, h0, h1⟩))
theorem f_167_184 : fetch 167 184 = some (184, .iadd, 1, [], 0) := (fm_167 184).trans rfl
theorem u_167_184 {S : Scr} {d : Nat} {a0 a1 a2 a3 a4 a5 : AV} {st : List AV} {sh : Shp} {I : IM} {R : RM} {x y : Int} : ev S d 167 184 [a0, a1, a2, a3, a4, a5] (.inl y :: .inl x :: st) (sh, I, R) = ev S d 167 185 [a0, a1, a2, a3, a4, a5] (.inl (wr (x + y)) :: st) (sh, I, R) := (ev_eq f_167_184).trans rfl
theorem f_167_185 : fetch 167 185 = some (185, .iaload, 1, [], 0) := (fm_167 185).trans rfl
theorem u_167_185 {S : Scr} {d : Nat} {a0 a1 a2 a3 a4 a5 : AV} {st : List AV} {sh : Shp} {I : IM} {R : RM} {k : Nat} {i : Int} (h : tg sh k = 100) (h0 : 0 ≤ i) (h1 : i < ln sh k) : ev S d 167 185 [a0, a1, a2, a3, a4, a5] (.inl i :: .inr (.inl k) :: st) (sh, I, R) = ev S d 167 186 [a0, a1, a2, a3, a4, a5] (.inl (I k i) :: st) (sh, I, R) := (ev_eq f_167_185).trans (congrArg (fin S d 167) (if_pos ⟨h, h0, h1⟩))
theorem f_167_186 : fetch 167 186 = some (186, .if_icmp .ge 63, 3, [249], 0) := (fm_167 186).trans rfl
theorem u_167_186 {S : Scr} {d : Nat} {a0 a1 a2 a3 a4 a5 : AV} {st : List AV} {sh : Shp} {I : IM} {R : RM} {x y : Int} : ev S d 167 186 [a0, a1, a2, a3, a4, a5] (.inl y :: .inl x :: st) (sh, I, R) = if y ≤ x then ev S d 167 249 [a0, a1, a2, a3, a4, a5] st (sh, I, R) else ev S d 167 189 [a0, a1, a2, a3, a4, a5] st (sh, I, R) := (ev_eq f_167_186).trans fin_icmp_ge
theorem f_167_189 : fetch 167 189 = some (189, .aload_n 0, 1, [0], 0) := (fm_167 189).trans rfl
theorem u_167_189 {S : Scr} {d : Nat} {a1 a2 a3 a4 a5 : AV} {st : List AV} {sh : Shp} {I : IM} {R : RM} {x : Nat} : ev S d 167 189 [.inr (.inl x), a1, a2, a3, a4, a5] st (sh, I, R) = ev S d 167 190 [.inr (.inl x), a1, a2, a3, a4, a5] (.inr (.inl x) :: st) (sh, I, R) := (ev_eq f_167_189).trans rfl
theorem f_167_190 : fetch 167 190 = some (190, .aload_n 0, 1, [0], 0) := (fm_167 190).trans rfl
theorem u_167_190 {S : Scr} {d : Nat} {a1 a2 a3 a4 a5 : AV} {st : List AV} {sh : Shp} {I : IM} {R : RM} {x : Nat} : ev S d 167 190 [.inr (.inl x), a1, a2, a3, a4, a5] st (sh, I, R) = ev S d 167 191 [.inr (.inl x), a1, a2, a3, a4, a5] (.inr (.inl x) :: st) (sh, I, R) := (ev_eq f_167_190).trans rfl
theorem f_167_191 : fetch 167 191 = some (191, .getfield 28, 3, [9, 7, 1, 85], 0) := (fm_167 191).trans rfl
theorem u_167_191 {S : Scr} {d : Nat} {a0 a1 a2 a3 a4 a5 : AV} {st : List AV} {sh : Shp} {I : IM} {R : RM} {k : Nat} (h : tg sh k = 9) : ev S d 167 191 [a0, a1, a2, a3, a4, a5] (.inr (.inl k) :: st) (sh, I, R) = ev S d 167 194 [a0, a1, a2, a3, a4, a5] (rv (R k 7) :: st) (sh, I, R) := (ev_eq f_167_191).trans (congrArg (fin S d 167) (if_pos h))
theorem f_167_194 : fetch 167 194 = some (194, .iload_n 2, 1, [2], 0) := (fm_167 194).trans rfl
theorem u_167_194 {S : Scr} {d : Nat} {a0 a1 a3 a4 a5 : AV} {st : List AV} {sh : Shp} {I : IM} {R : RM} {x : Int} : ev S d 167 194 [a0, a1, .inl x, a3, a4, a5] st (sh, I, R) = ev S d 167 195 [a0, a1, .inl x, a3, a4, a5] (.inl x :: st) (sh, I, R) := (ev_eq f_167_194).trans rfl
theorem f_167_195 : fetch 167 195 = some (195, .iaload, 1, [], 0) := (fm_167 195).trans rfl
theorem u_167_195 {S : Scr} {d : Nat} {a0 a1 a2 a3 a4 a5 : AV} {st : List AV} {sh : Shp} {I : IM} {R : RM} {k : Nat} {i : Int} (h : tg sh k = 100) (h0 : 0 ≤ i) (h1 : i < ln sh k) : ev S d 167 195 [a0, a1, a2, a3, a4, a5] (.inl i :: .inr (.inl k) :: st) (sh, I, R) = ev S d 167 196 [a0, a1, a2, a3, a4, a5] (.inl (I k i) :: st) (sh, I, R) := (ev_eq f_167_195).trans (congrArg (fin S d 167) (if_pos ⟨h, h0, h1⟩))
theorem f_167_196 : fetch 167 196 = some (196, .iload_n 3, 1, [3], 0) := (fm_167 196).trans rfl
theorem u_167_196 {S : Scr} {d : Nat} {a0 a1 a2 a4 a5 : AV} {st : List AV} {sh : Shp} {I : IM} {R : RM} {x : Int} : ev S d 167 196 [a0, a1, a2, .inl x, a4, a5] st (sh, I, R) = ev S d 167 197 [a0, a1, a2, .inl x, a4, a5] (.inl x :: st) (sh, I, R) := (ev_eq f_167_196).trans rfl
theorem f_167_197 : fetch 167 197 = some (197, .invokevirtual 128, 3, [135, 2, 143], 0) := (fm_167 197).trans rfl
theorem u_167_197 {S : Scr} {d : Nat} {a0 a1 a2 a3 a4 a5 : AV} {st : List AV} {sh : Shp} {I : IM} {R : RM} {x0 : Int} {x1 : Int} {k : Nat} (h : tg sh k = 9) (hr : st.length ≤ 8) : ev S d 167 197 [a0, a1, a2, a3, a4, a5] (.inl x1 :: .inl x0 :: .inr (.inl k) :: st) (sh, I, R) = bnd (cl d 135 [.inr (.inl k), .inl x0, .inl x1] (sh, I, R)) (fun v M => ev S d 167 200 [a0, a1, a2, a3, a4, a5] (psh v st) M) := (ev_eq f_167_197).trans (congrArg (fin S d 167) (if_pos ⟨h, rfl, hr⟩))
theorem f_167_200 : fetch 167 200 = some (200, .istore 4, 2, [4], 0) := (fm_167 200).trans rfl
theorem u_167_200 {S : Scr} {d : Nat} {a0 a1 a2 a3 a4 a5 : AV} {st : List AV} {sh : Shp} {I : IM} {R : RM} {x : Int} : ev S d 167 200 [a0, a1, a2, a3, a4, a5] (.inl x :: st) (sh, I, R) = ev S d 167 202 [a0, a1, a2, a3, .inl x, a5] st (sh, I, R) := (ev_eq f_167_200).trans rfl
theorem f_167_202 : fetch 167 202 = some (202, .aload_n 0, 1, [0], 0) := (fm_167 202).trans rfl
theorem u_167_202 {S : Scr} {d : Nat} {a1 a2 a3 a4 a5 : AV} {st : List AV} {sh : Shp} {I : IM} {R : RM} {x : Nat} : ev S d 167 202 [.inr (.inl x), a1, a2, a3, a4, a5] st (sh, I, R) = ev S d 167 203 [.inr (.inl x), a1, a2, a3, a4, a5] (.inr (.inl x) :: st) (sh, I, R) := (ev_eq f_167_202).trans rfl
theorem f_167_203 : fetch 167 203 = some (203, .getfield 9, 3, [9, 0, 1, 79], 0) := (fm_167 203).trans rfl
theorem u_167_203 {S : Scr} {d : Nat} {a0 a1 a2 a3 a4 a5 : AV} {st : List AV} {sh : Shp} {I : IM} {R : RM} {k : Nat} (h : tg sh k = 9) : ev S d 167 203 [a0, a1, a2, a3, a4, a5] (.inr (.inl k) :: st) (sh, I, R) = ev S d 167 206 [a0, a1, a2, a3, a4, a5] (rv (R k 0) :: st) (sh, I, R) := (ev_eq f_167_203).trans (congrArg (fin S d 167) (if_pos h))
theorem f_167_206 : fetch 167 206 = some (206, .sipush 480, 3, [], 480) := (fm_167 206).trans rfl
theorem u_167_206 {S : Scr} {d : Nat} {a0 a1 a2 a3 a4 a5 : AV} {st : List AV} {sh : Shp} {I : IM} {R : RM} : ev S d 167 206 [a0, a1, a2, a3, a4, a5] st (sh, I, R) = ev S d 167 209 [a0, a1, a2, a3, a4, a5] (.inl 480 :: st) (sh, I, R) := (ev_eq f_167_206).trans rfl
theorem f_167_209 : fetch 167 209 = some (209, .bipush 6, 2, [], 6) := (fm_167 209).trans rfl
theorem u_167_209 {S : Scr} {d : Nat} {a0 a1 a2 a3 a4 a5 : AV} {st : List AV} {sh : Shp} {I : IM} {R : RM} : ev S d 167 209 [a0, a1, a2, a3, a4, a5] st (sh, I, R) = ev S d 167 211 [a0, a1, a2, a3, a4, a5] (.inl 6 :: st) (sh, I, R) := (ev_eq f_167_209).trans rfl
theorem f_167_211 : fetch 167 211 = some (211, .aload_n 0, 1, [0], 0) := (fm_167 211).trans rfl
theorem u_167_211 {S : Scr} {d : Nat} {a1 a2 a3 a4 a5 : AV} {st : List AV} {sh : Shp} {I : IM} {R : RM} {x : Nat} : ev S d 167 211 [.inr (.inl x), a1, a2, a3, a4, a5] st (sh, I, R) = ev S d 167 212 [.inr (.inl x), a1, a2, a3, a4, a5] (.inr (.inl x) :: st) (sh, I, R) := (ev_eq f_167_211).trans rfl
theorem f_167_212 : fetch 167 212 = some (212, .getfield 34, 3, [9, 9, 1, 87], 0) := (fm_167 212).trans rfl
theorem u_167_212 {S : Scr} {d : Nat} {a0 a1 a2 a3 a4 a5 : AV} {st : List AV} {sh : Shp} {I : IM} {R : RM} {k : Nat} (h : tg sh k = 9) : ev S d 167 212 [a0, a1, a2, a3, a4, a5] (.inr (.inl k) :: st) (sh, I, R) = ev S d 167 215 [a0, a1, a2, a3, a4, a5] (rv (R k 9) :: st) (sh, I, R) := (ev_eq f_167_212).trans (congrArg (fin S d 167) (if_pos h))
theorem f_167_215 : fetch 167 215 = some (215, .iload_n 2, 1, [2], 0) := (fm_167 215).trans rfl
theorem u_167_215 {S : Scr} {d : Nat} {a0 a1 a3 a4 a5 : AV} {st : List AV} {sh : Shp} {I : IM} {R : RM} {x : Int} : ev S d 167 215 [a0, a1, .inl x, a3, a4, a5] st (sh, I, R) = ev S d 167 216 [a0, a1, .inl x, a3, a4, a5] (.inl x :: st) (sh, I, R) := (ev_eq f_167_215).trans rfl
theorem f_167_216 : fetch 167 216 = some (216, .iaload, 1, [], 0) := (fm_167 216).trans rfl
theorem u_167_216 {S : Scr} {d : Nat} {a0 a1 a2 a3 a4 a5 : AV} {st : List AV} {sh : Shp} {I : IM} {R : RM} {k : Nat} {i : Int} (h : tg sh k = 100) (h0 : 0 ≤ i) (h1 : i < ln sh k) : ev S d 167 216 [a0, a1, a2, a3, a4, a5] (.inl i :: .inr (.inl k) :: st) (sh, I, R) = ev S d 167 217 [a0, a1, a2, a3, a4, a5] (.inl (I k i) :: st) (sh, I, R) := (ev_eq f_167_216).trans (congrArg (fin S d 167) (if_pos ⟨h, h0, h1⟩))
theorem f_167_217 : fetch 167 217 = some (217, .imul, 1, [], 0) := (fm_167 217).trans rfl
theorem u_167_217 {S : Scr} {d : Nat} {a0 a1 a2 a3 a4 a5 : AV} {st : List AV} {sh : Shp} {I : IM} {R : RM} {x y : Int} : ev S d 167 217 [a0, a1, a2, a3, a4, a5] (.inl y :: .inl x :: st) (sh, I, R) = ev S d 167 218 [a0, a1, a2, a3, a4, a5] (.inl (wr (x * y)) :: st) (sh, I, R) := (ev_eq f_167_217).trans rfl
theorem f_167_218 : fetch 167 218 = some (218, .iadd, 1, [], 0) := (fm_167 218).trans rfl
theorem u_167_218 {S : Scr} {d : Nat} {a0 a1 a2 a3 a4 a5 : AV} {st : List AV} {sh : Shp} {I : IM} {R : RM} {x y : Int} : ev S d 167 218 [a0, a1, a2, a3, a4, a5] (.inl y :: .inl x :: st) (sh, I, R) = ev S d 167 219 [a0, a1, a2, a3, a4, a5] (.inl (wr (x + y)) :: st) (sh, I, R) := (ev_eq f_167_218).trans rfl
theorem f_167_219 : fetch 167 219 = some (219, .iload_n 3, 1, [3], 0) := (fm_167 219).trans rfl
theorem u_167_219 {S : Scr} {d : Nat} {a0 a1 a2 a4 a5 : AV} {st : List AV} {sh : Shp} {I : IM} {R : RM} {x : Int} : ev S d 167 219 [a0, a1, a2, .inl x, a4, a5] st (sh, I, R) = ev S d 167 220 [a0, a1, a2, .inl x, a4, a5] (.inl x :: st) (sh, I, R) := (ev_eq f_167_219).trans rfl
theorem f_167_220 : fetch 167 220 = some (220, .iadd, 1, [], 0) := (fm_167 220).trans rfl
theorem u_167_220 {S : Scr} {d : Nat} {a0 a1 a2 a3 a4 a5 : AV} {st : List AV} {sh : Shp} {I : IM} {R : RM} {x y : Int} : ev S d 167 220 [a0, a1, a2, a3, a4, a5] (.inl y :: .inl x :: st) (sh, I, R) = ev S d 167 221 [a0, a1, a2, a3, a4, a5] (.inl (wr (x + y)) :: st) (sh, I, R) := (ev_eq f_167_220).trans rfl
theorem f_167_221 : fetch 167 221 = some (221, .iload 4, 2, [4], 0) := (fm_167 221).trans rfl
theorem u_167_221 {S : Scr} {d : Nat} {a0 a1 a2 a3 a5 : AV} {st : List AV} {sh : Shp} {I : IM} {R : RM} {x : Int} : ev S d 167 221 [a0, a1, a2, a3, .inl x, a5] st (sh, I, R) = ev S d 167 223 [a0, a1, a2, a3, .inl x, a5] (.inl x :: st) (sh, I, R) := (ev_eq f_167_221).trans rfl
theorem f_167_223 : fetch 167 223 = some (223, .ifCond .ge 7, 3, [230], 0) := (fm_167 223).trans rfl
theorem u_167_223 {S : Scr} {d : Nat} {a0 a1 a2 a3 a4 a5 : AV} {st : List AV} {sh : Shp} {I : IM} {R : RM} {x : Int} : ev S d 167 223 [a0, a1, a2, a3, a4, a5] (.inl x :: st) (sh, I, R) = if 0 ≤ x then ev S d 167 230 [a0, a1, a2, a3, a4, a5] st (sh, I, R) else ev S d 167 226 [a0, a1, a2, a3, a4, a5] st (sh, I, R) := (ev_eq f_167_223).trans fin_if_ge
theorem f_167_226 : fetch 167 226 = some (226, .iconst (-1), 1, [], (-1)) := (fm_167 226).trans rfl
theorem u_167_226 {S : Scr} {d : Nat} {a0 a1 a2 a3 a4 a5 : AV} {st : List AV} {sh : Shp} {I : IM} {R : RM} : ev S d 167 226 [a0, a1, a2, a3, a4, a5] st (sh, I, R) = ev S d 167 227 [a0, a1, a2, a3, a4, a5] (.inl (-1) :: st) (sh, I, R) := (ev_eq f_167_226).trans rfl
theorem f_167_227 : fetch 167 227 = some (227, .goto 15, 3, [242], 0) := (fm_167 227).trans rfl
theorem u_167_227 {S : Scr} {d : Nat} {a0 a1 a2 a3 a4 a5 : AV} {st : List AV} {sh : Shp} {I : IM} {R : RM} : ev S d 167 227 [a0, a1, a2, a3, a4, a5] st (sh, I, R) = ev S d 167 242 [a0, a1, a2, a3, a4, a5] st (sh, I, R) := (ev_eq f_167_227).trans rfl
theorem f_167_230 : fetch 167 230 = some (230, .aload_n 0, 1, [0], 0) := (fm_167 230).trans rfl
theorem u_167_230 {S : Scr} {d : Nat} {a1 a2 a3 a4 a5 : AV} {st : List AV} {sh : Shp} {I : IM} {R : RM} {x : Nat} : ev S d 167 230 [.inr (.inl x), a1, a2, a3, a4, a5] st (sh, I, R) = ev S d 167 231 [.inr (.inl x), a1, a2, a3, a4, a5] (.inr (.inl x) :: st) (sh, I, R) := (ev_eq f_167_230).trans rfl
theorem f_167_231 : fetch 167 231 = some (231, .getfield 34, 3, [9, 9, 1, 87], 0) := (fm_167 231).trans rfl
theorem u_167_231 {S : Scr} {d : Nat} {a0 a1 a2 a3 a4 a5 : AV} {st : List AV} {sh : Shp} {I : IM} {R : RM} {k : Nat} (h : tg sh k = 9) : ev S d 167 231 [a0, a1, a2, a3, a4, a5] (.inr (.inl k) :: st) (sh, I, R) = ev S d 167 234 [a0, a1, a2, a3, a4, a5] (rv (R k 9) :: st) (sh, I, R) := (ev_eq f_167_231).trans (congrArg (fin S d 167) (if_pos h))
theorem f_167_234 : fetch 167 234 = some (234, .aload_n 0, 1, [0], 0) := (fm_167 234).trans rfl
theorem u_167_234 {S : Scr} {d : Nat} {a1 a2 a3 a4 a5 : AV} {st : List AV} {sh : Shp} {I : IM} {R : RM} {x : Nat} : ev S d 167 234 [.inr (.inl x), a1, a2, a3, a4, a5] st (sh, I, R) = ev S d 167 235 [.inr (.inl x), a1, a2, a3, a4, a5] (.inr (.inl x) :: st) (sh, I, R) := (ev_eq f_167_234).trans rfl
theorem f_167_235 : fetch 167 235 = some (235, .getfield 31, 3, [9, 8, 1, 86], 0) := (fm_167 235).trans rfl
theorem u_167_235 {S : Scr} {d : Nat} {a0 a1 a2 a3 a4 a5 : AV} {st : List AV} {sh : Shp} {I : IM} {R : RM} {k : Nat} (h : tg sh k = 9) : ev S d 167 235 [a0, a1, a2, a3, a4, a5] (.inr (.inl k) :: st) (sh, I, R) = ev S d 167 238 [a0, a1, a2, a3, a4, a5] (rv (R k 8) :: st) (sh, I, R) := (ev_eq f_167_235).trans (congrArg (fin S d 167) (if_pos h))
theorem f_167_238 : fetch 167 238 = some (238, .iload 4, 2, [4], 0) := (fm_167 238).trans rfl
theorem u_167_238 {S : Scr} {d : Nat} {a0 a1 a2 a3 a5 : AV} {st : List AV} {sh : Shp} {I : IM} {R : RM} {x : Int} : ev S d 167 238 [a0, a1, a2, a3, .inl x, a5] st (sh, I, R) = ev S d 167 240 [a0, a1, a2, a3, .inl x, a5] (.inl x :: st) (sh, I, R) := (ev_eq f_167_238).trans rfl
theorem f_167_240 : fetch 167 240 = some (240, .iaload, 1, [], 0) := (fm_167 240).trans rfl
theorem u_167_240 {S : Scr} {d : Nat} {a0 a1 a2 a3 a4 a5 : AV} {st : List AV} {sh : Shp} {I : IM} {R : RM} {k : Nat} {i : Int} (h : tg sh k = 100) (h0 : 0 ≤ i) (h1 : i < ln sh k) : ev S d 167 240 [a0, a1, a2, a3, a4, a5] (.inl i :: .inr (.inl k) :: st) (sh, I, R) = ev S d 167 241 [a0, a1, a2, a3, a4, a5] (.inl (I k i) :: st) (sh, I, R) := (ev_eq f_167_240).trans (congrArg (fin S d 167) (if_pos ⟨h, h0, h1⟩))
theorem f_167_241 : fetch 167 241 = some (241, .iaload, 1, [], 0) := (fm_167 241).trans rfl
theorem u_167_241 {S : Scr} {d : Nat} {a0 a1 a2 a3 a4 a5 : AV} {st : List AV} {sh : Shp} {I : IM} {R : RM} {k : Nat} {i : Int} (h : tg sh k = 100) (h0 : 0 ≤ i) (h1 : i < ln sh k) : ev S d 167 241 [a0, a1, a2, a3, a4, a5] (.inl i :: .inr (.inl k) :: st) (sh, I, R) = ev S d 167 242 [a0, a1, a2, a3, a4, a5] (.inl (I k i) :: st) (sh, I, R) := (ev_eq f_167_241).trans (congrArg (fin S d 167) (if_pos ⟨h, h0, h1⟩))
theorem f_167_242 : fetch 167 242 = some (242, .iastore, 1, [], 0) := (fm_167 242).trans rfl
theorem u_167_242 {S : Scr} {d : Nat} {a0 a1 a2 a3 a4 a5 : AV} {st : List AV} {sh : Shp} {I : IM} {R : RM} {k : Nat} {i x : Int} (h : tg sh k = 100) (h0 : 0 ≤ i) (h1 : i < ln sh k) : ev S d 167 242 [a0, a1, a2, a3, a4, a5] (.inl x :: .inl i :: .inr (.inl k) :: st) (sh, I, R) = ev S d 167 243 [a0, a1, a2, a3, a4, a5] st (sh, up I k i x, R) := (ev_eq f_167_242).trans (congrArg (fin S d 167) (if_pos ⟨h, h0, h1⟩))
theorem f_167_243 : fetch 167 243 = some (243, .iinc 3 1, 3, [3], 1) := (fm_167 243).trans rfl
theorem u_167_243 {S : Scr} {d : Nat} {a0 a1 a2 a4 a5 : AV} {st : List AV} {sh : Shp} {I : IM} {R : RM} {x : Int} : ev S d 167 243 [a0, a1, a2, .inl x, a4, a5] st (sh, I, R) = ev S d 167 246 [a0, a1, a2, .inl (wr (x + 1)), a4, a5] st (sh, I, R) := (ev_eq f_167_243).trans rfl
theorem f_167_246 : fetch 167 246 = some (246, .goto (-75), 3, [171], 0) := (fm_167 246).trans rfl
theorem u_167_246 {S : Scr} {d : Nat} {a0 a1 a2 a3 a4 a5 : AV} {st : List AV} {sh : Shp} {I : IM} {R : RM} : ev S d 167 246 [a0, a1, a2, a3, a4, a5] st (sh, I, R) = ev S d 167 171 [a0, a1, a2, a3, a4, a5] st (sh, I, R) := (ev_eq f_167_246).trans rfl
theorem f_167_249 : fetch 167 249 = some (249, .iinc 2 1, 3, [2], 1) := (fm_167 249).trans rfl
theorem u_167_249 {S : Scr} {d : Nat} {a0 a1 a3 a4 a5 : AV} {st : List AV} {sh : Shp} {I : IM} {R : RM} {x : Int} : ev S d 167 249 [a0, a1, .inl x, a3, a4, a5] st (sh, I, R) = ev S d 167 252 [a0, a1, .inl (wr (x + 1)), a3, a4, a5] st (sh, I, R) := (ev_eq f_167_249).trans rfl
theorem f_167_252 : fetch 167 252 = some (252, .goto (-91), 3, [161], 0) := (fm_167 252).trans rfl
theorem u_167_252 {S : Scr} {d : Nat} {a0 a1 a2 a3 a4 a5 : AV} {st : List AV} {sh : Shp} {I : IM} {R : RM} : ev S d 167 252 [a0, a1, a2, a3, a4, a5] st (sh, I, R) = ev S d 167 161 [a0, a1, a2, a3, a4, a5] st (sh, I, R) := (ev_eq f_167_252).trans rfl
theorem f_167_255 : fetch 167 255 = some (255, .aload_n 0, 1, [0], 0) := (fm_167 255).trans rfl
theorem u_167_255 {S : Scr} {d : Nat} {a1 a2 a3 a4 a5 : AV} {st : List AV} {sh : Shp} {I : IM} {R : RM} {x : Nat} : ev S d 167 255 [.inr (.inl x), a1, a2, a3, a4, a5] st (sh, I, R) = ev S d 167 256 [.inr (.inl x), a1, a2, a3, a4, a5] (.inr (.inl x) :: st) (sh, I, R) := (ev_eq f_167_255).trans rfl
theorem f_167_256 : fetch 167 256 = some (256, .getfield 34, 3, [9, 9, 1, 87], 0) := (fm_167 256).trans rfl
theorem u_167_256 {S : Scr} {d : Nat} {a0 a1 a2 a3 a4 a5 : AV} {st : List AV} {sh : Shp} {I : IM} {R : RM} {k : Nat} (h : tg sh k = 9) : ev S d 167 256 [a0, a1, a2, a3, a4, a5] (.inr (.inl k) :: st) (sh, I, R) = ev S d 167 259 [a0, a1, a2, a3, a4, a5] (rv (R k 9) :: st) (sh, I, R) := (ev_eq f_167_256).trans (congrArg (fin S d 167) (if_pos h))
theorem f_167_259 : fetch 167 259 = some (259, .iconst 0, 1, [], 0) := (fm_167 259).trans rfl
theorem u_167_259 {S : Scr} {d : Nat} {a0 a1 a2 a3 a4 a5 : AV} {st : List AV} {sh : Shp} {I : IM} {R : RM} : ev S d 167 259 [a0, a1, a2, a3, a4, a5] st (sh, I, R) = ev S d 167 260 [a0, a1, a2, a3, a4, a5] (.inl 0 :: st) (sh, I, R) := (ev_eq f_167_259).trans rfl
theorem f_167_260 : fetch 167 260 = some (260, .iaload, 1, [], 0) := (fm_167 260).trans rfl
theorem u_167_260 {S : Scr} {d : Nat} {a0 a1 a2 a3 a4 a5 : AV} {st : List AV} {sh : Shp} {I : IM} {R : RM} {k : Nat} {i : Int} (h : tg sh k = 100) (h0 : 0 ≤ i) (h1 : i < ln sh k) : ev S d 167 260 [a0, a1, a2, a3, a4, a5] (.inl i :: .inr (.inl k) :: st) (sh, I, R) = ev S d 167 261 [a0, a1, a2, a3, a4, a5] (.inl (I k i) :: st) (sh, I, R) := (ev_eq f_167_260).trans (congrArg (fin S d 167) (if_pos ⟨h, h0, h1⟩))
theorem f_167_261 : fetch 167 261 = some (261, .ireturn, 1, [0], 0) := (fm_167 261).trans rfl
theorem u_167_261 {S : Scr} {d : Nat} {a0 a1 a2 a3 a4 a5 : AV} {sh : Shp} {I : IM} {R : RM} {x : Int} : ev S d 167 261 [a0, a1, a2, a3, a4, a5] [.inl x] (sh, I, R) = some (some (.inl x), (sh, I, R)) := (ev_eq f_167_261).trans fin_iret0
theorem c_168 {d : Nat} {a0 : AV} {M : Mem} : cl (d + 1) 168 [a0] M = ev S0 d 168 0 [a0, .inr (.inr 1), .inr (.inr 1), .inr (.inr 1)] [] M := (cl_eq (as := [a0]) (show 1 ≤ maxOf 168 by decide +kernel)).trans rfl
theorem mt_168 : MT[168]? = some m_168 := rfl
theorem fm_168 (pc : Nat) : fetch 168 pc = lk m_168.2.2.2.2.2 pc := by
  unfold fetch
  rw [mt_168]
theorem f_168_0 : fetch 168 0 = some (0, .iconst 0, 1, [], 0) := (fm_168 0).trans rfl
theorem u_168_0 {S : Scr} {d : Nat} {a0 a1 a2 a3 : AV} {st : List AV} {sh : Shp} {I : IM} {R : RM} : ev S d 168 0 [a0, a1, a2, a3] st (sh, I, R) = ev S d 168 1 [a0, a1, a2, a3] (.inl 0 :: st) (sh, I, R) := (ev_eq f_168_0).trans rfl
theorem f_168_1 : fetch 168 1 = some (1, .istore_n 1, 1, [1], 0) := (fm_168 1).trans rfl
theorem u_168_1 {S : Scr} {d : Nat} {a0 a1 a2 a3 : AV} {st : List AV} {sh : Shp} {I : IM} {R : RM} {x : Int} : ev S d 168 1 [a0, a1, a2, a3] (.inl x :: st) (sh, I, R) = ev S d 168 2 [a0, .inl x, a2, a3] st (sh, I, R) := (ev_eq f_168_1).trans rfl
theorem f_168_2 : fetch 168 2 = some (2, .iconst 0, 1, [], 0) := (fm_168 2).trans rfl
theorem u_168_2 {S : Scr} {d : Nat} {a0 a1 a2 a3 : AV} {st : List AV} {sh : Shp} {I : IM} {R : RM} : ev S d 168 2 [a0, a1, a2, a3] st (sh, I, R) = ev S d 168 3 [a0, a1, a2, a3] (.inl 0 :: st) (sh, I, R) := (ev_eq f_168_2).trans rfl
theorem f_168_3 : fetch 168 3 = some (3, .istore_n 2, 1, [2], 0) := (fm_168 3).trans rfl
theorem u_168_3 {S : Scr} {d : Nat} {a0 a1 a2 a3 : AV} {st : List AV} {sh : Shp} {I : IM} {R : RM} {x : Int} : ev S d 168 3 [a0, a1, a2, a3] (.inl x :: st) (sh, I, R) = ev S d 168 4 [a0, a1, .inl x, a3] st (sh, I, R) := (ev_eq f_168_3).trans rfl
theorem f_168_4 : fetch 168 4 = some (4, .iload_n 2, 1, [2], 0) := (fm_168 4).trans rfl
theorem u_168_4 {S : Scr} {d : Nat} {a0 a1 a3 : AV} {st : List AV} {sh : Shp} {I : IM} {R : RM} {x : Int} : ev S d 168 4 [a0, a1, .inl x, a3] st (sh, I, R) = ev S d 168 5 [a0, a1, .inl x, a3] (.inl x :: st) (sh, I, R) := (ev_eq f_168_4).trans rfl
theorem f_168_5 : fetch 168 5 = some (5, .bipush 8, 2, [], 8) := (fm_168 5).trans rfl
theorem u_168_5 {S : Scr} {d : Nat} {a0 a1 a2 a3 : AV} {st : List AV} {sh : Shp} {I : IM} {R : RM} : ev S d 168 5 [a0, a1, a2, a3] st (sh, I, R) = ev S d 168 7 [a0, a1, a2, a3] (.inl 8 :: st) (sh, I, R) := (ev_eq f_168_5).trans rfl
theorem f_168_7 : fetch 168 7 = some (7, .if_icmp .ge 33, 3, [40], 0) := (fm_168 7).trans rfl
theorem u_168_7 {S : Scr} {d : Nat} {a0 a1 a2 a3 : AV} {st : List AV} {sh : Shp} {I : IM} {R : RM} {x y : Int} : ev S d 168 7 [a0, a1, a2, a3] (.inl y :: .inl x :: st) (sh, I, R) = if y ≤ x then ev S d 168 40 [a0, a1, a2, a3] st (sh, I, R) else ev S d 168 10 [a0, a1, a2, a3] st (sh, I, R) := (ev_eq f_168_7).trans fin_icmp_ge
theorem f_168_10 : fetch 168 10 = some (10, .iload_n 1, 1, [1], 0) := (fm_168 10).trans rfl
theorem u_168_10 {S : Scr} {d : Nat} {a0 a2 a3 : AV} {st : List AV} {sh : Shp} {I : IM} {R : RM} {x : Int} : ev S d 168 10 [a0, .inl x, a2, a3] st (sh, I, R) = ev S d 168 11 [a0, .inl x, a2, a3] (.inl x :: st) (sh, I, R) := (ev_eq f_168_10).trans rfl
theorem f_168_11 : fetch 168 11 = some (11, .aload_n 0, 1, [0], 0) := (fm_168 11).trans rfl
theorem u_168_11 {S : Scr} {d : Nat} {a1 a2 a3 : AV} {st : List AV} {sh : Shp} {I : IM} {R : RM} {x : Nat} : ev S d 168 11 [.inr (.inl x), a1, a2, a3] st (sh, I, R) = ev S d 168 12 [.inr (.inl x), a1, a2, a3] (.inr (.inl x) :: st) (sh, I, R) := (ev_eq f_168_11).trans rfl
theorem f_168_12 : fetch 168 12 = some (12, .getfield 19, 3, [9, 4, 1, 82], 0) := (fm_168 12).trans rfl
theorem u_168_12 {S : Scr} {d : Nat} {a0 a1 a2 a3 : AV} {st : List AV} {sh : Shp} {I : IM} {R : RM} {k : Nat} (h : tg sh k = 9) : ev S d 168 12 [a0, a1, a2, a3] (.inr (.inl k) :: st) (sh, I, R) = ev S d 168 15 [a0, a1, a2, a3] (rv (R k 4) :: st) (sh, I, R) := (ev_eq f_168_12).trans (congrArg (fin S d 168) (if_pos h))
theorem f_168_15 : fetch 168 15 = some (15, .iload_n 2, 1, [2], 0) := (fm_168 15).trans rfl
theorem u_168_15 {S : Scr} {d : Nat} {a0 a1 a3 : AV} {st : List AV} {sh : Shp} {I : IM} {R : RM} {x : Int} : ev S d 168 15 [a0, a1, .inl x, a3] st (sh, I, R) = ev S d 168 16 [a0, a1, .inl x, a3] (.inl x :: st) (sh, I, R) := (ev_eq f_168_15).trans rfl
theorem f_168_16 : fetch 168 16 = some (16, .iaload, 1, [], 0) := (fm_168 16).trans rfl
theorem u_168_16 {S : Scr} {d : Nat} {a0 a1 a2 a3 : AV} {st : List AV} {sh : Shp} {I : IM} {R : RM} {k : Nat} {i : Int} (h : tg sh k = 100) (h0 : 0 ≤ i) (h1 : i < ln sh k) : ev S d 168 16 [a0, a1, a2, a3] (.inl i :: .inr (.inl k) :: st) (sh, I, R) = ev S d 168 17 [a0, a1, a2, a3] (.inl (I k i) :: st) (sh, I, R) := (ev_eq f_168_16).trans (congrArg (fin S d 168) (if_pos ⟨h, h0, h1⟩))
theorem f_168_17 : fetch 168 17 = some (17, .ifCond .ge 7, 3, [24], 0) := (fm_168 17).trans rfl
theorem u_168_17 {S : Scr} {d : Nat} {a0 a1 a2 a3 : AV} {st : List AV} {sh : Shp} {I : IM} {R : RM} {x : Int} : ev S d 168 17 [a0, a1, a2, a3] (.inl x :: st) (sh, I, R) = if 0 ≤ x then ev S d 168 24 [a0, a1, a2, a3] st (sh, I, R) else ev S d 168 20 [a0, a1, a2, a3] st (sh, I, R) := (ev_eq f_168_17).trans fin_if_ge
theorem f_168_20 : fetch 168 20 = some (20, .iconst 0, 1, [], 0) := (fm_168 20).trans rfl
theorem u_168_20 {S : Scr} {d : Nat} {a0 a1 a2 a3 : AV} {st : List AV} {sh : Shp} {I : IM} {R : RM} : ev S d 168 20 [a0, a1, a2, a3] st (sh, I, R) = ev S d 168 21 [a0, a1, a2, a3] (.inl 0 :: st) (sh, I, R) := (ev_eq f_168_20).trans rfl
theorem f_168_21 : fetch 168 21 = some (21, .goto 11, 3, [32], 0) := (fm_168 21).trans rfl
theorem u_168_21 {S : Scr} {d : Nat} {a0 a1 a2 a3 : AV} {st : List AV} {sh : Shp} {I : IM} {R : RM} : ev S d 168 21 [a0, a1, a2, a3] st (sh, I, R) = ev S d 168 32 [a0, a1, a2, a3] st (sh, I, R) := (ev_eq f_168_21).trans rfl
theorem f_168_24 : fetch 168 24 = some (24, .iconst 1, 1, [], 1) := (fm_168 24).trans rfl
theorem u_168_24 {S : Scr} {d : Nat} {a0 a1 a2 a3 : AV} {st : List AV} {sh : Shp} {I : IM} {R : RM} : ev S d 168 24 [a0, a1, a2, a3] st (sh, I, R) = ev S d 168 25 [a0, a1, a2, a3] (.inl 1 :: st) (sh, I, R) := (ev_eq f_168_24).trans rfl
theorem f_168_25 : fetch 168 25 = some (25, .aload_n 0, 1, [0], 0) := (fm_168 25).trans rfl
theorem u_168_25 {S : Scr} {d : Nat} {a1 a2 a3 : AV} {st : List AV} {sh : Shp} {I : IM} {R : RM} {x : Nat} : ev S d 168 25 [.inr (.inl x), a1, a2, a3] st (sh, I, R) = ev S d 168 26 [.inr (.inl x), a1, a2, a3] (.inr (.inl x) :: st) (sh, I, R) := (ev_eq f_168_25).trans rfl
theorem f_168_26 : fetch 168 26 = some (26, .getfield 19, 3, [9, 4, 1, 82], 0) := (fm_168 26).trans rfl
theorem u_168_26 {S : Scr} {d : Nat} {a0 a1 a2 a3 : AV} {st : List AV} {sh : Shp} {I : IM} {R : RM} {k : Nat} (h : tg sh k = 9) : ev S d 168 26 [a0, a1, a2, a3] (.inr (.inl k) :: st) (sh, I, R) = ev S d 168 29 [a0, a1, a2, a3] (rv (R k 4) :: st) (sh, I, R) := (ev_eq f_168_26).trans (congrArg (fin S d 168) (if_pos h))
theorem f_168_29 : fetch 168 29 = some (29, .iload_n 2, 1, [2], 0) := (fm_168 29).trans rfl
theorem u_168_29 {S : Scr} {d : Nat} {a0 a1 a3 : AV} {st : List AV} {sh : Shp} {I : IM} {R : RM} {x : Int} : ev S d 168 29 [a0, a1, .inl x, a3] st (sh, I, R) = ev S d 168 30 [a0, a1, .inl x, a3] (.inl x :: st) (sh, I, R) := (ev_eq f_168_29).trans rfl
theorem f_168_30 : fetch 168 30 = some (30, .iaload, 1, [], 0) := (fm_168 30).trans rfl
theorem u_168_30 {S : Scr} {d : Nat} {a0 a1 a2 a3 : AV} {st : List AV} {sh : Shp} {I : IM} {R : RM} {k : Nat} {i : Int} (h : tg sh k = 100) (h0 : 0 ≤ i) (h1 : i < ln sh k) : ev S d 168 30 [a0, a1, a2, a3] (.inl i :: .inr (.inl k) :: st) (sh, I, R) = ev S d 168 31 [a0, a1, a2, a3] (.inl (I k i) :: st) (sh, I, R) := (ev_eq f_168_30).trans (congrArg (fin S d 168) (if_pos ⟨h, h0, h1⟩))
theorem f_168_31 : fetch 168 31 = some (31, .ishl, 1, [], 0) := (fm_168 31).trans rfl
theorem u_168_31 {S : Scr} {d : Nat} {a0 a1 a2 a3 : AV} {st : List AV} {sh : Shp} {I : IM} {R : RM} {x y : Int} : ev S d 168 31 [a0, a1, a2, a3] (.inl y :: .inl x :: st) (sh, I, R) = ev S d 168 32 [a0, a1, a2, a3] (.inl (b32 (fun x y => x <<< (y &&& 31)) x y) :: st) (sh, I, R) := (ev_eq f_168_31).trans rfl
theorem f_168_32 : fetch 168 32 = some (32, .ior, 1, [], 0) := (fm_168 32).trans rfl
theorem u_168_32 {S : Scr} {d : Nat} {a0 a1 a2 a3 : AV} {st : List AV} {sh : Shp} {I : IM} {R : RM} {x y : Int} : ev S d 168 32 [a0, a1, a2, a3] (.inl y :: .inl x :: st) (sh, I, R) = ev S d 168 33 [a0, a1, a2, a3] (.inl (b32 (fun x y => x ||| y) x y) :: st) (sh, I, R) := (ev_eq f_168_32).trans rfl
theorem f_168_33 : fetch 168 33 = some (33, .istore_n 1, 1, [1], 0) := (fm_168 33).trans rfl
theorem u_168_33 {S : Scr} {d : Nat} {a0 a1 a2 a3 : AV} {st : List AV} {sh : Shp} {I : IM} {R : RM} {x : Int} : ev S d 168 33 [a0, a1, a2, a3] (.inl x :: st) (sh, I, R) = ev S d 168 34 [a0, .inl x, a2, a3] st (sh, I, R) := (ev_eq f_168_33).trans rfl
theorem f_168_34 : fetch 168 34 = some (34, .iinc 2 1, 3, [2], 1) := (fm_168 34).trans rfl
theorem u_168_34 {S : Scr} {d : Nat} {a0 a1 a3 : AV} {st : List AV} {sh : Shp} {I : IM} {R : RM} {x : Int} : ev S d 168 34 [a0, a1, .inl x, a3] st (sh, I, R) = ev S d 168 37 [a0, a1, .inl (wr (x + 1)), a3] st (sh, I, R) := (ev_eq f_168_34).trans rfl
theorem f_168_37 : fetch 168 37 = some (37, .goto (-33), 3, [4], 0) := (fm_168 37).trans rfl
theorem u_168_37 {S : Scr} {d : Nat} {a0 a1 a2 a3 : AV} {st : List AV} {sh : Shp} {I : IM} {R : RM} : ev S d 168 37 [a0, a1, a2, a3] st (sh, I, R) = ev S d 168 4 [a0, a1, a2, a3] st (sh, I, R) := (ev_eq f_168_37).trans rfl
theorem f_168_40 : fetch 168 40 = some (40, .aload_n 0, 1, [0], 0) := (fm_168 40).trans rfl
theorem u_168_40 {S : Scr} {d : Nat} {a1 a2 a3 : AV} {st : List AV} {sh : Shp} {I : IM} {R : RM} {x : Nat} : ev S d 168 40 [.inr (.inl x), a1, a2, a3] st (sh, I, R) = ev S d 168 41 [.inr (.inl x), a1, a2, a3] (.inr (.inl x) :: st) (sh, I, R) := (ev_eq f_168_40).trans rfl
theorem f_168_41 : fetch 168 41 = some (41, .iload_n 1, 1, [1], 0) := (fm_168 41).trans rfl
theorem u_168_41 {S : Scr} {d : Nat} {a0 a2 a3 : AV} {st : List AV} {sh : Shp} {I : IM} {R : RM} {x : Int} : ev S d 168 41 [a0, .inl x, a2, a3] st (sh, I, R) = ev S d 168 42 [a0, .inl x, a2, a3] (.inl x :: st) (sh, I, R) := (ev_eq f_168_41).trans rfl
theorem f_168_42 : fetch 168 42 = some (42, .invokevirtual 150, 3, [191, 1, 149], 0) := (fm_168 42).trans rfl
theorem u_168_42 {S : Scr} {d : Nat} {a0 a1 a2 a3 : AV} {st : List AV} {sh : Shp} {I : IM} {R : RM} {x0 : Int} {k : Nat} (h : tg sh k = 9) (hr : st.length ≤ 8) : ev S d 168 42 [a0, a1, a2, a3] (.inl x0 :: .inr (.inl k) :: st) (sh, I, R) = bnd (cl d 191 [.inr (.inl k), .inl x0] (sh, I, R)) (fun v M => ev S d 168 45 [a0, a1, a2, a3] (psh v st) M) := (ev_eq f_168_42).trans (congrArg (fin S d 168) (if_pos ⟨h, rfl, hr⟩))
theorem f_168_45 : fetch 168 45 = some (45, .istore_n 1, 1, [1], 0) := (fm_168 45).trans rfl
theorem u_168_45 {S : Scr} {d : Nat} {a0 a1 a2 a3 : AV} {st : List AV} {sh : Shp} {I : IM} {R : RM} {x : Int} : ev S d 168 45 [a0, a1, a2, a3] (.inl x :: st) (sh, I, R) = ev S d 168 46 [a0, .inl x, a2, a3] st (sh, I, R) := (ev_eq f_168_45).trans rfl
theorem f_168_46 : fetch 168 46 = some (46, .iconst 0, 1, [], 0) := (fm_168 46).trans rfl
theorem u_168_46 {S : Scr} {d : Nat} {a0 a1 a2 a3 : AV} {st : List AV} {sh : Shp} {I : IM} {R : RM} : ev S d 168 46 [a0, a1, a2, a3] st (sh, I, R) = ev S d 168 47 [a0, a1, a2, a3] (.inl 0 :: st) (sh, I, R) := (ev_eq f_168_46).trans rfl
theorem f_168_47 : fetch 168 47 = some (47, .istore_n 2, 1, [2], 0) := (fm_168 47).trans rfl
theorem u_168_47 {S : Scr} {d : Nat} {a0 a1 a2 a3 : AV} {st : List AV} {sh : Shp} {I : IM} {R : RM} {x : Int} : ev S d 168 47 [a0, a1, a2, a3] (.inl x :: st) (sh, I, R) = ev S d 168 48 [a0, a1, .inl x, a3] st (sh, I, R) := (ev_eq f_168_47).trans rfl
theorem f_168_48 : fetch 168 48 = some (48, .iconst 0, 1, [], 0) := (fm_168 48).trans rfl
theorem u_168_48 {S : Scr} {d : Nat} {a0 a1 a2 a3 : AV} {st : List AV} {sh : Shp} {I : IM} {R : RM} : ev S d 168 48 [a0, a1, a2, a3] st (sh, I, R) = ev S d 168 49 [a0, a1, a2, a3] (.inl 0 :: st) (sh, I, R) := (ev_eq f_168_48).trans rfl
theorem f_168_49 : fetch 168 49 = some (49, .istore_n 3, 1, [3], 0) := (fm_168 49).trans rfl
theorem u_168_49 {S : Scr} {d : Nat} {a0 a1 a2 a3 : AV} {st : List AV} {sh : Shp} {I : IM} {R : RM} {x : Int} : ev S d 168 49 [a0, a1, a2, a3] (.inl x :: st) (sh, I, R) = ev S d 168 50 [a0, a1, a2, .inl x] st (sh, I, R) := (ev_eq f_168_49).trans rfl
theorem f_168_50 : fetch 168 50 = some (50, .iload_n 3, 1, [3], 0) := (fm_168 50).trans rfl
theorem u_168_50 {S : Scr} {d : Nat} {a0 a1 a2 : AV} {st : List AV} {sh : Shp} {I : IM} {R : RM} {x : Int} : ev S d 168 50 [a0, a1, a2, .inl x] st (sh, I, R) = ev S d 168 51 [a0, a1, a2, .inl x] (.inl x :: st) (sh, I, R) := (ev_eq f_168_50).trans rfl
theorem f_168_51 : fetch 168 51 = some (51, .bipush 30, 2, [], 30) := (fm_168 51).trans rfl
theorem u_168_51 {S : Scr} {d : Nat} {a0 a1 a2 a3 : AV} {st : List AV} {sh : Shp} {I : IM} {R : RM} : ev S d 168 51 [a0, a1, a2, a3] st (sh, I, R) = ev S d 168 53 [a0, a1, a2, a3] (.inl 30 :: st) (sh, I, R) := (ev_eq f_168_51).trans rfl
theorem f_168_53 : fetch 168 53 = some (53, .if_icmp .ge 40, 3, [93], 0) := (fm_168 53).trans rfl
theorem u_168_53 {S : Scr} {d : Nat} {a0 a1 a2 a3 : AV} {st : List AV} {sh : Shp} {I : IM} {R : RM} {x y : Int} : ev S d 168 53 [a0, a1, a2, a3] (.inl y :: .inl x :: st) (sh, I, R) = if y ≤ x then ev S d 168 93 [a0, a1, a2, a3] st (sh, I, R) else ev S d 168 56 [a0, a1, a2, a3] st (sh, I, R) := (ev_eq f_168_53).trans fin_icmp_ge
theorem f_168_56 : fetch 168 56 = some (56, .aload_n 0, 1, [0], 0) := (fm_168 56).trans rfl
theorem u_168_56 {S : Scr} {d : Nat} {a1 a2 a3 : AV} {st : List AV} {sh : Shp} {I : IM} {R : RM} {x : Nat} : ev S d 168 56 [.inr (.inl x), a1, a2, a3] st (sh, I, R) = ev S d 168 57 [.inr (.inl x), a1, a2, a3] (.inr (.inl x) :: st) (sh, I, R) := (ev_eq f_168_56).trans rfl
theorem f_168_57 : fetch 168 57 = some (57, .getfield 9, 3, [9, 0, 1, 79], 0) := (fm_168 57).trans rfl
theorem u_168_57 {S : Scr} {d : Nat} {a0 a1 a2 a3 : AV} {st : List AV} {sh : Shp} {I : IM} {R : RM} {k : Nat} (h : tg sh k = 9) : ev S d 168 57 [a0, a1, a2, a3] (.inr (.inl k) :: st) (sh, I, R) = ev S d 168 60 [a0, a1, a2, a3] (rv (R k 0) :: st) (sh, I, R) := (ev_eq f_168_57).trans (congrArg (fin S d 168) (if_pos h))
theorem f_168_60 : fetch 168 60 = some (60, .iconst 0, 1, [], 0) := (fm_168 60).trans rfl
theorem u_168_60 {S : Scr} {d : Nat} {a0 a1 a2 a3 : AV} {st : List AV} {sh : Shp} {I : IM} {R : RM} : ev S d 168 60 [a0, a1, a2, a3] st (sh, I, R) = ev S d 168 61 [a0, a1, a2, a3] (.inl 0 :: st) (sh, I, R) := (ev_eq f_168_60).trans rfl
theorem f_168_61 : fetch 168 61 = some (61, .iload_n 3, 1, [3], 0) := (fm_168 61).trans rfl
theorem u_168_61 {S : Scr} {d : Nat} {a0 a1 a2 : AV} {st : List AV} {sh : Shp} {I : IM} {R : RM} {x : Int} : ev S d 168 61 [a0, a1, a2, .inl x] st (sh, I, R) = ev S d 168 62 [a0, a1, a2, .inl x] (.inl x :: st) (sh, I, R) := (ev_eq f_168_61).trans rfl
theorem f_168_62 : fetch 168 62 = some (62, .iadd, 1, [], 0) := (fm_168 62).trans rfl
theorem u_168_62 {S : Scr} {d : Nat} {a0 a1 a2 a3 : AV} {st : List AV} {sh : Shp} {I : IM} {R : RM} {x y : Int} : ev S d 168 62 [a0, a1, a2, a3] (.inl y :: .inl x :: st) (sh, I, R) = ev S d 168 63 [a0, a1, a2, a3] (.inl (wr (x + y)) :: st) (sh, I, R) := (ev_eq f_168_62).trans rfl
theorem f_168_63 : fetch 168 63 = some (63, .iaload, 1, [], 0) := (fm_168 63).trans rfl
theorem u_168_63 {S : Scr} {d : Nat} {a0 a1 a2 a3 : AV} {st : List AV} {sh : Shp} {I : IM} {R : RM} {k : Nat} {i : Int} (h : tg sh k = 100) (h0 : 0 ≤ i) (h1 : i < ln sh k) : ev S d 168 63 [a0, a1, a2, a3] (.inl i :: .inr (.inl k) :: st) (sh, I, R) = ev S d 168 64 [a0, a1, a2, a3] (.inl (I k i) :: st) (sh, I, R) := (ev_eq f_168_63).trans (congrArg (fin S d 168) (if_pos ⟨h, h0, h1⟩))
theorem f_168_64 : fetch 168 64 = some (64, .ifCond .eq 23, 3, [87], 0) := (fm_168 64).trans rfl
theorem u_168_64 {S : Scr} {d : Nat} {a0 a1 a2 a3 : AV} {st : List AV} {sh : Shp} {I : IM} {R : RM} {x : Int} : ev S d 168 64 [a0, a1, a2, a3] (.inl x :: st) (sh, I, R) = if x = 0 then ev S d 168 87 [a0, a1, a2, a3] st (sh, I, R) else ev S d 168 67 [a0, a1, a2, a3] st (sh, I, R) := (ev_eq f_168_64).trans fin_if_eq
theorem f_168_67 : fetch 168 67 = some (67, .iload_n 1, 1, [1], 0) := (fm_168 67).trans rfl
theorem u_168_67 {S : Scr} {d : Nat} {a0 a2 a3 : AV} {st : List AV} {sh : Shp} {I : IM} {R : RM} {x : Int} : ev S d 168 67 [a0, .inl x, a2, a3] st (sh, I, R) = ev S d 168 68 [a0, .inl x, a2, a3] (.inl x :: st) (sh, I, R) := (ev_eq f_168_67).trans rfl
theorem f_168_68 : fetch 168 68 = some (68, .iload_n 3, 1, [3], 0) := (fm_168 68).trans rfl
theorem u_168_68 {S : Scr} {d : Nat} {a0 a1 a2 : AV} {st : List AV} {sh : Shp} {I : IM} {R : RM} {x : Int} : ev S d 168 68 [a0, a1, a2, .inl x] st (sh, I, R) = ev S d 168 69 [a0, a1, a2, .inl x] (.inl x :: st) (sh, I, R) := (ev_eq f_168_68).trans rfl
theorem f_168_69 : fetch 168 69 = some (69, .ishr, 1, [], 0) := (fm_168 69).trans rfl
theorem u_168_69 {S : Scr} {d : Nat} {a0 a1 a2 a3 : AV} {st : List AV} {sh : Shp} {I : IM} {R : RM} {x y : Int} : ev S d 168 69 [a0, a1, a2, a3] (.inl y :: .inl x :: st) (sh, I, R) = ev S d 168 70 [a0, a1, a2, a3] (.inl (b32 (fun x y => x >>> (y &&& 31)) x y) :: st) (sh, I, R) := (ev_eq f_168_69).trans rfl
theorem f_168_70 : fetch 168 70 = some (70, .iconst 1, 1, [], 1) := (fm_168 70).trans rfl
theorem u_168_70 {S : Scr} {d : Nat} {a0 a1 a2 a3 : AV} {st : List AV} {sh : Shp} {I : IM} {R : RM} : ev S d 168 70 [a0, a1, a2, a3] st (sh, I, R) = ev S d 168 71 [a0, a1, a2, a3] (.inl 1 :: st) (sh, I, R) := (ev_eq f_168_70).trans rfl
theorem f_168_71 : fetch 168 71 = some (71, .iand, 1, [], 0) := (fm_168 71).trans rfl
theorem u_168_71 {S : Scr} {d : Nat} {a0 a1 a2 a3 : AV} {st : List AV} {sh : Shp} {I : IM} {R : RM} {x y : Int} : ev S d 168 71 [a0, a1, a2, a3] (.inl y :: .inl x :: st) (sh, I, R) = ev S d 168 72 [a0, a1, a2, a3] (.inl (b32 (fun x y => x &&& y) x y) :: st) (sh, I, R) := (ev_eq f_168_71).trans rfl
theorem f_168_72 : fetch 168 72 = some (72, .ifCond .ne 15, 3, [87], 0) := (fm_168 72).trans rfl
theorem u_168_72 {S : Scr} {d : Nat} {a0 a1 a2 a3 : AV} {st : List AV} {sh : Shp} {I : IM} {R : RM} {x : Int} : ev S d 168 72 [a0, a1, a2, a3] (.inl x :: st) (sh, I, R) = if ¬ x = 0 then ev S d 168 87 [a0, a1, a2, a3] st (sh, I, R) else ev S d 168 75 [a0, a1, a2, a3] st (sh, I, R) := (ev_eq f_168_72).trans fin_if_ne
theorem f_168_75 : fetch 168 75 = some (75, .aload_n 0, 1, [0], 0) := (fm_168 75).trans rfl
theorem u_168_75 {S : Scr} {d : Nat} {a1 a2 a3 : AV} {st : List AV} {sh : Shp} {I : IM} {R : RM} {x : Nat} : ev S d 168 75 [.inr (.inl x), a1, a2, a3] st (sh, I, R) = ev S d 168 76 [.inr (.inl x), a1, a2, a3] (.inr (.inl x) :: st) (sh, I, R) := (ev_eq f_168_75).trans rfl
theorem f_168_76 : fetch 168 76 = some (76, .getfield 9, 3, [9, 0, 1, 79], 0) := (fm_168 76).trans rfl
theorem u_168_76 {S : Scr} {d : Nat} {a0 a1 a2 a3 : AV} {st : List AV} {sh : Shp} {I : IM} {R : RM} {k : Nat} (h : tg sh k = 9) : ev S d 168 76 [a0, a1, a2, a3] (.inr (.inl k) :: st) (sh, I, R) = ev S d 168 79 [a0, a1, a2, a3] (rv (R k 0) :: st) (sh, I, R) := (ev_eq f_168_76).trans (congrArg (fin S d 168) (if_pos h))
theorem f_168_79 : fetch 168 79 = some (79, .iconst 0, 1, [], 0) := (fm_168 79).trans rfl
theorem u_168_79 {S : Scr} {d : Nat} {a0 a1 a2 a3 : AV} {st : List AV} {sh : Shp} {I : IM} {R : RM} : ev S d 168 79 [a0, a1, a2, a3] st (sh, I, R) = ev S d 168 80 [a0, a1, a2, a3] (.inl 0 :: st) (sh, I, R) := (ev_eq f_168_79).trans rfl
theorem f_168_80 : fetch 168 80 = some (80, .iload_n 3, 1, [3], 0) := (fm_168 80).trans rfl
theorem u_168_80 {S : Scr} {d : Nat} {a0 a1 a2 : AV} {st : List AV} {sh : Shp} {I : IM} {R : RM} {x : Int} : ev S d 168 80 [a0, a1, a2, .inl x] st (sh, I, R) = ev S d 168 81 [a0, a1, a2, .inl x] (.inl x :: st) (sh, I, R) := (ev_eq f_168_80).trans rfl
theorem f_168_81 : fetch 168 81 = some (81, .iadd, 1, [], 0) := (fm_168 81).trans rfl
theorem u_168_81 {S : Scr} {d : Nat} {a0 a1 a2 a3 : AV} {st : List AV} {sh : Shp} {I : IM} {R : RM} {x y : Int} : ev S d 168 81 [a0, a1, a2, a3] (.inl y :: .inl x :: st) (sh, I, R) = ev S d 168 82 [a0, a1, a2, a3] (.inl (wr (x + y)) :: st) (sh, I, R) := (ev_eq f_168_81).trans rfl
theorem f_168_82 : fetch 168 82 = some (82, .iconst 0, 1, [], 0) := (fm_168 82).trans rfl
theorem u_168_82 {S : Scr} {d : Nat} {a0 a1 a2 a3 : AV} {st : List AV} {sh : Shp} {I : IM} {R : RM} : ev S d 168 82 [a0, a1, a2, a3] st (sh, I, R) = ev S d 168 83 [a0, a1, a2, a3] (.inl 0 :: st) (sh, I, R) := (ev_eq f_168_82).trans rfl
theorem f_168_83 : fetch 168 83 = some (83, .iastore, 1, [], 0) := (fm_168 83).trans rfl
theorem u_168_83 {S : Scr} {d : Nat} {a0 a1 a2 a3 : AV} {st : List AV} {sh : Shp} {I : IM} {R : RM} {k : Nat} {i x : Int} (h : tg sh k = 100) (h0 : 0 ≤ i) (h1 : i < ln sh k) : ev S d 168 83 [a0, a1, a2, a3] (.inl x :: .inl i :: .inr (.inl k) :: st) (sh, I, R) = ev S d 168 84 [a0, a1, a2, a3] st (sh, up I k i x, R) := (ev_eq f_168_83).trans (congrArg (fin S d 168) (if_pos ⟨h, h0, h1⟩))
theorem f_168_84 : fetch 168 84 = some (84, .iinc 2 1, 3, [2], 1) := (fm_168 84).trans rfl
theorem u_168_84 {S : Scr} {d : Nat} {a0 a1 a3 : AV} {st : List AV} {sh : Shp} {I : IM} {R : RM} {x : Int} : ev S d 168 84 [a0, a1, .inl x, a3] st (sh, I, R) = ev S d 168 87 [a0, a1, .inl (wr (x + 1)), a3] st (sh, I, R) := (ev_eq f_168_84).trans rfl
theorem f_168_87 : fetch 168 87 = some (87, .iinc 3 1, 3, [3], 1) := (fm_168 87).trans rfl
theorem u_168_87 {S : Scr} {d : Nat} {a0 a1 a2 : AV} {st : List AV} {sh : Shp} {I : IM} {R : RM} {x : Int} : ev S d 168 87 [a0, a1, a2, .inl x] st (sh, I, R) = ev S d 168 90 [a0, a1, a2, .inl (wr (x + 1))] st (sh, I, R) := (ev_eq f_168_87).trans rfl
theorem f_168_90 : fetch 168 90 = some (90, .goto (-40), 3, [50], 0) := (fm_168 90).trans rfl
theorem u_168_90 {S : Scr} {d : Nat} {a0 a1 a2 a3 : AV} {st : List AV} {sh : Shp} {I : IM} {R : RM} : ev S d 168 90 [a0, a1, a2, a3] st (sh, I, R) = ev S d 168 50 [a0, a1, a2, a3] st (sh, I, R) := (ev_eq f_168_90).trans rfl
theorem f_168_93 : fetch 168 93 = some (93, .iload_n 2, 1, [2], 0) := (fm_168 93).trans rfl
theorem u_168_93 {S : Scr} {d : Nat} {a0 a1 a3 : AV} {st : List AV} {sh : Shp} {I : IM} {R : RM} {x : Int} : ev S d 168 93 [a0, a1, .inl x, a3] st (sh, I, R) = ev S d 168 94 [a0, a1, .inl x, a3] (.inl x :: st) (sh, I, R) := (ev_eq f_168_93).trans rfl
theorem f_168_94 : fetch 168 94 = some (94, .ireturn, 1, [0], 0) := (fm_168 94).trans rfl
theorem u_168_94 {S : Scr} {d : Nat} {a0 a1 a2 a3 : AV} {sh : Shp} {I : IM} {R : RM} {x : Int} : ev S d 168 94 [a0, a1, a2, a3] [.inl x] (sh, I, R) = some (some (.inl x), (sh, I, R)) := (ev_eq f_168_94).trans fin_iret0
