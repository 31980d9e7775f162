/-! one step each (by program): 169 GraphSaverModel.isShelf, 170 GraphSaverModel.shelf, 171 GraphSaverModel.put, 172 GraphSaverModel.sign, 173 GraphSaverModel.tells, 174 GraphSaverModel.tellsNumber, 175 GraphSaverModel.tellsObject, 176 GraphSaverModel.isSaved, 177 GraphSaverModel.save, 178 GraphSaverModel.here, 179 GraphSaverModel.fails, 180 GraphSaverModel.passes, 181 GraphSaverModel.kindBy, 182 GraphSaverModel.numberRead, 183 GraphSaverModel.fieldsRead, 184 GraphSaverModel.digitsRead, 185 GraphSaverModel.oneMet, 186 GraphSaverModel.oneRead, 187 GraphSaverModel.load, 188 GraphSaverModel.cause, 189 GraphSaverModel.judge, 190 GraphSaverModel.next, 191 GraphSaverModel.reach, 192 GraphSaverModel.shared, 193 GraphSaverModel.layers, 194 GraphSaverModel.told, 195 GraphSaverModel.reaches, 196 GraphSaverModel.pairs, 197 GraphSaverModel.isLike, 198 GraphSaverModel.alike, 199 GraphSaverModel.stream, 200 GraphSaverModel.image, 201 GraphSaverModel.back, 202 GraphSaverModel.isHandle, 203 GraphSaverModel.hold, 204 GraphSaverModel.held, 205 GraphSaverModel.tells, 206 GraphSaverModel.ofKinds, 207 GraphSaverModel.count, 208 java/lang/Integer.bitCount -/
theorem c_169 {d : Nat} {a0 : AV} {M : Mem} : cl (d + 1) 169 [a0] M = ev S0 d 169 0 [a0] [] M := (cl_eq (as := [a0]) (show 1 ≤ maxOf 169 by decide +kernel)).trans rfl
theorem mt_169 : MT[169]? = some m_169 := rfl
theorem fm_169 (pc : Nat) : fetch 169 pc = lk m_169.2.2.2.2.2 pc := by
  unfold fetch
  rw [mt_169]
theorem f_169_0 : fetch 169 0 = some (0, .iload_n 0, 1, [0], 0) := (fm_169 0).trans rfl
theorem u_169_0 {S : Scr} {d : Nat} {st : List AV} {sh : Shp} {I : IM} {R : RM} {x : Int} : ev S d 169 0 [.inl x] st (sh, I, R) = ev S d 169 1 [.inl x] (.inl x :: st) (sh, I, R) := (ev_eq f_169_0).trans rfl
theorem f_169_1 : fetch 169 1 = some (1, .iconst 0, 1, [], 0) := (fm_169 1).trans rfl
theorem u_169_1 {S : Scr} {d : Nat} {a0 : AV} {st : List AV} {sh : Shp} {I : IM} {R : RM} : ev S d 169 1 [a0] st (sh, I, R) = ev S d 169 2 [a0] (.inl 0 :: st) (sh, I, R) := (ev_eq f_169_1).trans rfl
theorem f_169_2 : fetch 169 2 = some (2, .iconst 3, 1, [], 3) := (fm_169 2).trans rfl
theorem u_169_2 {S : Scr} {d : Nat} {a0 : AV} {st : List AV} {sh : Shp} {I : IM} {R : RM} : ev S d 169 2 [a0] st (sh, I, R) = ev S d 169 3 [a0] (.inl 3 :: st) (sh, I, R) := (ev_eq f_169_2).trans rfl
theorem f_169_3 : fetch 169 3 = some (3, .invokestatic 64, 3, [129, 3, 125], 0) := (fm_169 3).trans rfl
theorem u_169_3 {S : Scr} {d : Nat} {a0 : AV} {st : List AV} {sh : Shp} {I : IM} {R : RM} {x0 : Int} {x1 : Int} {x2 : Int} (hr : st.length ≤ 8) : ev S d 169 3 [a0] (.inl x2 :: .inl x1 :: .inl x0 :: st) (sh, I, R) = bnd (cl d 129 [.inl x0, .inl x1, .inl x2] (sh, I, R)) (fun v M => ev S d 169 6 [a0] (psh v st) M) := (ev_eq f_169_3).trans (congrArg (fin S d 169) (if_pos ⟨rfl, hr⟩))
theorem f_169_6 : fetch 169 6 = some (6, .ireturn, 1, [1], 0) := (fm_169 6).trans rfl
theorem u_169_6 {S : Scr} {d : Nat} {a0 : AV} {sh : Shp} {I : IM} {R : RM} {x : Int} (h : x = 0 ∨ x = 1) : ev S d 169 6 [a0] [.inl x] (sh, I, R) = some (some (.inl x), (sh, I, R)) := (ev_eq f_169_6).trans (fin_iret1 h)
theorem c_170 {d : Nat} {a0 a1 a2 : AV} {M : Mem} : cl (d + 1) 170 [a0, a1, a2] M = ev S0 d 170 0 [a0, a1, a2, .inr (.inr 1)] [] M := (cl_eq (as := [a0, a1, a2]) (show 3 ≤ maxOf 170 by decide +kernel)).trans rfl
theorem mt_170 : MT[170]? = some m_170 := rfl
theorem fm_170 (pc : Nat) : fetch 170 pc = lk m_170.2.2.2.2.2 pc := by
  unfold fetch
  rw [mt_170]
theorem f_170_0 : fetch 170 0 = some (0, .iload_n 1, 1, [1], 0) := (fm_170 0).trans rfl
theorem u_170_0 {S : Scr} {d : Nat} {a0 a2 a3 : AV} {st : List AV} {sh : Shp} {I : IM} {R : RM} {x : Int} : ev S d 170 0 [a0, .inl x, a2, a3] st (sh, I, R) = ev S d 170 1 [a0, .inl x, a2, a3] (.inl x :: st) (sh, I, R) := (ev_eq f_170_0).trans rfl
theorem f_170_1 : fetch 170 1 = some (1, .invokestatic 153, 3, [169, 1, 150], 0) := (fm_170 1).trans rfl
theorem u_170_1 {S : Scr} {d : Nat} {a0 a1 a2 a3 : AV} {st : List AV} {sh : Shp} {I : IM} {R : RM} {x0 : Int} (hr : st.length ≤ 8) : ev S d 170 1 [a0, a1, a2, a3] (.inl x0 :: st) (sh, I, R) = bnd (cl d 169 [.inl x0] (sh, I, R)) (fun v M => ev S d 170 4 [a0, a1, a2, a3] (psh v st) M) := (ev_eq f_170_1).trans (congrArg (fin S d 170) (if_pos ⟨rfl, hr⟩))
theorem f_170_4 : fetch 170 4 = some (4, .ifCond .eq 10, 3, [14], 0) := (fm_170 4).trans rfl
theorem u_170_4 {S : Scr} {d : Nat} {a0 a1 a2 a3 : AV} {st : List AV} {sh : Shp} {I : IM} {R : RM} {x : Int} : ev S d 170 4 [a0, a1, a2, a3] (.inl x :: st) (sh, I, R) = if x = 0 then ev S d 170 14 [a0, a1, a2, a3] st (sh, I, R) else ev S d 170 7 [a0, a1, a2, a3] st (sh, I, R) := (ev_eq f_170_4).trans fin_if_eq
theorem f_170_7 : fetch 170 7 = some (7, .iload_n 2, 1, [2], 0) := (fm_170 7).trans rfl
theorem u_170_7 {S : Scr} {d : Nat} {a0 a1 a3 : AV} {st : List AV} {sh : Shp} {I : IM} {R : RM} {x : Int} : ev S d 170 7 [a0, a1, .inl x, a3] st (sh, I, R) = ev S d 170 8 [a0, a1, .inl x, a3] (.inl x :: st) (sh, I, R) := (ev_eq f_170_7).trans rfl
theorem f_170_8 : fetch 170 8 = some (8, .sipush 200, 3, [], 200) := (fm_170 8).trans rfl
theorem u_170_8 {S : Scr} {d : Nat} {a0 a1 a2 a3 : AV} {st : List AV} {sh : Shp} {I : IM} {R : RM} : ev S d 170 8 [a0, a1, a2, a3] st (sh, I, R) = ev S d 170 11 [a0, a1, a2, a3] (.inl 200 :: st) (sh, I, R) := (ev_eq f_170_8).trans rfl
theorem f_170_11 : fetch 170 11 = some (11, .if_icmp .le 5, 3, [16], 0) := (fm_170 11).trans rfl
theorem u_170_11 {S : Scr} {d : Nat} {a0 a1 a2 a3 : AV} {st : List AV} {sh : Shp} {I : IM} {R : RM} {x y : Int} : ev S d 170 11 [a0, a1, a2, a3] (.inl y :: .inl x :: st) (sh, I, R) = if x ≤ y then ev S d 170 16 [a0, a1, a2, a3] st (sh, I, R) else ev S d 170 14 [a0, a1, a2, a3] st (sh, I, R) := (ev_eq f_170_11).trans fin_icmp_le
theorem f_170_14 : fetch 170 14 = some (14, .iconst (-1), 1, [], (-1)) := (fm_170 14).trans rfl
theorem u_170_14 {S : Scr} {d : Nat} {a0 a1 a2 a3 : AV} {st : List AV} {sh : Shp} {I : IM} {R : RM} : ev S d 170 14 [a0, a1, a2, a3] st (sh, I, R) = ev S d 170 15 [a0, a1, a2, a3] (.inl (-1) :: st) (sh, I, R) := (ev_eq f_170_14).trans rfl
theorem f_170_15 : fetch 170 15 = some (15, .ireturn, 1, [0], 0) := (fm_170 15).trans rfl
theorem u_170_15 {S : Scr} {d : Nat} {a0 a1 a2 a3 : AV} {sh : Shp} {I : IM} {R : RM} {x : Int} : ev S d 170 15 [a0, a1, a2, a3] [.inl x] (sh, I, R) = some (some (.inl x), (sh, I, R)) := (ev_eq f_170_15).trans fin_iret0
theorem f_170_16 : fetch 170 16 = some (16, .iload_n 2, 1, [2], 0) := (fm_170 16).trans rfl
theorem u_170_16 {S : Scr} {d : Nat} {a0 a1 a3 : AV} {st : List AV} {sh : Shp} {I : IM} {R : RM} {x : Int} : ev S d 170 16 [a0, a1, .inl x, a3] st (sh, I, R) = ev S d 170 17 [a0, a1, .inl x, a3] (.inl x :: st) (sh, I, R) := (ev_eq f_170_16).trans rfl
theorem f_170_17 : fetch 170 17 = some (17, .iconst (-1), 1, [], (-1)) := (fm_170 17).trans rfl
theorem u_170_17 {S : Scr} {d : Nat} {a0 a1 a2 a3 : AV} {st : List AV} {sh : Shp} {I : IM} {R : RM} : ev S d 170 17 [a0, a1, a2, a3] st (sh, I, R) = ev S d 170 18 [a0, a1, a2, a3] (.inl (-1) :: st) (sh, I, R) := (ev_eq f_170_17).trans rfl
theorem f_170_18 : fetch 170 18 = some (18, .if_icmp .ge 6, 3, [24], 0) := (fm_170 18).trans rfl
theorem u_170_18 {S : Scr} {d : Nat} {a0 a1 a2 a3 : AV} {st : List AV} {sh : Shp} {I : IM} {R : RM} {x y : Int} : ev S d 170 18 [a0, a1, a2, a3] (.inl y :: .inl x :: st) (sh, I, R) = if y ≤ x then ev S d 170 24 [a0, a1, a2, a3] st (sh, I, R) else ev S d 170 21 [a0, a1, a2, a3] st (sh, I, R) := (ev_eq f_170_18).trans fin_icmp_ge
theorem f_170_21 : fetch 170 21 = some (21, .bipush (-14), 2, [], (-14)) := (fm_170 21).trans rfl
theorem u_170_21 {S : Scr} {d : Nat} {a0 a1 a2 a3 : AV} {st : List AV} {sh : Shp} {I : IM} {R : RM} : ev S d 170 21 [a0, a1, a2, a3] st (sh, I, R) = ev S d 170 23 [a0, a1, a2, a3] (.inl (-14) :: st) (sh, I, R) := (ev_eq f_170_21).trans rfl
theorem f_170_23 : fetch 170 23 = some (23, .ireturn, 1, [0], 0) := (fm_170 23).trans rfl
theorem u_170_23 {S : Scr} {d : Nat} {a0 a1 a2 a3 : AV} {sh : Shp} {I : IM} {R : RM} {x : Int} : ev S d 170 23 [a0, a1, a2, a3] [.inl x] (sh, I, R) = some (some (.inl x), (sh, I, R)) := (ev_eq f_170_23).trans fin_iret0
theorem f_170_24 : fetch 170 24 = some (24, .aload_n 0, 1, [0], 0) := (fm_170 24).trans rfl
theorem u_170_24 {S : Scr} {d : Nat} {a1 a2 a3 : AV} {st : List AV} {sh : Shp} {I : IM} {R : RM} {x : Nat} : ev S d 170 24 [.inr (.inl x), a1, a2, a3] st (sh, I, R) = ev S d 170 25 [.inr (.inl x), a1, a2, a3] (.inr (.inl x) :: st) (sh, I, R) := (ev_eq f_170_24).trans rfl
theorem f_170_25 : fetch 170 25 = some (25, .getfield 22, 3, [9, 5, 1, 83], 0) := (fm_170 25).trans rfl
theorem u_170_25 {S : Scr} {d : Nat} {a0 a1 a2 a3 : AV} {st : List AV} {sh : Shp} {I : IM} {R : RM} {k : Nat} (h : tg sh k = 9) : ev S d 170 25 [a0, a1, a2, a3] (.inr (.inl k) :: st) (sh, I, R) = ev S d 170 28 [a0, a1, a2, a3] (rv (R k 5) :: st) (sh, I, R) := (ev_eq f_170_25).trans (congrArg (fin S d 170) (if_pos h))
theorem f_170_28 : fetch 170 28 = some (28, .iload_n 1, 1, [1], 0) := (fm_170 28).trans rfl
theorem u_170_28 {S : Scr} {d : Nat} {a0 a2 a3 : AV} {st : List AV} {sh : Shp} {I : IM} {R : RM} {x : Int} : ev S d 170 28 [a0, .inl x, a2, a3] st (sh, I, R) = ev S d 170 29 [a0, .inl x, a2, a3] (.inl x :: st) (sh, I, R) := (ev_eq f_170_28).trans rfl
theorem f_170_29 : fetch 170 29 = some (29, .iload_n 2, 1, [2], 0) := (fm_170 29).trans rfl
theorem u_170_29 {S : Scr} {d : Nat} {a0 a1 a3 : AV} {st : List AV} {sh : Shp} {I : IM} {R : RM} {x : Int} : ev S d 170 29 [a0, a1, .inl x, a3] st (sh, I, R) = ev S d 170 30 [a0, a1, .inl x, a3] (.inl x :: st) (sh, I, R) := (ev_eq f_170_29).trans rfl
theorem f_170_30 : fetch 170 30 = some (30, .iastore, 1, [], 0) := (fm_170 30).trans rfl
theorem u_170_30 {S : Scr} {d : Nat} {a0 a1 a2 a3 : AV} {st : List AV} {sh : Shp} {I : IM} {R : RM} {k : Nat} {i x : Int} (h : tg sh k = 100) (h0 : 0 ≤ i) (h1 : i < ln sh k) : ev S d 170 30 [a0, a1, a2, a3] (.inl x :: .inl i :: .inr (.inl k) :: st) (sh, I, R) = ev S d 170 31 [a0, a1, a2, a3] st (sh, up I k i x, R) := (ev_eq f_170_30).trans (congrArg (fin S d 170) (if_pos ⟨h, h0, h1⟩))
theorem f_170_31 : fetch 170 31 = some (31, .iconst 0, 1, [], 0) := (fm_170 31).trans rfl
theorem u_170_31 {S : Scr} {d : Nat} {a0 a1 a2 a3 : AV} {st : List AV} {sh : Shp} {I : IM} {R : RM} : ev S d 170 31 [a0, a1, a2, a3] st (sh, I, R) = ev S d 170 32 [a0, a1, a2, a3] (.inl 0 :: st) (sh, I, R) := (ev_eq f_170_31).trans rfl
theorem f_170_32 : fetch 170 32 = some (32, .istore_n 3, 1, [3], 0) := (fm_170 32).trans rfl
theorem u_170_32 {S : Scr} {d : Nat} {a0 a1 a2 a3 : AV} {st : List AV} {sh : Shp} {I : IM} {R : RM} {x : Int} : ev S d 170 32 [a0, a1, a2, a3] (.inl x :: st) (sh, I, R) = ev S d 170 33 [a0, a1, a2, .inl x] st (sh, I, R) := (ev_eq f_170_32).trans rfl
theorem f_170_33 : fetch 170 33 = some (33, .iload_n 3, 1, [3], 0) := (fm_170 33).trans rfl
theorem u_170_33 {S : Scr} {d : Nat} {a0 a1 a2 : AV} {st : List AV} {sh : Shp} {I : IM} {R : RM} {x : Int} : ev S d 170 33 [a0, a1, a2, .inl x] st (sh, I, R) = ev S d 170 34 [a0, a1, a2, .inl x] (.inl x :: st) (sh, I, R) := (ev_eq f_170_33).trans rfl
theorem f_170_34 : fetch 170 34 = some (34, .iload_n 2, 1, [2], 0) := (fm_170 34).trans rfl
theorem u_170_34 {S : Scr} {d : Nat} {a0 a1 a3 : AV} {st : List AV} {sh : Shp} {I : IM} {R : RM} {x : Int} : ev S d 170 34 [a0, a1, .inl x, a3] st (sh, I, R) = ev S d 170 35 [a0, a1, .inl x, a3] (.inl x :: st) (sh, I, R) := (ev_eq f_170_34).trans rfl
theorem f_170_35 : fetch 170 35 = some (35, .if_icmp .ge 22, 3, [57], 0) := (fm_170 35).trans rfl
theorem u_170_35 {S : Scr} {d : Nat} {a0 a1 a2 a3 : AV} {st : List AV} {sh : Shp} {I : IM} {R : RM} {x y : Int} : ev S d 170 35 [a0, a1, a2, a3] (.inl y :: .inl x :: st) (sh, I, R) = if y ≤ x then ev S d 170 57 [a0, a1, a2, a3] st (sh, I, R) else ev S d 170 38 [a0, a1, a2, a3] st (sh, I, R) := (ev_eq f_170_35).trans fin_icmp_ge
theorem f_170_38 : fetch 170 38 = some (38, .aload_n 0, 1, [0], 0) := (fm_170 38).trans rfl
theorem u_170_38 {S : Scr} {d : Nat} {a1 a2 a3 : AV} {st : List AV} {sh : Shp} {I : IM} {R : RM} {x : Nat} : ev S d 170 38 [.inr (.inl x), a1, a2, a3] st (sh, I, R) = ev S d 170 39 [.inr (.inl x), a1, a2, a3] (.inr (.inl x) :: st) (sh, I, R) := (ev_eq f_170_38).trans rfl
theorem f_170_39 : fetch 170 39 = some (39, .getfield 25, 3, [9, 6, 1, 84], 0) := (fm_170 39).trans rfl
theorem u_170_39 {S : Scr} {d : Nat} {a0 a1 a2 a3 : AV} {st : List AV} {sh : Shp} {I : IM} {R : RM} {k : Nat} (h : tg sh k = 9) : ev S d 170 39 [a0, a1, a2, a3] (.inr (.inl k) :: st) (sh, I, R) = ev S d 170 42 [a0, a1, a2, a3] (rv (R k 6) :: st) (sh, I, R) := (ev_eq f_170_39).trans (congrArg (fin S d 170) (if_pos h))
theorem f_170_42 : fetch 170 42 = some (42, .sipush 200, 3, [], 200) := (fm_170 42).trans rfl
theorem u_170_42 {S : Scr} {d : Nat} {a0 a1 a2 a3 : AV} {st : List AV} {sh : Shp} {I : IM} {R : RM} : ev S d 170 42 [a0, a1, a2, a3] st (sh, I, R) = ev S d 170 45 [a0, a1, a2, a3] (.inl 200 :: st) (sh, I, R) := (ev_eq f_170_42).trans rfl
theorem f_170_45 : fetch 170 45 = some (45, .iload_n 1, 1, [1], 0) := (fm_170 45).trans rfl
theorem u_170_45 {S : Scr} {d : Nat} {a0 a2 a3 : AV} {st : List AV} {sh : Shp} {I : IM} {R : RM} {x : Int} : ev S d 170 45 [a0, .inl x, a2, a3] st (sh, I, R) = ev S d 170 46 [a0, .inl x, a2, a3] (.inl x :: st) (sh, I, R) := (ev_eq f_170_45).trans rfl
theorem f_170_46 : fetch 170 46 = some (46, .imul, 1, [], 0) := (fm_170 46).trans rfl
theorem u_170_46 {S : Scr} {d : Nat} {a0 a1 a2 a3 : AV} {st : List AV} {sh : Shp} {I : IM} {R : RM} {x y : Int} : ev S d 170 46 [a0, a1, a2, a3] (.inl y :: .inl x :: st) (sh, I, R) = ev S d 170 47 [a0, a1, a2, a3] (.inl (wr (x * y)) :: st) (sh, I, R) := (ev_eq f_170_46).trans rfl
theorem f_170_47 : fetch 170 47 = some (47, .iload_n 3, 1, [3], 0) := (fm_170 47).trans rfl
theorem u_170_47 {S : Scr} {d : Nat} {a0 a1 a2 : AV} {st : List AV} {sh : Shp} {I : IM} {R : RM} {x : Int} : ev S d 170 47 [a0, a1, a2, .inl x] st (sh, I, R) = ev S d 170 48 [a0, a1, a2, .inl x] (.inl x :: st) (sh, I, R) := (ev_eq f_170_47).trans rfl
theorem f_170_48 : fetch 170 48 = some (48, .iadd, 1, [], 0) := (fm_170 48).trans rfl
theorem u_170_48 {S : Scr} {d : Nat} {a0 a1 a2 a3 : AV} {st : List AV} {sh : Shp} {I : IM} {R : RM} {x y : Int} : ev S d 170 48 [a0, a1, a2, a3] (.inl y :: .inl x :: st) (sh, I, R) = ev S d 170 49 [a0, a1, a2, a3] (.inl (wr (x + y)) :: st) (sh, I, R) := (ev_eq f_170_48).trans rfl
theorem f_170_49 : fetch 170 49 = some (49, .iconst 0, 1, [], 0) := (fm_170 49).trans rfl
theorem u_170_49 {S : Scr} {d : Nat} {a0 a1 a2 a3 : AV} {st : List AV} {sh : Shp} {I : IM} {R : RM} : ev S d 170 49 [a0, a1, a2, a3] st (sh, I, R) = ev S d 170 50 [a0, a1, a2, a3] (.inl 0 :: st) (sh, I, R) := (ev_eq f_170_49).trans rfl
theorem f_170_50 : fetch 170 50 = some (50, .iastore, 1, [], 0) := (fm_170 50).trans rfl
theorem u_170_50 {S : Scr} {d : Nat} {a0 a1 a2 a3 : AV} {st : List AV} {sh : Shp} {I : IM} {R : RM} {k : Nat} {i x : Int} (h : tg sh k = 100) (h0 : 0 ≤ i) (h1 : i < ln sh k) : ev S d 170 50 [a0, a1, a2, a3] (.inl x :: .inl i :: .inr (.inl k) :: st) (sh, I, R) = ev S d 170 51 [a0, a1, a2, a3] st (sh, up I k i x, R) := (ev_eq f_170_50).trans (congrArg (fin S d 170) (if_pos ⟨h, h0, h1⟩))
theorem f_170_51 : fetch 170 51 = some (51, .iinc 3 1, 3, [3], 1) := (fm_170 51).trans rfl
theorem u_170_51 {S : Scr} {d : Nat} {a0 a1 a2 : AV} {st : List AV} {sh : Shp} {I : IM} {R : RM} {x : Int} : ev S d 170 51 [a0, a1, a2, .inl x] st (sh, I, R) = ev S d 170 54 [a0, a1, a2, .inl (wr (x + 1))] st (sh, I, R) := (ev_eq f_170_51).trans rfl
theorem f_170_54 : fetch 170 54 = some (54, .goto (-21), 3, [33], 0) := (fm_170 54).trans rfl
theorem u_170_54 {S : Scr} {d : Nat} {a0 a1 a2 a3 : AV} {st : List AV} {sh : Shp} {I : IM} {R : RM} : ev S d 170 54 [a0, a1, a2, a3] st (sh, I, R) = ev S d 170 33 [a0, a1, a2, a3] st (sh, I, R) := (ev_eq f_170_54).trans rfl
theorem f_170_57 : fetch 170 57 = some (57, .iconst 1, 1, [], 1) := (fm_170 57).trans rfl
theorem u_170_57 {S : Scr} {d : Nat} {a0 a1 a2 a3 : AV} {st : List AV} {sh : Shp} {I : IM} {R : RM} : ev S d 170 57 [a0, a1, a2, a3] st (sh, I, R) = ev S d 170 58 [a0, a1, a2, a3] (.inl 1 :: st) (sh, I, R) := (ev_eq f_170_57).trans rfl
theorem f_170_58 : fetch 170 58 = some (58, .ireturn, 1, [0], 0) := (fm_170 58).trans rfl
theorem u_170_58 {S : Scr} {d : Nat} {a0 a1 a2 a3 : AV} {sh : Shp} {I : IM} {R : RM} {x : Int} : ev S d 170 58 [a0, a1, a2, a3] [.inl x] (sh, I, R) = some (some (.inl x), (sh, I, R)) := (ev_eq f_170_58).trans fin_iret0
theorem c_171 {d : Nat} {a0 a1 a2 a3 : AV} {M : Mem} : cl (d + 1) 171 [a0, a1, a2, a3] M = ev S0 d 171 0 [a0, a1, a2, a3, .inr (.inr 1)] [] M := (cl_eq (as := [a0, a1, a2, a3]) (show 4 ≤ maxOf 171 by decide +kernel)).trans rfl
theorem mt_171 : MT[171]? = some m_171 := rfl
theorem fm_171 (pc : Nat) : fetch 171 pc = lk m_171.2.2.2.2.2 pc := by
  unfold fetch
  rw [mt_171]
theorem f_171_0 : fetch 171 0 = some (0, .iload_n 1, 1, [1], 0) := (fm_171 0).trans rfl
theorem u_171_0 {S : Scr} {d : Nat} {a0 a2 a3 a4 : AV} {st : List AV} {sh : Shp} {I : IM} {R : RM} {x : Int} : ev S d 171 0 [a0, .inl x, a2, a3, a4] st (sh, I, R) = ev S d 171 1 [a0, .inl x, a2, a3, a4] (.inl x :: st) (sh, I, R) := (ev_eq f_171_0).trans rfl
theorem f_171_1 : fetch 171 1 = some (1, .invokestatic 153, 3, [169, 1, 150], 0) := (fm_171 1).trans rfl
theorem u_171_1 {S : Scr} {d : Nat} {a0 a1 a2 a3 a4 : AV} {st : List AV} {sh : Shp} {I : IM} {R : RM} {x0 : Int} (hr : st.length ≤ 8) : ev S d 171 1 [a0, a1, a2, a3, a4] (.inl x0 :: st) (sh, I, R) = bnd (cl d 169 [.inl x0] (sh, I, R)) (fun v M => ev S d 171 4 [a0, a1, a2, a3, a4] (psh v st) M) := (ev_eq f_171_1).trans (congrArg (fin S d 171) (if_pos ⟨rfl, hr⟩))
theorem f_171_4 : fetch 171 4 = some (4, .ifCond .eq 14, 3, [18], 0) := (fm_171 4).trans rfl
theorem u_171_4 {S : Scr} {d : Nat} {a0 a1 a2 a3 a4 : AV} {st : List AV} {sh : Shp} {I : IM} {R : RM} {x : Int} : ev S d 171 4 [a0, a1, a2, a3, a4] (.inl x :: st) (sh, I, R) = if x = 0 then ev S d 171 18 [a0, a1, a2, a3, a4] st (sh, I, R) else ev S d 171 7 [a0, a1, a2, a3, a4] st (sh, I, R) := (ev_eq f_171_4).trans fin_if_eq
theorem f_171_7 : fetch 171 7 = some (7, .iload_n 3, 1, [3], 0) := (fm_171 7).trans rfl
theorem u_171_7 {S : Scr} {d : Nat} {a0 a1 a2 a4 : AV} {st : List AV} {sh : Shp} {I : IM} {R : RM} {x : Int} : ev S d 171 7 [a0, a1, a2, .inl x, a4] st (sh, I, R) = ev S d 171 8 [a0, a1, a2, .inl x, a4] (.inl x :: st) (sh, I, R) := (ev_eq f_171_7).trans rfl
theorem f_171_8 : fetch 171 8 = some (8, .iconst 0, 1, [], 0) := (fm_171 8).trans rfl
theorem u_171_8 {S : Scr} {d : Nat} {a0 a1 a2 a3 a4 : AV} {st : List AV} {sh : Shp} {I : IM} {R : RM} : ev S d 171 8 [a0, a1, a2, a3, a4] st (sh, I, R) = ev S d 171 9 [a0, a1, a2, a3, a4] (.inl 0 :: st) (sh, I, R) := (ev_eq f_171_8).trans rfl
theorem f_171_9 : fetch 171 9 = some (9, .sipush 255, 3, [], 255) := (fm_171 9).trans rfl
theorem u_171_9 {S : Scr} {d : Nat} {a0 a1 a2 a3 a4 : AV} {st : List AV} {sh : Shp} {I : IM} {R : RM} : ev S d 171 9 [a0, a1, a2, a3, a4] st (sh, I, R) = ev S d 171 12 [a0, a1, a2, a3, a4] (.inl 255 :: st) (sh, I, R) := (ev_eq f_171_9).trans rfl
theorem f_171_12 : fetch 171 12 = some (12, .invokestatic 64, 3, [129, 3, 125], 0) := (fm_171 12).trans rfl
theorem u_171_12 {S : Scr} {d : Nat} {a0 a1 a2 a3 a4 : AV} {st : List AV} {sh : Shp} {I : IM} {R : RM} {x0 : Int} {x1 : Int} {x2 : Int} (hr : st.length ≤ 8) : ev S d 171 12 [a0, a1, a2, a3, a4] (.inl x2 :: .inl x1 :: .inl x0 :: st) (sh, I, R) = bnd (cl d 129 [.inl x0, .inl x1, .inl x2] (sh, I, R)) (fun v M => ev S d 171 15 [a0, a1, a2, a3, a4] (psh v st) M) := (ev_eq f_171_12).trans (congrArg (fin S d 171) (if_pos ⟨rfl, hr⟩))
theorem f_171_15 : fetch 171 15 = some (15, .ifCond .ne 5, 3, [20], 0) := (fm_171 15).trans rfl
theorem u_171_15 {S : Scr} {d : Nat} {a0 a1 a2 a3 a4 : AV} {st : List AV} {sh : Shp} {I : IM} {R : RM} {x : Int} : ev S d 171 15 [a0, a1, a2, a3, a4] (.inl x :: st) (sh, I, R) = if ¬ x = 0 then ev S d 171 20 [a0, a1, a2, a3, a4] st (sh, I, R) else ev S d 171 18 [a0, a1, a2, a3, a4] st (sh, I, R) := (ev_eq f_171_15).trans fin_if_ne
theorem f_171_18 : fetch 171 18 = some (18, .iconst (-1), 1, [], (-1)) := (fm_171 18).trans rfl
theorem u_171_18 {S : Scr} {d : Nat} {a0 a1 a2 a3 a4 : AV} {st : List AV} {sh : Shp} {I : IM} {R : RM} : ev S d 171 18 [a0, a1, a2, a3, a4] st (sh, I, R) = ev S d 171 19 [a0, a1, a2, a3, a4] (.inl (-1) :: st) (sh, I, R) := (ev_eq f_171_18).trans rfl
theorem f_171_19 : fetch 171 19 = some (19, .ireturn, 1, [0], 0) := (fm_171 19).trans rfl
theorem u_171_19 {S : Scr} {d : Nat} {a0 a1 a2 a3 a4 : AV} {sh : Shp} {I : IM} {R : RM} {x : Int} : ev S d 171 19 [a0, a1, a2, a3, a4] [.inl x] (sh, I, R) = some (some (.inl x), (sh, I, R)) := (ev_eq f_171_19).trans fin_iret0
theorem f_171_20 : fetch 171 20 = some (20, .aload_n 0, 1, [0], 0) := (fm_171 20).trans rfl
theorem u_171_20 {S : Scr} {d : Nat} {a1 a2 a3 a4 : AV} {st : List AV} {sh : Shp} {I : IM} {R : RM} {x : Nat} : ev S d 171 20 [.inr (.inl x), a1, a2, a3, a4] st (sh, I, R) = ev S d 171 21 [.inr (.inl x), a1, a2, a3, a4] (.inr (.inl x) :: st) (sh, I, R) := (ev_eq f_171_20).trans rfl
theorem f_171_21 : fetch 171 21 = some (21, .getfield 22, 3, [9, 5, 1, 83], 0) := (fm_171 21).trans rfl
theorem u_171_21 {S : Scr} {d : Nat} {a0 a1 a2 a3 a4 : AV} {st : List AV} {sh : Shp} {I : IM} {R : RM} {k : Nat} (h : tg sh k = 9) : ev S d 171 21 [a0, a1, a2, a3, a4] (.inr (.inl k) :: st) (sh, I, R) = ev S d 171 24 [a0, a1, a2, a3, a4] (rv (R k 5) :: st) (sh, I, R) := (ev_eq f_171_21).trans (congrArg (fin S d 171) (if_pos h))
theorem f_171_24 : fetch 171 24 = some (24, .iload_n 1, 1, [1], 0) := (fm_171 24).trans rfl
theorem u_171_24 {S : Scr} {d : Nat} {a0 a2 a3 a4 : AV} {st : List AV} {sh : Shp} {I : IM} {R : RM} {x : Int} : ev S d 171 24 [a0, .inl x, a2, a3, a4] st (sh, I, R) = ev S d 171 25 [a0, .inl x, a2, a3, a4] (.inl x :: st) (sh, I, R) := (ev_eq f_171_24).trans rfl
theorem f_171_25 : fetch 171 25 = some (25, .iaload, 1, [], 0) := (fm_171 25).trans rfl
theorem u_171_25 {S : Scr} {d : Nat} {a0 a1 a2 a3 a4 : AV} {st : List AV} {sh : Shp} {I : IM} {R : RM} {k : Nat} {i : Int} (h : tg sh k = 100) (h0 : 0 ≤ i) (h1 : i < ln sh k) : ev S d 171 25 [a0, a1, a2, a3, a4] (.inl i :: .inr (.inl k) :: st) (sh, I, R) = ev S d 171 26 [a0, a1, a2, a3, a4] (.inl (I k i) :: st) (sh, I, R) := (ev_eq f_171_25).trans (congrArg (fin S d 171) (if_pos ⟨h, h0, h1⟩))
theorem f_171_26 : fetch 171 26 = some (26, .ifCond .ge 6, 3, [32], 0) := (fm_171 26).trans rfl
theorem u_171_26 {S : Scr} {d : Nat} {a0 a1 a2 a3 a4 : AV} {st : List AV} {sh : Shp} {I : IM} {R : RM} {x : Int} : ev S d 171 26 [a0, a1, a2, a3, a4] (.inl x :: st) (sh, I, R) = if 0 ≤ x then ev S d 171 32 [a0, a1, a2, a3, a4] st (sh, I, R) else ev S d 171 29 [a0, a1, a2, a3, a4] st (sh, I, R) := (ev_eq f_171_26).trans fin_if_ge
theorem f_171_29 : fetch 171 29 = some (29, .bipush (-11), 2, [], (-11)) := (fm_171 29).trans rfl
theorem u_171_29 {S : Scr} {d : Nat} {a0 a1 a2 a3 a4 : AV} {st : List AV} {sh : Shp} {I : IM} {R : RM} : ev S d 171 29 [a0, a1, a2, a3, a4] st (sh, I, R) = ev S d 171 31 [a0, a1, a2, a3, a4] (.inl (-11) :: st) (sh, I, R) := (ev_eq f_171_29).trans rfl
theorem f_171_31 : fetch 171 31 = some (31, .ireturn, 1, [0], 0) := (fm_171 31).trans rfl
theorem u_171_31 {S : Scr} {d : Nat} {a0 a1 a2 a3 a4 : AV} {sh : Shp} {I : IM} {R : RM} {x : Int} : ev S d 171 31 [a0, a1, a2, a3, a4] [.inl x] (sh, I, R) = some (some (.inl x), (sh, I, R)) := (ev_eq f_171_31).trans fin_iret0
theorem f_171_32 : fetch 171 32 = some (32, .iload_n 2, 1, [2], 0) := (fm_171 32).trans rfl
theorem u_171_32 {S : Scr} {d : Nat} {a0 a1 a3 a4 : AV} {st : List AV} {sh : Shp} {I : IM} {R : RM} {x : Int} : ev S d 171 32 [a0, a1, .inl x, a3, a4] st (sh, I, R) = ev S d 171 33 [a0, a1, .inl x, a3, a4] (.inl x :: st) (sh, I, R) := (ev_eq f_171_32).trans rfl
theorem f_171_33 : fetch 171 33 = some (33, .iconst 0, 1, [], 0) := (fm_171 33).trans rfl
theorem u_171_33 {S : Scr} {d : Nat} {a0 a1 a2 a3 a4 : AV} {st : List AV} {sh : Shp} {I : IM} {R : RM} : ev S d 171 33 [a0, a1, a2, a3, a4] st (sh, I, R) = ev S d 171 34 [a0, a1, a2, a3, a4] (.inl 0 :: st) (sh, I, R) := (ev_eq f_171_33).trans rfl
theorem f_171_34 : fetch 171 34 = some (34, .aload_n 0, 1, [0], 0) := (fm_171 34).trans rfl
theorem u_171_34 {S : Scr} {d : Nat} {a1 a2 a3 a4 : AV} {st : List AV} {sh : Shp} {I : IM} {R : RM} {x : Nat} : ev S d 171 34 [.inr (.inl x), a1, a2, a3, a4] st (sh, I, R) = ev S d 171 35 [.inr (.inl x), a1, a2, a3, a4] (.inr (.inl x) :: st) (sh, I, R) := (ev_eq f_171_34).trans rfl
theorem f_171_35 : fetch 171 35 = some (35, .getfield 22, 3, [9, 5, 1, 83], 0) := (fm_171 35).trans rfl
theorem u_171_35 {S : Scr} {d : Nat} {a0 a1 a2 a3 a4 : AV} {st : List AV} {sh : Shp} {I : IM} {R : RM} {k : Nat} (h : tg sh k = 9) : ev S d 171 35 [a0, a1, a2, a3, a4] (.inr (.inl k) :: st) (sh, I, R) = ev S d 171 38 [a0, a1, a2, a3, a4] (rv (R k 5) :: st) (sh, I, R) := (ev_eq f_171_35).trans (congrArg (fin S d 171) (if_pos h))
theorem f_171_38 : fetch 171 38 = some (38, .iload_n 1, 1, [1], 0) := (fm_171 38).trans rfl
theorem u_171_38 {S : Scr} {d : Nat} {a0 a2 a3 a4 : AV} {st : List AV} {sh : Shp} {I : IM} {R : RM} {x : Int} : ev S d 171 38 [a0, .inl x, a2, a3, a4] st (sh, I, R) = ev S d 171 39 [a0, .inl x, a2, a3, a4] (.inl x :: st) (sh, I, R) := (ev_eq f_171_38).trans rfl
theorem f_171_39 : fetch 171 39 = some (39, .iaload, 1, [], 0) := (fm_171 39).trans rfl
theorem u_171_39 {S : Scr} {d : Nat} {a0 a1 a2 a3 a4 : AV} {st : List AV} {sh : Shp} {I : IM} {R : RM} {k : Nat} {i : Int} (h : tg sh k = 100) (h0 : 0 ≤ i) (h1 : i < ln sh k) : ev S d 171 39 [a0, a1, a2, a3, a4] (.inl i :: .inr (.inl k) :: st) (sh, I, R) = ev S d 171 40 [a0, a1, a2, a3, a4] (.inl (I k i) :: st) (sh, I, R) := (ev_eq f_171_39).trans (congrArg (fin S d 171) (if_pos ⟨h, h0, h1⟩))
theorem f_171_40 : fetch 171 40 = some (40, .iconst 1, 1, [], 1) := (fm_171 40).trans rfl
theorem u_171_40 {S : Scr} {d : Nat} {a0 a1 a2 a3 a4 : AV} {st : List AV} {sh : Shp} {I : IM} {R : RM} : ev S d 171 40 [a0, a1, a2, a3, a4] st (sh, I, R) = ev S d 171 41 [a0, a1, a2, a3, a4] (.inl 1 :: st) (sh, I, R) := (ev_eq f_171_40).trans rfl
theorem f_171_41 : fetch 171 41 = some (41, .isub, 1, [], 0) := (fm_171 41).trans rfl
theorem u_171_41 {S : Scr} {d : Nat} {a0 a1 a2 a3 a4 : AV} {st : List AV} {sh : Shp} {I : IM} {R : RM} {x y : Int} : ev S d 171 41 [a0, a1, a2, a3, a4] (.inl y :: .inl x :: st) (sh, I, R) = ev S d 171 42 [a0, a1, a2, a3, a4] (.inl (wr (x - y)) :: st) (sh, I, R) := (ev_eq f_171_41).trans rfl
theorem f_171_42 : fetch 171 42 = some (42, .invokestatic 64, 3, [129, 3, 125], 0) := (fm_171 42).trans rfl
theorem u_171_42 {S : Scr} {d : Nat} {a0 a1 a2 a3 a4 : AV} {st : List AV} {sh : Shp} {I : IM} {R : RM} {x0 : Int} {x1 : Int} {x2 : Int} (hr : st.length ≤ 8) : ev S d 171 42 [a0, a1, a2, a3, a4] (.inl x2 :: .inl x1 :: .inl x0 :: st) (sh, I, R) = bnd (cl d 129 [.inl x0, .inl x1, .inl x2] (sh, I, R)) (fun v M => ev S d 171 45 [a0, a1, a2, a3, a4] (psh v st) M) := (ev_eq f_171_42).trans (congrArg (fin S d 171) (if_pos ⟨rfl, hr⟩))
theorem f_171_45 : fetch 171 45 = some (45, .ifCond .ne 6, 3, [51], 0) := (fm_171 45).trans rfl
theorem u_171_45 {S : Scr} {d : Nat} {a0 a1 a2 a3 a4 : AV} {st : List AV} {sh : Shp} {I : IM} {R : RM} {x : Int} : ev S d 171 45 [a0, a1, a2, a3, a4] (.inl x :: st) (sh, I, R) = if ¬ x = 0 then ev S d 171 51 [a0, a1, a2, a3, a4] st (sh, I, R) else ev S d 171 48 [a0, a1, a2, a3, a4] st (sh, I, R) := (ev_eq f_171_45).trans fin_if_ne
theorem f_171_48 : fetch 171 48 = some (48, .bipush (-13), 2, [], (-13)) := (fm_171 48).trans rfl
theorem u_171_48 {S : Scr} {d : Nat} {a0 a1 a2 a3 a4 : AV} {st : List AV} {sh : Shp} {I : IM} {R : RM} : ev S d 171 48 [a0, a1, a2, a3, a4] st (sh, I, R) = ev S d 171 50 [a0, a1, a2, a3, a4] (.inl (-13) :: st) (sh, I, R) := (ev_eq f_171_48).trans rfl
theorem f_171_50 : fetch 171 50 = some (50, .ireturn, 1, [0], 0) := (fm_171 50).trans rfl
theorem u_171_50 {S : Scr} {d : Nat} {a0 a1 a2 a3 a4 : AV} {sh : Shp} {I : IM} {R : RM} {x : Int} : ev S d 171 50 [a0, a1, a2, a3, a4] [.inl x] (sh, I, R) = some (some (.inl x), (sh, I, R)) := (ev_eq f_171_50).trans fin_iret0
theorem f_171_51 : fetch 171 51 = some (51, .aload_n 0, 1, [0], 0) := (fm_171 51).trans rfl
theorem u_171_51 {S : Scr} {d : Nat} {a1 a2 a3 a4 : AV} {st : List AV} {sh : Shp} {I : IM} {R : RM} {x : Nat} : ev S d 171 51 [.inr (.inl x), a1, a2, a3, a4] st (sh, I, R) = ev S d 171 52 [.inr (.inl x), a1, a2, a3, a4] (.inr (.inl x) :: st) (sh, I, R) := (ev_eq f_171_51).trans rfl
theorem f_171_52 : fetch 171 52 = some (52, .getfield 25, 3, [9, 6, 1, 84], 0) := (fm_171 52).trans rfl
theorem u_171_52 {S : Scr} {d : Nat} {a0 a1 a2 a3 a4 : AV} {st : List AV} {sh : Shp} {I : IM} {R : RM} {k : Nat} (h : tg sh k = 9) : ev S d 171 52 [a0, a1, a2, a3, a4] (.inr (.inl k) :: st) (sh, I, R) = ev S d 171 55 [a0, a1, a2, a3, a4] (rv (R k 6) :: st) (sh, I, R) := (ev_eq f_171_52).trans (congrArg (fin S d 171) (if_pos h))
theorem f_171_55 : fetch 171 55 = some (55, .sipush 200, 3, [], 200) := (fm_171 55).trans rfl
theorem u_171_55 {S : Scr} {d : Nat} {a0 a1 a2 a3 a4 : AV} {st : List AV} {sh : Shp} {I : IM} {R : RM} : ev S d 171 55 [a0, a1, a2, a3, a4] st (sh, I, R) = ev S d 171 58 [a0, a1, a2, a3, a4] (.inl 200 :: st) (sh, I, R) := (ev_eq f_171_55).trans rfl
theorem f_171_58 : fetch 171 58 = some (58, .iload_n 1, 1, [1], 0) := (fm_171 58).trans rfl
theorem u_171_58 {S : Scr} {d : Nat} {a0 a2 a3 a4 : AV} {st : List AV} {sh : Shp} {I : IM} {R : RM} {x : Int} : ev S d 171 58 [a0, .inl x, a2, a3, a4] st (sh, I, R) = ev S d 171 59 [a0, .inl x, a2, a3, a4] (.inl x :: st) (sh, I, R) := (ev_eq f_171_58).trans rfl
theorem f_171_59 : fetch 171 59 = some (59, .imul, 1, [], 0) := (fm_171 59).trans rfl
theorem u_171_59 {S : Scr} {d : Nat} {a0 a1 a2 a3 a4 : AV} {st : List AV} {sh : Shp} {I : IM} {R : RM} {x y : Int} : ev S d 171 59 [a0, a1, a2, a3, a4] (.inl y :: .inl x :: st) (sh, I, R) = ev S d 171 60 [a0, a1, a2, a3, a4] (.inl (wr (x * y)) :: st) (sh, I, R) := (ev_eq f_171_59).trans rfl
theorem f_171_60 : fetch 171 60 = some (60, .iload_n 2, 1, [2], 0) := (fm_171 60).trans rfl
theorem u_171_60 {S : Scr} {d : Nat} {a0 a1 a3 a4 : AV} {st : List AV} {sh : Shp} {I : IM} {R : RM} {x : Int} : ev S d 171 60 [a0, a1, .inl x, a3, a4] st (sh, I, R) = ev S d 171 61 [a0, a1, .inl x, a3, a4] (.inl x :: st) (sh, I, R) := (ev_eq f_171_60).trans rfl
theorem f_171_61 : fetch 171 61 = some (61, .iadd, 1, [], 0) := (fm_171 61).trans rfl
theorem u_171_61 {S : Scr} {d : Nat} {a0 a1 a2 a3 a4 : AV} {st : List AV} {sh : Shp} {I : IM} {R : RM} {x y : Int} : ev S d 171 61 [a0, a1, a2, a3, a4] (.inl y :: .inl x :: st) (sh, I, R) = ev S d 171 62 [a0, a1, a2, a3, a4] (.inl (wr (x + y)) :: st) (sh, I, R) := (ev_eq f_171_61).trans rfl
theorem f_171_62 : fetch 171 62 = some (62, .iaload, 1, [], 0) := (fm_171 62).trans rfl
theorem u_171_62 {S : Scr} {d : Nat} {a0 a1 a2 a3 a4 : AV} {st : List AV} {sh : Shp} {I : IM} {R : RM} {k : Nat} {i : Int} (h : tg sh k = 100) (h0 : 0 ≤ i) (h1 : i < ln sh k) : ev S d 171 62 [a0, a1, a2, a3, a4] (.inl i :: .inr (.inl k) :: st) (sh, I, R) = ev S d 171 63 [a0, a1, a2, a3, a4] (.inl (I k i) :: st) (sh, I, R) := (ev_eq f_171_62).trans (congrArg (fin S d 171) (if_pos ⟨h, h0, h1⟩))
theorem f_171_63 : fetch 171 63 = some (63, .istore 4, 2, [4], 0) := (fm_171 63).trans rfl
theorem u_171_63 {S : Scr} {d : Nat} {a0 a1 a2 a3 a4 : AV} {st : List AV} {sh : Shp} {I : IM} {R : RM} {x : Int} : ev S d 171 63 [a0, a1, a2, a3, a4] (.inl x :: st) (sh, I, R) = ev S d 171 65 [a0, a1, a2, a3, .inl x] st (sh, I, R) := (ev_eq f_171_63).trans rfl
theorem f_171_65 : fetch 171 65 = some (65, .aload_n 0, 1, [0], 0) := (fm_171 65).trans rfl
theorem u_171_65 {S : Scr} {d : Nat} {a1 a2 a3 a4 : AV} {st : List AV} {sh : Shp} {I : IM} {R : RM} {x : Nat} : ev S d 171 65 [.inr (.inl x), a1, a2, a3, a4] st (sh, I, R) = ev S d 171 66 [.inr (.inl x), a1, a2, a3, a4] (.inr (.inl x) :: st) (sh, I, R) := (ev_eq f_171_65).trans rfl
theorem f_171_66 : fetch 171 66 = some (66, .getfield 25, 3, [9, 6, 1, 84], 0) := (fm_171 66).trans rfl
theorem u_171_66 {S : Scr} {d : Nat} {a0 a1 a2 a3 a4 : AV} {st : List AV} {sh : Shp} {I : IM} {R : RM} {k : Nat} (h : tg sh k = 9) : ev S d 171 66 [a0, a1, a2, a3, a4] (.inr (.inl k) :: st) (sh, I, R) = ev S d 171 69 [a0, a1, a2, a3, a4] (rv (R k 6) :: st) (sh, I, R) := (ev_eq f_171_66).trans (congrArg (fin S d 171) (if_pos h))
theorem f_171_69 : fetch 171 69 = some (69, .sipush 200, 3, [], 200) := (fm_171 69).trans rfl
theorem u_171_69 {S : Scr} {d : Nat} {a0 a1 a2 a3 a4 : AV} {st : List AV} {sh : Shp} {I : IM} {R : RM} : ev S d 171 69 [a0, a1, a2, a3, a4] st (sh, I, R) = ev S d 171 72 [a0, a1, a2, a3, a4] (.inl 200 :: st) (sh, I, R) := (ev_eq f_171_69).trans rfl
theorem f_171_72 : fetch 171 72 = some (72, .iload_n 1, 1, [1], 0) := (fm_171 72).trans rfl
theorem u_171_72 {S : Scr} {d : Nat} {a0 a2 a3 a4 : AV} {st : List AV} {sh : Shp} {I : IM} {R : RM} {x : Int} : ev S d 171 72 [a0, .inl x, a2, a3, a4] st (sh, I, R) = ev S d 171 73 [a0, .inl x, a2, a3, a4] (.inl x :: st) (sh, I, R) := (ev_eq f_171_72).trans rfl
theorem f_171_73 : fetch 171 73 = some (73, .imul, 1, [], 0) := (fm_171 73).trans rfl
theorem u_171_73 {S : Scr} {d : Nat} {a0 a1 a2 a3 a4 : AV} {st : List AV} {sh : Shp} {I : IM} {R : RM} {x y : Int} : ev S d 171 73 [a0, a1, a2, a3, a4] (.inl y :: .inl x :: st) (sh, I, R) = ev S d 171 74 [a0, a1, a2, a3, a4] (.inl (wr (x * y)) :: st) (sh, I, R) := (ev_eq f_171_73).trans rfl
theorem f_171_74 : fetch 171 74 = some (74, .iload_n 2, 1, [2], 0) := (fm_171 74).trans rfl
theorem u_171_74 {S : Scr} {d : Nat} {a0 a1 a3 a4 : AV} {st : List AV} {sh : Shp} {I : IM} {R : RM} {x : Int} : ev S d 171 74 [a0, a1, .inl x, a3, a4] st (sh, I, R) = ev S d 171 75 [a0, a1, .inl x, a3, a4] (.inl x :: st) (sh, I, R) := (ev_eq f_171_74).trans rfl
theorem f_171_75 : fetch 171 75 = some (75, .iadd, 1, [], 0) := (fm_171 75).trans rfl
theorem u_171_75 {S : Scr} {d : Nat} {a0 a1 a2 a3 a4 : AV} {st : List AV} {sh : Shp} {I : IM} {R : RM} {x y : Int} : ev S d 171 75 [a0, a1, a2, a3, a4] (.inl y :: .inl x :: st) (sh, I, R) = ev S d 171 76 [a0, a1, a2, a3, a4] (.inl (wr (x + y)) :: st) (sh, I, R) := (ev_eq f_171_75).trans rfl
theorem f_171_76 : fetch 171 76 = some (76, .iload_n 3, 1, [3], 0) := (fm_171 76).trans rfl
theorem u_171_76 {S : Scr} {d : Nat} {a0 a1 a2 a4 : AV} {st : List AV} {sh : Shp} {I : IM} {R : RM} {x : Int} : ev S d 171 76 [a0, a1, a2, .inl x, a4] st (sh, I, R) = ev S d 171 77 [a0, a1, a2, .inl x, a4] (.inl x :: st) (sh, I, R) := (ev_eq f_171_76).trans rfl
theorem f_171_77 : fetch 171 77 = some (77, .iastore, 1, [], 0) := (fm_171 77).trans rfl
theorem u_171_77 {S : Scr} {d : Nat} {a0 a1 a2 a3 a4 : AV} {st : List AV} {sh : Shp} {I : IM} {R : RM} {k : Nat} {i x : Int} (h : tg sh k = 100) (h0 : 0 ≤ i) (h1 : i < ln sh k) : ev S d 171 77 [a0, a1, a2, a3, a4] (.inl x :: .inl i :: .inr (.inl k) :: st) (sh, I, R) = ev S d 171 78 [a0, a1, a2, a3, a4] st (sh, up I k i x, R) := (ev_eq f_171_77).trans (congrArg (fin S d 171) (if_pos ⟨h, h0, h1⟩))
theorem f_171_78 : fetch 171 78 = some (78, .iload 4, 2, [4], 0) := (fm_171 78).trans rfl
theorem u_171_78 {S : Scr} {d : Nat} {a0 a1 a2 a3 : AV} {st : List AV} {sh : Shp} {I : IM} {R : RM} {x : Int} : ev S d 171 78 [a0, a1, a2, a3, .inl x] st (sh, I, R) = ev S d 171 80 [a0, a1, a2, a3, .inl x] (.inl x :: st) (sh, I, R) := (ev_eq f_171_78).trans rfl
theorem f_171_80 : fetch 171 80 = some (80, .ireturn, 1, [0], 0) := (fm_171 80).trans rfl
theorem u_171_80 {S : Scr} {d : Nat} {a0 a1 a2 a3 a4 : AV} {sh : Shp} {I : IM} {R : RM} {x : Int} : ev S d 171 80 [a0, a1, a2, a3, a4] [.inl x] (sh, I, R) = some (some (.inl x), (sh, I, R)) := (ev_eq f_171_80).trans fin_iret0
theorem c_172 {d : Nat} {a0 a1 a2 : AV} {M : Mem} : cl (d + 1) 172 [a0, a1, a2] M = ev S0 d 172 0 [a0, a1, a2] [] M := (cl_eq (as := [a0, a1, a2]) (show 3 ≤ maxOf 172 by decide +kernel)).trans rfl
theorem mt_172 : MT[172]? = some m_172 := rfl
theorem fm_172 (pc : Nat) : fetch 172 pc = lk m_172.2.2.2.2.2 pc := by
  unfold fetch
  rw [mt_172]
theorem f_172_0 : fetch 172 0 = some (0, .iload_n 1, 1, [1], 0) := (fm_172 0).trans rfl
theorem u_172_0 {S : Scr} {d : Nat} {a0 a2 : AV} {st : List AV} {sh : Shp} {I : IM} {R : RM} {x : Int} : ev S d 172 0 [a0, .inl x, a2] st (sh, I, R) = ev S d 172 1 [a0, .inl x, a2] (.inl x :: st) (sh, I, R) := (ev_eq f_172_0).trans rfl
theorem f_172_1 : fetch 172 1 = some (1, .invokestatic 153, 3, [169, 1, 150], 0) := (fm_172 1).trans rfl
theorem u_172_1 {S : Scr} {d : Nat} {a0 a1 a2 : AV} {st : List AV} {sh : Shp} {I : IM} {R : RM} {x0 : Int} (hr : st.length ≤ 8) : ev S d 172 1 [a0, a1, a2] (.inl x0 :: st) (sh, I, R) = bnd (cl d 169 [.inl x0] (sh, I, R)) (fun v M => ev S d 172 4 [a0, a1, a2] (psh v st) M) := (ev_eq f_172_1).trans (congrArg (fin S d 172) (if_pos ⟨rfl, hr⟩))
theorem f_172_4 : fetch 172 4 = some (4, .ifCond .ne 5, 3, [9], 0) := (fm_172 4).trans rfl
theorem u_172_4 {S : Scr} {d : Nat} {a0 a1 a2 : AV} {st : List AV} {sh : Shp} {I : IM} {R : RM} {x : Int} : ev S d 172 4 [a0, a1, a2] (.inl x :: st) (sh, I, R) = if ¬ x = 0 then ev S d 172 9 [a0, a1, a2] st (sh, I, R) else ev S d 172 7 [a0, a1, a2] st (sh, I, R) := (ev_eq f_172_4).trans fin_if_ne
theorem f_172_7 : fetch 172 7 = some (7, .iconst (-1), 1, [], (-1)) := (fm_172 7).trans rfl
theorem u_172_7 {S : Scr} {d : Nat} {a0 a1 a2 : AV} {st : List AV} {sh : Shp} {I : IM} {R : RM} : ev S d 172 7 [a0, a1, a2] st (sh, I, R) = ev S d 172 8 [a0, a1, a2] (.inl (-1) :: st) (sh, I, R) := (ev_eq f_172_7).trans rfl
theorem f_172_8 : fetch 172 8 = some (8, .ireturn, 1, [0], 0) := (fm_172 8).trans rfl
theorem u_172_8 {S : Scr} {d : Nat} {a0 a1 a2 : AV} {sh : Shp} {I : IM} {R : RM} {x : Int} : ev S d 172 8 [a0, a1, a2] [.inl x] (sh, I, R) = some (some (.inl x), (sh, I, R)) := (ev_eq f_172_8).trans fin_iret0
theorem f_172_9 : fetch 172 9 = some (9, .aload_n 0, 1, [0], 0) := (fm_172 9).trans rfl
theorem u_172_9 {S : Scr} {d : Nat} {a1 a2 : AV} {st : List AV} {sh : Shp} {I : IM} {R : RM} {x : Nat} : ev S d 172 9 [.inr (.inl x), a1, a2] st (sh, I, R) = ev S d 172 10 [.inr (.inl x), a1, a2] (.inr (.inl x) :: st) (sh, I, R) := (ev_eq f_172_9).trans rfl
theorem f_172_10 : fetch 172 10 = some (10, .getfield 22, 3, [9, 5, 1, 83], 0) := (fm_172 10).trans rfl
theorem u_172_10 {S : Scr} {d : Nat} {a0 a1 a2 : AV} {st : List AV} {sh : Shp} {I : IM} {R : RM} {k : Nat} (h : tg sh k = 9) : ev S d 172 10 [a0, a1, a2] (.inr (.inl k) :: st) (sh, I, R) = ev S d 172 13 [a0, a1, a2] (rv (R k 5) :: st) (sh, I, R) := (ev_eq f_172_10).trans (congrArg (fin S d 172) (if_pos h))
theorem f_172_13 : fetch 172 13 = some (13, .iload_n 1, 1, [1], 0) := (fm_172 13).trans rfl
theorem u_172_13 {S : Scr} {d : Nat} {a0 a2 : AV} {st : List AV} {sh : Shp} {I : IM} {R : RM} {x : Int} : ev S d 172 13 [a0, .inl x, a2] st (sh, I, R) = ev S d 172 14 [a0, .inl x, a2] (.inl x :: st) (sh, I, R) := (ev_eq f_172_13).trans rfl
theorem f_172_14 : fetch 172 14 = some (14, .iaload, 1, [], 0) := (fm_172 14).trans rfl
theorem u_172_14 {S : Scr} {d : Nat} {a0 a1 a2 : AV} {st : List AV} {sh : Shp} {I : IM} {R : RM} {k : Nat} {i : Int} (h : tg sh k = 100) (h0 : 0 ≤ i) (h1 : i < ln sh k) : ev S d 172 14 [a0, a1, a2] (.inl i :: .inr (.inl k) :: st) (sh, I, R) = ev S d 172 15 [a0, a1, a2] (.inl (I k i) :: st) (sh, I, R) := (ev_eq f_172_14).trans (congrArg (fin S d 172) (if_pos ⟨h, h0, h1⟩))
theorem f_172_15 : fetch 172 15 = some (15, .ifCond .ge 6, 3, [21], 0) := (fm_172 15).trans rfl
theorem u_172_15 {S : Scr} {d : Nat} {a0 a1 a2 : AV} {st : List AV} {sh : Shp} {I : IM} {R : RM} {x : Int} : ev S d 172 15 [a0, a1, a2] (.inl x :: st) (sh, I, R) = if 0 ≤ x then ev S d 172 21 [a0, a1, a2] st (sh, I, R) else ev S d 172 18 [a0, a1, a2] st (sh, I, R) := (ev_eq f_172_15).trans fin_if_ge
theorem f_172_18 : fetch 172 18 = some (18, .bipush (-11), 2, [], (-11)) := (fm_172 18).trans rfl
theorem u_172_18 {S : Scr} {d : Nat} {a0 a1 a2 : AV} {st : List AV} {sh : Shp} {I : IM} {R : RM} : ev S d 172 18 [a0, a1, a2] st (sh, I, R) = ev S d 172 20 [a0, a1, a2] (.inl (-11) :: st) (sh, I, R) := (ev_eq f_172_18).trans rfl
theorem f_172_20 : fetch 172 20 = some (20, .ireturn, 1, [0], 0) := (fm_172 20).trans rfl
theorem u_172_20 {S : Scr} {d : Nat} {a0 a1 a2 : AV} {sh : Shp} {I : IM} {R : RM} {x : Int} : ev S d 172 20 [a0, a1, a2] [.inl x] (sh, I, R) = some (some (.inl x), (sh, I, R)) := (ev_eq f_172_20).trans fin_iret0
theorem f_172_21 : fetch 172 21 = some (21, .iload_n 2, 1, [2], 0) := (fm_172 21).trans rfl
theorem u_172_21 {S : Scr} {d : Nat} {a0 a1 : AV} {st : List AV} {sh : Shp} {I : IM} {R : RM} {x : Int} : ev S d 172 21 [a0, a1, .inl x] st (sh, I, R) = ev S d 172 22 [a0, a1, .inl x] (.inl x :: st) (sh, I, R) := (ev_eq f_172_21).trans rfl
theorem f_172_22 : fetch 172 22 = some (22, .iconst (-1), 1, [], (-1)) := (fm_172 22).trans rfl
theorem u_172_22 {S : Scr} {d : Nat} {a0 a1 a2 : AV} {st : List AV} {sh : Shp} {I : IM} {R : RM} : ev S d 172 22 [a0, a1, a2] st (sh, I, R) = ev S d 172 23 [a0, a1, a2] (.inl (-1) :: st) (sh, I, R) := (ev_eq f_172_22).trans rfl
theorem f_172_23 : fetch 172 23 = some (23, .if_icmp .ne 10, 3, [33], 0) := (fm_172 23).trans rfl
theorem u_172_23 {S : Scr} {d : Nat} {a0 a1 a2 : AV} {st : List AV} {sh : Shp} {I : IM} {R : RM} {x y : Int} : ev S d 172 23 [a0, a1, a2] (.inl y :: .inl x :: st) (sh, I, R) = if ¬ x = y then ev S d 172 33 [a0, a1, a2] st (sh, I, R) else ev S d 172 26 [a0, a1, a2] st (sh, I, R) := (ev_eq f_172_23).trans fin_icmp_ne
theorem f_172_26 : fetch 172 26 = some (26, .aload_n 0, 1, [0], 0) := (fm_172 26).trans rfl
theorem u_172_26 {S : Scr} {d : Nat} {a1 a2 : AV} {st : List AV} {sh : Shp} {I : IM} {R : RM} {x : Nat} : ev S d 172 26 [.inr (.inl x), a1, a2] st (sh, I, R) = ev S d 172 27 [.inr (.inl x), a1, a2] (.inr (.inl x) :: st) (sh, I, R) := (ev_eq f_172_26).trans rfl
theorem f_172_27 : fetch 172 27 = some (27, .getfield 22, 3, [9, 5, 1, 83], 0) := (fm_172 27).trans rfl
theorem u_172_27 {S : Scr} {d : Nat} {a0 a1 a2 : AV} {st : List AV} {sh : Shp} {I : IM} {R : RM} {k : Nat} (h : tg sh k = 9) : ev S d 172 27 [a0, a1, a2] (.inr (.inl k) :: st) (sh, I, R) = ev S d 172 30 [a0, a1, a2] (rv (R k 5) :: st) (sh, I, R) := (ev_eq f_172_27).trans (congrArg (fin S d 172) (if_pos h))
theorem f_172_30 : fetch 172 30 = some (30, .iload_n 1, 1, [1], 0) := (fm_172 30).trans rfl
theorem u_172_30 {S : Scr} {d : Nat} {a0 a2 : AV} {st : List AV} {sh : Shp} {I : IM} {R : RM} {x : Int} : ev S d 172 30 [a0, .inl x, a2] st (sh, I, R) = ev S d 172 31 [a0, .inl x, a2] (.inl x :: st) (sh, I, R) := (ev_eq f_172_30).trans rfl
theorem f_172_31 : fetch 172 31 = some (31, .iaload, 1, [], 0) := (fm_172 31).trans rfl
theorem u_172_31 {S : Scr} {d : Nat} {a0 a1 a2 : AV} {st : List AV} {sh : Shp} {I : IM} {R : RM} {k : Nat} {i : Int} (h : tg sh k = 100) (h0 : 0 ≤ i) (h1 : i < ln sh k) : ev S d 172 31 [a0, a1, a2] (.inl i :: .inr (.inl k) :: st) (sh, I, R) = ev S d 172 32 [a0, a1, a2] (.inl (I k i) :: st) (sh, I, R) := (ev_eq f_172_31).trans (congrArg (fin S d 172) (if_pos ⟨h, h0, h1⟩))
theorem f_172_32 : fetch 172 32 = some (32, .ireturn, 1, [0], 0) := (fm_172 32).trans rfl
theorem u_172_32 {S : Scr} {d : Nat} {a0 a1 a2 : AV} {sh : Shp} {I : IM} {R : RM} {x : Int} : ev S d 172 32 [a0, a1, a2] [.inl x] (sh, I, R) = some (some (.inl x), (sh, I, R)) := (ev_eq f_172_32).trans fin_iret0
theorem f_172_33 : fetch 172 33 = some (33, .iload_n 2, 1, [2], 0) := (fm_172 33).trans rfl
theorem u_172_33 {S : Scr} {d : Nat} {a0 a1 : AV} {st : List AV} {sh : Shp} {I : IM} {R : RM} {x : Int} : ev S d 172 33 [a0, a1, .inl x] st (sh, I, R) = ev S d 172 34 [a0, a1, .inl x] (.inl x :: st) (sh, I, R) := (ev_eq f_172_33).trans rfl
theorem f_172_34 : fetch 172 34 = some (34, .iconst 0, 1, [], 0) := (fm_172 34).trans rfl
theorem u_172_34 {S : Scr} {d : Nat} {a0 a1 a2 : AV} {st : List AV} {sh : Shp} {I : IM} {R : RM} : ev S d 172 34 [a0, a1, a2] st (sh, I, R) = ev S d 172 35 [a0, a1, a2] (.inl 0 :: st) (sh, I, R) := (ev_eq f_172_34).trans rfl
theorem f_172_35 : fetch 172 35 = some (35, .aload_n 0, 1, [0], 0) := (fm_172 35).trans rfl
theorem u_172_35 {S : Scr} {d : Nat} {a1 a2 : AV} {st : List AV} {sh : Shp} {I : IM} {R : RM} {x : Nat} : ev S d 172 35 [.inr (.inl x), a1, a2] st (sh, I, R) = ev S d 172 36 [.inr (.inl x), a1, a2] (.inr (.inl x) :: st) (sh, I, R) := (ev_eq f_172_35).trans rfl
theorem f_172_36 : fetch 172 36 = some (36, .getfield 22, 3, [9, 5, 1, 83], 0) := (fm_172 36).trans rfl
theorem u_172_36 {S : Scr} {d : Nat} {a0 a1 a2 : AV} {st : List AV} {sh : Shp} {I : IM} {R : RM} {k : Nat} (h : tg sh k = 9) : ev S d 172 36 [a0, a1, a2] (.inr (.inl k) :: st) (sh, I, R) = ev S d 172 39 [a0, a1, a2] (rv (R k 5) :: st) (sh, I, R) := (ev_eq f_172_36).trans (congrArg (fin S d 172) (if_pos h))
theorem f_172_39 : fetch 172 39 = some (39, .iload_n 1, 1, [1], 0) := (fm_172 39).trans rfl
theorem u_172_39 {S : Scr} {d : Nat} {a0 a2 : AV} {st : List AV} {sh : Shp} {I : IM} {R : RM} {x : Int} : ev S d 172 39 [a0, .inl x, a2] st (sh, I, R) = ev S d 172 40 [a0, .inl x, a2] (.inl x :: st) (sh, I, R) := (ev_eq f_172_39).trans rfl
theorem f_172_40 : fetch 172 40 = some (40, .iaload, 1, [], 0) := (fm_172 40).trans rfl
theorem u_172_40 {S : Scr} {d : Nat} {a0 a1 a2 : AV} {st : List AV} {sh : Shp} {I : IM} {R : RM} {k : Nat} {i : Int} (h : tg sh k = 100) (h0 : 0 ≤ i) (h1 : i < ln sh k) : ev S d 172 40 [a0, a1, a2] (.inl i :: .inr (.inl k) :: st) (sh, I, R) = ev S d 172 41 [a0, a1, a2] (.inl (I k i) :: st) (sh, I, R) := (ev_eq f_172_40).trans (congrArg (fin S d 172) (if_pos ⟨h, h0, h1⟩))
theorem f_172_41 : fetch 172 41 = some (41, .iconst 1, 1, [], 1) := (fm_172 41).trans rfl
theorem u_172_41 {S : Scr} {d : Nat} {a0 a1 a2 : AV} {st : List AV} {sh : Shp} {I : IM} {R : RM} : ev S d 172 41 [a0, a1, a2] st (sh, I, R) = ev S d 172 42 [a0, a1, a2] (.inl 1 :: st) (sh, I, R) := (ev_eq f_172_41).trans rfl
theorem f_172_42 : fetch 172 42 = some (42, .isub, 1, [], 0) := (fm_172 42).trans rfl
theorem u_172_42 {S : Scr} {d : Nat} {a0 a1 a2 : AV} {st : List AV} {sh : Shp} {I : IM} {R : RM} {x y : Int} : ev S d 172 42 [a0, a1, a2] (.inl y :: .inl x :: st) (sh, I, R) = ev S d 172 43 [a0, a1, a2] (.inl (wr (x - y)) :: st) (sh, I, R) := (ev_eq f_172_42).trans rfl
theorem f_172_43 : fetch 172 43 = some (43, .invokestatic 64, 3, [129, 3, 125], 0) := (fm_172 43).trans rfl
theorem u_172_43 {S : Scr} {d : Nat} {a0 a1 a2 : AV} {st : List AV} {sh : Shp} {I : IM} {R : RM} {x0 : Int} {x1 : Int} {x2 : Int} (hr : st.length ≤ 8) : ev S d 172 43 [a0, a1, a2] (.inl x2 :: .inl x1 :: .inl x0 :: st) (sh, I, R) = bnd (cl d 129 [.inl x0, .inl x1, .inl x2] (sh, I, R)) (fun v M => ev S d 172 46 [a0, a1, a2] (psh v st) M) := (ev_eq f_172_43).trans (congrArg (fin S d 172) (if_pos ⟨rfl, hr⟩))
theorem f_172_46 : fetch 172 46 = some (46, .ifCond .eq 18, 3, [64], 0) := (fm_172 46).trans rfl
theorem u_172_46 {S : Scr} {d : Nat} {a0 a1 a2 : AV} {st : List AV} {sh : Shp} {I : IM} {R : RM} {x : Int} : ev S d 172 46 [a0, a1, a2] (.inl x :: st) (sh, I, R) = if x = 0 then ev S d 172 64 [a0, a1, a2] st (sh, I, R) else ev S d 172 49 [a0, a1, a2] st (sh, I, R) := (ev_eq f_172_46).trans fin_if_eq
theorem f_172_49 : fetch 172 49 = some (49, .aload_n 0, 1, [0], 0) := (fm_172 49).trans rfl
theorem u_172_49 {S : Scr} {d : Nat} {a1 a2 : AV} {st : List AV} {sh : Shp} {I : IM} {R : RM} {x : Nat} : ev S d 172 49 [.inr (.inl x), a1, a2] st (sh, I, R) = ev S d 172 50 [.inr (.inl x), a1, a2] (.inr (.inl x) :: st) (sh, I, R) := (ev_eq f_172_49).trans rfl
theorem f_172_50 : fetch 172 50 = some (50, .getfield 25, 3, [9, 6, 1, 84], 0) := (fm_172 50).trans rfl
theorem u_172_50 {S : Scr} {d : Nat} {a0 a1 a2 : AV} {st : List AV} {sh : Shp} {I : IM} {R : RM} {k : Nat} (h : tg sh k = 9) : ev S d 172 50 [a0, a1, a2] (.inr (.inl k) :: st) (sh, I, R) = ev S d 172 53 [a0, a1, a2] (rv (R k 6) :: st) (sh, I, R) := (ev_eq f_172_50).trans (congrArg (fin S d 172) (if_pos h))
theorem f_172_53 : fetch 172 53 = some (53, .sipush 200, 3, [], 200) := (fm_172 53).trans rfl
theorem u_172_53 {S : Scr} {d : Nat} {a0 a1 a2 : AV} {st : List AV} {sh : Shp} {I : IM} {R : RM} : ev S d 172 53 [a0, a1, a2] st (sh, I, R) = ev S d 172 56 [a0, a1, a2] (.inl 200 :: st) (sh, I, R) := (ev_eq f_172_53).trans rfl
theorem f_172_56 : fetch 172 56 = some (56, .iload_n 1, 1, [1], 0) := (fm_172 56).trans rfl
theorem u_172_56 {S : Scr} {d : Nat} {a0 a2 : AV} {st : List AV} {sh : Shp} {I : IM} {R : RM} {x : Int} : ev S d 172 56 [a0, .inl x, a2] st (sh, I, R) = ev S d 172 57 [a0, .inl x, a2] (.inl x :: st) (sh, I, R) := (ev_eq f_172_56).trans rfl
theorem f_172_57 : fetch 172 57 = some (57, .imul, 1, [], 0) := (fm_172 57).trans rfl
theorem u_172_57 {S : Scr} {d : Nat} {a0 a1 a2 : AV} {st : List AV} {sh : Shp} {I : IM} {R : RM} {x y : Int} : ev S d 172 57 [a0, a1, a2] (.inl y :: .inl x :: st) (sh, I, R) = ev S d 172 58 [a0, a1, a2] (.inl (wr (x * y)) :: st) (sh, I, R) := (ev_eq f_172_57).trans rfl
theorem f_172_58 : fetch 172 58 = some (58, .iload_n 2, 1, [2], 0) := (fm_172 58).trans rfl
theorem u_172_58 {S : Scr} {d : Nat} {a0 a1 : AV} {st : List AV} {sh : Shp} {I : IM} {R : RM} {x : Int} : ev S d 172 58 [a0, a1, .inl x] st (sh, I, R) = ev S d 172 59 [a0, a1, .inl x] (.inl x :: st) (sh, I, R) := (ev_eq f_172_58).trans rfl
theorem f_172_59 : fetch 172 59 = some (59, .iadd, 1, [], 0) := (fm_172 59).trans rfl
theorem u_172_59 {S : Scr} {d : Nat} {a0 a1 a2 : AV} {st : List AV} {sh : Shp} {I : IM} {R : RM} {x y : Int} : ev S d 172 59 [a0, a1, a2] (.inl y :: .inl x :: st) (sh, I, R) = ev S d 172 60 [a0, a1, a2] (.inl (wr (x + y)) :: st) (sh, I, R) := (ev_eq f_172_59).trans rfl
theorem f_172_60 : fetch 172 60 = some (60, .iaload, 1, [], 0) := (fm_172 60).trans rfl
theorem u_172_60 {S : Scr} {d : Nat} {a0 a1 a2 : AV} {st : List AV} {sh : Shp} {I : IM} {R : RM} {k : Nat} {i : Int} (h : tg sh k = 100) (h0 : 0 ≤ i) (h1 : i < ln sh k) : ev S d 172 60 [a0, a1, a2] (.inl i :: .inr (.inl k) :: st) (sh, I, R) = ev S d 172 61 [a0, a1, a2] (.inl (I k i) :: st) (sh, I, R) := (ev_eq f_172_60).trans (congrArg (fin S d 172) (if_pos ⟨h, h0, h1⟩))
theorem f_172_61 : fetch 172 61 = some (61, .goto 5, 3, [66], 0) := (fm_172 61).trans rfl
theorem u_172_61 {S : Scr} {d : Nat} {a0 a1 a2 : AV} {st : List AV} {sh : Shp} {I : IM} {R : RM} : ev S d 172 61 [a0, a1, a2] st (sh, I, R) = ev S d 172 66 [a0, a1, a2] st (sh, I, R) := (ev_eq f_172_61).trans rfl
theorem f_172_64 : fetch 172 64 = some (64, .bipush (-13), 2, [], (-13)) := (fm_172 64).trans rfl
theorem u_172_64 {S : Scr} {d : Nat} {a0 a1 a2 : AV} {st : List AV} {sh : Shp} {I : IM} {R : RM} : ev S d 172 64 [a0, a1, a2] st (sh, I, R) = ev S d 172 66 [a0, a1, a2] (.inl (-13) :: st) (sh, I, R) := (ev_eq f_172_64).trans rfl
theorem f_172_66 : fetch 172 66 = some (66, .ireturn, 1, [0], 0) := (fm_172 66).trans rfl
theorem u_172_66 {S : Scr} {d : Nat} {a0 a1 a2 : AV} {sh : Shp} {I : IM} {R : RM} {x : Int} : ev S d 172 66 [a0, a1, a2] [.inl x] (sh, I, R) = some (some (.inl x), (sh, I, R)) := (ev_eq f_172_66).trans fin_iret0
theorem c_173 {d : Nat} {a0 a1 : AV} {M : Mem} : cl (d + 1) 173 [a0, a1] M = ev S0 d 173 0 [a0, a1] [] M := (cl_eq (as := [a0, a1]) (show 2 ≤ maxOf 173 by decide +kernel)).trans rfl
theorem mt_173 : MT[173]? = some m_173 := rfl
theorem fm_173 (pc : Nat) : fetch 173 pc = lk m_173.2.2.2.2.2 pc := by
  unfold fetch
  rw [mt_173]
theorem f_173_0 : fetch 173 0 = some (0, .aload_n 0, 1, [0], 0) := (fm_173 0).trans rfl
theorem u_173_0 {S : Scr} {d : Nat} {a1 : AV} {st : List AV} {sh : Shp} {I : IM} {R : RM} {x : Nat} : ev S d 173 0 [.inr (.inl x), a1] st (sh, I, R) = ev S d 173 1 [.inr (.inl x), a1] (.inr (.inl x) :: st) (sh, I, R) := (ev_eq f_173_0).trans rfl
theorem f_173_1 : fetch 173 1 = some (1, .getfield 156, 3, [9, 12, 0, 98], 0) := (fm_173 1).trans rfl
theorem u_173_1 {S : Scr} {d : Nat} {a0 a1 : AV} {st : List AV} {sh : Shp} {I : IM} {R : RM} {k : Nat} (h : tg sh k = 9) : ev S d 173 1 [a0, a1] (.inr (.inl k) :: st) (sh, I, R) = ev S d 173 4 [a0, a1] (.inl (I k 12) :: st) (sh, I, R) := (ev_eq f_173_1).trans (congrArg (fin S d 173) (if_pos h))
theorem f_173_4 : fetch 173 4 = some (4, .sipush 200, 3, [], 200) := (fm_173 4).trans rfl
theorem u_173_4 {S : Scr} {d : Nat} {a0 a1 : AV} {st : List AV} {sh : Shp} {I : IM} {R : RM} : ev S d 173 4 [a0, a1] st (sh, I, R) = ev S d 173 7 [a0, a1] (.inl 200 :: st) (sh, I, R) := (ev_eq f_173_4).trans rfl
theorem f_173_7 : fetch 173 7 = some (7, .if_icmp .ge 13, 3, [20], 0) := (fm_173 7).trans rfl
theorem u_173_7 {S : Scr} {d : Nat} {a0 a1 : AV} {st : List AV} {sh : Shp} {I : IM} {R : RM} {x y : Int} : ev S d 173 7 [a0, a1] (.inl y :: .inl x :: st) (sh, I, R) = if y ≤ x then ev S d 173 20 [a0, a1] st (sh, I, R) else ev S d 173 10 [a0, a1] st (sh, I, R) := (ev_eq f_173_7).trans fin_icmp_ge
theorem f_173_10 : fetch 173 10 = some (10, .aload_n 0, 1, [0], 0) := (fm_173 10).trans rfl
theorem u_173_10 {S : Scr} {d : Nat} {a1 : AV} {st : List AV} {sh : Shp} {I : IM} {R : RM} {x : Nat} : ev S d 173 10 [.inr (.inl x), a1] st (sh, I, R) = ev S d 173 11 [.inr (.inl x), a1] (.inr (.inl x) :: st) (sh, I, R) := (ev_eq f_173_10).trans rfl
theorem f_173_11 : fetch 173 11 = some (11, .getfield 37, 3, [9, 11, 1, 88], 0) := (fm_173 11).trans rfl
theorem u_173_11 {S : Scr} {d : Nat} {a0 a1 : AV} {st : List AV} {sh : Shp} {I : IM} {R : RM} {k : Nat} (h : tg sh k = 9) : ev S d 173 11 [a0, a1] (.inr (.inl k) :: st) (sh, I, R) = ev S d 173 14 [a0, a1] (rv (R k 11) :: st) (sh, I, R) := (ev_eq f_173_11).trans (congrArg (fin S d 173) (if_pos h))
theorem f_173_14 : fetch 173 14 = some (14, .aload_n 0, 1, [0], 0) := (fm_173 14).trans rfl
theorem u_173_14 {S : Scr} {d : Nat} {a1 : AV} {st : List AV} {sh : Shp} {I : IM} {R : RM} {x : Nat} : ev S d 173 14 [.inr (.inl x), a1] st (sh, I, R) = ev S d 173 15 [.inr (.inl x), a1] (.inr (.inl x) :: st) (sh, I, R) := (ev_eq f_173_14).trans rfl
theorem f_173_15 : fetch 173 15 = some (15, .getfield 156, 3, [9, 12, 0, 98], 0) := (fm_173 15).trans rfl
theorem u_173_15 {S : Scr} {d : Nat} {a0 a1 : AV} {st : List AV} {sh : Shp} {I : IM} {R : RM} {k : Nat} (h : tg sh k = 9) : ev S d 173 15 [a0, a1] (.inr (.inl k) :: st) (sh, I, R) = ev S d 173 18 [a0, a1] (.inl (I k 12) :: st) (sh, I, R) := (ev_eq f_173_15).trans (congrArg (fin S d 173) (if_pos h))
theorem f_173_18 : fetch 173 18 = some (18, .iload_n 1, 1, [1], 0) := (fm_173 18).trans rfl
theorem u_173_18 {S : Scr} {d : Nat} {a0 : AV} {st : List AV} {sh : Shp} {I : IM} {R : RM} {x : Int} : ev S d 173 18 [a0, .inl x] st (sh, I, R) = ev S d 173 19 [a0, .inl x] (.inl x :: st) (sh, I, R) := (ev_eq f_173_18).trans rfl
theorem f_173_19 : fetch 173 19 = some (19, .iastore, 1, [], 0) := (fm_173 19).trans rfl
theorem u_173_19 {S : Scr} {d : Nat} {a0 a1 : AV} {st : List AV} {sh : Shp} {I : IM} {R : RM} {k : Nat} {i x : Int} (h : tg sh k = 100) (h0 : 0 ≤ i) (h1 : i < ln sh k) : ev S d 173 19 [a0, a1] (.inl x :: .inl i :: .inr (.inl k) :: st) (sh, I, R) = ev S d 173 20 [a0, a1] st (sh, up I k i x, R) := (ev_eq f_173_19).trans (congrArg (fin S d 173) (if_pos ⟨h, h0, h1⟩))
theorem f_173_20 : fetch 173 20 = some (20, .aload_n 0, 1, [0], 0) := (fm_173 20).trans rfl
theorem u_173_20 {S : Scr} {d : Nat} {a1 : AV} {st : List AV} {sh : Shp} {I : IM} {R : RM} {x : Nat} : ev S d 173 20 [.inr (.inl x), a1] st (sh, I, R) = ev S d 173 21 [.inr (.inl x), a1] (.inr (.inl x) :: st) (sh, I, R) := (ev_eq f_173_20).trans rfl
theorem f_173_21 : fetch 173 21 = some (21, .dup, 1, [], 0) := (fm_173 21).trans rfl
theorem u_173_21 {S : Scr} {d : Nat} {a0 a1 : AV} {st : List AV} {sh : Shp} {I : IM} {R : RM} {x : AV} : ev S d 173 21 [a0, a1] (x :: st) (sh, I, R) = ev S d 173 22 [a0, a1] (x :: x :: st) (sh, I, R) := (ev_eq f_173_21).trans rfl
theorem f_173_22 : fetch 173 22 = some (22, .getfield 156, 3, [9, 12, 0, 98], 0) := (fm_173 22).trans rfl
theorem u_173_22 {S : Scr} {d : Nat} {a0 a1 : AV} {st : List AV} {sh : Shp} {I : IM} {R : RM} {k : Nat} (h : tg sh k = 9) : ev S d 173 22 [a0, a1] (.inr (.inl k) :: st) (sh, I, R) = ev S d 173 25 [a0, a1] (.inl (I k 12) :: st) (sh, I, R) := (ev_eq f_173_22).trans (congrArg (fin S d 173) (if_pos h))
theorem f_173_25 : fetch 173 25 = some (25, .iconst 1, 1, [], 1) := (fm_173 25).trans rfl
theorem u_173_25 {S : Scr} {d : Nat} {a0 a1 : AV} {st : List AV} {sh : Shp} {I : IM} {R : RM} : ev S d 173 25 [a0, a1] st (sh, I, R) = ev S d 173 26 [a0, a1] (.inl 1 :: st) (sh, I, R) := (ev_eq f_173_25).trans rfl
theorem f_173_26 : fetch 173 26 = some (26, .iadd, 1, [], 0) := (fm_173 26).trans rfl
theorem u_173_26 {S : Scr} {d : Nat} {a0 a1 : AV} {st : List AV} {sh : Shp} {I : IM} {R : RM} {x y : Int} : ev S d 173 26 [a0, a1] (.inl y :: .inl x :: st) (sh, I, R) = ev S d 173 27 [a0, a1] (.inl (wr (x + y)) :: st) (sh, I, R) := (ev_eq f_173_26).trans rfl
theorem f_173_27 : fetch 173 27 = some (27, .putfield 156, 3, [9, 12, 0, 98], 0) := (fm_173 27).trans rfl
theorem u_173_27 {S : Scr} {d : Nat} {a0 a1 : AV} {st : List AV} {sh : Shp} {I : IM} {R : RM} {k : Nat} {x : Int} (h : tg sh k = 9) : ev S d 173 27 [a0, a1] (.inl x :: .inr (.inl k) :: st) (sh, I, R) = ev S d 173 30 [a0, a1] st (sh, up I k 12 x, R) := (ev_eq f_173_27).trans (congrArg (fin S d 173) (if_pos h))
theorem f_173_30 : fetch 173 30 = some (30, .return_, 1, [], 0) := (fm_173 30).trans rfl
theorem u_173_30 {S : Scr} {d : Nat} {a0 a1 : AV} {sh : Shp} {I : IM} {R : RM} : ev S d 173 30 [a0, a1] [] (sh, I, R) = some (none, (sh, I, R)) := (ev_eq f_173_30).trans rfl
theorem c_174 {d : Nat} {a0 a1 : AV} {M : Mem} : cl (d + 1) 174 [a0, a1] M = ev S0 d 174 0 [a0, a1, .inr (.inr 1)] [] M := (cl_eq (as := [a0, a1]) (show 2 ≤ maxOf 174 by decide +kernel)).trans rfl
theorem mt_174 : MT[174]? = some m_174 := rfl
theorem fm_174 (pc : Nat) : fetch 174 pc = lk m_174.2.2.2.2.2 pc := by
  unfold fetch
  rw [mt_174]
theorem f_174_0 : fetch 174 0 = some (0, .iload_n 1, 1, [1], 0) := (fm_174 0).trans rfl
theorem u_174_0 {S : Scr} {d : Nat} {a0 a2 : AV} {st : List AV} {sh : Shp} {I : IM} {R : RM} {x : Int} : ev S d 174 0 [a0, .inl x, a2] st (sh, I, R) = ev S d 174 1 [a0, .inl x, a2] (.inl x :: st) (sh, I, R) := (ev_eq f_174_0).trans rfl
theorem f_174_1 : fetch 174 1 = some (1, .ifCond .ge 9, 3, [10], 0) := (fm_174 1).trans rfl
theorem u_174_1 {S : Scr} {d : Nat} {a0 a1 a2 : AV} {st : List AV} {sh : Shp} {I : IM} {R : RM} {x : Int} : ev S d 174 1 [a0, a1, a2] (.inl x :: st) (sh, I, R) = if 0 ≤ x then ev S d 174 10 [a0, a1, a2] st (sh, I, R) else ev S d 174 4 [a0, a1, a2] st (sh, I, R) := (ev_eq f_174_1).trans fin_if_ge
theorem f_174_4 : fetch 174 4 = some (4, .aload_n 0, 1, [0], 0) := (fm_174 4).trans rfl
theorem u_174_4 {S : Scr} {d : Nat} {a1 a2 : AV} {st : List AV} {sh : Shp} {I : IM} {R : RM} {x : Nat} : ev S d 174 4 [.inr (.inl x), a1, a2] st (sh, I, R) = ev S d 174 5 [.inr (.inl x), a1, a2] (.inr (.inl x) :: st) (sh, I, R) := (ev_eq f_174_4).trans rfl
theorem f_174_5 : fetch 174 5 = some (5, .bipush 45, 2, [], 45) := (fm_174 5).trans rfl
theorem u_174_5 {S : Scr} {d : Nat} {a0 a1 a2 : AV} {st : List AV} {sh : Shp} {I : IM} {R : RM} : ev S d 174 5 [a0, a1, a2] st (sh, I, R) = ev S d 174 7 [a0, a1, a2] (.inl 45 :: st) (sh, I, R) := (ev_eq f_174_5).trans rfl
theorem f_174_7 : fetch 174 7 = some (7, .invokevirtual 159, 3, [173, 1, 151], 0) := (fm_174 7).trans rfl
theorem u_174_7 {S : Scr} {d : Nat} {a0 a1 a2 : AV} {st : List AV} {sh : Shp} {I : IM} {R : RM} {x0 : Int} {k : Nat} (h : tg sh k = 9) (hr : st.length ≤ 8) : ev S d 174 7 [a0, a1, a2] (.inl x0 :: .inr (.inl k) :: st) (sh, I, R) = bnd (cl d 173 [.inr (.inl k), .inl x0] (sh, I, R)) (fun v M => ev S d 174 10 [a0, a1, a2] (psh v st) M) := (ev_eq f_174_7).trans (congrArg (fin S d 174) (if_pos ⟨h, rfl, hr⟩))
theorem f_174_10 : fetch 174 10 = some (10, .iload_n 1, 1, [1], 0) := (fm_174 10).trans rfl
theorem u_174_10 {S : Scr} {d : Nat} {a0 a2 : AV} {st : List AV} {sh : Shp} {I : IM} {R : RM} {x : Int} : ev S d 174 10 [a0, .inl x, a2] st (sh, I, R) = ev S d 174 11 [a0, .inl x, a2] (.inl x :: st) (sh, I, R) := (ev_eq f_174_10).trans rfl
theorem f_174_11 : fetch 174 11 = some (11, .invokestatic 162, 3, [2, 5], 0) := (fm_174 11).trans rfl
theorem u_174_11 {S : Scr} {d : Nat} {a0 a1 a2 : AV} {st : List AV} {sh : Shp} {I : IM} {R : RM} {x : Int} (hr : st.length ≤ 8) : ev S d 174 11 [a0, a1, a2] (.inl x :: st) (sh, I, R) = ev S d 174 14 [a0, a1, a2] (.inl (if 0 ≤ x then x else wr (0 - x)) :: st) (sh, I, R) := (ev_eq f_174_11).trans (congrArg (fin S d 174) (if_pos hr))
theorem f_174_14 : fetch 174 14 = some (14, .istore_n 2, 1, [2], 0) := (fm_174 14).trans rfl
theorem u_174_14 {S : Scr} {d : Nat} {a0 a1 a2 : AV} {st : List AV} {sh : Shp} {I : IM} {R : RM} {x : Int} : ev S d 174 14 [a0, a1, a2] (.inl x :: st) (sh, I, R) = ev S d 174 15 [a0, a1, .inl x] st (sh, I, R) := (ev_eq f_174_14).trans rfl
theorem f_174_15 : fetch 174 15 = some (15, .iload_n 2, 1, [2], 0) := (fm_174 15).trans rfl
theorem u_174_15 {S : Scr} {d : Nat} {a0 a1 : AV} {st : List AV} {sh : Shp} {I : IM} {R : RM} {x : Int} : ev S d 174 15 [a0, a1, .inl x] st (sh, I, R) = ev S d 174 16 [a0, a1, .inl x] (.inl x :: st) (sh, I, R) := (ev_eq f_174_15).trans rfl
theorem f_174_16 : fetch 174 16 = some (16, .bipush 9, 2, [], 9) := (fm_174 16).trans rfl
theorem u_174_16 {S : Scr} {d : Nat} {a0 a1 a2 : AV} {st : List AV} {sh : Shp} {I : IM} {R : RM} : ev S d 174 16 [a0, a1, a2] st (sh, I, R) = ev S d 174 18 [a0, a1, a2] (.inl 9 :: st) (sh, I, R) := (ev_eq f_174_16).trans rfl
theorem f_174_18 : fetch 174 18 = some (18, .if_icmp .le 14, 3, [32], 0) := (fm_174 18).trans rfl
theorem u_174_18 {S : Scr} {d : Nat} {a0 a1 a2 : AV} {st : List AV} {sh : Shp} {I : IM} {R : RM} {x y : Int} : ev S d 174 18 [a0, a1, a2] (.inl y :: .inl x :: st) (sh, I, R) = if x ≤ y then ev S d 174 32 [a0, a1, a2] st (sh, I, R) else ev S d 174 21 [a0, a1, a2] st (sh, I, R) := (ev_eq f_174_18).trans fin_icmp_le
theorem f_174_21 : fetch 174 21 = some (21, .aload_n 0, 1, [0], 0) := (fm_174 21).trans rfl
theorem u_174_21 {S : Scr} {d : Nat} {a1 a2 : AV} {st : List AV} {sh : Shp} {I : IM} {R : RM} {x : Nat} : ev S d 174 21 [.inr (.inl x), a1, a2] st (sh, I, R) = ev S d 174 22 [.inr (.inl x), a1, a2] (.inr (.inl x) :: st) (sh, I, R) := (ev_eq f_174_21).trans rfl
theorem f_174_22 : fetch 174 22 = some (22, .bipush 48, 2, [], 48) := (fm_174 22).trans rfl
theorem u_174_22 {S : Scr} {d : Nat} {a0 a1 a2 : AV} {st : List AV} {sh : Shp} {I : IM} {R : RM} : ev S d 174 22 [a0, a1, a2] st (sh, I, R) = ev S d 174 24 [a0, a1, a2] (.inl 48 :: st) (sh, I, R) := (ev_eq f_174_22).trans rfl
theorem f_174_24 : fetch 174 24 = some (24, .iload_n 2, 1, [2], 0) := (fm_174 24).trans rfl
theorem u_174_24 {S : Scr} {d : Nat} {a0 a1 : AV} {st : List AV} {sh : Shp} {I : IM} {R : RM} {x : Int} : ev S d 174 24 [a0, a1, .inl x] st (sh, I, R) = ev S d 174 25 [a0, a1, .inl x] (.inl x :: st) (sh, I, R) := (ev_eq f_174_24).trans rfl
theorem f_174_25 : fetch 174 25 = some (25, .bipush 10, 2, [], 10) := (fm_174 25).trans rfl
theorem u_174_25 {S : Scr} {d : Nat} {a0 a1 a2 : AV} {st : List AV} {sh : Shp} {I : IM} {R : RM} : ev S d 174 25 [a0, a1, a2] st (sh, I, R) = ev S d 174 27 [a0, a1, a2] (.inl 10 :: st) (sh, I, R) := (ev_eq f_174_25).trans rfl
theorem f_174_27 : fetch 174 27 = some (27, .idiv, 1, [], 0) := (fm_174 27).trans rfl
theorem u_174_27 {S : Scr} {d : Nat} {a0 a1 a2 : AV} {st : List AV} {sh : Shp} {I : IM} {R : RM} {x y : Int} (h : ¬ y = 0) : ev S d 174 27 [a0, a1, a2] (.inl y :: .inl x :: st) (sh, I, R) = ev S d 174 28 [a0, a1, a2] (.inl (b32 (fun x y => x / y) x y) :: st) (sh, I, R) := (ev_eq f_174_27).trans (congrArg (fin S d 174) (if_neg h))
theorem f_174_28 : fetch 174 28 = some (28, .iadd, 1, [], 0) := (fm_174 28).trans rfl
theorem u_174_28 {S : Scr} {d : Nat} {a0 a1 a2 : AV} {st : List AV} {sh : Shp} {I : IM} {R : RM} {x y : Int} : ev S d 174 28 [a0, a1, a2] (.inl y :: .inl x :: st) (sh, I, R) = ev S d 174 29 [a0, a1, a2] (.inl (wr (x + y)) :: st) (sh, I, R) := (ev_eq f_174_28).trans rfl
theorem f_174_29 : fetch 174 29 = some (29, .invokevirtual 159, 3, [173, 1, 151], 0) := (fm_174 29).trans rfl
theorem u_174_29 {S : Scr} {d : Nat} {a0 a1 a2 : AV} {st : List AV} {sh : Shp} {I : IM} {R : RM} {x0 : Int} {k : Nat} (h : tg sh k = 9) (hr : st.length ≤ 8) : ev S d 174 29 [a0, a1, a2] (.inl x0 :: .inr (.inl k) :: st) (sh, I, R) = bnd (cl d 173 [.inr (.inl k), .inl x0] (sh, I, R)) (fun v M => ev S d 174 32 [a0, a1, a2] (psh v st) M) := (ev_eq f_174_29).trans (congrArg (fin S d 174) (if_pos ⟨h, rfl, hr⟩))
theorem f_174_32 : fetch 174 32 = some (32, .aload_n 0, 1, [0], 0) := (fm_174 32).trans rfl
theorem u_174_32 {S : Scr} {d : Nat} {a1 a2 : AV} {st : List AV} {sh : Shp} {I : IM} {R : RM} {x : Nat} : ev S d 174 32 [.inr (.inl x), a1, a2] st (sh, I, R) = ev S d 174 33 [.inr (.inl x), a1, a2] (.inr (.inl x) :: st) (sh, I, R) := (ev_eq f_174_32).trans rfl
theorem f_174_33 : fetch 174 33 = some (33, .bipush 48, 2, [], 48) := (fm_174 33).trans rfl
theorem u_174_33 {S : Scr} {d : Nat} {a0 a1 a2 : AV} {st : List AV} {sh : Shp} {I : IM} {R : RM} : ev S d 174 33 [a0, a1, a2] st (sh, I, R) = ev S d 174 35 [a0, a1, a2] (.inl 48 :: st) (sh, I, R) := (ev_eq f_174_33).trans rfl
theorem f_174_35 : fetch 174 35 = some (35, .iload_n 2, 1, [2], 0) := (fm_174 35).trans rfl
theorem u_174_35 {S : Scr} {d : Nat} {a0 a1 : AV} {st : List AV} {sh : Shp} {I : IM} {R : RM} {x : Int} : ev S d 174 35 [a0, a1, .inl x] st (sh, I, R) = ev S d 174 36 [a0, a1, .inl x] (.inl x :: st) (sh, I, R) := (ev_eq f_174_35).trans rfl
theorem f_174_36 : fetch 174 36 = some (36, .bipush 10, 2, [], 10) := (fm_174 36).trans rfl
theorem u_174_36 {S : Scr} {d : Nat} {a0 a1 a2 : AV} {st : List AV} {sh : Shp} {I : IM} {R : RM} : ev S d 174 36 [a0, a1, a2] st (sh, I, R) = ev S d 174 38 [a0, a1, a2] (.inl 10 :: st) (sh, I, R) := (ev_eq f_174_36).trans rfl
theorem f_174_38 : fetch 174 38 = some (38, .irem, 1, [], 0) := (fm_174 38).trans rfl
theorem u_174_38 {S : Scr} {d : Nat} {a0 a1 a2 : AV} {st : List AV} {sh : Shp} {I : IM} {R : RM} {x y : Int} (h : ¬ y = 0) : ev S d 174 38 [a0, a1, a2] (.inl y :: .inl x :: st) (sh, I, R) = ev S d 174 39 [a0, a1, a2] (.inl (b32 (fun x y => x - x / y * y) x y) :: st) (sh, I, R) := (ev_eq f_174_38).trans (congrArg (fin S d 174) (if_neg h))
theorem f_174_39 : fetch 174 39 = some (39, .iadd, 1, [], 0) := (fm_174 39).trans rfl
theorem u_174_39 {S : Scr} {d : Nat} {a0 a1 a2 : AV} {st : List AV} {sh : Shp} {I : IM} {R : RM} {x y : Int} : ev S d 174 39 [a0, a1, a2] (.inl y :: .inl x :: st) (sh, I, R) = ev S d 174 40 [a0, a1, a2] (.inl (wr (x + y)) :: st) (sh, I, R) := (ev_eq f_174_39).trans rfl
theorem f_174_40 : fetch 174 40 = some (40, .invokevirtual 159, 3, [173, 1, 151], 0) := (fm_174 40).trans rfl
theorem u_174_40 {S : Scr} {d : Nat} {a0 a1 a2 : AV} {st : List AV} {sh : Shp} {I : IM} {R : RM} {x0 : Int} {k : Nat} (h : tg sh k = 9) (hr : st.length ≤ 8) : ev S d 174 40 [a0, a1, a2] (.inl x0 :: .inr (.inl k) :: st) (sh, I, R) = bnd (cl d 173 [.inr (.inl k), .inl x0] (sh, I, R)) (fun v M => ev S d 174 43 [a0, a1, a2] (psh v st) M) := (ev_eq f_174_40).trans (congrArg (fin S d 174) (if_pos ⟨h, rfl, hr⟩))
theorem f_174_43 : fetch 174 43 = some (43, .return_, 1, [], 0) := (fm_174 43).trans rfl
theorem u_174_43 {S : Scr} {d : Nat} {a0 a1 a2 : AV} {sh : Shp} {I : IM} {R : RM} : ev S d 174 43 [a0, a1, a2] [] (sh, I, R) = some (none, (sh, I, R)) := (ev_eq f_174_43).trans rfl
theorem c_175 {d : Nat} {a0 a1 : AV} {M : Mem} : cl (d + 1) 175 [a0, a1] M = ev S0 d 175 0 [a0, a1, .inr (.inr 1), .inr (.inr 1)] [] M := (cl_eq (as := [a0, a1]) (show 2 ≤ maxOf 175 by decide +kernel)).trans rfl
theorem mt_175 : MT[175]? = some m_175 := rfl
theorem fm_175 (pc : Nat) : fetch 175 pc = lk m_175.2.2.2.2.2 pc := by
  unfold fetch
  rw [mt_175]
theorem f_175_0 : fetch 175 0 = some (0, .iload_n 1, 1, [1], 0) := (fm_175 0).trans rfl
theorem u_175_0 {S : Scr} {d : Nat} {a0 a2 a3 : AV} {st : List AV} {sh : Shp} {I : IM} {R : RM} {x : Int} : ev S d 175 0 [a0, .inl x, a2, a3] st (sh, I, R) = ev S d 175 1 [a0, .inl x, a2, a3] (.inl x :: st) (sh, I, R) := (ev_eq f_175_0).trans rfl
theorem f_175_1 : fetch 175 1 = some (1, .ifCond .ge 10, 3, [11], 0) := (fm_175 1).trans rfl
theorem u_175_1 {S : Scr} {d : Nat} {a0 a1 a2 a3 : AV} {st : List AV} {sh : Shp} {I : IM} {R : RM} {x : Int} : ev S d 175 1 [a0, a1, a2, a3] (.inl x :: st) (sh, I, R) = if 0 ≤ x then ev S d 175 11 [a0, a1, a2, a3] st (sh, I, R) else ev S d 175 4 [a0, a1, a2, a3] st (sh, I, R) := (ev_eq f_175_1).trans fin_if_ge
theorem f_175_4 : fetch 175 4 = some (4, .aload_n 0, 1, [0], 0) := (fm_175 4).trans rfl
theorem u_175_4 {S : Scr} {d : Nat} {a1 a2 a3 : AV} {st : List AV} {sh : Shp} {I : IM} {R : RM} {x : Nat} : ev S d 175 4 [.inr (.inl x), a1, a2, a3] st (sh, I, R) = ev S d 175 5 [.inr (.inl x), a1, a2, a3] (.inr (.inl x) :: st) (sh, I, R) := (ev_eq f_175_4).trans rfl
theorem f_175_5 : fetch 175 5 = some (5, .bipush 45, 2, [], 45) := (fm_175 5).trans rfl
theorem u_175_5 {S : Scr} {d : Nat} {a0 a1 a2 a3 : AV} {st : List AV} {sh : Shp} {I : IM} {R : RM} : ev S d 175 5 [a0, a1, a2, a3] st (sh, I, R) = ev S d 175 7 [a0, a1, a2, a3] (.inl 45 :: st) (sh, I, R) := (ev_eq f_175_5).trans rfl
theorem f_175_7 : fetch 175 7 = some (7, .invokevirtual 159, 3, [173, 1, 151], 0) := (fm_175 7).trans rfl
theorem u_175_7 {S : Scr} {d : Nat} {a0 a1 a2 a3 : AV} {st : List AV} {sh : Shp} {I : IM} {R : RM} {x0 : Int} {k : Nat} (h : tg sh k = 9) (hr : st.length ≤ 8) : ev S d 175 7 [a0, a1, a2, a3] (.inl x0 :: .inr (.inl k) :: st) (sh, I, R) = bnd (cl d 173 [.inr (.inl k), .inl x0] (sh, I, R)) (fun v M => ev S d 175 10 [a0, a1, a2, a3] (psh v st) M) := (ev_eq f_175_7).trans (congrArg (fin S d 175) (if_pos ⟨h, rfl, hr⟩))
theorem f_175_10 : fetch 175 10 = some (10, .return_, 1, [], 0) := (fm_175 10).trans rfl
theorem u_175_10 {S : Scr} {d : Nat} {a0 a1 a2 a3 : AV} {sh : Shp} {I : IM} {R : RM} : ev S d 175 10 [a0, a1, a2, a3] [] (sh, I, R) = some (none, (sh, I, R)) := (ev_eq f_175_10).trans rfl
theorem f_175_11 : fetch 175 11 = some (11, .aload_n 0, 1, [0], 0) := (fm_175 11).trans rfl
theorem u_175_11 {S : Scr} {d : Nat} {a1 a2 a3 : AV} {st : List AV} {sh : Shp} {I : IM} {R : RM} {x : Nat} : ev S d 175 11 [.inr (.inl x), a1, a2, a3] st (sh, I, R) = ev S d 175 12 [.inr (.inl x), a1, a2, a3] (.inr (.inl x) :: st) (sh, I, R) := (ev_eq f_175_11).trans rfl
theorem f_175_12 : fetch 175 12 = some (12, .getfield 31, 3, [9, 8, 1, 86], 0) := (fm_175 12).trans rfl
theorem u_175_12 {S : Scr} {d : Nat} {a0 a1 a2 a3 : AV} {st : List AV} {sh : Shp} {I : IM} {R : RM} {k : Nat} (h : tg sh k = 9) : ev S d 175 12 [a0, a1, a2, a3] (.inr (.inl k) :: st) (sh, I, R) = ev S d 175 15 [a0, a1, a2, a3] (rv (R k 8) :: st) (sh, I, R) := (ev_eq f_175_12).trans (congrArg (fin S d 175) (if_pos h))
theorem f_175_15 : fetch 175 15 = some (15, .iload_n 1, 1, [1], 0) := (fm_175 15).trans rfl
theorem u_175_15 {S : Scr} {d : Nat} {a0 a2 a3 : AV} {st : List AV} {sh : Shp} {I : IM} {R : RM} {x : Int} : ev S d 175 15 [a0, .inl x, a2, a3] st (sh, I, R) = ev S d 175 16 [a0, .inl x, a2, a3] (.inl x :: st) (sh, I, R) := (ev_eq f_175_15).trans rfl
theorem f_175_16 : fetch 175 16 = some (16, .iaload, 1, [], 0) := (fm_175 16).trans rfl
theorem u_175_16 {S : Scr} {d : Nat} {a0 a1 a2 a3 : AV} {st : List AV} {sh : Shp} {I : IM} {R : RM} {k : Nat} {i : Int} (h : tg sh k = 100) (h0 : 0 ≤ i) (h1 : i < ln sh k) : ev S d 175 16 [a0, a1, a2, a3] (.inl i :: .inr (.inl k) :: st) (sh, I, R) = ev S d 175 17 [a0, a1, a2, a3] (.inl (I k i) :: st) (sh, I, R) := (ev_eq f_175_16).trans (congrArg (fin S d 175) (if_pos ⟨h, h0, h1⟩))
theorem f_175_17 : fetch 175 17 = some (17, .ifCond .lt 23, 3, [40], 0) := (fm_175 17).trans rfl
theorem u_175_17 {S : Scr} {d : Nat} {a0 a1 a2 a3 : AV} {st : List AV} {sh : Shp} {I : IM} {R : RM} {x : Int} : ev S d 175 17 [a0, a1, a2, a3] (.inl x :: st) (sh, I, R) = if x < 0 then ev S d 175 40 [a0, a1, a2, a3] st (sh, I, R) else ev S d 175 20 [a0, a1, a2, a3] st (sh, I, R) := (ev_eq f_175_17).trans fin_if_lt
theorem f_175_20 : fetch 175 20 = some (20, .aload_n 0, 1, [0], 0) := (fm_175 20).trans rfl
theorem u_175_20 {S : Scr} {d : Nat} {a1 a2 a3 : AV} {st : List AV} {sh : Shp} {I : IM} {R : RM} {x : Nat} : ev S d 175 20 [.inr (.inl x), a1, a2, a3] st (sh, I, R) = ev S d 175 21 [.inr (.inl x), a1, a2, a3] (.inr (.inl x) :: st) (sh, I, R) := (ev_eq f_175_20).trans rfl
theorem f_175_21 : fetch 175 21 = some (21, .bipush 35, 2, [], 35) := (fm_175 21).trans rfl
theorem u_175_21 {S : Scr} {d : Nat} {a0 a1 a2 a3 : AV} {st : List AV} {sh : Shp} {I : IM} {R : RM} : ev S d 175 21 [a0, a1, a2, a3] st (sh, I, R) = ev S d 175 23 [a0, a1, a2, a3] (.inl 35 :: st) (sh, I, R) := (ev_eq f_175_21).trans rfl
theorem f_175_23 : fetch 175 23 = some (23, .invokevirtual 159, 3, [173, 1, 151], 0) := (fm_175 23).trans rfl
theorem u_175_23 {S : Scr} {d : Nat} {a0 a1 a2 a3 : AV} {st : List AV} {sh : Shp} {I : IM} {R : RM} {x0 : Int} {k : Nat} (h : tg sh k = 9) (hr : st.length ≤ 8) : ev S d 175 23 [a0, a1, a2, a3] (.inl x0 :: .inr (.inl k) :: st) (sh, I, R) = bnd (cl d 173 [.inr (.inl k), .inl x0] (sh, I, R)) (fun v M => ev S d 175 26 [a0, a1, a2, a3] (psh v st) M) := (ev_eq f_175_23).trans (congrArg (fin S d 175) (if_pos ⟨h, rfl, hr⟩))
theorem f_175_26 : fetch 175 26 = some (26, .aload_n 0, 1, [0], 0) := (fm_175 26).trans rfl
theorem u_175_26 {S : Scr} {d : Nat} {a1 a2 a3 : AV} {st : List AV} {sh : Shp} {I : IM} {R : RM} {x : Nat} : ev S d 175 26 [.inr (.inl x), a1, a2, a3] st (sh, I, R) = ev S d 175 27 [.inr (.inl x), a1, a2, a3] (.inr (.inl x) :: st) (sh, I, R) := (ev_eq f_175_26).trans rfl
theorem f_175_27 : fetch 175 27 = some (27, .bipush 65, 2, [], 65) := (fm_175 27).trans rfl
theorem u_175_27 {S : Scr} {d : Nat} {a0 a1 a2 a3 : AV} {st : List AV} {sh : Shp} {I : IM} {R : RM} : ev S d 175 27 [a0, a1, a2, a3] st (sh, I, R) = ev S d 175 29 [a0, a1, a2, a3] (.inl 65 :: st) (sh, I, R) := (ev_eq f_175_27).trans rfl
theorem f_175_29 : fetch 175 29 = some (29, .aload_n 0, 1, [0], 0) := (fm_175 29).trans rfl
theorem u_175_29 {S : Scr} {d : Nat} {a1 a2 a3 : AV} {st : List AV} {sh : Shp} {I : IM} {R : RM} {x : Nat} : ev S d 175 29 [.inr (.inl x), a1, a2, a3] st (sh, I, R) = ev S d 175 30 [.inr (.inl x), a1, a2, a3] (.inr (.inl x) :: st) (sh, I, R) := (ev_eq f_175_29).trans rfl
theorem f_175_30 : fetch 175 30 = some (30, .getfield 31, 3, [9, 8, 1, 86], 0) := (fm_175 30).trans rfl
theorem u_175_30 {S : Scr} {d : Nat} {a0 a1 a2 a3 : AV} {st : List AV} {sh : Shp} {I : IM} {R : RM} {k : Nat} (h : tg sh k = 9) : ev S d 175 30 [a0, a1, a2, a3] (.inr (.inl k) :: st) (sh, I, R) = ev S d 175 33 [a0, a1, a2, a3] (rv (R k 8) :: st) (sh, I, R) := (ev_eq f_175_30).trans (congrArg (fin S d 175) (if_pos h))
theorem f_175_33 : fetch 175 33 = some (33, .iload_n 1, 1, [1], 0) := (fm_175 33).trans rfl
theorem u_175_33 {S : Scr} {d : Nat} {a0 a2 a3 : AV} {st : List AV} {sh : Shp} {I : IM} {R : RM} {x : Int} : ev S d 175 33 [a0, .inl x, a2, a3] st (sh, I, R) = ev S d 175 34 [a0, .inl x, a2, a3] (.inl x :: st) (sh, I, R) := (ev_eq f_175_33).trans rfl
theorem f_175_34 : fetch 175 34 = some (34, .iaload, 1, [], 0) := (fm_175 34).trans rfl
theorem u_175_34 {S : Scr} {d : Nat} {a0 a1 a2 a3 : AV} {st : List AV} {sh : Shp} {I : IM} {R : RM} {k : Nat} {i : Int} (h : tg sh k = 100) (h0 : 0 ≤ i) (h1 : i < ln sh k) : ev S d 175 34 [a0, a1, a2, a3] (.inl i :: .inr (.inl k) :: st) (sh, I, R) = ev S d 175 35 [a0, a1, a2, a3] (.inl (I k i) :: st) (sh, I, R) := (ev_eq f_175_34).trans (congrArg (fin S d 175) (if_pos ⟨h, h0, h1⟩))
theorem f_175_35 : fetch 175 35 = some (35, .iadd, 1, [], 0) := (fm_175 35).trans rfl
theorem u_175_35 {S : Scr} {d : Nat} {a0 a1 a2 a3 : AV} {st : List AV} {sh : Shp} {I : IM} {R : RM} {x y : Int} : ev S d 175 35 [a0, a1, a2, a3] (.inl y :: .inl x :: st) (sh, I, R) = ev S d 175 36 [a0, a1, a2, a3] (.inl (wr (x + y)) :: st) (sh, I, R) := (ev_eq f_175_35).trans rfl
theorem f_175_36 : fetch 175 36 = some (36, .invokevirtual 159, 3, [173, 1, 151], 0) := (fm_175 36).trans rfl
theorem u_175_36 {S : Scr} {d : Nat} {a0 a1 a2 a3 : AV} {st : List AV} {sh : Shp} {I : IM} {R : RM} {x0 : Int} {k : Nat} (h : tg sh k = 9) (hr : st.length ≤ 8) : ev S d 175 36 [a0, a1, a2, a3] (.inl x0 :: .inr (.inl k) :: st) (sh, I, R) = bnd (cl d 173 [.inr (.inl k), .inl x0] (sh, I, R)) (fun v M => ev S d 175 39 [a0, a1, a2, a3] (psh v st) M) := (ev_eq f_175_36).trans (congrArg (fin S d 175) (if_pos ⟨h, rfl, hr⟩))
theorem f_175_39 : fetch 175 39 = some (39, .return_, 1, [], 0) := (fm_175 39).trans rfl
theorem u_175_39 {S : Scr} {d : Nat} {a0 a1 a2 a3 : AV} {sh : Shp} {I : IM} {R : RM} : ev S d 175 39 [a0, a1, a2, a3] [] (sh, I, R) = some (none, (sh, I, R)) := (ev_eq f_175_39).trans rfl
theorem f_175_40 : fetch 175 40 = some (40, .aload_n 0, 1, [0], 0) := (fm_175 40).trans rfl
theorem u_175_40 {S : Scr} {d : Nat} {a1 a2 a3 : AV} {st : List AV} {sh : Shp} {I : IM} {R : RM} {x : Nat} : ev S d 175 40 [.inr (.inl x), a1, a2, a3] st (sh, I, R) = ev S d 175 41 [.inr (.inl x), a1, a2, a3] (.inr (.inl x) :: st) (sh, I, R) := (ev_eq f_175_40).trans rfl
theorem f_175_41 : fetch 175 41 = some (41, .iload_n 1, 1, [1], 0) := (fm_175 41).trans rfl
theorem u_175_41 {S : Scr} {d : Nat} {a0 a2 a3 : AV} {st : List AV} {sh : Shp} {I : IM} {R : RM} {x : Int} : ev S d 175 41 [a0, .inl x, a2, a3] st (sh, I, R) = ev S d 175 42 [a0, .inl x, a2, a3] (.inl x :: st) (sh, I, R) := (ev_eq f_175_41).trans rfl
theorem f_175_42 : fetch 175 42 = some (42, .invokevirtual 141, 3, [165, 1, 146], 0) := (fm_175 42).trans rfl
theorem u_175_42 {S : Scr} {d : Nat} {a0 a1 a2 a3 : AV} {st : List AV} {sh : Shp} {I : IM} {R : RM} {x0 : Int} {k : Nat} (h : tg sh k = 9) (hr : st.length ≤ 8) : ev S d 175 42 [a0, a1, a2, a3] (.inl x0 :: .inr (.inl k) :: st) (sh, I, R) = bnd (cl d 165 [.inr (.inl k), .inl x0] (sh, I, R)) (fun v M => ev S d 175 45 [a0, a1, a2, a3] (psh v st) M) := (ev_eq f_175_42).trans (congrArg (fin S d 175) (if_pos ⟨h, rfl, hr⟩))
theorem f_175_45 : fetch 175 45 = some (45, .aload_n 0, 1, [0], 0) := (fm_175 45).trans rfl
theorem u_175_45 {S : Scr} {d : Nat} {a1 a2 a3 : AV} {st : List AV} {sh : Shp} {I : IM} {R : RM} {x : Nat} : ev S d 175 45 [.inr (.inl x), a1, a2, a3] st (sh, I, R) = ev S d 175 46 [.inr (.inl x), a1, a2, a3] (.inr (.inl x) :: st) (sh, I, R) := (ev_eq f_175_45).trans rfl
theorem f_175_46 : fetch 175 46 = some (46, .getfield 9, 3, [9, 0, 1, 79], 0) := (fm_175 46).trans rfl
theorem u_175_46 {S : Scr} {d : Nat} {a0 a1 a2 a3 : AV} {st : List AV} {sh : Shp} {I : IM} {R : RM} {k : Nat} (h : tg sh k = 9) : ev S d 175 46 [a0, a1, a2, a3] (.inr (.inl k) :: st) (sh, I, R) = ev S d 175 49 [a0, a1, a2, a3] (rv (R k 0) :: st) (sh, I, R) := (ev_eq f_175_46).trans (congrArg (fin S d 175) (if_pos h))
theorem f_175_49 : fetch 175 49 = some (49, .iconst 0, 1, [], 0) := (fm_175 49).trans rfl
theorem u_175_49 {S : Scr} {d : Nat} {a0 a1 a2 a3 : AV} {st : List AV} {sh : Shp} {I : IM} {R : RM} : ev S d 175 49 [a0, a1, a2, a3] st (sh, I, R) = ev S d 175 50 [a0, a1, a2, a3] (.inl 0 :: st) (sh, I, R) := (ev_eq f_175_49).trans rfl
theorem f_175_50 : fetch 175 50 = some (50, .iload_n 1, 1, [1], 0) := (fm_175 50).trans rfl
theorem u_175_50 {S : Scr} {d : Nat} {a0 a2 a3 : AV} {st : List AV} {sh : Shp} {I : IM} {R : RM} {x : Int} : ev S d 175 50 [a0, .inl x, a2, a3] st (sh, I, R) = ev S d 175 51 [a0, .inl x, a2, a3] (.inl x :: st) (sh, I, R) := (ev_eq f_175_50).trans rfl
theorem f_175_51 : fetch 175 51 = some (51, .iadd, 1, [], 0) := (fm_175 51).trans rfl
theorem u_175_51 {S : Scr} {d : Nat} {a0 a1 a2 a3 : AV} {st : List AV} {sh : Shp} {I : IM} {R : RM} {x y : Int} : ev S d 175 51 [a0, a1, a2, a3] (.inl y :: .inl x :: st) (sh, I, R) = ev S d 175 52 [a0, a1, a2, a3] (.inl (wr (x + y)) :: st) (sh, I, R) := (ev_eq f_175_51).trans rfl
theorem f_175_52 : fetch 175 52 = some (52, .iaload, 1, [], 0) := (fm_175 52).trans rfl
theorem u_175_52 {S : Scr} {d : Nat} {a0 a1 a2 a3 : AV} {st : List AV} {sh : Shp} {I : IM} {R : RM} {k : Nat} {i : Int} (h : tg sh k = 100) (h0 : 0 ≤ i) (h1 : i < ln sh k) : ev S d 175 52 [a0, a1, a2, a3] (.inl i :: .inr (.inl k) :: st) (sh, I, R) = ev S d 175 53 [a0, a1, a2, a3] (.inl (I k i) :: st) (sh, I, R) := (ev_eq f_175_52).trans (congrArg (fin S d 175) (if_pos ⟨h, h0, h1⟩))
theorem f_175_53 : fetch 175 53 = some (53, .istore_n 2, 1, [2], 0) := (fm_175 53).trans rfl
theorem u_175_53 {S : Scr} {d : Nat} {a0 a1 a2 a3 : AV} {st : List AV} {sh : Shp} {I : IM} {R : RM} {x : Int} : ev S d 175 53 [a0, a1, a2, a3] (.inl x :: st) (sh, I, R) = ev S d 175 54 [a0, a1, .inl x, a3] st (sh, I, R) := (ev_eq f_175_53).trans rfl
theorem f_175_54 : fetch 175 54 = some (54, .iload_n 2, 1, [2], 0) := (fm_175 54).trans rfl
theorem u_175_54 {S : Scr} {d : Nat} {a0 a1 a3 : AV} {st : List AV} {sh : Shp} {I : IM} {R : RM} {x : Int} : ev S d 175 54 [a0, a1, .inl x, a3] st (sh, I, R) = ev S d 175 55 [a0, a1, .inl x, a3] (.inl x :: st) (sh, I, R) := (ev_eq f_175_54).trans rfl
theorem f_175_55 : fetch 175 55 = some (55, .iconst 4, 1, [], 4) := (fm_175 55).trans rfl
theorem u_175_55 {S : Scr} {d : Nat} {a0 a1 a2 a3 : AV} {st : List AV} {sh : Shp} {I : IM} {R : RM} : ev S d 175 55 [a0, a1, a2, a3] st (sh, I, R) = ev S d 175 56 [a0, a1, a2, a3] (.inl 4 :: st) (sh, I, R) := (ev_eq f_175_55).trans rfl
theorem f_175_56 : fetch 175 56 = some (56, .if_icmp .ne 44, 3, [100], 0) := (fm_175 56).trans rfl
theorem u_175_56 {S : Scr} {d : Nat} {a0 a1 a2 a3 : AV} {st : List AV} {sh : Shp} {I : IM} {R : RM} {x y : Int} : ev S d 175 56 [a0, a1, a2, a3] (.inl y :: .inl x :: st) (sh, I, R) = if ¬ x = y then ev S d 175 100 [a0, a1, a2, a3] st (sh, I, R) else ev S d 175 59 [a0, a1, a2, a3] st (sh, I, R) := (ev_eq f_175_56).trans fin_icmp_ne
theorem f_175_59 : fetch 175 59 = some (59, .aload_n 0, 1, [0], 0) := (fm_175 59).trans rfl
theorem u_175_59 {S : Scr} {d : Nat} {a1 a2 a3 : AV} {st : List AV} {sh : Shp} {I : IM} {R : RM} {x : Nat} : ev S d 175 59 [.inr (.inl x), a1, a2, a3] st (sh, I, R) = ev S d 175 60 [.inr (.inl x), a1, a2, a3] (.inr (.inl x) :: st) (sh, I, R) := (ev_eq f_175_59).trans rfl
theorem f_175_60 : fetch 175 60 = some (60, .bipush 82, 2, [], 82) := (fm_175 60).trans rfl
theorem u_175_60 {S : Scr} {d : Nat} {a0 a1 a2 a3 : AV} {st : List AV} {sh : Shp} {I : IM} {R : RM} : ev S d 175 60 [a0, a1, a2, a3] st (sh, I, R) = ev S d 175 62 [a0, a1, a2, a3] (.inl 82 :: st) (sh, I, R) := (ev_eq f_175_60).trans rfl
theorem f_175_62 : fetch 175 62 = some (62, .invokevirtual 159, 3, [173, 1, 151], 0) := (fm_175 62).trans rfl
theorem u_175_62 {S : Scr} {d : Nat} {a0 a1 a2 a3 : AV} {st : List AV} {sh : Shp} {I : IM} {R : RM} {x0 : Int} {k : Nat} (h : tg sh k = 9) (hr : st.length ≤ 8) : ev S d 175 62 [a0, a1, a2, a3] (.inl x0 :: .inr (.inl k) :: st) (sh, I, R) = bnd (cl d 173 [.inr (.inl k), .inl x0] (sh, I, R)) (fun v M => ev S d 175 65 [a0, a1, a2, a3] (psh v st) M) := (ev_eq f_175_62).trans (congrArg (fin S d 175) (if_pos ⟨h, rfl, hr⟩))
theorem f_175_65 : fetch 175 65 = some (65, .aload_n 0, 1, [0], 0) := (fm_175 65).trans rfl
theorem u_175_65 {S : Scr} {d : Nat} {a1 a2 a3 : AV} {st : List AV} {sh : Shp} {I : IM} {R : RM} {x : Nat} : ev S d 175 65 [.inr (.inl x), a1, a2, a3] st (sh, I, R) = ev S d 175 66 [.inr (.inl x), a1, a2, a3] (.inr (.inl x) :: st) (sh, I, R) := (ev_eq f_175_65).trans rfl
theorem f_175_66 : fetch 175 66 = some (66, .bipush 48, 2, [], 48) := (fm_175 66).trans rfl
theorem u_175_66 {S : Scr} {d : Nat} {a0 a1 a2 a3 : AV} {st : List AV} {sh : Shp} {I : IM} {R : RM} : ev S d 175 66 [a0, a1, a2, a3] st (sh, I, R) = ev S d 175 68 [a0, a1, a2, a3] (.inl 48 :: st) (sh, I, R) := (ev_eq f_175_66).trans rfl
theorem f_175_68 : fetch 175 68 = some (68, .aload_n 0, 1, [0], 0) := (fm_175 68).trans rfl
theorem u_175_68 {S : Scr} {d : Nat} {a1 a2 a3 : AV} {st : List AV} {sh : Shp} {I : IM} {R : RM} {x : Nat} : ev S d 175 68 [.inr (.inl x), a1, a2, a3] st (sh, I, R) = ev S d 175 69 [.inr (.inl x), a1, a2, a3] (.inr (.inl x) :: st) (sh, I, R) := (ev_eq f_175_68).trans rfl
theorem f_175_69 : fetch 175 69 = some (69, .getfield 9, 3, [9, 0, 1, 79], 0) := (fm_175 69).trans rfl
theorem u_175_69 {S : Scr} {d : Nat} {a0 a1 a2 a3 : AV} {st : List AV} {sh : Shp} {I : IM} {R : RM} {k : Nat} (h : tg sh k = 9) : ev S d 175 69 [a0, a1, a2, a3] (.inr (.inl k) :: st) (sh, I, R) = ev S d 175 72 [a0, a1, a2, a3] (rv (R k 0) :: st) (sh, I, R) := (ev_eq f_175_69).trans (congrArg (fin S d 175) (if_pos h))
theorem f_175_72 : fetch 175 72 = some (72, .bipush 30, 2, [], 30) := (fm_175 72).trans rfl
theorem u_175_72 {S : Scr} {d : Nat} {a0 a1 a2 a3 : AV} {st : List AV} {sh : Shp} {I : IM} {R : RM} : ev S d 175 72 [a0, a1, a2, a3] st (sh, I, R) = ev S d 175 74 [a0, a1, a2, a3] (.inl 30 :: st) (sh, I, R) := (ev_eq f_175_72).trans rfl
theorem f_175_74 : fetch 175 74 = some (74, .iload_n 1, 1, [1], 0) := (fm_175 74).trans rfl
theorem u_175_74 {S : Scr} {d : Nat} {a0 a2 a3 : AV} {st : List AV} {sh : Shp} {I : IM} {R : RM} {x : Int} : ev S d 175 74 [a0, .inl x, a2, a3] st (sh, I, R) = ev S d 175 75 [a0, .inl x, a2, a3] (.inl x :: st) (sh, I, R) := (ev_eq f_175_74).trans rfl
theorem f_175_75 : fetch 175 75 = some (75, .iadd, 1, [], 0) := (fm_175 75).trans rfl
theorem u_175_75 {S : Scr} {d : Nat} {a0 a1 a2 a3 : AV} {st : List AV} {sh : Shp} {I : IM} {R : RM} {x y : Int} : ev S d 175 75 [a0, a1, a2, a3] (.inl y :: .inl x :: st) (sh, I, R) = ev S d 175 76 [a0, a1, a2, a3] (.inl (wr (x + y)) :: st) (sh, I, R) := (ev_eq f_175_75).trans rfl
theorem f_175_76 : fetch 175 76 = some (76, .iaload, 1, [], 0) := (fm_175 76).trans rfl
theorem u_175_76 {S : Scr} {d : Nat} {a0 a1 a2 a3 : AV} {st : List AV} {sh : Shp} {I : IM} {R : RM} {k : Nat} {i : Int} (h : tg sh k = 100) (h0 : 0 ≤ i) (h1 : i < ln sh k) : ev S d 175 76 [a0, a1, a2, a3] (.inl i :: .inr (.inl k) :: st) (sh, I, R) = ev S d 175 77 [a0, a1, a2, a3] (.inl (I k i) :: st) (sh, I, R) := (ev_eq f_175_76).trans (congrArg (fin S d 175) (if_pos ⟨h, h0, h1⟩))
theorem f_175_77 : fetch 175 77 = some (77, .iadd, 1, [], 0) := (fm_175 77).trans rfl
theorem u_175_77 {S : Scr} {d : Nat} {a0 a1 a2 a3 : AV} {st : List AV} {sh : Shp} {I : IM} {R : RM} {x y : Int} : ev S d 175 77 [a0, a1, a2, a3] (.inl y :: .inl x :: st) (sh, I, R) = ev S d 175 78 [a0, a1, a2, a3] (.inl (wr (x + y)) :: st) (sh, I, R) := (ev_eq f_175_77).trans rfl
theorem f_175_78 : fetch 175 78 = some (78, .invokevirtual 159, 3, [173, 1, 151], 0) := (fm_175 78).trans rfl
theorem u_175_78 {S : Scr} {d : Nat} {a0 a1 a2 a3 : AV} {st : List AV} {sh : Shp} {I : IM} {R : RM} {x0 : Int} {k : Nat} (h : tg sh k = 9) (hr : st.length ≤ 8) : ev S d 175 78 [a0, a1, a2, a3] (.inl x0 :: .inr (.inl k) :: st) (sh, I, R) = bnd (cl d 173 [.inr (.inl k), .inl x0] (sh, I, R)) (fun v M => ev S d 175 81 [a0, a1, a2, a3] (psh v st) M) := (ev_eq f_175_78).trans (congrArg (fin S d 175) (if_pos ⟨h, rfl, hr⟩))
theorem f_175_81 : fetch 175 81 = some (81, .aload_n 0, 1, [0], 0) := (fm_175 81).trans rfl
theorem u_175_81 {S : Scr} {d : Nat} {a1 a2 a3 : AV} {st : List AV} {sh : Shp} {I : IM} {R : RM} {x : Nat} : ev S d 175 81 [.inr (.inl x), a1, a2, a3] st (sh, I, R) = ev S d 175 82 [.inr (.inl x), a1, a2, a3] (.inr (.inl x) :: st) (sh, I, R) := (ev_eq f_175_81).trans rfl
theorem f_175_82 : fetch 175 82 = some (82, .bipush 48, 2, [], 48) := (fm_175 82).trans rfl
theorem u_175_82 {S : Scr} {d : Nat} {a0 a1 a2 a3 : AV} {st : List AV} {sh : Shp} {I : IM} {R : RM} : ev S d 175 82 [a0, a1, a2, a3] st (sh, I, R) = ev S d 175 84 [a0, a1, a2, a3] (.inl 48 :: st) (sh, I, R) := (ev_eq f_175_82).trans rfl
theorem f_175_84 : fetch 175 84 = some (84, .aload_n 0, 1, [0], 0) := (fm_175 84).trans rfl
theorem u_175_84 {S : Scr} {d : Nat} {a1 a2 a3 : AV} {st : List AV} {sh : Shp} {I : IM} {R : RM} {x : Nat} : ev S d 175 84 [.inr (.inl x), a1, a2, a3] st (sh, I, R) = ev S d 175 85 [.inr (.inl x), a1, a2, a3] (.inr (.inl x) :: st) (sh, I, R) := (ev_eq f_175_84).trans rfl
theorem f_175_85 : fetch 175 85 = some (85, .getfield 9, 3, [9, 0, 1, 79], 0) := (fm_175 85).trans rfl
theorem u_175_85 {S : Scr} {d : Nat} {a0 a1 a2 a3 : AV} {st : List AV} {sh : Shp} {I : IM} {R : RM} {k : Nat} (h : tg sh k = 9) : ev S d 175 85 [a0, a1, a2, a3] (.inr (.inl k) :: st) (sh, I, R) = ev S d 175 88 [a0, a1, a2, a3] (rv (R k 0) :: st) (sh, I, R) := (ev_eq f_175_85).trans (congrArg (fin S d 175) (if_pos h))
theorem f_175_88 : fetch 175 88 = some (88, .bipush 60, 2, [], 60) := (fm_175 88).trans rfl
theorem u_175_88 {S : Scr} {d : Nat} {a0 a1 a2 a3 : AV} {st : List AV} {sh : Shp} {I : IM} {R : RM} : ev S d 175 88 [a0, a1, a2, a3] st (sh, I, R) = ev S d 175 90 [a0, a1, a2, a3] (.inl 60 :: st) (sh, I, R) := (ev_eq f_175_88).trans rfl
theorem f_175_90 : fetch 175 90 = some (90, .iload_n 1, 1, [1], 0) := (fm_175 90).trans rfl
theorem u_175_90 {S : Scr} {d : Nat} {a0 a2 a3 : AV} {st : List AV} {sh : Shp} {I : IM} {R : RM} {x : Int} : ev S d 175 90 [a0, .inl x, a2, a3] st (sh, I, R) = ev S d 175 91 [a0, .inl x, a2, a3] (.inl x :: st) (sh, I, R) := (ev_eq f_175_90).trans rfl
theorem f_175_91 : fetch 175 91 = some (91, .iadd, 1, [], 0) := (fm_175 91).trans rfl
theorem u_175_91 {S : Scr} {d : Nat} {a0 a1 a2 a3 : AV} {st : List AV} {sh : Shp} {I : IM} {R : RM} {x y : Int} : ev S d 175 91 [a0, a1, a2, a3] (.inl y :: .inl x :: st) (sh, I, R) = ev S d 175 92 [a0, a1, a2, a3] (.inl (wr (x + y)) :: st) (sh, I, R) := (ev_eq f_175_91).trans rfl
theorem f_175_92 : fetch 175 92 = some (92, .iaload, 1, [], 0) := (fm_175 92).trans rfl
theorem u_175_92 {S : Scr} {d : Nat} {a0 a1 a2 a3 : AV} {st : List AV} {sh : Shp} {I : IM} {R : RM} {k : Nat} {i : Int} (h : tg sh k = 100) (h0 : 0 ≤ i) (h1 : i < ln sh k) : ev S d 175 92 [a0, a1, a2, a3] (.inl i :: .inr (.inl k) :: st) (sh, I, R) = ev S d 175 93 [a0, a1, a2, a3] (.inl (I k i) :: st) (sh, I, R) := (ev_eq f_175_92).trans (congrArg (fin S d 175) (if_pos ⟨h, h0, h1⟩))
theorem f_175_93 : fetch 175 93 = some (93, .iadd, 1, [], 0) := (fm_175 93).trans rfl
theorem u_175_93 {S : Scr} {d : Nat} {a0 a1 a2 a3 : AV} {st : List AV} {sh : Shp} {I : IM} {R : RM} {x y : Int} : ev S d 175 93 [a0, a1, a2, a3] (.inl y :: .inl x :: st) (sh, I, R) = ev S d 175 94 [a0, a1, a2, a3] (.inl (wr (x + y)) :: st) (sh, I, R) := (ev_eq f_175_93).trans rfl
theorem f_175_94 : fetch 175 94 = some (94, .invokevirtual 159, 3, [173, 1, 151], 0) := (fm_175 94).trans rfl
theorem u_175_94 {S : Scr} {d : Nat} {a0 a1 a2 a3 : AV} {st : List AV} {sh : Shp} {I : IM} {R : RM} {x0 : Int} {k : Nat} (h : tg sh k = 9) (hr : st.length ≤ 8) : ev S d 175 94 [a0, a1, a2, a3] (.inl x0 :: .inr (.inl k) :: st) (sh, I, R) = bnd (cl d 173 [.inr (.inl k), .inl x0] (sh, I, R)) (fun v M => ev S d 175 97 [a0, a1, a2, a3] (psh v st) M) := (ev_eq f_175_94).trans (congrArg (fin S d 175) (if_pos ⟨h, rfl, hr⟩))
theorem f_175_97 : fetch 175 97 = some (97, .goto 112, 3, [209], 0) := (fm_175 97).trans rfl
theorem u_175_97 {S : Scr} {d : Nat} {a0 a1 a2 a3 : AV} {st : List AV} {sh : Shp} {I : IM} {R : RM} : ev S d 175 97 [a0, a1, a2, a3] st (sh, I, R) = ev S d 175 209 [a0, a1, a2, a3] st (sh, I, R) := (ev_eq f_175_97).trans rfl
theorem f_175_100 : fetch 175 100 = some (100, .aload_n 0, 1, [0], 0) := (fm_175 100).trans rfl
theorem u_175_100 {S : Scr} {d : Nat} {a1 a2 a3 : AV} {st : List AV} {sh : Shp} {I : IM} {R : RM} {x : Nat} : ev S d 175 100 [.inr (.inl x), a1, a2, a3] st (sh, I, R) = ev S d 175 101 [.inr (.inl x), a1, a2, a3] (.inr (.inl x) :: st) (sh, I, R) := (ev_eq f_175_100).trans rfl
theorem f_175_101 : fetch 175 101 = some (101, .iload_n 2, 1, [2], 0) := (fm_175 101).trans rfl
theorem u_175_101 {S : Scr} {d : Nat} {a0 a1 a3 : AV} {st : List AV} {sh : Shp} {I : IM} {R : RM} {x : Int} : ev S d 175 101 [a0, a1, .inl x, a3] st (sh, I, R) = ev S d 175 102 [a0, a1, .inl x, a3] (.inl x :: st) (sh, I, R) := (ev_eq f_175_101).trans rfl
theorem f_175_102 : fetch 175 102 = some (102, .iconst 1, 1, [], 1) := (fm_175 102).trans rfl
theorem u_175_102 {S : Scr} {d : Nat} {a0 a1 a2 a3 : AV} {st : List AV} {sh : Shp} {I : IM} {R : RM} : ev S d 175 102 [a0, a1, a2, a3] st (sh, I, R) = ev S d 175 103 [a0, a1, a2, a3] (.inl 1 :: st) (sh, I, R) := (ev_eq f_175_102).trans rfl
theorem f_175_103 : fetch 175 103 = some (103, .if_icmp .ne 8, 3, [111], 0) := (fm_175 103).trans rfl
theorem u_175_103 {S : Scr} {d : Nat} {a0 a1 a2 a3 : AV} {st : List AV} {sh : Shp} {I : IM} {R : RM} {x y : Int} : ev S d 175 103 [a0, a1, a2, a3] (.inl y :: .inl x :: st) (sh, I, R) = if ¬ x = y then ev S d 175 111 [a0, a1, a2, a3] st (sh, I, R) else ev S d 175 106 [a0, a1, a2, a3] st (sh, I, R) := (ev_eq f_175_103).trans fin_icmp_ne
theorem f_175_106 : fetch 175 106 = some (106, .bipush 76, 2, [], 76) := (fm_175 106).trans rfl
theorem u_175_106 {S : Scr} {d : Nat} {a0 a1 a2 a3 : AV} {st : List AV} {sh : Shp} {I : IM} {R : RM} : ev S d 175 106 [a0, a1, a2, a3] st (sh, I, R) = ev S d 175 108 [a0, a1, a2, a3] (.inl 76 :: st) (sh, I, R) := (ev_eq f_175_106).trans rfl
theorem f_175_108 : fetch 175 108 = some (108, .goto 15, 3, [123], 0) := (fm_175 108).trans rfl
theorem u_175_108 {S : Scr} {d : Nat} {a0 a1 a2 a3 : AV} {st : List AV} {sh : Shp} {I : IM} {R : RM} : ev S d 175 108 [a0, a1, a2, a3] st (sh, I, R) = ev S d 175 123 [a0, a1, a2, a3] st (sh, I, R) := (ev_eq f_175_108).trans rfl
theorem f_175_111 : fetch 175 111 = some (111, .iload_n 2, 1, [2], 0) := (fm_175 111).trans rfl
theorem u_175_111 {S : Scr} {d : Nat} {a0 a1 a3 : AV} {st : List AV} {sh : Shp} {I : IM} {R : RM} {x : Int} : ev S d 175 111 [a0, a1, .inl x, a3] st (sh, I, R) = ev S d 175 112 [a0, a1, .inl x, a3] (.inl x :: st) (sh, I, R) := (ev_eq f_175_111).trans rfl
theorem f_175_112 : fetch 175 112 = some (112, .iconst 2, 1, [], 2) := (fm_175 112).trans rfl
theorem u_175_112 {S : Scr} {d : Nat} {a0 a1 a2 a3 : AV} {st : List AV} {sh : Shp} {I : IM} {R : RM} : ev S d 175 112 [a0, a1, a2, a3] st (sh, I, R) = ev S d 175 113 [a0, a1, a2, a3] (.inl 2 :: st) (sh, I, R) := (ev_eq f_175_112).trans rfl
theorem f_175_113 : fetch 175 113 = some (113, .if_icmp .ne 8, 3, [121], 0) := (fm_175 113).trans rfl
theorem u_175_113 {S : Scr} {d : Nat} {a0 a1 a2 a3 : AV} {st : List AV} {sh : Shp} {I : IM} {R : RM} {x y : Int} : ev S d 175 113 [a0, a1, a2, a3] (.inl y :: .inl x :: st) (sh, I, R) = if ¬ x = y then ev S d 175 121 [a0, a1, a2, a3] st (sh, I, R) else ev S d 175 116 [a0, a1, a2, a3] st (sh, I, R) := (ev_eq f_175_113).trans fin_icmp_ne
theorem f_175_116 : fetch 175 116 = some (116, .bipush 66, 2, [], 66) := (fm_175 116).trans rfl
theorem u_175_116 {S : Scr} {d : Nat} {a0 a1 a2 a3 : AV} {st : List AV} {sh : Shp} {I : IM} {R : RM} : ev S d 175 116 [a0, a1, a2, a3] st (sh, I, R) = ev S d 175 118 [a0, a1, a2, a3] (.inl 66 :: st) (sh, I, R) := (ev_eq f_175_116).trans rfl
theorem f_175_118 : fetch 175 118 = some (118, .goto 5, 3, [123], 0) := (fm_175 118).trans rfl
theorem u_175_118 {S : Scr} {d : Nat} {a0 a1 a2 a3 : AV} {st : List AV} {sh : Shp} {I : IM} {R : RM} : ev S d 175 118 [a0, a1, a2, a3] st (sh, I, R) = ev S d 175 123 [a0, a1, a2, a3] st (sh, I, R) := (ev_eq f_175_118).trans rfl
theorem f_175_121 : fetch 175 121 = some (121, .bipush 67, 2, [], 67) := (fm_175 121).trans rfl
theorem u_175_121 {S : Scr} {d : Nat} {a0 a1 a2 a3 : AV} {st : List AV} {sh : Shp} {I : IM} {R : RM} : ev S d 175 121 [a0, a1, a2, a3] st (sh, I, R) = ev S d 175 123 [a0, a1, a2, a3] (.inl 67 :: st) (sh, I, R) := (ev_eq f_175_121).trans rfl
theorem f_175_123 : fetch 175 123 = some (123, .invokevirtual 159, 3, [173, 1, 151], 0) := (fm_175 123).trans rfl
theorem u_175_123 {S : Scr} {d : Nat} {a0 a1 a2 a3 : AV} {st : List AV} {sh : Shp} {I : IM} {R : RM} {x0 : Int} {k : Nat} (h : tg sh k = 9) (hr : st.length ≤ 8) : ev S d 175 123 [a0, a1, a2, a3] (.inl x0 :: .inr (.inl k) :: st) (sh, I, R) = bnd (cl d 173 [.inr (.inl k), .inl x0] (sh, I, R)) (fun v M => ev S d 175 126 [a0, a1, a2, a3] (psh v st) M) := (ev_eq f_175_123).trans (congrArg (fin S d 175) (if_pos ⟨h, rfl, hr⟩))
theorem f_175_126 : fetch 175 126 = some (126, .aload_n 0, 1, [0], 0) := (fm_175 126).trans rfl
theorem u_175_126 {S : Scr} {d : Nat} {a1 a2 a3 : AV} {st : List AV} {sh : Shp} {I : IM} {R : RM} {x : Nat} : ev S d 175 126 [.inr (.inl x), a1, a2, a3] st (sh, I, R) = ev S d 175 127 [.inr (.inl x), a1, a2, a3] (.inr (.inl x) :: st) (sh, I, R) := (ev_eq f_175_126).trans rfl
theorem f_175_127 : fetch 175 127 = some (127, .bipush 48, 2, [], 48) := (fm_175 127).trans rfl
theorem u_175_127 {S : Scr} {d : Nat} {a0 a1 a2 a3 : AV} {st : List AV} {sh : Shp} {I : IM} {R : RM} : ev S d 175 127 [a0, a1, a2, a3] st (sh, I, R) = ev S d 175 129 [a0, a1, a2, a3] (.inl 48 :: st) (sh, I, R) := (ev_eq f_175_127).trans rfl
theorem f_175_129 : fetch 175 129 = some (129, .aload_n 0, 1, [0], 0) := (fm_175 129).trans rfl
theorem u_175_129 {S : Scr} {d : Nat} {a1 a2 a3 : AV} {st : List AV} {sh : Shp} {I : IM} {R : RM} {x : Nat} : ev S d 175 129 [.inr (.inl x), a1, a2, a3] st (sh, I, R) = ev S d 175 130 [.inr (.inl x), a1, a2, a3] (.inr (.inl x) :: st) (sh, I, R) := (ev_eq f_175_129).trans rfl
theorem f_175_130 : fetch 175 130 = some (130, .getfield 9, 3, [9, 0, 1, 79], 0) := (fm_175 130).trans rfl
theorem u_175_130 {S : Scr} {d : Nat} {a0 a1 a2 a3 : AV} {st : List AV} {sh : Shp} {I : IM} {R : RM} {k : Nat} (h : tg sh k = 9) : ev S d 175 130 [a0, a1, a2, a3] (.inr (.inl k) :: st) (sh, I, R) = ev S d 175 133 [a0, a1, a2, a3] (rv (R k 0) :: st) (sh, I, R) := (ev_eq f_175_130).trans (congrArg (fin S d 175) (if_pos h))
theorem f_175_133 : fetch 175 133 = some (133, .sipush 741, 3, [], 741) := (fm_175 133).trans rfl
theorem u_175_133 {S : Scr} {d : Nat} {a0 a1 a2 a3 : AV} {st : List AV} {sh : Shp} {I : IM} {R : RM} : ev S d 175 133 [a0, a1, a2, a3] st (sh, I, R) = ev S d 175 136 [a0, a1, a2, a3] (.inl 741 :: st) (sh, I, R) := (ev_eq f_175_133).trans rfl
theorem f_175_136 : fetch 175 136 = some (136, .iload_n 2, 1, [2], 0) := (fm_175 136).trans rfl
theorem u_175_136 {S : Scr} {d : Nat} {a0 a1 a3 : AV} {st : List AV} {sh : Shp} {I : IM} {R : RM} {x : Int} : ev S d 175 136 [a0, a1, .inl x, a3] st (sh, I, R) = ev S d 175 137 [a0, a1, .inl x, a3] (.inl x :: st) (sh, I, R) := (ev_eq f_175_136).trans rfl
theorem f_175_137 : fetch 175 137 = some (137, .iadd, 1, [], 0) := (fm_175 137).trans rfl
theorem u_175_137 {S : Scr} {d : Nat} {a0 a1 a2 a3 : AV} {st : List AV} {sh : Shp} {I : IM} {R : RM} {x y : Int} : ev S d 175 137 [a0, a1, a2, a3] (.inl y :: .inl x :: st) (sh, I, R) = ev S d 175 138 [a0, a1, a2, a3] (.inl (wr (x + y)) :: st) (sh, I, R) := (ev_eq f_175_137).trans rfl
theorem f_175_138 : fetch 175 138 = some (138, .iconst 1, 1, [], 1) := (fm_175 138).trans rfl
theorem u_175_138 {S : Scr} {d : Nat} {a0 a1 a2 a3 : AV} {st : List AV} {sh : Shp} {I : IM} {R : RM} : ev S d 175 138 [a0, a1, a2, a3] st (sh, I, R) = ev S d 175 139 [a0, a1, a2, a3] (.inl 1 :: st) (sh, I, R) := (ev_eq f_175_138).trans rfl
theorem f_175_139 : fetch 175 139 = some (139, .isub, 1, [], 0) := (fm_175 139).trans rfl
theorem u_175_139 {S : Scr} {d : Nat} {a0 a1 a2 a3 : AV} {st : List AV} {sh : Shp} {I : IM} {R : RM} {x y : Int} : ev S d 175 139 [a0, a1, a2, a3] (.inl y :: .inl x :: st) (sh, I, R) = ev S d 175 140 [a0, a1, a2, a3] (.inl (wr (x - y)) :: st) (sh, I, R) := (ev_eq f_175_139).trans rfl
theorem f_175_140 : fetch 175 140 = some (140, .iaload, 1, [], 0) := (fm_175 140).trans rfl
theorem u_175_140 {S : Scr} {d : Nat} {a0 a1 a2 a3 : AV} {st : List AV} {sh : Shp} {I : IM} {R : RM} {k : Nat} {i : Int} (h : tg sh k = 100) (h0 : 0 ≤ i) (h1 : i < ln sh k) : ev S d 175 140 [a0, a1, a2, a3] (.inl i :: .inr (.inl k) :: st) (sh, I, R) = ev S d 175 141 [a0, a1, a2, a3] (.inl (I k i) :: st) (sh, I, R) := (ev_eq f_175_140).trans (congrArg (fin S d 175) (if_pos ⟨h, h0, h1⟩))
theorem f_175_141 : fetch 175 141 = some (141, .iadd, 1, [], 0) := (fm_175 141).trans rfl
theorem u_175_141 {S : Scr} {d : Nat} {a0 a1 a2 a3 : AV} {st : List AV} {sh : Shp} {I : IM} {R : RM} {x y : Int} : ev S d 175 141 [a0, a1, a2, a3] (.inl y :: .inl x :: st) (sh, I, R) = ev S d 175 142 [a0, a1, a2, a3] (.inl (wr (x + y)) :: st) (sh, I, R) := (ev_eq f_175_141).trans rfl
theorem f_175_142 : fetch 175 142 = some (142, .invokevirtual 159, 3, [173, 1, 151], 0) := (fm_175 142).trans rfl
theorem u_175_142 {S : Scr} {d : Nat} {a0 a1 a2 a3 : AV} {st : List AV} {sh : Shp} {I : IM} {R : RM} {x0 : Int} {k : Nat} (h : tg sh k = 9) (hr : st.length ≤ 8) : ev S d 175 142 [a0, a1, a2, a3] (.inl x0 :: .inr (.inl k) :: st) (sh, I, R) = bnd (cl d 173 [.inr (.inl k), .inl x0] (sh, I, R)) (fun v M => ev S d 175 145 [a0, a1, a2, a3] (psh v st) M) := (ev_eq f_175_142).trans (congrArg (fin S d 175) (if_pos ⟨h, rfl, hr⟩))
theorem f_175_145 : fetch 175 145 = some (145, .iconst 0, 1, [], 0) := (fm_175 145).trans rfl
theorem u_175_145 {S : Scr} {d : Nat} {a0 a1 a2 a3 : AV} {st : List AV} {sh : Shp} {I : IM} {R : RM} : ev S d 175 145 [a0, a1, a2, a3] st (sh, I, R) = ev S d 175 146 [a0, a1, a2, a3] (.inl 0 :: st) (sh, I, R) := (ev_eq f_175_145).trans rfl
theorem f_175_146 : fetch 175 146 = some (146, .istore_n 3, 1, [3], 0) := (fm_175 146).trans rfl
theorem u_175_146 {S : Scr} {d : Nat} {a0 a1 a2 a3 : AV} {st : List AV} {sh : Shp} {I : IM} {R : RM} {x : Int} : ev S d 175 146 [a0, a1, a2, a3] (.inl x :: st) (sh, I, R) = ev S d 175 147 [a0, a1, a2, .inl x] st (sh, I, R) := (ev_eq f_175_146).trans rfl
theorem f_175_147 : fetch 175 147 = some (147, .iload_n 3, 1, [3], 0) := (fm_175 147).trans rfl
theorem u_175_147 {S : Scr} {d : Nat} {a0 a1 a2 : AV} {st : List AV} {sh : Shp} {I : IM} {R : RM} {x : Int} : ev S d 175 147 [a0, a1, a2, .inl x] st (sh, I, R) = ev S d 175 148 [a0, a1, a2, .inl x] (.inl x :: st) (sh, I, R) := (ev_eq f_175_147).trans rfl
theorem f_175_148 : fetch 175 148 = some (148, .aload_n 0, 1, [0], 0) := (fm_175 148).trans rfl
theorem u_175_148 {S : Scr} {d : Nat} {a1 a2 a3 : AV} {st : List AV} {sh : Shp} {I : IM} {R : RM} {x : Nat} : ev S d 175 148 [.inr (.inl x), a1, a2, a3] st (sh, I, R) = ev S d 175 149 [.inr (.inl x), a1, a2, a3] (.inr (.inl x) :: st) (sh, I, R) := (ev_eq f_175_148).trans rfl
theorem f_175_149 : fetch 175 149 = some (149, .getfield 9, 3, [9, 0, 1, 79], 0) := (fm_175 149).trans rfl
theorem u_175_149 {S : Scr} {d : Nat} {a0 a1 a2 a3 : AV} {st : List AV} {sh : Shp} {I : IM} {R : RM} {k : Nat} (h : tg sh k = 9) : ev S d 175 149 [a0, a1, a2, a3] (.inr (.inl k) :: st) (sh, I, R) = ev S d 175 152 [a0, a1, a2, a3] (rv (R k 0) :: st) (sh, I, R) := (ev_eq f_175_149).trans (congrArg (fin S d 175) (if_pos h))
theorem f_175_152 : fetch 175 152 = some (152, .bipush 90, 2, [], 90) := (fm_175 152).trans rfl
theorem u_175_152 {S : Scr} {d : Nat} {a0 a1 a2 a3 : AV} {st : List AV} {sh : Shp} {I : IM} {R : RM} : ev S d 175 152 [a0, a1, a2, a3] st (sh, I, R) = ev S d 175 154 [a0, a1, a2, a3] (.inl 90 :: st) (sh, I, R) := (ev_eq f_175_152).trans rfl
theorem f_175_154 : fetch 175 154 = some (154, .iload_n 1, 1, [1], 0) := (fm_175 154).trans rfl
theorem u_175_154 {S : Scr} {d : Nat} {a0 a2 a3 : AV} {st : List AV} {sh : Shp} {I : IM} {R : RM} {x : Int} : ev S d 175 154 [a0, .inl x, a2, a3] st (sh, I, R) = ev S d 175 155 [a0, .inl x, a2, a3] (.inl x :: st) (sh, I, R) := (ev_eq f_175_154).trans rfl
theorem f_175_155 : fetch 175 155 = some (155, .iadd, 1, [], 0) := (fm_175 155).trans rfl
theorem u_175_155 {S : Scr} {d : Nat} {a0 a1 a2 a3 : AV} {st : List AV} {sh : Shp} {I : IM} {R : RM} {x y : Int} : ev S d 175 155 [a0, a1, a2, a3] (.inl y :: .inl x :: st) (sh, I, R) = ev S d 175 156 [a0, a1, a2, a3] (.inl (wr (x + y)) :: st) (sh, I, R) := (ev_eq f_175_155).trans rfl
theorem f_175_156 : fetch 175 156 = some (156, .iaload, 1, [], 0) := (fm_175 156).trans rfl
theorem u_175_156 {S : Scr} {d : Nat} {a0 a1 a2 a3 : AV} {st : List AV} {sh : Shp} {I : IM} {R : RM} {k : Nat} {i : Int} (h : tg sh k = 100) (h0 : 0 ≤ i) (h1 : i < ln sh k) : ev S d 175 156 [a0, a1, a2, a3] (.inl i :: .inr (.inl k) :: st) (sh, I, R) = ev S d 175 157 [a0, a1, a2, a3] (.inl (I k i) :: st) (sh, I, R) := (ev_eq f_175_156).trans (congrArg (fin S d 175) (if_pos ⟨h, h0, h1⟩))
theorem f_175_157 : fetch 175 157 = some (157, .if_icmp .ge 46, 3, [203], 0) := (fm_175 157).trans rfl
theorem u_175_157 {S : Scr} {d : Nat} {a0 a1 a2 a3 : AV} {st : List AV} {sh : Shp} {I : IM} {R : RM} {x y : Int} : ev S d 175 157 [a0, a1, a2, a3] (.inl y :: .inl x :: st) (sh, I, R) = if y ≤ x then ev S d 175 203 [a0, a1, a2, a3] st (sh, I, R) else ev S d 175 160 [a0, a1, a2, a3] st (sh, I, R) := (ev_eq f_175_157).trans fin_icmp_ge
theorem f_175_160 : fetch 175 160 = some (160, .aload_n 0, 1, [0], 0) := (fm_175 160).trans rfl
theorem u_175_160 {S : Scr} {d : Nat} {a1 a2 a3 : AV} {st : List AV} {sh : Shp} {I : IM} {R : RM} {x : Nat} : ev S d 175 160 [.inr (.inl x), a1, a2, a3] st (sh, I, R) = ev S d 175 161 [.inr (.inl x), a1, a2, a3] (.inr (.inl x) :: st) (sh, I, R) := (ev_eq f_175_160).trans rfl
theorem f_175_161 : fetch 175 161 = some (161, .aload_n 0, 1, [0], 0) := (fm_175 161).trans rfl
theorem u_175_161 {S : Scr} {d : Nat} {a1 a2 a3 : AV} {st : List AV} {sh : Shp} {I : IM} {R : RM} {x : Nat} : ev S d 175 161 [.inr (.inl x), a1, a2, a3] st (sh, I, R) = ev S d 175 162 [.inr (.inl x), a1, a2, a3] (.inr (.inl x) :: st) (sh, I, R) := (ev_eq f_175_161).trans rfl
theorem f_175_162 : fetch 175 162 = some (162, .getfield 9, 3, [9, 0, 1, 79], 0) := (fm_175 162).trans rfl
theorem u_175_162 {S : Scr} {d : Nat} {a0 a1 a2 a3 : AV} {st : List AV} {sh : Shp} {I : IM} {R : RM} {k : Nat} (h : tg sh k = 9) : ev S d 175 162 [a0, a1, a2, a3] (.inr (.inl k) :: st) (sh, I, R) = ev S d 175 165 [a0, a1, a2, a3] (rv (R k 0) :: st) (sh, I, R) := (ev_eq f_175_162).trans (congrArg (fin S d 175) (if_pos h))
theorem f_175_165 : fetch 175 165 = some (165, .bipush 120, 2, [], 120) := (fm_175 165).trans rfl
theorem u_175_165 {S : Scr} {d : Nat} {a0 a1 a2 a3 : AV} {st : List AV} {sh : Shp} {I : IM} {R : RM} : ev S d 175 165 [a0, a1, a2, a3] st (sh, I, R) = ev S d 175 167 [a0, a1, a2, a3] (.inl 120 :: st) (sh, I, R) := (ev_eq f_175_165).trans rfl
theorem f_175_167 : fetch 175 167 = some (167, .bipush 6, 2, [], 6) := (fm_175 167).trans rfl
theorem u_175_167 {S : Scr} {d : Nat} {a0 a1 a2 a3 : AV} {st : List AV} {sh : Shp} {I : IM} {R : RM} : ev S d 175 167 [a0, a1, a2, a3] st (sh, I, R) = ev S d 175 169 [a0, a1, a2, a3] (.inl 6 :: st) (sh, I, R) := (ev_eq f_175_167).trans rfl
theorem f_175_169 : fetch 175 169 = some (169, .iload_n 1, 1, [1], 0) := (fm_175 169).trans rfl
theorem u_175_169 {S : Scr} {d : Nat} {a0 a2 a3 : AV} {st : List AV} {sh : Shp} {I : IM} {R : RM} {x : Int} : ev S d 175 169 [a0, .inl x, a2, a3] st (sh, I, R) = ev S d 175 170 [a0, .inl x, a2, a3] (.inl x :: st) (sh, I, R) := (ev_eq f_175_169).trans rfl
theorem f_175_170 : fetch 175 170 = some (170, .imul, 1, [], 0) := (fm_175 170).trans rfl
theorem u_175_170 {S : Scr} {d : Nat} {a0 a1 a2 a3 : AV} {st : List AV} {sh : Shp} {I : IM} {R : RM} {x y : Int} : ev S d 175 170 [a0, a1, a2, a3] (.inl y :: .inl x :: st) (sh, I, R) = ev S d 175 171 [a0, a1, a2, a3] (.inl (wr (x * y)) :: st) (sh, I, R) := (ev_eq f_175_170).trans rfl
theorem f_175_171 : fetch 175 171 = some (171, .iadd, 1, [], 0) := (fm_175 171).trans rfl
theorem u_175_171 {S : Scr} {d : Nat} {a0 a1 a2 a3 : AV} {st : List AV} {sh : Shp} {I : IM} {R : RM} {x y : Int} : ev S d 175 171 [a0, a1, a2, a3] (.inl y :: .inl x :: st) (sh, I, R) = ev S d 175 172 [a0, a1, a2, a3] (.inl (wr (x + y)) :: st) (sh, I, R) := (ev_eq f_175_171).trans rfl
theorem f_175_172 : fetch 175 172 = some (172, .iload_n 3, 1, [3], 0) := (fm_175 172).trans rfl
theorem u_175_172 {S : Scr} {d : Nat} {a0 a1 a2 : AV} {st : List AV} {sh : Shp} {I : IM} {R : RM} {x : Int} : ev S d 175 172 [a0, a1, a2, .inl x] st (sh, I, R) = ev S d 175 173 [a0, a1, a2, .inl x] (.inl x :: st) (sh, I, R) := (ev_eq f_175_172).trans rfl
theorem f_175_173 : fetch 175 173 = some (173, .iadd, 1, [], 0) := (fm_175 173).trans rfl
theorem u_175_173 {S : Scr} {d : Nat} {a0 a1 a2 a3 : AV} {st : List AV} {sh : Shp} {I : IM} {R : RM} {x y : Int} : ev S d 175 173 [a0, a1, a2, a3] (.inl y :: .inl x :: st) (sh, I, R) = ev S d 175 174 [a0, a1, a2, a3] (.inl (wr (x + y)) :: st) (sh, I, R) := (ev_eq f_175_173).trans rfl
theorem f_175_174 : fetch 175 174 = some (174, .iaload, 1, [], 0) := (fm_175 174).trans rfl
theorem u_175_174 {S : Scr} {d : Nat} {a0 a1 a2 a3 : AV} {st : List AV} {sh : Shp} {I : IM} {R : RM} {k : Nat} {i : Int} (h : tg sh k = 100) (h0 : 0 ≤ i) (h1 : i < ln sh k) : ev S d 175 174 [a0, a1, a2, a3] (.inl i :: .inr (.inl k) :: st) (sh, I, R) = ev S d 175 175 [a0, a1, a2, a3] (.inl (I k i) :: st) (sh, I, R) := (ev_eq f_175_174).trans (congrArg (fin S d 175) (if_pos ⟨h, h0, h1⟩))
theorem f_175_175 : fetch 175 175 = some (175, .invokevirtual 159, 3, [173, 1, 151], 0) := (fm_175 175).trans rfl
theorem u_175_175 {S : Scr} {d : Nat} {a0 a1 a2 a3 : AV} {st : List AV} {sh : Shp} {I : IM} {R : RM} {x0 : Int} {k : Nat} (h : tg sh k = 9) (hr : st.length ≤ 8) : ev S d 175 175 [a0, a1, a2, a3] (.inl x0 :: .inr (.inl k) :: st) (sh, I, R) = bnd (cl d 173 [.inr (.inl k), .inl x0] (sh, I, R)) (fun v M => ev S d 175 178 [a0, a1, a2, a3] (psh v st) M) := (ev_eq f_175_175).trans (congrArg (fin S d 175) (if_pos ⟨h, rfl, hr⟩))
theorem f_175_178 : fetch 175 178 = some (178, .aload_n 0, 1, [0], 0) := (fm_175 178).trans rfl
theorem u_175_178 {S : Scr} {d : Nat} {a1 a2 a3 : AV} {st : List AV} {sh : Shp} {I : IM} {R : RM} {x : Nat} : ev S d 175 178 [.inr (.inl x), a1, a2, a3] st (sh, I, R) = ev S d 175 179 [.inr (.inl x), a1, a2, a3] (.inr (.inl x) :: st) (sh, I, R) := (ev_eq f_175_178).trans rfl
theorem f_175_179 : fetch 175 179 = some (179, .aload_n 0, 1, [0], 0) := (fm_175 179).trans rfl
theorem u_175_179 {S : Scr} {d : Nat} {a1 a2 a3 : AV} {st : List AV} {sh : Shp} {I : IM} {R : RM} {x : Nat} : ev S d 175 179 [.inr (.inl x), a1, a2, a3] st (sh, I, R) = ev S d 175 180 [.inr (.inl x), a1, a2, a3] (.inr (.inl x) :: st) (sh, I, R) := (ev_eq f_175_179).trans rfl
theorem f_175_180 : fetch 175 180 = some (180, .getfield 9, 3, [9, 0, 1, 79], 0) := (fm_175 180).trans rfl
theorem u_175_180 {S : Scr} {d : Nat} {a0 a1 a2 a3 : AV} {st : List AV} {sh : Shp} {I : IM} {R : RM} {k : Nat} (h : tg sh k = 9) : ev S d 175 180 [a0, a1, a2, a3] (.inr (.inl k) :: st) (sh, I, R) = ev S d 175 183 [a0, a1, a2, a3] (rv (R k 0) :: st) (sh, I, R) := (ev_eq f_175_180).trans (congrArg (fin S d 175) (if_pos h))
theorem f_175_183 : fetch 175 183 = some (183, .sipush 300, 3, [], 300) := (fm_175 183).trans rfl
theorem u_175_183 {S : Scr} {d : Nat} {a0 a1 a2 a3 : AV} {st : List AV} {sh : Shp} {I : IM} {R : RM} : ev S d 175 183 [a0, a1, a2, a3] st (sh, I, R) = ev S d 175 186 [a0, a1, a2, a3] (.inl 300 :: st) (sh, I, R) := (ev_eq f_175_183).trans rfl
theorem f_175_186 : fetch 175 186 = some (186, .bipush 6, 2, [], 6) := (fm_175 186).trans rfl
theorem u_175_186 {S : Scr} {d : Nat} {a0 a1 a2 a3 : AV} {st : List AV} {sh : Shp} {I : IM} {R : RM} : ev S d 175 186 [a0, a1, a2, a3] st (sh, I, R) = ev S d 175 188 [a0, a1, a2, a3] (.inl 6 :: st) (sh, I, R) := (ev_eq f_175_186).trans rfl
theorem f_175_188 : fetch 175 188 = some (188, .iload_n 1, 1, [1], 0) := (fm_175 188).trans rfl
theorem u_175_188 {S : Scr} {d : Nat} {a0 a2 a3 : AV} {st : List AV} {sh : Shp} {I : IM} {R : RM} {x : Int} : ev S d 175 188 [a0, .inl x, a2, a3] st (sh, I, R) = ev S d 175 189 [a0, .inl x, a2, a3] (.inl x :: st) (sh, I, R) := (ev_eq f_175_188).trans rfl
theorem f_175_189 : fetch 175 189 = some (189, .imul, 1, [], 0) := (fm_175 189).trans rfl
theorem u_175_189 {S : Scr} {d : Nat} {a0 a1 a2 a3 : AV} {st : List AV} {sh : Shp} {I : IM} {R : RM} {x y : Int} : ev S d 175 189 [a0, a1, a2, a3] (.inl y :: .inl x :: st) (sh, I, R) = ev S d 175 190 [a0, a1, a2, a3] (.inl (wr (x * y)) :: st) (sh, I, R) := (ev_eq f_175_189).trans rfl
theorem f_175_190 : fetch 175 190 = some (190, .iadd, 1, [], 0) := (fm_175 190).trans rfl
theorem u_175_190 {S : Scr} {d : Nat} {a0 a1 a2 a3 : AV} {st : List AV} {sh : Shp} {I : IM} {R : RM} {x y : Int} : ev S d 175 190 [a0, a1, a2, a3] (.inl y :: .inl x :: st) (sh, I, R) = ev S d 175 191 [a0, a1, a2, a3] (.inl (wr (x + y)) :: st) (sh, I, R) := (ev_eq f_175_190).trans rfl
theorem f_175_191 : fetch 175 191 = some (191, .iload_n 3, 1, [3], 0) := (fm_175 191).trans rfl
theorem u_175_191 {S : Scr} {d : Nat} {a0 a1 a2 : AV} {st : List AV} {sh : Shp} {I : IM} {R : RM} {x : Int} : ev S d 175 191 [a0, a1, a2, .inl x] st (sh, I, R) = ev S d 175 192 [a0, a1, a2, .inl x] (.inl x :: st) (sh, I, R) := (ev_eq f_175_191).trans rfl
theorem f_175_192 : fetch 175 192 = some (192, .iadd, 1, [], 0) := (fm_175 192).trans rfl
theorem u_175_192 {S : Scr} {d : Nat} {a0 a1 a2 a3 : AV} {st : List AV} {sh : Shp} {I : IM} {R : RM} {x y : Int} : ev S d 175 192 [a0, a1, a2, a3] (.inl y :: .inl x :: st) (sh, I, R) = ev S d 175 193 [a0, a1, a2, a3] (.inl (wr (x + y)) :: st) (sh, I, R) := (ev_eq f_175_192).trans rfl
theorem f_175_193 : fetch 175 193 = some (193, .iaload, 1, [], 0) := (fm_175 193).trans rfl
theorem u_175_193 {S : Scr} {d : Nat} {a0 a1 a2 a3 : AV} {st : List AV} {sh : Shp} {I : IM} {R : RM} {k : Nat} {i : Int} (h : tg sh k = 100) (h0 : 0 ≤ i) (h1 : i < ln sh k) : ev S d 175 193 [a0, a1, a2, a3] (.inl i :: .inr (.inl k) :: st) (sh, I, R) = ev S d 175 194 [a0, a1, a2, a3] (.inl (I k i) :: st) (sh, I, R) := (ev_eq f_175_193).trans (congrArg (fin S d 175) (if_pos ⟨h, h0, h1⟩))
theorem f_175_194 : fetch 175 194 = some (194, .invokevirtual 167, 3, [174, 1, 152], 0) := (fm_175 194).trans rfl
theorem u_175_194 {S : Scr} {d : Nat} {a0 a1 a2 a3 : AV} {st : List AV} {sh : Shp} {I : IM} {R : RM} {x0 : Int} {k : Nat} (h : tg sh k = 9) (hr : st.length ≤ 8) : ev S d 175 194 [a0, a1, a2, a3] (.inl x0 :: .inr (.inl k) :: st) (sh, I, R) = bnd (cl d 174 [.inr (.inl k), .inl x0] (sh, I, R)) (fun v M => ev S d 175 197 [a0, a1, a2, a3] (psh v st) M) := (ev_eq f_175_194).trans (congrArg (fin S d 175) (if_pos ⟨h, rfl, hr⟩))
theorem f_175_197 : fetch 175 197 = some (197, .iinc 3 1, 3, [3], 1) := (fm_175 197).trans rfl
theorem u_175_197 {S : Scr} {d : Nat} {a0 a1 a2 : AV} {st : List AV} {sh : Shp} {I : IM} {R : RM} {x : Int} : ev S d 175 197 [a0, a1, a2, .inl x] st (sh, I, R) = ev S d 175 200 [a0, a1, a2, .inl (wr (x + 1))] st (sh, I, R) := (ev_eq f_175_197).trans rfl
theorem f_175_200 : fetch 175 200 = some (200, .goto (-53), 3, [147], 0) := (fm_175 200).trans rfl
theorem u_175_200 {S : Scr} {d : Nat} {a0 a1 a2 a3 : AV} {st : List AV} {sh : Shp} {I : IM} {R : RM} : ev S d 175 200 [a0, a1, a2, a3] st (sh, I, R) = ev S d 175 147 [a0, a1, a2, a3] st (sh, I, R) := (ev_eq f_175_200).trans rfl
theorem f_175_203 : fetch 175 203 = some (203, .aload_n 0, 1, [0], 0) := (fm_175 203).trans rfl
theorem u_175_203 {S : Scr} {d : Nat} {a1 a2 a3 : AV} {st : List AV} {sh : Shp} {I : IM} {R : RM} {x : Nat} : ev S d 175 203 [.inr (.inl x), a1, a2, a3] st (sh, I, R) = ev S d 175 204 [.inr (.inl x), a1, a2, a3] (.inr (.inl x) :: st) (sh, I, R) := (ev_eq f_175_203).trans rfl
theorem f_175_204 : fetch 175 204 = some (204, .bipush 46, 2, [], 46) := (fm_175 204).trans rfl
theorem u_175_204 {S : Scr} {d : Nat} {a0 a1 a2 a3 : AV} {st : List AV} {sh : Shp} {I : IM} {R : RM} : ev S d 175 204 [a0, a1, a2, a3] st (sh, I, R) = ev S d 175 206 [a0, a1, a2, a3] (.inl 46 :: st) (sh, I, R) := (ev_eq f_175_204).trans rfl
theorem f_175_206 : fetch 175 206 = some (206, .invokevirtual 159, 3, [173, 1, 151], 0) := (fm_175 206).trans rfl
theorem u_175_206 {S : Scr} {d : Nat} {a0 a1 a2 a3 : AV} {st : List AV} {sh : Shp} {I : IM} {R : RM} {x0 : Int} {k : Nat} (h : tg sh k = 9) (hr : st.length ≤ 8) : ev S d 175 206 [a0, a1, a2, a3] (.inl x0 :: .inr (.inl k) :: st) (sh, I, R) = bnd (cl d 173 [.inr (.inl k), .inl x0] (sh, I, R)) (fun v M => ev S d 175 209 [a0, a1, a2, a3] (psh v st) M) := (ev_eq f_175_206).trans (congrArg (fin S d 175) (if_pos ⟨h, rfl, hr⟩))
theorem f_175_209 : fetch 175 209 = some (209, .iconst 0, 1, [], 0) := (fm_175 209).trans rfl
theorem u_175_209 {S : Scr} {d : Nat} {a0 a1 a2 a3 : AV} {st : List AV} {sh : Shp} {I : IM} {R : RM} : ev S d 175 209 [a0, a1, a2, a3] st (sh, I, R) = ev S d 175 210 [a0, a1, a2, a3] (.inl 0 :: st) (sh, I, R) := (ev_eq f_175_209).trans rfl
theorem f_175_210 : fetch 175 210 = some (210, .istore_n 3, 1, [3], 0) := (fm_175 210).trans rfl
theorem u_175_210 {S : Scr} {d : Nat} {a0 a1 a2 a3 : AV} {st : List AV} {sh : Shp} {I : IM} {R : RM} {x : Int} : ev S d 175 210 [a0, a1, a2, a3] (.inl x :: st) (sh, I, R) = ev S d 175 211 [a0, a1, a2, .inl x] st (sh, I, R) := (ev_eq f_175_210).trans rfl
theorem f_175_211 : fetch 175 211 = some (211, .iload_n 3, 1, [3], 0) := (fm_175 211).trans rfl
theorem u_175_211 {S : Scr} {d : Nat} {a0 a1 a2 : AV} {st : List AV} {sh : Shp} {I : IM} {R : RM} {x : Int} : ev S d 175 211 [a0, a1, a2, .inl x] st (sh, I, R) = ev S d 175 212 [a0, a1, a2, .inl x] (.inl x :: st) (sh, I, R) := (ev_eq f_175_211).trans rfl
theorem f_175_212 : fetch 175 212 = some (212, .aload_n 0, 1, [0], 0) := (fm_175 212).trans rfl
theorem u_175_212 {S : Scr} {d : Nat} {a1 a2 a3 : AV} {st : List AV} {sh : Shp} {I : IM} {R : RM} {x : Nat} : ev S d 175 212 [.inr (.inl x), a1, a2, a3] st (sh, I, R) = ev S d 175 213 [.inr (.inl x), a1, a2, a3] (.inr (.inl x) :: st) (sh, I, R) := (ev_eq f_175_212).trans rfl
theorem f_175_213 : fetch 175 213 = some (213, .getfield 9, 3, [9, 0, 1, 79], 0) := (fm_175 213).trans rfl
theorem u_175_213 {S : Scr} {d : Nat} {a0 a1 a2 a3 : AV} {st : List AV} {sh : Shp} {I : IM} {R : RM} {k : Nat} (h : tg sh k = 9) : ev S d 175 213 [a0, a1, a2, a3] (.inr (.inl k) :: st) (sh, I, R) = ev S d 175 216 [a0, a1, a2, a3] (rv (R k 0) :: st) (sh, I, R) := (ev_eq f_175_213).trans (congrArg (fin S d 175) (if_pos h))
theorem f_175_216 : fetch 175 216 = some (216, .bipush 60, 2, [], 60) := (fm_175 216).trans rfl
theorem u_175_216 {S : Scr} {d : Nat} {a0 a1 a2 a3 : AV} {st : List AV} {sh : Shp} {I : IM} {R : RM} : ev S d 175 216 [a0, a1, a2, a3] st (sh, I, R) = ev S d 175 218 [a0, a1, a2, a3] (.inl 60 :: st) (sh, I, R) := (ev_eq f_175_216).trans rfl
theorem f_175_218 : fetch 175 218 = some (218, .iload_n 1, 1, [1], 0) := (fm_175 218).trans rfl
theorem u_175_218 {S : Scr} {d : Nat} {a0 a2 a3 : AV} {st : List AV} {sh : Shp} {I : IM} {R : RM} {x : Int} : ev S d 175 218 [a0, .inl x, a2, a3] st (sh, I, R) = ev S d 175 219 [a0, .inl x, a2, a3] (.inl x :: st) (sh, I, R) := (ev_eq f_175_218).trans rfl
theorem f_175_219 : fetch 175 219 = some (219, .iadd, 1, [], 0) := (fm_175 219).trans rfl
theorem u_175_219 {S : Scr} {d : Nat} {a0 a1 a2 a3 : AV} {st : List AV} {sh : Shp} {I : IM} {R : RM} {x y : Int} : ev S d 175 219 [a0, a1, a2, a3] (.inl y :: .inl x :: st) (sh, I, R) = ev S d 175 220 [a0, a1, a2, a3] (.inl (wr (x + y)) :: st) (sh, I, R) := (ev_eq f_175_219).trans rfl
theorem f_175_220 : fetch 175 220 = some (220, .iaload, 1, [], 0) := (fm_175 220).trans rfl
theorem u_175_220 {S : Scr} {d : Nat} {a0 a1 a2 a3 : AV} {st : List AV} {sh : Shp} {I : IM} {R : RM} {k : Nat} {i : Int} (h : tg sh k = 100) (h0 : 0 ≤ i) (h1 : i < ln sh k) : ev S d 175 220 [a0, a1, a2, a3] (.inl i :: .inr (.inl k) :: st) (sh, I, R) = ev S d 175 221 [a0, a1, a2, a3] (.inl (I k i) :: st) (sh, I, R) := (ev_eq f_175_220).trans (congrArg (fin S d 175) (if_pos ⟨h, h0, h1⟩))
theorem f_175_221 : fetch 175 221 = some (221, .if_icmp .ge 19, 3, [240], 0) := (fm_175 221).trans rfl
theorem u_175_221 {S : Scr} {d : Nat} {a0 a1 a2 a3 : AV} {st : List AV} {sh : Shp} {I : IM} {R : RM} {x y : Int} : ev S d 175 221 [a0, a1, a2, a3] (.inl y :: .inl x :: st) (sh, I, R) = if y ≤ x then ev S d 175 240 [a0, a1, a2, a3] st (sh, I, R) else ev S d 175 224 [a0, a1, a2, a3] st (sh, I, R) := (ev_eq f_175_221).trans fin_icmp_ge
theorem f_175_224 : fetch 175 224 = some (224, .aload_n 0, 1, [0], 0) := (fm_175 224).trans rfl
theorem u_175_224 {S : Scr} {d : Nat} {a1 a2 a3 : AV} {st : List AV} {sh : Shp} {I : IM} {R : RM} {x : Nat} : ev S d 175 224 [.inr (.inl x), a1, a2, a3] st (sh, I, R) = ev S d 175 225 [.inr (.inl x), a1, a2, a3] (.inr (.inl x) :: st) (sh, I, R) := (ev_eq f_175_224).trans rfl
theorem f_175_225 : fetch 175 225 = some (225, .aload_n 0, 1, [0], 0) := (fm_175 225).trans rfl
theorem u_175_225 {S : Scr} {d : Nat} {a1 a2 a3 : AV} {st : List AV} {sh : Shp} {I : IM} {R : RM} {x : Nat} : ev S d 175 225 [.inr (.inl x), a1, a2, a3] st (sh, I, R) = ev S d 175 226 [.inr (.inl x), a1, a2, a3] (.inr (.inl x) :: st) (sh, I, R) := (ev_eq f_175_225).trans rfl
theorem f_175_226 : fetch 175 226 = some (226, .iload_n 1, 1, [1], 0) := (fm_175 226).trans rfl
theorem u_175_226 {S : Scr} {d : Nat} {a0 a2 a3 : AV} {st : List AV} {sh : Shp} {I : IM} {R : RM} {x : Int} : ev S d 175 226 [a0, .inl x, a2, a3] st (sh, I, R) = ev S d 175 227 [a0, .inl x, a2, a3] (.inl x :: st) (sh, I, R) := (ev_eq f_175_226).trans rfl
theorem f_175_227 : fetch 175 227 = some (227, .iload_n 3, 1, [3], 0) := (fm_175 227).trans rfl
theorem u_175_227 {S : Scr} {d : Nat} {a0 a1 a2 : AV} {st : List AV} {sh : Shp} {I : IM} {R : RM} {x : Int} : ev S d 175 227 [a0, a1, a2, .inl x] st (sh, I, R) = ev S d 175 228 [a0, a1, a2, .inl x] (.inl x :: st) (sh, I, R) := (ev_eq f_175_227).trans rfl
theorem f_175_228 : fetch 175 228 = some (228, .invokevirtual 128, 3, [135, 2, 143], 0) := (fm_175 228).trans rfl
theorem u_175_228 {S : Scr} {d : Nat} {a0 a1 a2 a3 : AV} {st : List AV} {sh : Shp} {I : IM} {R : RM} {x0 : Int} {x1 : Int} {k : Nat} (h : tg sh k = 9) (hr : st.length ≤ 8) : ev S d 175 228 [a0, a1, a2, a3] (.inl x1 :: .inl x0 :: .inr (.inl k) :: st) (sh, I, R) = bnd (cl d 135 [.inr (.inl k), .inl x0, .inl x1] (sh, I, R)) (fun v M => ev S d 175 231 [a0, a1, a2, a3] (psh v st) M) := (ev_eq f_175_228).trans (congrArg (fin S d 175) (if_pos ⟨h, rfl, hr⟩))
theorem f_175_231 : fetch 175 231 = some (231, .invokevirtual 170, 3, [175, 1, 153], 0) := (fm_175 231).trans rfl
theorem u_175_231 {S : Scr} {d : Nat} {a0 a1 a2 a3 : AV} {st : List AV} {sh : Shp} {I : IM} {R : RM} {x0 : Int} {k : Nat} (h : tg sh k = 9) (hr : st.length ≤ 8) : ev S d 175 231 [a0, a1, a2, a3] (.inl x0 :: .inr (.inl k) :: st) (sh, I, R) = bnd (cl d 175 [.inr (.inl k), .inl x0] (sh, I, R)) (fun v M => ev S d 175 234 [a0, a1, a2, a3] (psh v st) M) := (ev_eq f_175_231).trans (congrArg (fin S d 175) (if_pos ⟨h, rfl, hr⟩))
theorem f_175_234 : fetch 175 234 = some (234, .iinc 3 1, 3, [3], 1) := (fm_175 234).trans rfl
theorem u_175_234 {S : Scr} {d : Nat} {a0 a1 a2 : AV} {st : List AV} {sh : Shp} {I : IM} {R : RM} {x : Int} : ev S d 175 234 [a0, a1, a2, .inl x] st (sh, I, R) = ev S d 175 237 [a0, a1, a2, .inl (wr (x + 1))] st (sh, I, R) := (ev_eq f_175_234).trans rfl
theorem f_175_237 : fetch 175 237 = some (237, .goto (-26), 3, [211], 0) := (fm_175 237).trans rfl
theorem u_175_237 {S : Scr} {d : Nat} {a0 a1 a2 a3 : AV} {st : List AV} {sh : Shp} {I : IM} {R : RM} : ev S d 175 237 [a0, a1, a2, a3] st (sh, I, R) = ev S d 175 211 [a0, a1, a2, a3] st (sh, I, R) := (ev_eq f_175_237).trans rfl
theorem f_175_240 : fetch 175 240 = some (240, .return_, 1, [], 0) := (fm_175 240).trans rfl
theorem u_175_240 {S : Scr} {d : Nat} {a0 a1 a2 a3 : AV} {sh : Shp} {I : IM} {R : RM} : ev S d 175 240 [a0, a1, a2, a3] [] (sh, I, R) = some (none, (sh, I, R)) := (ev_eq f_175_240).trans rfl
theorem c_176 {d : Nat} {a0 a1 : AV} {M : Mem} : cl (d + 1) 176 [a0, a1] M = ev S0 d 176 0 [a0, a1] [] M := (cl_eq (as := [a0, a1]) (show 2 ≤ maxOf 176 by decide +kernel)).trans rfl
theorem mt_176 : MT[176]? = some m_176 := rfl
theorem fm_176 (pc : Nat) : fetch 176 pc = lk m_176.2.2.2.2.2 pc := by
  unfold fetch
  rw [mt_176]
theorem f_176_0 : fetch 176 0 = some (0, .aload_n 0, 1, [0], 0) := (fm_176 0).trans rfl
theorem u_176_0 {S : Scr} {d : Nat} {a1 : AV} {st : List AV} {sh : Shp} {I : IM} {R : RM} {x : Nat} : ev S d 176 0 [.inr (.inl x), a1] st (sh, I, R) = ev S d 176 1 [.inr (.inl x), a1] (.inr (.inl x) :: st) (sh, I, R) := (ev_eq f_176_0).trans rfl
theorem f_176_1 : fetch 176 1 = some (1, .invokevirtual 147, 3, [164, 0, 148], 0) := (fm_176 1).trans rfl
theorem u_176_1 {S : Scr} {d : Nat} {a0 a1 : AV} {st : List AV} {sh : Shp} {I : IM} {R : RM} {k : Nat} (h : tg sh k = 9) (hr : st.length ≤ 8) : ev S d 176 1 [a0, a1] (.inr (.inl k) :: st) (sh, I, R) = bnd (cl d 164 [.inr (.inl k)] (sh, I, R)) (fun v M => ev S d 176 4 [a0, a1] (psh v st) M) := (ev_eq f_176_1).trans (congrArg (fin S d 176) (if_pos ⟨h, rfl, hr⟩))
theorem f_176_4 : fetch 176 4 = some (4, .aload_n 0, 1, [0], 0) := (fm_176 4).trans rfl
theorem u_176_4 {S : Scr} {d : Nat} {a1 : AV} {st : List AV} {sh : Shp} {I : IM} {R : RM} {x : Nat} : ev S d 176 4 [.inr (.inl x), a1] st (sh, I, R) = ev S d 176 5 [.inr (.inl x), a1] (.inr (.inl x) :: st) (sh, I, R) := (ev_eq f_176_4).trans rfl
theorem f_176_5 : fetch 176 5 = some (5, .iconst 0, 1, [], 0) := (fm_176 5).trans rfl
theorem u_176_5 {S : Scr} {d : Nat} {a0 a1 : AV} {st : List AV} {sh : Shp} {I : IM} {R : RM} : ev S d 176 5 [a0, a1] st (sh, I, R) = ev S d 176 6 [a0, a1] (.inl 0 :: st) (sh, I, R) := (ev_eq f_176_5).trans rfl
theorem f_176_6 : fetch 176 6 = some (6, .putfield 156, 3, [9, 12, 0, 98], 0) := (fm_176 6).trans rfl
theorem u_176_6 {S : Scr} {d : Nat} {a0 a1 : AV} {st : List AV} {sh : Shp} {I : IM} {R : RM} {k : Nat} {x : Int} (h : tg sh k = 9) : ev S d 176 6 [a0, a1] (.inl x :: .inr (.inl k) :: st) (sh, I, R) = ev S d 176 9 [a0, a1] st (sh, up I k 12 x, R) := (ev_eq f_176_6).trans (congrArg (fin S d 176) (if_pos h))
theorem f_176_9 : fetch 176 9 = some (9, .aload_n 0, 1, [0], 0) := (fm_176 9).trans rfl
theorem u_176_9 {S : Scr} {d : Nat} {a1 : AV} {st : List AV} {sh : Shp} {I : IM} {R : RM} {x : Nat} : ev S d 176 9 [.inr (.inl x), a1] st (sh, I, R) = ev S d 176 10 [.inr (.inl x), a1] (.inr (.inl x) :: st) (sh, I, R) := (ev_eq f_176_9).trans rfl
theorem f_176_10 : fetch 176 10 = some (10, .iload_n 1, 1, [1], 0) := (fm_176 10).trans rfl
theorem u_176_10 {S : Scr} {d : Nat} {a0 : AV} {st : List AV} {sh : Shp} {I : IM} {R : RM} {x : Int} : ev S d 176 10 [a0, .inl x] st (sh, I, R) = ev S d 176 11 [a0, .inl x] (.inl x :: st) (sh, I, R) := (ev_eq f_176_10).trans rfl
theorem f_176_11 : fetch 176 11 = some (11, .invokevirtual 170, 3, [175, 1, 153], 0) := (fm_176 11).trans rfl
theorem u_176_11 {S : Scr} {d : Nat} {a0 a1 : AV} {st : List AV} {sh : Shp} {I : IM} {R : RM} {x0 : Int} {k : Nat} (h : tg sh k = 9) (hr : st.length ≤ 8) : ev S d 176 11 [a0, a1] (.inl x0 :: .inr (.inl k) :: st) (sh, I, R) = bnd (cl d 175 [.inr (.inl k), .inl x0] (sh, I, R)) (fun v M => ev S d 176 14 [a0, a1] (psh v st) M) := (ev_eq f_176_11).trans (congrArg (fin S d 176) (if_pos ⟨h, rfl, hr⟩))
theorem f_176_14 : fetch 176 14 = some (14, .aload_n 0, 1, [0], 0) := (fm_176 14).trans rfl
theorem u_176_14 {S : Scr} {d : Nat} {a1 : AV} {st : List AV} {sh : Shp} {I : IM} {R : RM} {x : Nat} : ev S d 176 14 [.inr (.inl x), a1] st (sh, I, R) = ev S d 176 15 [.inr (.inl x), a1] (.inr (.inl x) :: st) (sh, I, R) := (ev_eq f_176_14).trans rfl
theorem f_176_15 : fetch 176 15 = some (15, .getfield 156, 3, [9, 12, 0, 98], 0) := (fm_176 15).trans rfl
theorem u_176_15 {S : Scr} {d : Nat} {a0 a1 : AV} {st : List AV} {sh : Shp} {I : IM} {R : RM} {k : Nat} (h : tg sh k = 9) : ev S d 176 15 [a0, a1] (.inr (.inl k) :: st) (sh, I, R) = ev S d 176 18 [a0, a1] (.inl (I k 12) :: st) (sh, I, R) := (ev_eq f_176_15).trans (congrArg (fin S d 176) (if_pos h))
theorem f_176_18 : fetch 176 18 = some (18, .sipush 200, 3, [], 200) := (fm_176 18).trans rfl
theorem u_176_18 {S : Scr} {d : Nat} {a0 a1 : AV} {st : List AV} {sh : Shp} {I : IM} {R : RM} : ev S d 176 18 [a0, a1] st (sh, I, R) = ev S d 176 21 [a0, a1] (.inl 200 :: st) (sh, I, R) := (ev_eq f_176_18).trans rfl
theorem f_176_21 : fetch 176 21 = some (21, .if_icmp .gt 7, 3, [28], 0) := (fm_176 21).trans rfl
theorem u_176_21 {S : Scr} {d : Nat} {a0 a1 : AV} {st : List AV} {sh : Shp} {I : IM} {R : RM} {x y : Int} : ev S d 176 21 [a0, a1] (.inl y :: .inl x :: st) (sh, I, R) = if y < x then ev S d 176 28 [a0, a1] st (sh, I, R) else ev S d 176 24 [a0, a1] st (sh, I, R) := (ev_eq f_176_21).trans fin_icmp_gt
theorem f_176_24 : fetch 176 24 = some (24, .iconst 1, 1, [], 1) := (fm_176 24).trans rfl
theorem u_176_24 {S : Scr} {d : Nat} {a0 a1 : AV} {st : List AV} {sh : Shp} {I : IM} {R : RM} : ev S d 176 24 [a0, a1] st (sh, I, R) = ev S d 176 25 [a0, a1] (.inl 1 :: st) (sh, I, R) := (ev_eq f_176_24).trans rfl
theorem f_176_25 : fetch 176 25 = some (25, .goto 4, 3, [29], 0) := (fm_176 25).trans rfl
theorem u_176_25 {S : Scr} {d : Nat} {a0 a1 : AV} {st : List AV} {sh : Shp} {I : IM} {R : RM} : ev S d 176 25 [a0, a1] st (sh, I, R) = ev S d 176 29 [a0, a1] st (sh, I, R) := (ev_eq f_176_25).trans rfl
theorem f_176_28 : fetch 176 28 = some (28, .iconst 0, 1, [], 0) := (fm_176 28).trans rfl
theorem u_176_28 {S : Scr} {d : Nat} {a0 a1 : AV} {st : List AV} {sh : Shp} {I : IM} {R : RM} : ev S d 176 28 [a0, a1] st (sh, I, R) = ev S d 176 29 [a0, a1] (.inl 0 :: st) (sh, I, R) := (ev_eq f_176_28).trans rfl
theorem f_176_29 : fetch 176 29 = some (29, .ireturn, 1, [1], 0) := (fm_176 29).trans rfl
theorem u_176_29 {S : Scr} {d : Nat} {a0 a1 : AV} {sh : Shp} {I : IM} {R : RM} {x : Int} (h : x = 0 ∨ x = 1) : ev S d 176 29 [a0, a1] [.inl x] (sh, I, R) = some (some (.inl x), (sh, I, R)) := (ev_eq f_176_29).trans (fin_iret1 h)
theorem c_177 {d : Nat} {a0 a1 a2 : AV} {M : Mem} : cl (d + 1) 177 [a0, a1, a2] M = ev S0 d 177 0 [a0, a1, a2, .inr (.inr 1)] [] M := (cl_eq (as := [a0, a1, a2]) (show 3 ≤ maxOf 177 by decide +kernel)).trans rfl
theorem mt_177 : MT[177]? = some m_177 := rfl
theorem fm_177 (pc : Nat) : fetch 177 pc = lk m_177.2.2.2.2.2 pc := by
  unfold fetch
  rw [mt_177]
theorem f_177_0 : fetch 177 0 = some (0, .iload_n 1, 1, [1], 0) := (fm_177 0).trans rfl
theorem u_177_0 {S : Scr} {d : Nat} {a0 a2 a3 : AV} {st : List AV} {sh : Shp} {I : IM} {R : RM} {x : Int} : ev S d 177 0 [a0, .inl x, a2, a3] st (sh, I, R) = ev S d 177 1 [a0, .inl x, a2, a3] (.inl x :: st) (sh, I, R) := (ev_eq f_177_0).trans rfl
theorem f_177_1 : fetch 177 1 = some (1, .invokestatic 153, 3, [169, 1, 150], 0) := (fm_177 1).trans rfl
theorem u_177_1 {S : Scr} {d : Nat} {a0 a1 a2 a3 : AV} {st : List AV} {sh : Shp} {I : IM} {R : RM} {x0 : Int} (hr : st.length ≤ 8) : ev S d 177 1 [a0, a1, a2, a3] (.inl x0 :: st) (sh, I, R) = bnd (cl d 169 [.inl x0] (sh, I, R)) (fun v M => ev S d 177 4 [a0, a1, a2, a3] (psh v st) M) := (ev_eq f_177_1).trans (congrArg (fin S d 177) (if_pos ⟨rfl, hr⟩))
theorem f_177_4 : fetch 177 4 = some (4, .ifCond .eq 11, 3, [15], 0) := (fm_177 4).trans rfl
theorem u_177_4 {S : Scr} {d : Nat} {a0 a1 a2 a3 : AV} {st : List AV} {sh : Shp} {I : IM} {R : RM} {x : Int} : ev S d 177 4 [a0, a1, a2, a3] (.inl x :: st) (sh, I, R) = if x = 0 then ev S d 177 15 [a0, a1, a2, a3] st (sh, I, R) else ev S d 177 7 [a0, a1, a2, a3] st (sh, I, R) := (ev_eq f_177_4).trans fin_if_eq
theorem f_177_7 : fetch 177 7 = some (7, .aload_n 0, 1, [0], 0) := (fm_177 7).trans rfl
theorem u_177_7 {S : Scr} {d : Nat} {a1 a2 a3 : AV} {st : List AV} {sh : Shp} {I : IM} {R : RM} {x : Nat} : ev S d 177 7 [.inr (.inl x), a1, a2, a3] st (sh, I, R) = ev S d 177 8 [.inr (.inl x), a1, a2, a3] (.inr (.inl x) :: st) (sh, I, R) := (ev_eq f_177_7).trans rfl
theorem f_177_8 : fetch 177 8 = some (8, .iload_n 2, 1, [2], 0) := (fm_177 8).trans rfl
theorem u_177_8 {S : Scr} {d : Nat} {a0 a1 a3 : AV} {st : List AV} {sh : Shp} {I : IM} {R : RM} {x : Int} : ev S d 177 8 [a0, a1, .inl x, a3] st (sh, I, R) = ev S d 177 9 [a0, a1, .inl x, a3] (.inl x :: st) (sh, I, R) := (ev_eq f_177_8).trans rfl
theorem f_177_9 : fetch 177 9 = some (9, .invokevirtual 122, 3, [134, 1, 141], 0) := (fm_177 9).trans rfl
theorem u_177_9 {S : Scr} {d : Nat} {a0 a1 a2 a3 : AV} {st : List AV} {sh : Shp} {I : IM} {R : RM} {x0 : Int} {k : Nat} (h : tg sh k = 9) (hr : st.length ≤ 8) : ev S d 177 9 [a0, a1, a2, a3] (.inl x0 :: .inr (.inl k) :: st) (sh, I, R) = bnd (cl d 134 [.inr (.inl k), .inl x0] (sh, I, R)) (fun v M => ev S d 177 12 [a0, a1, a2, a3] (psh v st) M) := (ev_eq f_177_9).trans (congrArg (fin S d 177) (if_pos ⟨h, rfl, hr⟩))
theorem f_177_12 : fetch 177 12 = some (12, .ifCond .ne 5, 3, [17], 0) := (fm_177 12).trans rfl
theorem u_177_12 {S : Scr} {d : Nat} {a0 a1 a2 a3 : AV} {st : List AV} {sh : Shp} {I : IM} {R : RM} {x : Int} : ev S d 177 12 [a0, a1, a2, a3] (.inl x :: st) (sh, I, R) = if ¬ x = 0 then ev S d 177 17 [a0, a1, a2, a3] st (sh, I, R) else ev S d 177 15 [a0, a1, a2, a3] st (sh, I, R) := (ev_eq f_177_12).trans fin_if_ne
theorem f_177_15 : fetch 177 15 = some (15, .iconst (-1), 1, [], (-1)) := (fm_177 15).trans rfl
theorem u_177_15 {S : Scr} {d : Nat} {a0 a1 a2 a3 : AV} {st : List AV} {sh : Shp} {I : IM} {R : RM} : ev S d 177 15 [a0, a1, a2, a3] st (sh, I, R) = ev S d 177 16 [a0, a1, a2, a3] (.inl (-1) :: st) (sh, I, R) := (ev_eq f_177_15).trans rfl
theorem f_177_16 : fetch 177 16 = some (16, .ireturn, 1, [0], 0) := (fm_177 16).trans rfl
theorem u_177_16 {S : Scr} {d : Nat} {a0 a1 a2 a3 : AV} {sh : Shp} {I : IM} {R : RM} {x : Int} : ev S d 177 16 [a0, a1, a2, a3] [.inl x] (sh, I, R) = some (some (.inl x), (sh, I, R)) := (ev_eq f_177_16).trans fin_iret0
theorem f_177_17 : fetch 177 17 = some (17, .aload_n 0, 1, [0], 0) := (fm_177 17).trans rfl
theorem u_177_17 {S : Scr} {d : Nat} {a1 a2 a3 : AV} {st : List AV} {sh : Shp} {I : IM} {R : RM} {x : Nat} : ev S d 177 17 [.inr (.inl x), a1, a2, a3] st (sh, I, R) = ev S d 177 18 [.inr (.inl x), a1, a2, a3] (.inr (.inl x) :: st) (sh, I, R) := (ev_eq f_177_17).trans rfl
theorem f_177_18 : fetch 177 18 = some (18, .iload_n 2, 1, [2], 0) := (fm_177 18).trans rfl
theorem u_177_18 {S : Scr} {d : Nat} {a0 a1 a3 : AV} {st : List AV} {sh : Shp} {I : IM} {R : RM} {x : Int} : ev S d 177 18 [a0, a1, .inl x, a3] st (sh, I, R) = ev S d 177 19 [a0, a1, .inl x, a3] (.inl x :: st) (sh, I, R) := (ev_eq f_177_18).trans rfl
theorem f_177_19 : fetch 177 19 = some (19, .invokevirtual 173, 3, [176, 1, 154], 0) := (fm_177 19).trans rfl
theorem u_177_19 {S : Scr} {d : Nat} {a0 a1 a2 a3 : AV} {st : List AV} {sh : Shp} {I : IM} {R : RM} {x0 : Int} {k : Nat} (h : tg sh k = 9) (hr : st.length ≤ 8) : ev S d 177 19 [a0, a1, a2, a3] (.inl x0 :: .inr (.inl k) :: st) (sh, I, R) = bnd (cl d 176 [.inr (.inl k), .inl x0] (sh, I, R)) (fun v M => ev S d 177 22 [a0, a1, a2, a3] (psh v st) M) := (ev_eq f_177_19).trans (congrArg (fin S d 177) (if_pos ⟨h, rfl, hr⟩))
theorem f_177_22 : fetch 177 22 = some (22, .ifCond .ne 6, 3, [28], 0) := (fm_177 22).trans rfl
theorem u_177_22 {S : Scr} {d : Nat} {a0 a1 a2 a3 : AV} {st : List AV} {sh : Shp} {I : IM} {R : RM} {x : Int} : ev S d 177 22 [a0, a1, a2, a3] (.inl x :: st) (sh, I, R) = if ¬ x = 0 then ev S d 177 28 [a0, a1, a2, a3] st (sh, I, R) else ev S d 177 25 [a0, a1, a2, a3] st (sh, I, R) := (ev_eq f_177_22).trans fin_if_ne
theorem f_177_25 : fetch 177 25 = some (25, .bipush (-3), 2, [], (-3)) := (fm_177 25).trans rfl
theorem u_177_25 {S : Scr} {d : Nat} {a0 a1 a2 a3 : AV} {st : List AV} {sh : Shp} {I : IM} {R : RM} : ev S d 177 25 [a0, a1, a2, a3] st (sh, I, R) = ev S d 177 27 [a0, a1, a2, a3] (.inl (-3) :: st) (sh, I, R) := (ev_eq f_177_25).trans rfl
theorem f_177_27 : fetch 177 27 = some (27, .ireturn, 1, [0], 0) := (fm_177 27).trans rfl
theorem u_177_27 {S : Scr} {d : Nat} {a0 a1 a2 a3 : AV} {sh : Shp} {I : IM} {R : RM} {x : Int} : ev S d 177 27 [a0, a1, a2, a3] [.inl x] (sh, I, R) = some (some (.inl x), (sh, I, R)) := (ev_eq f_177_27).trans fin_iret0
theorem f_177_28 : fetch 177 28 = some (28, .aload_n 0, 1, [0], 0) := (fm_177 28).trans rfl
theorem u_177_28 {S : Scr} {d : Nat} {a1 a2 a3 : AV} {st : List AV} {sh : Shp} {I : IM} {R : RM} {x : Nat} : ev S d 177 28 [.inr (.inl x), a1, a2, a3] st (sh, I, R) = ev S d 177 29 [.inr (.inl x), a1, a2, a3] (.inr (.inl x) :: st) (sh, I, R) := (ev_eq f_177_28).trans rfl
theorem f_177_29 : fetch 177 29 = some (29, .getfield 22, 3, [9, 5, 1, 83], 0) := (fm_177 29).trans rfl
theorem u_177_29 {S : Scr} {d : Nat} {a0 a1 a2 a3 : AV} {st : List AV} {sh : Shp} {I : IM} {R : RM} {k : Nat} (h : tg sh k = 9) : ev S d 177 29 [a0, a1, a2, a3] (.inr (.inl k) :: st) (sh, I, R) = ev S d 177 32 [a0, a1, a2, a3] (rv (R k 5) :: st) (sh, I, R) := (ev_eq f_177_29).trans (congrArg (fin S d 177) (if_pos h))
theorem f_177_32 : fetch 177 32 = some (32, .iload_n 1, 1, [1], 0) := (fm_177 32).trans rfl
theorem u_177_32 {S : Scr} {d : Nat} {a0 a2 a3 : AV} {st : List AV} {sh : Shp} {I : IM} {R : RM} {x : Int} : ev S d 177 32 [a0, .inl x, a2, a3] st (sh, I, R) = ev S d 177 33 [a0, .inl x, a2, a3] (.inl x :: st) (sh, I, R) := (ev_eq f_177_32).trans rfl
theorem f_177_33 : fetch 177 33 = some (33, .aload_n 0, 1, [0], 0) := (fm_177 33).trans rfl
theorem u_177_33 {S : Scr} {d : Nat} {a1 a2 a3 : AV} {st : List AV} {sh : Shp} {I : IM} {R : RM} {x : Nat} : ev S d 177 33 [.inr (.inl x), a1, a2, a3] st (sh, I, R) = ev S d 177 34 [.inr (.inl x), a1, a2, a3] (.inr (.inl x) :: st) (sh, I, R) := (ev_eq f_177_33).trans rfl
theorem f_177_34 : fetch 177 34 = some (34, .getfield 156, 3, [9, 12, 0, 98], 0) := (fm_177 34).trans rfl
theorem u_177_34 {S : Scr} {d : Nat} {a0 a1 a2 a3 : AV} {st : List AV} {sh : Shp} {I : IM} {R : RM} {k : Nat} (h : tg sh k = 9) : ev S d 177 34 [a0, a1, a2, a3] (.inr (.inl k) :: st) (sh, I, R) = ev S d 177 37 [a0, a1, a2, a3] (.inl (I k 12) :: st) (sh, I, R) := (ev_eq f_177_34).trans (congrArg (fin S d 177) (if_pos h))
theorem f_177_37 : fetch 177 37 = some (37, .iastore, 1, [], 0) := (fm_177 37).trans rfl
theorem u_177_37 {S : Scr} {d : Nat} {a0 a1 a2 a3 : AV} {st : List AV} {sh : Shp} {I : IM} {R : RM} {k : Nat} {i x : Int} (h : tg sh k = 100) (h0 : 0 ≤ i) (h1 : i < ln sh k) : ev S d 177 37 [a0, a1, a2, a3] (.inl x :: .inl i :: .inr (.inl k) :: st) (sh, I, R) = ev S d 177 38 [a0, a1, a2, a3] st (sh, up I k i x, R) := (ev_eq f_177_37).trans (congrArg (fin S d 177) (if_pos ⟨h, h0, h1⟩))
theorem f_177_38 : fetch 177 38 = some (38, .iconst 0, 1, [], 0) := (fm_177 38).trans rfl
theorem u_177_38 {S : Scr} {d : Nat} {a0 a1 a2 a3 : AV} {st : List AV} {sh : Shp} {I : IM} {R : RM} : ev S d 177 38 [a0, a1, a2, a3] st (sh, I, R) = ev S d 177 39 [a0, a1, a2, a3] (.inl 0 :: st) (sh, I, R) := (ev_eq f_177_38).trans rfl
theorem f_177_39 : fetch 177 39 = some (39, .istore_n 3, 1, [3], 0) := (fm_177 39).trans rfl
theorem u_177_39 {S : Scr} {d : Nat} {a0 a1 a2 a3 : AV} {st : List AV} {sh : Shp} {I : IM} {R : RM} {x : Int} : ev S d 177 39 [a0, a1, a2, a3] (.inl x :: st) (sh, I, R) = ev S d 177 40 [a0, a1, a2, .inl x] st (sh, I, R) := (ev_eq f_177_39).trans rfl
theorem f_177_40 : fetch 177 40 = some (40, .iload_n 3, 1, [3], 0) := (fm_177 40).trans rfl
theorem u_177_40 {S : Scr} {d : Nat} {a0 a1 a2 : AV} {st : List AV} {sh : Shp} {I : IM} {R : RM} {x : Int} : ev S d 177 40 [a0, a1, a2, .inl x] st (sh, I, R) = ev S d 177 41 [a0, a1, a2, .inl x] (.inl x :: st) (sh, I, R) := (ev_eq f_177_40).trans rfl
theorem f_177_41 : fetch 177 41 = some (41, .aload_n 0, 1, [0], 0) := (fm_177 41).trans rfl
theorem u_177_41 {S : Scr} {d : Nat} {a1 a2 a3 : AV} {st : List AV} {sh : Shp} {I : IM} {R : RM} {x : Nat} : ev S d 177 41 [.inr (.inl x), a1, a2, a3] st (sh, I, R) = ev S d 177 42 [.inr (.inl x), a1, a2, a3] (.inr (.inl x) :: st) (sh, I, R) := (ev_eq f_177_41).trans rfl
theorem f_177_42 : fetch 177 42 = some (42, .getfield 156, 3, [9, 12, 0, 98], 0) := (fm_177 42).trans rfl
theorem u_177_42 {S : Scr} {d : Nat} {a0 a1 a2 a3 : AV} {st : List AV} {sh : Shp} {I : IM} {R : RM} {k : Nat} (h : tg sh k = 9) : ev S d 177 42 [a0, a1, a2, a3] (.inr (.inl k) :: st) (sh, I, R) = ev S d 177 45 [a0, a1, a2, a3] (.inl (I k 12) :: st) (sh, I, R) := (ev_eq f_177_42).trans (congrArg (fin S d 177) (if_pos h))
theorem f_177_45 : fetch 177 45 = some (45, .if_icmp .ge 27, 3, [72], 0) := (fm_177 45).trans rfl
theorem u_177_45 {S : Scr} {d : Nat} {a0 a1 a2 a3 : AV} {st : List AV} {sh : Shp} {I : IM} {R : RM} {x y : Int} : ev S d 177 45 [a0, a1, a2, a3] (.inl y :: .inl x :: st) (sh, I, R) = if y ≤ x then ev S d 177 72 [a0, a1, a2, a3] st (sh, I, R) else ev S d 177 48 [a0, a1, a2, a3] st (sh, I, R) := (ev_eq f_177_45).trans fin_icmp_ge
theorem f_177_48 : fetch 177 48 = some (48, .aload_n 0, 1, [0], 0) := (fm_177 48).trans rfl
theorem u_177_48 {S : Scr} {d : Nat} {a1 a2 a3 : AV} {st : List AV} {sh : Shp} {I : IM} {R : RM} {x : Nat} : ev S d 177 48 [.inr (.inl x), a1, a2, a3] st (sh, I, R) = ev S d 177 49 [.inr (.inl x), a1, a2, a3] (.inr (.inl x) :: st) (sh, I, R) := (ev_eq f_177_48).trans rfl
theorem f_177_49 : fetch 177 49 = some (49, .getfield 25, 3, [9, 6, 1, 84], 0) := (fm_177 49).trans rfl
theorem u_177_49 {S : Scr} {d : Nat} {a0 a1 a2 a3 : AV} {st : List AV} {sh : Shp} {I : IM} {R : RM} {k : Nat} (h : tg sh k = 9) : ev S d 177 49 [a0, a1, a2, a3] (.inr (.inl k) :: st) (sh, I, R) = ev S d 177 52 [a0, a1, a2, a3] (rv (R k 6) :: st) (sh, I, R) := (ev_eq f_177_49).trans (congrArg (fin S d 177) (if_pos h))
theorem f_177_52 : fetch 177 52 = some (52, .sipush 200, 3, [], 200) := (fm_177 52).trans rfl
theorem u_177_52 {S : Scr} {d : Nat} {a0 a1 a2 a3 : AV} {st : List AV} {sh : Shp} {I : IM} {R : RM} : ev S d 177 52 [a0, a1, a2, a3] st (sh, I, R) = ev S d 177 55 [a0, a1, a2, a3] (.inl 200 :: st) (sh, I, R) := (ev_eq f_177_52).trans rfl
theorem f_177_55 : fetch 177 55 = some (55, .iload_n 1, 1, [1], 0) := (fm_177 55).trans rfl
theorem u_177_55 {S : Scr} {d : Nat} {a0 a2 a3 : AV} {st : List AV} {sh : Shp} {I : IM} {R : RM} {x : Int} : ev S d 177 55 [a0, .inl x, a2, a3] st (sh, I, R) = ev S d 177 56 [a0, .inl x, a2, a3] (.inl x :: st) (sh, I, R) := (ev_eq f_177_55).trans rfl
theorem f_177_56 : fetch 177 56 = some (56, .imul, 1, [], 0) := (fm_177 56).trans rfl
theorem u_177_56 {S : Scr} {d : Nat} {a0 a1 a2 a3 : AV} {st : List AV} {sh : Shp} {I : IM} {R : RM} {x y : Int} : ev S d 177 56 [a0, a1, a2, a3] (.inl y :: .inl x :: st) (sh, I, R) = ev S d 177 57 [a0, a1, a2, a3] (.inl (wr (x * y)) :: st) (sh, I, R) := (ev_eq f_177_56).trans rfl
theorem f_177_57 : fetch 177 57 = some (57, .iload_n 3, 1, [3], 0) := (fm_177 57).trans rfl
theorem u_177_57 {S : Scr} {d : Nat} {a0 a1 a2 : AV} {st : List AV} {sh : Shp} {I : IM} {R : RM} {x : Int} : ev S d 177 57 [a0, a1, a2, .inl x] st (sh, I, R) = ev S d 177 58 [a0, a1, a2, .inl x] (.inl x :: st) (sh, I, R) := (ev_eq f_177_57).trans rfl
theorem f_177_58 : fetch 177 58 = some (58, .iadd, 1, [], 0) := (fm_177 58).trans rfl
theorem u_177_58 {S : Scr} {d : Nat} {a0 a1 a2 a3 : AV} {st : List AV} {sh : Shp} {I : IM} {R : RM} {x y : Int} : ev S d 177 58 [a0, a1, a2, a3] (.inl y :: .inl x :: st) (sh, I, R) = ev S d 177 59 [a0, a1, a2, a3] (.inl (wr (x + y)) :: st) (sh, I, R) := (ev_eq f_177_58).trans rfl
theorem f_177_59 : fetch 177 59 = some (59, .aload_n 0, 1, [0], 0) := (fm_177 59).trans rfl
theorem u_177_59 {S : Scr} {d : Nat} {a1 a2 a3 : AV} {st : List AV} {sh : Shp} {I : IM} {R : RM} {x : Nat} : ev S d 177 59 [.inr (.inl x), a1, a2, a3] st (sh, I, R) = ev S d 177 60 [.inr (.inl x), a1, a2, a3] (.inr (.inl x) :: st) (sh, I, R) := (ev_eq f_177_59).trans rfl
theorem f_177_60 : fetch 177 60 = some (60, .getfield 37, 3, [9, 11, 1, 88], 0) := (fm_177 60).trans rfl
theorem u_177_60 {S : Scr} {d : Nat} {a0 a1 a2 a3 : AV} {st : List AV} {sh : Shp} {I : IM} {R : RM} {k : Nat} (h : tg sh k = 9) : ev S d 177 60 [a0, a1, a2, a3] (.inr (.inl k) :: st) (sh, I, R) = ev S d 177 63 [a0, a1, a2, a3] (rv (R k 11) :: st) (sh, I, R) := (ev_eq f_177_60).trans (congrArg (fin S d 177) (if_pos h))
theorem f_177_63 : fetch 177 63 = some (63, .iload_n 3, 1, [3], 0) := (fm_177 63).trans rfl
theorem u_177_63 {S : Scr} {d : Nat} {a0 a1 a2 : AV} {st : List AV} {sh : Shp} {I : IM} {R : RM} {x : Int} : ev S d 177 63 [a0, a1, a2, .inl x] st (sh, I, R) = ev S d 177 64 [a0, a1, a2, .inl x] (.inl x :: st) (sh, I, R) := (ev_eq f_177_63).trans rfl
theorem f_177_64 : fetch 177 64 = some (64, .iaload, 1, [], 0) := (fm_177 64).trans rfl
theorem u_177_64 {S : Scr} {d : Nat} {a0 a1 a2 a3 : AV} {st : List AV} {sh : Shp} {I : IM} {R : RM} {k : Nat} {i : Int} (h : tg sh k = 100) (h0 : 0 ≤ i) (h1 : i < ln sh k) : ev S d 177 64 [a0, a1, a2, a3] (.inl i :: .inr (.inl k) :: st) (sh, I, R) = ev S d 177 65 [a0, a1, a2, a3] (.inl (I k i) :: st) (sh, I, R) := (ev_eq f_177_64).trans (congrArg (fin S d 177) (if_pos ⟨h, h0, h1⟩))
theorem f_177_65 : fetch 177 65 = some (65, .iastore, 1, [], 0) := (fm_177 65).trans rfl
theorem u_177_65 {S : Scr} {d : Nat} {a0 a1 a2 a3 : AV} {st : List AV} {sh : Shp} {I : IM} {R : RM} {k : Nat} {i x : Int} (h : tg sh k = 100) (h0 : 0 ≤ i) (h1 : i < ln sh k) : ev S d 177 65 [a0, a1, a2, a3] (.inl x :: .inl i :: .inr (.inl k) :: st) (sh, I, R) = ev S d 177 66 [a0, a1, a2, a3] st (sh, up I k i x, R) := (ev_eq f_177_65).trans (congrArg (fin S d 177) (if_pos ⟨h, h0, h1⟩))
theorem f_177_66 : fetch 177 66 = some (66, .iinc 3 1, 3, [3], 1) := (fm_177 66).trans rfl
theorem u_177_66 {S : Scr} {d : Nat} {a0 a1 a2 : AV} {st : List AV} {sh : Shp} {I : IM} {R : RM} {x : Int} : ev S d 177 66 [a0, a1, a2, .inl x] st (sh, I, R) = ev S d 177 69 [a0, a1, a2, .inl (wr (x + 1))] st (sh, I, R) := (ev_eq f_177_66).trans rfl
theorem f_177_69 : fetch 177 69 = some (69, .goto (-29), 3, [40], 0) := (fm_177 69).trans rfl
theorem u_177_69 {S : Scr} {d : Nat} {a0 a1 a2 a3 : AV} {st : List AV} {sh : Shp} {I : IM} {R : RM} : ev S d 177 69 [a0, a1, a2, a3] st (sh, I, R) = ev S d 177 40 [a0, a1, a2, a3] st (sh, I, R) := (ev_eq f_177_69).trans rfl
theorem f_177_72 : fetch 177 72 = some (72, .aload_n 0, 1, [0], 0) := (fm_177 72).trans rfl
theorem u_177_72 {S : Scr} {d : Nat} {a1 a2 a3 : AV} {st : List AV} {sh : Shp} {I : IM} {R : RM} {x : Nat} : ev S d 177 72 [.inr (.inl x), a1, a2, a3] st (sh, I, R) = ev S d 177 73 [.inr (.inl x), a1, a2, a3] (.inr (.inl x) :: st) (sh, I, R) := (ev_eq f_177_72).trans rfl
theorem f_177_73 : fetch 177 73 = some (73, .getfield 156, 3, [9, 12, 0, 98], 0) := (fm_177 73).trans rfl
theorem u_177_73 {S : Scr} {d : Nat} {a0 a1 a2 a3 : AV} {st : List AV} {sh : Shp} {I : IM} {R : RM} {k : Nat} (h : tg sh k = 9) : ev S d 177 73 [a0, a1, a2, a3] (.inr (.inl k) :: st) (sh, I, R) = ev S d 177 76 [a0, a1, a2, a3] (.inl (I k 12) :: st) (sh, I, R) := (ev_eq f_177_73).trans (congrArg (fin S d 177) (if_pos h))
theorem f_177_76 : fetch 177 76 = some (76, .ireturn, 1, [0], 0) := (fm_177 76).trans rfl
theorem u_177_76 {S : Scr} {d : Nat} {a0 a1 a2 a3 : AV} {sh : Shp} {I : IM} {R : RM} {x : Int} : ev S d 177 76 [a0, a1, a2, a3] [.inl x] (sh, I, R) = some (some (.inl x), (sh, I, R)) := (ev_eq f_177_76).trans fin_iret0
theorem c_178 {d : Nat} {a0 : AV} {M : Mem} : cl (d + 1) 178 [a0] M = ev S0 d 178 0 [a0] [] M := (cl_eq (as := [a0]) (show 1 ≤ maxOf 178 by decide +kernel)).trans rfl
theorem mt_178 : MT[178]? = some m_178 := rfl
theorem fm_178 (pc : Nat) : fetch 178 pc = lk m_178.2.2.2.2.2 pc := by
  unfold fetch
  rw [mt_178]
theorem f_178_0 : fetch 178 0 = some (0, .aload_n 0, 1, [0], 0) := (fm_178 0).trans rfl
theorem u_178_0 {S : Scr} {d : Nat} {st : List AV} {sh : Shp} {I : IM} {R : RM} {x : Nat} : ev S d 178 0 [.inr (.inl x)] st (sh, I, R) = ev S d 178 1 [.inr (.inl x)] (.inr (.inl x) :: st) (sh, I, R) := (ev_eq f_178_0).trans rfl
theorem f_178_1 : fetch 178 1 = some (1, .getfield 176, 3, [9, 18, 0, 99], 0) := (fm_178 1).trans rfl
theorem u_178_1 {S : Scr} {d : Nat} {a0 : AV} {st : List AV} {sh : Shp} {I : IM} {R : RM} {k : Nat} (h : tg sh k = 9) : ev S d 178 1 [a0] (.inr (.inl k) :: st) (sh, I, R) = ev S d 178 4 [a0] (.inl (I k 18) :: st) (sh, I, R) := (ev_eq f_178_1).trans (congrArg (fin S d 178) (if_pos h))
theorem f_178_4 : fetch 178 4 = some (4, .aload_n 0, 1, [0], 0) := (fm_178 4).trans rfl
theorem u_178_4 {S : Scr} {d : Nat} {st : List AV} {sh : Shp} {I : IM} {R : RM} {x : Nat} : ev S d 178 4 [.inr (.inl x)] st (sh, I, R) = ev S d 178 5 [.inr (.inl x)] (.inr (.inl x) :: st) (sh, I, R) := (ev_eq f_178_4).trans rfl
theorem f_178_5 : fetch 178 5 = some (5, .getfield 179, 3, [9, 17, 0, 100], 0) := (fm_178 5).trans rfl
theorem u_178_5 {S : Scr} {d : Nat} {a0 : AV} {st : List AV} {sh : Shp} {I : IM} {R : RM} {k : Nat} (h : tg sh k = 9) : ev S d 178 5 [a0] (.inr (.inl k) :: st) (sh, I, R) = ev S d 178 8 [a0] (.inl (I k 17) :: st) (sh, I, R) := (ev_eq f_178_5).trans (congrArg (fin S d 178) (if_pos h))
theorem f_178_8 : fetch 178 8 = some (8, .if_icmp .ge 20, 3, [28], 0) := (fm_178 8).trans rfl
theorem u_178_8 {S : Scr} {d : Nat} {a0 : AV} {st : List AV} {sh : Shp} {I : IM} {R : RM} {x y : Int} : ev S d 178 8 [a0] (.inl y :: .inl x :: st) (sh, I, R) = if y ≤ x then ev S d 178 28 [a0] st (sh, I, R) else ev S d 178 11 [a0] st (sh, I, R) := (ev_eq f_178_8).trans fin_icmp_ge
theorem f_178_11 : fetch 178 11 = some (11, .aload_n 0, 1, [0], 0) := (fm_178 11).trans rfl
theorem u_178_11 {S : Scr} {d : Nat} {st : List AV} {sh : Shp} {I : IM} {R : RM} {x : Nat} : ev S d 178 11 [.inr (.inl x)] st (sh, I, R) = ev S d 178 12 [.inr (.inl x)] (.inr (.inl x) :: st) (sh, I, R) := (ev_eq f_178_11).trans rfl
theorem f_178_12 : fetch 178 12 = some (12, .getfield 25, 3, [9, 6, 1, 84], 0) := (fm_178 12).trans rfl
theorem u_178_12 {S : Scr} {d : Nat} {a0 : AV} {st : List AV} {sh : Shp} {I : IM} {R : RM} {k : Nat} (h : tg sh k = 9) : ev S d 178 12 [a0] (.inr (.inl k) :: st) (sh, I, R) = ev S d 178 15 [a0] (rv (R k 6) :: st) (sh, I, R) := (ev_eq f_178_12).trans (congrArg (fin S d 178) (if_pos h))
theorem f_178_15 : fetch 178 15 = some (15, .aload_n 0, 1, [0], 0) := (fm_178 15).trans rfl
theorem u_178_15 {S : Scr} {d : Nat} {st : List AV} {sh : Shp} {I : IM} {R : RM} {x : Nat} : ev S d 178 15 [.inr (.inl x)] st (sh, I, R) = ev S d 178 16 [.inr (.inl x)] (.inr (.inl x) :: st) (sh, I, R) := (ev_eq f_178_15).trans rfl
theorem f_178_16 : fetch 178 16 = some (16, .getfield 182, 3, [9, 16, 0, 101], 0) := (fm_178 16).trans rfl
theorem u_178_16 {S : Scr} {d : Nat} {a0 : AV} {st : List AV} {sh : Shp} {I : IM} {R : RM} {k : Nat} (h : tg sh k = 9) : ev S d 178 16 [a0] (.inr (.inl k) :: st) (sh, I, R) = ev S d 178 19 [a0] (.inl (I k 16) :: st) (sh, I, R) := (ev_eq f_178_16).trans (congrArg (fin S d 178) (if_pos h))
theorem f_178_19 : fetch 178 19 = some (19, .aload_n 0, 1, [0], 0) := (fm_178 19).trans rfl
theorem u_178_19 {S : Scr} {d : Nat} {st : List AV} {sh : Shp} {I : IM} {R : RM} {x : Nat} : ev S d 178 19 [.inr (.inl x)] st (sh, I, R) = ev S d 178 20 [.inr (.inl x)] (.inr (.inl x) :: st) (sh, I, R) := (ev_eq f_178_19).trans rfl
theorem f_178_20 : fetch 178 20 = some (20, .getfield 176, 3, [9, 18, 0, 99], 0) := (fm_178 20).trans rfl
theorem u_178_20 {S : Scr} {d : Nat} {a0 : AV} {st : List AV} {sh : Shp} {I : IM} {R : RM} {k : Nat} (h : tg sh k = 9) : ev S d 178 20 [a0] (.inr (.inl k) :: st) (sh, I, R) = ev S d 178 23 [a0] (.inl (I k 18) :: st) (sh, I, R) := (ev_eq f_178_20).trans (congrArg (fin S d 178) (if_pos h))
theorem f_178_23 : fetch 178 23 = some (23, .iadd, 1, [], 0) := (fm_178 23).trans rfl
theorem u_178_23 {S : Scr} {d : Nat} {a0 : AV} {st : List AV} {sh : Shp} {I : IM} {R : RM} {x y : Int} : ev S d 178 23 [a0] (.inl y :: .inl x :: st) (sh, I, R) = ev S d 178 24 [a0] (.inl (wr (x + y)) :: st) (sh, I, R) := (ev_eq f_178_23).trans rfl
theorem f_178_24 : fetch 178 24 = some (24, .iaload, 1, [], 0) := (fm_178 24).trans rfl
theorem u_178_24 {S : Scr} {d : Nat} {a0 : AV} {st : List AV} {sh : Shp} {I : IM} {R : RM} {k : Nat} {i : Int} (h : tg sh k = 100) (h0 : 0 ≤ i) (h1 : i < ln sh k) : ev S d 178 24 [a0] (.inl i :: .inr (.inl k) :: st) (sh, I, R) = ev S d 178 25 [a0] (.inl (I k i) :: st) (sh, I, R) := (ev_eq f_178_24).trans (congrArg (fin S d 178) (if_pos ⟨h, h0, h1⟩))
theorem f_178_25 : fetch 178 25 = some (25, .goto 4, 3, [29], 0) := (fm_178 25).trans rfl
theorem u_178_25 {S : Scr} {d : Nat} {a0 : AV} {st : List AV} {sh : Shp} {I : IM} {R : RM} : ev S d 178 25 [a0] st (sh, I, R) = ev S d 178 29 [a0] st (sh, I, R) := (ev_eq f_178_25).trans rfl
theorem f_178_28 : fetch 178 28 = some (28, .iconst (-1), 1, [], (-1)) := (fm_178 28).trans rfl
theorem u_178_28 {S : Scr} {d : Nat} {a0 : AV} {st : List AV} {sh : Shp} {I : IM} {R : RM} : ev S d 178 28 [a0] st (sh, I, R) = ev S d 178 29 [a0] (.inl (-1) :: st) (sh, I, R) := (ev_eq f_178_28).trans rfl
theorem f_178_29 : fetch 178 29 = some (29, .ireturn, 1, [0], 0) := (fm_178 29).trans rfl
theorem u_178_29 {S : Scr} {d : Nat} {a0 : AV} {sh : Shp} {I : IM} {R : RM} {x : Int} : ev S d 178 29 [a0] [.inl x] (sh, I, R) = some (some (.inl x), (sh, I, R)) := (ev_eq f_178_29).trans fin_iret0
theorem c_179 {d : Nat} {a0 a1 a2 : AV} {M : Mem} : cl (d + 1) 179 [a0, a1, a2] M = ev S0 d 179 0 [a0, a1, a2] [] M := (cl_eq (as := [a0, a1, a2]) (show 3 ≤ maxOf 179 by decide +kernel)).trans rfl
theorem mt_179 : MT[179]? = some m_179 := rfl
theorem fm_179 (pc : Nat) : fetch 179 pc = lk m_179.2.2.2.2.2 pc := by
  unfold fetch
  rw [mt_179]
theorem f_179_0 : fetch 179 0 = some (0, .aload_n 0, 1, [0], 0) := (fm_179 0).trans rfl
theorem u_179_0 {S : Scr} {d : Nat} {a1 a2 : AV} {st : List AV} {sh : Shp} {I : IM} {R : RM} {x : Nat} : ev S d 179 0 [.inr (.inl x), a1, a2] st (sh, I, R) = ev S d 179 1 [.inr (.inl x), a1, a2] (.inr (.inl x) :: st) (sh, I, R) := (ev_eq f_179_0).trans rfl
theorem f_179_1 : fetch 179 1 = some (1, .iconst 1, 1, [], 1) := (fm_179 1).trans rfl
theorem u_179_1 {S : Scr} {d : Nat} {a0 a1 a2 : AV} {st : List AV} {sh : Shp} {I : IM} {R : RM} : ev S d 179 1 [a0, a1, a2] st (sh, I, R) = ev S d 179 2 [a0, a1, a2] (.inl 1 :: st) (sh, I, R) := (ev_eq f_179_1).trans rfl
theorem f_179_2 : fetch 179 2 = some (2, .putfield 185, 3, [9, 15, 0, 102], 0) := (fm_179 2).trans rfl
theorem u_179_2 {S : Scr} {d : Nat} {a0 a1 a2 : AV} {st : List AV} {sh : Shp} {I : IM} {R : RM} {k : Nat} {x : Int} (h : tg sh k = 9) : ev S d 179 2 [a0, a1, a2] (.inl x :: .inr (.inl k) :: st) (sh, I, R) = ev S d 179 5 [a0, a1, a2] st (sh, up I k 15 x, R) := (ev_eq f_179_2).trans (congrArg (fin S d 179) (if_pos h))
theorem f_179_5 : fetch 179 5 = some (5, .aload_n 0, 1, [0], 0) := (fm_179 5).trans rfl
theorem u_179_5 {S : Scr} {d : Nat} {a1 a2 : AV} {st : List AV} {sh : Shp} {I : IM} {R : RM} {x : Nat} : ev S d 179 5 [.inr (.inl x), a1, a2] st (sh, I, R) = ev S d 179 6 [.inr (.inl x), a1, a2] (.inr (.inl x) :: st) (sh, I, R) := (ev_eq f_179_5).trans rfl
theorem f_179_6 : fetch 179 6 = some (6, .getfield 40, 3, [9, 13, 1, 89], 0) := (fm_179 6).trans rfl
theorem u_179_6 {S : Scr} {d : Nat} {a0 a1 a2 : AV} {st : List AV} {sh : Shp} {I : IM} {R : RM} {k : Nat} (h : tg sh k = 9) : ev S d 179 6 [a0, a1, a2] (.inr (.inl k) :: st) (sh, I, R) = ev S d 179 9 [a0, a1, a2] (rv (R k 13) :: st) (sh, I, R) := (ev_eq f_179_6).trans (congrArg (fin S d 179) (if_pos h))
theorem f_179_9 : fetch 179 9 = some (9, .iconst 0, 1, [], 0) := (fm_179 9).trans rfl
theorem u_179_9 {S : Scr} {d : Nat} {a0 a1 a2 : AV} {st : List AV} {sh : Shp} {I : IM} {R : RM} : ev S d 179 9 [a0, a1, a2] st (sh, I, R) = ev S d 179 10 [a0, a1, a2] (.inl 0 :: st) (sh, I, R) := (ev_eq f_179_9).trans rfl
theorem f_179_10 : fetch 179 10 = some (10, .iload_n 1, 1, [1], 0) := (fm_179 10).trans rfl
theorem u_179_10 {S : Scr} {d : Nat} {a0 a2 : AV} {st : List AV} {sh : Shp} {I : IM} {R : RM} {x : Int} : ev S d 179 10 [a0, .inl x, a2] st (sh, I, R) = ev S d 179 11 [a0, .inl x, a2] (.inl x :: st) (sh, I, R) := (ev_eq f_179_10).trans rfl
theorem f_179_11 : fetch 179 11 = some (11, .iastore, 1, [], 0) := (fm_179 11).trans rfl
theorem u_179_11 {S : Scr} {d : Nat} {a0 a1 a2 : AV} {st : List AV} {sh : Shp} {I : IM} {R : RM} {k : Nat} {i x : Int} (h : tg sh k = 100) (h0 : 0 ≤ i) (h1 : i < ln sh k) : ev S d 179 11 [a0, a1, a2] (.inl x :: .inl i :: .inr (.inl k) :: st) (sh, I, R) = ev S d 179 12 [a0, a1, a2] st (sh, up I k i x, R) := (ev_eq f_179_11).trans (congrArg (fin S d 179) (if_pos ⟨h, h0, h1⟩))
theorem f_179_12 : fetch 179 12 = some (12, .aload_n 0, 1, [0], 0) := (fm_179 12).trans rfl
theorem u_179_12 {S : Scr} {d : Nat} {a1 a2 : AV} {st : List AV} {sh : Shp} {I : IM} {R : RM} {x : Nat} : ev S d 179 12 [.inr (.inl x), a1, a2] st (sh, I, R) = ev S d 179 13 [.inr (.inl x), a1, a2] (.inr (.inl x) :: st) (sh, I, R) := (ev_eq f_179_12).trans rfl
theorem f_179_13 : fetch 179 13 = some (13, .getfield 43, 3, [9, 14, 1, 90], 0) := (fm_179 13).trans rfl
theorem u_179_13 {S : Scr} {d : Nat} {a0 a1 a2 : AV} {st : List AV} {sh : Shp} {I : IM} {R : RM} {k : Nat} (h : tg sh k = 9) : ev S d 179 13 [a0, a1, a2] (.inr (.inl k) :: st) (sh, I, R) = ev S d 179 16 [a0, a1, a2] (rv (R k 14) :: st) (sh, I, R) := (ev_eq f_179_13).trans (congrArg (fin S d 179) (if_pos h))
theorem f_179_16 : fetch 179 16 = some (16, .iconst 0, 1, [], 0) := (fm_179 16).trans rfl
theorem u_179_16 {S : Scr} {d : Nat} {a0 a1 a2 : AV} {st : List AV} {sh : Shp} {I : IM} {R : RM} : ev S d 179 16 [a0, a1, a2] st (sh, I, R) = ev S d 179 17 [a0, a1, a2] (.inl 0 :: st) (sh, I, R) := (ev_eq f_179_16).trans rfl
theorem f_179_17 : fetch 179 17 = some (17, .iload_n 2, 1, [2], 0) := (fm_179 17).trans rfl
theorem u_179_17 {S : Scr} {d : Nat} {a0 a1 : AV} {st : List AV} {sh : Shp} {I : IM} {R : RM} {x : Int} : ev S d 179 17 [a0, a1, .inl x] st (sh, I, R) = ev S d 179 18 [a0, a1, .inl x] (.inl x :: st) (sh, I, R) := (ev_eq f_179_17).trans rfl
theorem f_179_18 : fetch 179 18 = some (18, .iastore, 1, [], 0) := (fm_179 18).trans rfl
theorem u_179_18 {S : Scr} {d : Nat} {a0 a1 a2 : AV} {st : List AV} {sh : Shp} {I : IM} {R : RM} {k : Nat} {i x : Int} (h : tg sh k = 100) (h0 : 0 ≤ i) (h1 : i < ln sh k) : ev S d 179 18 [a0, a1, a2] (.inl x :: .inl i :: .inr (.inl k) :: st) (sh, I, R) = ev S d 179 19 [a0, a1, a2] st (sh, up I k i x, R) := (ev_eq f_179_18).trans (congrArg (fin S d 179) (if_pos ⟨h, h0, h1⟩))
theorem f_179_19 : fetch 179 19 = some (19, .bipush (-9), 2, [], (-9)) := (fm_179 19).trans rfl
theorem u_179_19 {S : Scr} {d : Nat} {a0 a1 a2 : AV} {st : List AV} {sh : Shp} {I : IM} {R : RM} : ev S d 179 19 [a0, a1, a2] st (sh, I, R) = ev S d 179 21 [a0, a1, a2] (.inl (-9) :: st) (sh, I, R) := (ev_eq f_179_19).trans rfl
theorem f_179_21 : fetch 179 21 = some (21, .ireturn, 1, [0], 0) := (fm_179 21).trans rfl
theorem u_179_21 {S : Scr} {d : Nat} {a0 a1 a2 : AV} {sh : Shp} {I : IM} {R : RM} {x : Int} : ev S d 179 21 [a0, a1, a2] [.inl x] (sh, I, R) = some (some (.inl x), (sh, I, R)) := (ev_eq f_179_21).trans fin_iret0
theorem c_180 {d : Nat} {a0 a1 : AV} {M : Mem} : cl (d + 1) 180 [a0, a1] M = ev S0 d 180 0 [a0, a1] [] M := (cl_eq (as := [a0, a1]) (show 2 ≤ maxOf 180 by decide +kernel)).trans rfl
theorem mt_180 : MT[180]? = some m_180 := rfl
theorem fm_180 (pc : Nat) : fetch 180 pc = lk m_180.2.2.2.2.2 pc := by
  unfold fetch
  rw [mt_180]
theorem f_180_0 : fetch 180 0 = some (0, .aload_n 0, 1, [0], 0) := (fm_180 0).trans rfl
theorem u_180_0 {S : Scr} {d : Nat} {a1 : AV} {st : List AV} {sh : Shp} {I : IM} {R : RM} {x : Nat} : ev S d 180 0 [.inr (.inl x), a1] st (sh, I, R) = ev S d 180 1 [.inr (.inl x), a1] (.inr (.inl x) :: st) (sh, I, R) := (ev_eq f_180_0).trans rfl
theorem f_180_1 : fetch 180 1 = some (1, .getfield 40, 3, [9, 13, 1, 89], 0) := (fm_180 1).trans rfl
theorem u_180_1 {S : Scr} {d : Nat} {a0 a1 : AV} {st : List AV} {sh : Shp} {I : IM} {R : RM} {k : Nat} (h : tg sh k = 9) : ev S d 180 1 [a0, a1] (.inr (.inl k) :: st) (sh, I, R) = ev S d 180 4 [a0, a1] (rv (R k 13) :: st) (sh, I, R) := (ev_eq f_180_1).trans (congrArg (fin S d 180) (if_pos h))
theorem f_180_4 : fetch 180 4 = some (4, .aload_n 0, 1, [0], 0) := (fm_180 4).trans rfl
theorem u_180_4 {S : Scr} {d : Nat} {a1 : AV} {st : List AV} {sh : Shp} {I : IM} {R : RM} {x : Nat} : ev S d 180 4 [.inr (.inl x), a1] st (sh, I, R) = ev S d 180 5 [.inr (.inl x), a1] (.inr (.inl x) :: st) (sh, I, R) := (ev_eq f_180_4).trans rfl
theorem f_180_5 : fetch 180 5 = some (5, .getfield 185, 3, [9, 15, 0, 102], 0) := (fm_180 5).trans rfl
theorem u_180_5 {S : Scr} {d : Nat} {a0 a1 : AV} {st : List AV} {sh : Shp} {I : IM} {R : RM} {k : Nat} (h : tg sh k = 9) : ev S d 180 5 [a0, a1] (.inr (.inl k) :: st) (sh, I, R) = ev S d 180 8 [a0, a1] (.inl (I k 15) :: st) (sh, I, R) := (ev_eq f_180_5).trans (congrArg (fin S d 180) (if_pos h))
theorem f_180_8 : fetch 180 8 = some (8, .bipush 8, 2, [], 8) := (fm_180 8).trans rfl
theorem u_180_8 {S : Scr} {d : Nat} {a0 a1 : AV} {st : List AV} {sh : Shp} {I : IM} {R : RM} : ev S d 180 8 [a0, a1] st (sh, I, R) = ev S d 180 10 [a0, a1] (.inl 8 :: st) (sh, I, R) := (ev_eq f_180_8).trans rfl
theorem f_180_10 : fetch 180 10 = some (10, .iastore, 1, [], 0) := (fm_180 10).trans rfl
theorem u_180_10 {S : Scr} {d : Nat} {a0 a1 : AV} {st : List AV} {sh : Shp} {I : IM} {R : RM} {k : Nat} {i x : Int} (h : tg sh k = 100) (h0 : 0 ≤ i) (h1 : i < ln sh k) : ev S d 180 10 [a0, a1] (.inl x :: .inl i :: .inr (.inl k) :: st) (sh, I, R) = ev S d 180 11 [a0, a1] st (sh, up I k i x, R) := (ev_eq f_180_10).trans (congrArg (fin S d 180) (if_pos ⟨h, h0, h1⟩))
theorem f_180_11 : fetch 180 11 = some (11, .aload_n 0, 1, [0], 0) := (fm_180 11).trans rfl
theorem u_180_11 {S : Scr} {d : Nat} {a1 : AV} {st : List AV} {sh : Shp} {I : IM} {R : RM} {x : Nat} : ev S d 180 11 [.inr (.inl x), a1] st (sh, I, R) = ev S d 180 12 [.inr (.inl x), a1] (.inr (.inl x) :: st) (sh, I, R) := (ev_eq f_180_11).trans rfl
theorem f_180_12 : fetch 180 12 = some (12, .getfield 43, 3, [9, 14, 1, 90], 0) := (fm_180 12).trans rfl
theorem u_180_12 {S : Scr} {d : Nat} {a0 a1 : AV} {st : List AV} {sh : Shp} {I : IM} {R : RM} {k : Nat} (h : tg sh k = 9) : ev S d 180 12 [a0, a1] (.inr (.inl k) :: st) (sh, I, R) = ev S d 180 15 [a0, a1] (rv (R k 14) :: st) (sh, I, R) := (ev_eq f_180_12).trans (congrArg (fin S d 180) (if_pos h))
theorem f_180_15 : fetch 180 15 = some (15, .aload_n 0, 1, [0], 0) := (fm_180 15).trans rfl
theorem u_180_15 {S : Scr} {d : Nat} {a1 : AV} {st : List AV} {sh : Shp} {I : IM} {R : RM} {x : Nat} : ev S d 180 15 [.inr (.inl x), a1] st (sh, I, R) = ev S d 180 16 [.inr (.inl x), a1] (.inr (.inl x) :: st) (sh, I, R) := (ev_eq f_180_15).trans rfl
theorem f_180_16 : fetch 180 16 = some (16, .getfield 185, 3, [9, 15, 0, 102], 0) := (fm_180 16).trans rfl
theorem u_180_16 {S : Scr} {d : Nat} {a0 a1 : AV} {st : List AV} {sh : Shp} {I : IM} {R : RM} {k : Nat} (h : tg sh k = 9) : ev S d 180 16 [a0, a1] (.inr (.inl k) :: st) (sh, I, R) = ev S d 180 19 [a0, a1] (.inl (I k 15) :: st) (sh, I, R) := (ev_eq f_180_16).trans (congrArg (fin S d 180) (if_pos h))
theorem f_180_19 : fetch 180 19 = some (19, .iload_n 1, 1, [1], 0) := (fm_180 19).trans rfl
theorem u_180_19 {S : Scr} {d : Nat} {a0 : AV} {st : List AV} {sh : Shp} {I : IM} {R : RM} {x : Int} : ev S d 180 19 [a0, .inl x] st (sh, I, R) = ev S d 180 20 [a0, .inl x] (.inl x :: st) (sh, I, R) := (ev_eq f_180_19).trans rfl
theorem f_180_20 : fetch 180 20 = some (20, .iastore, 1, [], 0) := (fm_180 20).trans rfl
theorem u_180_20 {S : Scr} {d : Nat} {a0 a1 : AV} {st : List AV} {sh : Shp} {I : IM} {R : RM} {k : Nat} {i x : Int} (h : tg sh k = 100) (h0 : 0 ≤ i) (h1 : i < ln sh k) : ev S d 180 20 [a0, a1] (.inl x :: .inl i :: .inr (.inl k) :: st) (sh, I, R) = ev S d 180 21 [a0, a1] st (sh, up I k i x, R) := (ev_eq f_180_20).trans (congrArg (fin S d 180) (if_pos ⟨h, h0, h1⟩))
theorem f_180_21 : fetch 180 21 = some (21, .aload_n 0, 1, [0], 0) := (fm_180 21).trans rfl
theorem u_180_21 {S : Scr} {d : Nat} {a1 : AV} {st : List AV} {sh : Shp} {I : IM} {R : RM} {x : Nat} : ev S d 180 21 [.inr (.inl x), a1] st (sh, I, R) = ev S d 180 22 [.inr (.inl x), a1] (.inr (.inl x) :: st) (sh, I, R) := (ev_eq f_180_21).trans rfl
theorem f_180_22 : fetch 180 22 = some (22, .dup, 1, [], 0) := (fm_180 22).trans rfl
theorem u_180_22 {S : Scr} {d : Nat} {a0 a1 : AV} {st : List AV} {sh : Shp} {I : IM} {R : RM} {x : AV} : ev S d 180 22 [a0, a1] (x :: st) (sh, I, R) = ev S d 180 23 [a0, a1] (x :: x :: st) (sh, I, R) := (ev_eq f_180_22).trans rfl
theorem f_180_23 : fetch 180 23 = some (23, .getfield 185, 3, [9, 15, 0, 102], 0) := (fm_180 23).trans rfl
theorem u_180_23 {S : Scr} {d : Nat} {a0 a1 : AV} {st : List AV} {sh : Shp} {I : IM} {R : RM} {k : Nat} (h : tg sh k = 9) : ev S d 180 23 [a0, a1] (.inr (.inl k) :: st) (sh, I, R) = ev S d 180 26 [a0, a1] (.inl (I k 15) :: st) (sh, I, R) := (ev_eq f_180_23).trans (congrArg (fin S d 180) (if_pos h))
theorem f_180_26 : fetch 180 26 = some (26, .iconst 1, 1, [], 1) := (fm_180 26).trans rfl
theorem u_180_26 {S : Scr} {d : Nat} {a0 a1 : AV} {st : List AV} {sh : Shp} {I : IM} {R : RM} : ev S d 180 26 [a0, a1] st (sh, I, R) = ev S d 180 27 [a0, a1] (.inl 1 :: st) (sh, I, R) := (ev_eq f_180_26).trans rfl
theorem f_180_27 : fetch 180 27 = some (27, .iadd, 1, [], 0) := (fm_180 27).trans rfl
theorem u_180_27 {S : Scr} {d : Nat} {a0 a1 : AV} {st : List AV} {sh : Shp} {I : IM} {R : RM} {x y : Int} : ev S d 180 27 [a0, a1] (.inl y :: .inl x :: st) (sh, I, R) = ev S d 180 28 [a0, a1] (.inl (wr (x + y)) :: st) (sh, I, R) := (ev_eq f_180_27).trans rfl
theorem f_180_28 : fetch 180 28 = some (28, .putfield 185, 3, [9, 15, 0, 102], 0) := (fm_180 28).trans rfl
theorem u_180_28 {S : Scr} {d : Nat} {a0 a1 : AV} {st : List AV} {sh : Shp} {I : IM} {R : RM} {k : Nat} {x : Int} (h : tg sh k = 9) : ev S d 180 28 [a0, a1] (.inl x :: .inr (.inl k) :: st) (sh, I, R) = ev S d 180 31 [a0, a1] st (sh, up I k 15 x, R) := (ev_eq f_180_28).trans (congrArg (fin S d 180) (if_pos h))
theorem f_180_31 : fetch 180 31 = some (31, .bipush (-9), 2, [], (-9)) := (fm_180 31).trans rfl
theorem u_180_31 {S : Scr} {d : Nat} {a0 a1 : AV} {st : List AV} {sh : Shp} {I : IM} {R : RM} : ev S d 180 31 [a0, a1] st (sh, I, R) = ev S d 180 33 [a0, a1] (.inl (-9) :: st) (sh, I, R) := (ev_eq f_180_31).trans rfl
theorem f_180_33 : fetch 180 33 = some (33, .ireturn, 1, [0], 0) := (fm_180 33).trans rfl
theorem u_180_33 {S : Scr} {d : Nat} {a0 a1 : AV} {sh : Shp} {I : IM} {R : RM} {x : Int} : ev S d 180 33 [a0, a1] [.inl x] (sh, I, R) = some (some (.inl x), (sh, I, R)) := (ev_eq f_180_33).trans fin_iret0
theorem c_181 {d : Nat} {a0 a1 : AV} {M : Mem} : cl (d + 1) 181 [a0, a1] M = ev S0 d 181 0 [a0, a1] [] M := (cl_eq (as := [a0, a1]) (show 2 ≤ maxOf 181 by decide +kernel)).trans rfl
theorem mt_181 : MT[181]? = some m_181 := rfl
theorem fm_181 (pc : Nat) : fetch 181 pc = lk m_181.2.2.2.2.2 pc := by
  unfold fetch
  rw [mt_181]
theorem f_181_0 : fetch 181 0 = some (0, .iload_n 1, 1, [1], 0) := (fm_181 0).trans rfl
theorem u_181_0 {S : Scr} {d : Nat} {a0 : AV} {st : List AV} {sh : Shp} {I : IM} {R : RM} {x : Int} : ev S d 181 0 [a0, .inl x] st (sh, I, R) = ev S d 181 1 [a0, .inl x] (.inl x :: st) (sh, I, R) := (ev_eq f_181_0).trans rfl
theorem f_181_1 : fetch 181 1 = some (1, .lookupswitch 51 #[(66, 45), (67, 47), (76, 43), (82, 49)], 43, [52, 66, 46, 67, 48, 76, 44, 82, 50], 0) := (fm_181 1).trans rfl
theorem u_181_1 {S : Scr} {d : Nat} {a0 a1 : AV} {st : List AV} {sh : Shp} {I : IM} {R : RM} {x : Int} : ev S d 181 1 [a0, a1] (.inl x :: st) (sh, I, R) = if x = 66 then ev S d 181 46 [a0, a1] st (sh, I, R) else if x = 67 then ev S d 181 48 [a0, a1] st (sh, I, R) else if x = 76 then ev S d 181 44 [a0, a1] st (sh, I, R) else if x = 82 then ev S d 181 50 [a0, a1] st (sh, I, R) else ev S d 181 52 [a0, a1] st (sh, I, R) := by
  rw [ev_eq f_181_1]
  show ev S d 181 (swt 52 x [66, 46, 67, 48, 76, 44, 82, 50]) _ _ _ = _
  rw [ev_sw, ev_sw, ev_sw, ev_sw, ev_sw0]
  rfl
theorem f_181_44 : fetch 181 44 = some (44, .iconst 1, 1, [], 1) := (fm_181 44).trans rfl
theorem u_181_44 {S : Scr} {d : Nat} {a0 a1 : AV} {st : List AV} {sh : Shp} {I : IM} {R : RM} : ev S d 181 44 [a0, a1] st (sh, I, R) = ev S d 181 45 [a0, a1] (.inl 1 :: st) (sh, I, R) := (ev_eq f_181_44).trans rfl
theorem f_181_45 : fetch 181 45 = some (45, .ireturn, 1, [0], 0) := (fm_181 45).trans rfl
theorem u_181_45 {S : Scr} {d : Nat} {a0 a1 : AV} {sh : Shp} {I : IM} {R : RM} {x : Int} : ev S d 181 45 [a0, a1] [.inl x] (sh, I, R) = some (some (.inl x), (sh, I, R)) := (ev_eq f_181_45).trans fin_iret0
theorem f_181_46 : fetch 181 46 = some (46, .iconst 2, 1, [], 2) := (fm_181 46).trans rfl
theorem u_181_46 {S : Scr} {d : Nat} {a0 a1 : AV} {st : List AV} {sh : Shp} {I : IM} {R : RM} : ev S d 181 46 [a0, a1] st (sh, I, R) = ev S d 181 47 [a0, a1] (.inl 2 :: st) (sh, I, R) := (ev_eq f_181_46).trans rfl
theorem f_181_47 : fetch 181 47 = some (47, .ireturn, 1, [0], 0) := (fm_181 47).trans rfl
theorem u_181_47 {S : Scr} {d : Nat} {a0 a1 : AV} {sh : Shp} {I : IM} {R : RM} {x : Int} : ev S d 181 47 [a0, a1] [.inl x] (sh, I, R) = some (some (.inl x), (sh, I, R)) := (ev_eq f_181_47).trans fin_iret0
theorem f_181_48 : fetch 181 48 = some (48, .iconst 3, 1, [], 3) := (fm_181 48).trans rfl
theorem u_181_48 {S : Scr} {d : Nat} {a0 a1 : AV} {st : List AV} {sh : Shp} {I : IM} {R : RM} : ev S d 181 48 [a0, a1] st (sh, I, R) = ev S d 181 49 [a0, a1] (.inl 3 :: st) (sh, I, R) := (ev_eq f_181_48).trans rfl
theorem f_181_49 : fetch 181 49 = some (49, .ireturn, 1, [0], 0) := (fm_181 49).trans rfl
theorem u_181_49 {S : Scr} {d : Nat} {a0 a1 : AV} {sh : Shp} {I : IM} {R : RM} {x : Int} : ev S d 181 49 [a0, a1] [.inl x] (sh, I, R) = some (some (.inl x), (sh, I, R)) := (ev_eq f_181_49).trans fin_iret0
theorem f_181_50 : fetch 181 50 = some (50, .iconst 4, 1, [], 4) := (fm_181 50).trans rfl
theorem u_181_50 {S : Scr} {d : Nat} {a0 a1 : AV} {st : List AV} {sh : Shp} {I : IM} {R : RM} : ev S d 181 50 [a0, a1] st (sh, I, R) = ev S d 181 51 [a0, a1] (.inl 4 :: st) (sh, I, R) := (ev_eq f_181_50).trans rfl
theorem f_181_51 : fetch 181 51 = some (51, .ireturn, 1, [0], 0) := (fm_181 51).trans rfl
theorem u_181_51 {S : Scr} {d : Nat} {a0 a1 : AV} {sh : Shp} {I : IM} {R : RM} {x : Int} : ev S d 181 51 [a0, a1] [.inl x] (sh, I, R) = some (some (.inl x), (sh, I, R)) := (ev_eq f_181_51).trans fin_iret0
theorem f_181_52 : fetch 181 52 = some (52, .iconst 0, 1, [], 0) := (fm_181 52).trans rfl
theorem u_181_52 {S : Scr} {d : Nat} {a0 a1 : AV} {st : List AV} {sh : Shp} {I : IM} {R : RM} : ev S d 181 52 [a0, a1] st (sh, I, R) = ev S d 181 53 [a0, a1] (.inl 0 :: st) (sh, I, R) := (ev_eq f_181_52).trans rfl
theorem f_181_53 : fetch 181 53 = some (53, .ireturn, 1, [0], 0) := (fm_181 53).trans rfl
theorem u_181_53 {S : Scr} {d : Nat} {a0 a1 : AV} {sh : Shp} {I : IM} {R : RM} {x : Int} : ev S d 181 53 [a0, a1] [.inl x] (sh, I, R) = some (some (.inl x), (sh, I, R)) := (ev_eq f_181_53).trans fin_iret0
theorem c_182 {d : Nat} {a0 a1 : AV} {M : Mem} : cl (d + 1) 182 [a0, a1] M = ev S0 d 182 0 [a0, a1, .inr (.inr 1), .inr (.inr 1)] [] M := (cl_eq (as := [a0, a1]) (show 2 ≤ maxOf 182 by decide +kernel)).trans rfl
theorem mt_182 : MT[182]? = some m_182 := rfl
theorem fm_182 (pc : Nat) : fetch 182 pc = lk m_182.2.2.2.2.2 pc := by
  unfold fetch
  rw [mt_182]
theorem f_182_0 : fetch 182 0 = some (0, .iconst 1, 1, [], 1) := (fm_182 0).trans rfl
theorem u_182_0 {S : Scr} {d : Nat} {a0 a1 a2 a3 : AV} {st : List AV} {sh : Shp} {I : IM} {R : RM} : ev S d 182 0 [a0, a1, a2, a3] st (sh, I, R) = ev S d 182 1 [a0, a1, a2, a3] (.inl 1 :: st) (sh, I, R) := (ev_eq f_182_0).trans rfl
theorem f_182_1 : fetch 182 1 = some (1, .istore_n 2, 1, [2], 0) := (fm_182 1).trans rfl
theorem u_182_1 {S : Scr} {d : Nat} {a0 a1 a2 a3 : AV} {st : List AV} {sh : Shp} {I : IM} {R : RM} {x : Int} : ev S d 182 1 [a0, a1, a2, a3] (.inl x :: st) (sh, I, R) = ev S d 182 2 [a0, a1, .inl x, a3] st (sh, I, R) := (ev_eq f_182_1).trans rfl
theorem f_182_2 : fetch 182 2 = some (2, .aload_n 0, 1, [0], 0) := (fm_182 2).trans rfl
theorem u_182_2 {S : Scr} {d : Nat} {a1 a2 a3 : AV} {st : List AV} {sh : Shp} {I : IM} {R : RM} {x : Nat} : ev S d 182 2 [.inr (.inl x), a1, a2, a3] st (sh, I, R) = ev S d 182 3 [.inr (.inl x), a1, a2, a3] (.inr (.inl x) :: st) (sh, I, R) := (ev_eq f_182_2).trans rfl
theorem f_182_3 : fetch 182 3 = some (3, .invokevirtual 188, 3, [178, 0, 155], 0) := (fm_182 3).trans rfl
theorem u_182_3 {S : Scr} {d : Nat} {a0 a1 a2 a3 : AV} {st : List AV} {sh : Shp} {I : IM} {R : RM} {k : Nat} (h : tg sh k = 9) (hr : st.length ≤ 8) : ev S d 182 3 [a0, a1, a2, a3] (.inr (.inl k) :: st) (sh, I, R) = bnd (cl d 178 [.inr (.inl k)] (sh, I, R)) (fun v M => ev S d 182 6 [a0, a1, a2, a3] (psh v st) M) := (ev_eq f_182_3).trans (congrArg (fin S d 182) (if_pos ⟨h, rfl, hr⟩))
theorem f_182_6 : fetch 182 6 = some (6, .bipush 45, 2, [], 45) := (fm_182 6).trans rfl
theorem u_182_6 {S : Scr} {d : Nat} {a0 a1 a2 a3 : AV} {st : List AV} {sh : Shp} {I : IM} {R : RM} : ev S d 182 6 [a0, a1, a2, a3] st (sh, I, R) = ev S d 182 8 [a0, a1, a2, a3] (.inl 45 :: st) (sh, I, R) := (ev_eq f_182_6).trans rfl
theorem f_182_8 : fetch 182 8 = some (8, .if_icmp .ne 15, 3, [23], 0) := (fm_182 8).trans rfl
theorem u_182_8 {S : Scr} {d : Nat} {a0 a1 a2 a3 : AV} {st : List AV} {sh : Shp} {I : IM} {R : RM} {x y : Int} : ev S d 182 8 [a0, a1, a2, a3] (.inl y :: .inl x :: st) (sh, I, R) = if ¬ x = y then ev S d 182 23 [a0, a1, a2, a3] st (sh, I, R) else ev S d 182 11 [a0, a1, a2, a3] st (sh, I, R) := (ev_eq f_182_8).trans fin_icmp_ne
theorem f_182_11 : fetch 182 11 = some (11, .iconst (-1), 1, [], (-1)) := (fm_182 11).trans rfl
theorem u_182_11 {S : Scr} {d : Nat} {a0 a1 a2 a3 : AV} {st : List AV} {sh : Shp} {I : IM} {R : RM} : ev S d 182 11 [a0, a1, a2, a3] st (sh, I, R) = ev S d 182 12 [a0, a1, a2, a3] (.inl (-1) :: st) (sh, I, R) := (ev_eq f_182_11).trans rfl
theorem f_182_12 : fetch 182 12 = some (12, .istore_n 2, 1, [2], 0) := (fm_182 12).trans rfl
theorem u_182_12 {S : Scr} {d : Nat} {a0 a1 a2 a3 : AV} {st : List AV} {sh : Shp} {I : IM} {R : RM} {x : Int} : ev S d 182 12 [a0, a1, a2, a3] (.inl x :: st) (sh, I, R) = ev S d 182 13 [a0, a1, .inl x, a3] st (sh, I, R) := (ev_eq f_182_12).trans rfl
theorem f_182_13 : fetch 182 13 = some (13, .aload_n 0, 1, [0], 0) := (fm_182 13).trans rfl
theorem u_182_13 {S : Scr} {d : Nat} {a1 a2 a3 : AV} {st : List AV} {sh : Shp} {I : IM} {R : RM} {x : Nat} : ev S d 182 13 [.inr (.inl x), a1, a2, a3] st (sh, I, R) = ev S d 182 14 [.inr (.inl x), a1, a2, a3] (.inr (.inl x) :: st) (sh, I, R) := (ev_eq f_182_13).trans rfl
theorem f_182_14 : fetch 182 14 = some (14, .dup, 1, [], 0) := (fm_182 14).trans rfl
theorem u_182_14 {S : Scr} {d : Nat} {a0 a1 a2 a3 : AV} {st : List AV} {sh : Shp} {I : IM} {R : RM} {x : AV} : ev S d 182 14 [a0, a1, a2, a3] (x :: st) (sh, I, R) = ev S d 182 15 [a0, a1, a2, a3] (x :: x :: st) (sh, I, R) := (ev_eq f_182_14).trans rfl
theorem f_182_15 : fetch 182 15 = some (15, .getfield 176, 3, [9, 18, 0, 99], 0) := (fm_182 15).trans rfl
theorem u_182_15 {S : Scr} {d : Nat} {a0 a1 a2 a3 : AV} {st : List AV} {sh : Shp} {I : IM} {R : RM} {k : Nat} (h : tg sh k = 9) : ev S d 182 15 [a0, a1, a2, a3] (.inr (.inl k) :: st) (sh, I, R) = ev S d 182 18 [a0, a1, a2, a3] (.inl (I k 18) :: st) (sh, I, R) := (ev_eq f_182_15).trans (congrArg (fin S d 182) (if_pos h))
theorem f_182_18 : fetch 182 18 = some (18, .iconst 1, 1, [], 1) := (fm_182 18).trans rfl
theorem u_182_18 {S : Scr} {d : Nat} {a0 a1 a2 a3 : AV} {st : List AV} {sh : Shp} {I : IM} {R : RM} : ev S d 182 18 [a0, a1, a2, a3] st (sh, I, R) = ev S d 182 19 [a0, a1, a2, a3] (.inl 1 :: st) (sh, I, R) := (ev_eq f_182_18).trans rfl
theorem f_182_19 : fetch 182 19 = some (19, .iadd, 1, [], 0) := (fm_182 19).trans rfl
theorem u_182_19 {S : Scr} {d : Nat} {a0 a1 a2 a3 : AV} {st : List AV} {sh : Shp} {I : IM} {R : RM} {x y : Int} : ev S d 182 19 [a0, a1, a2, a3] (.inl y :: .inl x :: st) (sh, I, R) = ev S d 182 20 [a0, a1, a2, a3] (.inl (wr (x + y)) :: st) (sh, I, R) := (ev_eq f_182_19).trans rfl
theorem f_182_20 : fetch 182 20 = some (20, .putfield 176, 3, [9, 18, 0, 99], 0) := (fm_182 20).trans rfl
theorem u_182_20 {S : Scr} {d : Nat} {a0 a1 a2 a3 : AV} {st : List AV} {sh : Shp} {I : IM} {R : RM} {k : Nat} {x : Int} (h : tg sh k = 9) : ev S d 182 20 [a0, a1, a2, a3] (.inl x :: .inr (.inl k) :: st) (sh, I, R) = ev S d 182 23 [a0, a1, a2, a3] st (sh, up I k 18 x, R) := (ev_eq f_182_20).trans (congrArg (fin S d 182) (if_pos h))
theorem f_182_23 : fetch 182 23 = some (23, .aload_n 0, 1, [0], 0) := (fm_182 23).trans rfl
theorem u_182_23 {S : Scr} {d : Nat} {a1 a2 a3 : AV} {st : List AV} {sh : Shp} {I : IM} {R : RM} {x : Nat} : ev S d 182 23 [.inr (.inl x), a1, a2, a3] st (sh, I, R) = ev S d 182 24 [.inr (.inl x), a1, a2, a3] (.inr (.inl x) :: st) (sh, I, R) := (ev_eq f_182_23).trans rfl
theorem f_182_24 : fetch 182 24 = some (24, .invokevirtual 188, 3, [178, 0, 155], 0) := (fm_182 24).trans rfl
theorem u_182_24 {S : Scr} {d : Nat} {a0 a1 a2 a3 : AV} {st : List AV} {sh : Shp} {I : IM} {R : RM} {k : Nat} (h : tg sh k = 9) (hr : st.length ≤ 8) : ev S d 182 24 [a0, a1, a2, a3] (.inr (.inl k) :: st) (sh, I, R) = bnd (cl d 178 [.inr (.inl k)] (sh, I, R)) (fun v M => ev S d 182 27 [a0, a1, a2, a3] (psh v st) M) := (ev_eq f_182_24).trans (congrArg (fin S d 182) (if_pos ⟨h, rfl, hr⟩))
theorem f_182_27 : fetch 182 27 = some (27, .iload_n 2, 1, [2], 0) := (fm_182 27).trans rfl
theorem u_182_27 {S : Scr} {d : Nat} {a0 a1 a3 : AV} {st : List AV} {sh : Shp} {I : IM} {R : RM} {x : Int} : ev S d 182 27 [a0, a1, .inl x, a3] st (sh, I, R) = ev S d 182 28 [a0, a1, .inl x, a3] (.inl x :: st) (sh, I, R) := (ev_eq f_182_27).trans rfl
theorem f_182_28 : fetch 182 28 = some (28, .ifCond .ge 8, 3, [36], 0) := (fm_182 28).trans rfl
theorem u_182_28 {S : Scr} {d : Nat} {a0 a1 a2 a3 : AV} {st : List AV} {sh : Shp} {I : IM} {R : RM} {x : Int} : ev S d 182 28 [a0, a1, a2, a3] (.inl x :: st) (sh, I, R) = if 0 ≤ x then ev S d 182 36 [a0, a1, a2, a3] st (sh, I, R) else ev S d 182 31 [a0, a1, a2, a3] st (sh, I, R) := (ev_eq f_182_28).trans fin_if_ge
theorem f_182_31 : fetch 182 31 = some (31, .bipush 49, 2, [], 49) := (fm_182 31).trans rfl
theorem u_182_31 {S : Scr} {d : Nat} {a0 a1 a2 a3 : AV} {st : List AV} {sh : Shp} {I : IM} {R : RM} : ev S d 182 31 [a0, a1, a2, a3] st (sh, I, R) = ev S d 182 33 [a0, a1, a2, a3] (.inl 49 :: st) (sh, I, R) := (ev_eq f_182_31).trans rfl
theorem f_182_33 : fetch 182 33 = some (33, .goto 5, 3, [38], 0) := (fm_182 33).trans rfl
theorem u_182_33 {S : Scr} {d : Nat} {a0 a1 a2 a3 : AV} {st : List AV} {sh : Shp} {I : IM} {R : RM} : ev S d 182 33 [a0, a1, a2, a3] st (sh, I, R) = ev S d 182 38 [a0, a1, a2, a3] st (sh, I, R) := (ev_eq f_182_33).trans rfl
theorem f_182_36 : fetch 182 36 = some (36, .bipush 48, 2, [], 48) := (fm_182 36).trans rfl
theorem u_182_36 {S : Scr} {d : Nat} {a0 a1 a2 a3 : AV} {st : List AV} {sh : Shp} {I : IM} {R : RM} : ev S d 182 36 [a0, a1, a2, a3] st (sh, I, R) = ev S d 182 38 [a0, a1, a2, a3] (.inl 48 :: st) (sh, I, R) := (ev_eq f_182_36).trans rfl
theorem f_182_38 : fetch 182 38 = some (38, .bipush 57, 2, [], 57) := (fm_182 38).trans rfl
theorem u_182_38 {S : Scr} {d : Nat} {a0 a1 a2 a3 : AV} {st : List AV} {sh : Shp} {I : IM} {R : RM} : ev S d 182 38 [a0, a1, a2, a3] st (sh, I, R) = ev S d 182 40 [a0, a1, a2, a3] (.inl 57 :: st) (sh, I, R) := (ev_eq f_182_38).trans rfl
theorem f_182_40 : fetch 182 40 = some (40, .invokestatic 64, 3, [129, 3, 125], 0) := (fm_182 40).trans rfl
theorem u_182_40 {S : Scr} {d : Nat} {a0 a1 a2 a3 : AV} {st : List AV} {sh : Shp} {I : IM} {R : RM} {x0 : Int} {x1 : Int} {x2 : Int} (hr : st.length ≤ 8) : ev S d 182 40 [a0, a1, a2, a3] (.inl x2 :: .inl x1 :: .inl x0 :: st) (sh, I, R) = bnd (cl d 129 [.inl x0, .inl x1, .inl x2] (sh, I, R)) (fun v M => ev S d 182 43 [a0, a1, a2, a3] (psh v st) M) := (ev_eq f_182_40).trans (congrArg (fin S d 182) (if_pos ⟨rfl, hr⟩))
theorem f_182_43 : fetch 182 43 = some (43, .ifCond .ne 13, 3, [56], 0) := (fm_182 43).trans rfl
theorem u_182_43 {S : Scr} {d : Nat} {a0 a1 a2 a3 : AV} {st : List AV} {sh : Shp} {I : IM} {R : RM} {x : Int} : ev S d 182 43 [a0, a1, a2, a3] (.inl x :: st) (sh, I, R) = if ¬ x = 0 then ev S d 182 56 [a0, a1, a2, a3] st (sh, I, R) else ev S d 182 46 [a0, a1, a2, a3] st (sh, I, R) := (ev_eq f_182_43).trans fin_if_ne
theorem f_182_46 : fetch 182 46 = some (46, .aload_n 0, 1, [0], 0) := (fm_182 46).trans rfl
theorem u_182_46 {S : Scr} {d : Nat} {a1 a2 a3 : AV} {st : List AV} {sh : Shp} {I : IM} {R : RM} {x : Nat} : ev S d 182 46 [.inr (.inl x), a1, a2, a3] st (sh, I, R) = ev S d 182 47 [.inr (.inl x), a1, a2, a3] (.inr (.inl x) :: st) (sh, I, R) := (ev_eq f_182_46).trans rfl
theorem f_182_47 : fetch 182 47 = some (47, .iconst 1, 1, [], 1) := (fm_182 47).trans rfl
theorem u_182_47 {S : Scr} {d : Nat} {a0 a1 a2 a3 : AV} {st : List AV} {sh : Shp} {I : IM} {R : RM} : ev S d 182 47 [a0, a1, a2, a3] st (sh, I, R) = ev S d 182 48 [a0, a1, a2, a3] (.inl 1 :: st) (sh, I, R) := (ev_eq f_182_47).trans rfl
theorem f_182_48 : fetch 182 48 = some (48, .aload_n 0, 1, [0], 0) := (fm_182 48).trans rfl
theorem u_182_48 {S : Scr} {d : Nat} {a1 a2 a3 : AV} {st : List AV} {sh : Shp} {I : IM} {R : RM} {x : Nat} : ev S d 182 48 [.inr (.inl x), a1, a2, a3] st (sh, I, R) = ev S d 182 49 [.inr (.inl x), a1, a2, a3] (.inr (.inl x) :: st) (sh, I, R) := (ev_eq f_182_48).trans rfl
theorem f_182_49 : fetch 182 49 = some (49, .getfield 176, 3, [9, 18, 0, 99], 0) := (fm_182 49).trans rfl
theorem u_182_49 {S : Scr} {d : Nat} {a0 a1 a2 a3 : AV} {st : List AV} {sh : Shp} {I : IM} {R : RM} {k : Nat} (h : tg sh k = 9) : ev S d 182 49 [a0, a1, a2, a3] (.inr (.inl k) :: st) (sh, I, R) = ev S d 182 52 [a0, a1, a2, a3] (.inl (I k 18) :: st) (sh, I, R) := (ev_eq f_182_49).trans (congrArg (fin S d 182) (if_pos h))
theorem f_182_52 : fetch 182 52 = some (52, .invokevirtual 191, 3, [179, 2, 156], 0) := (fm_182 52).trans rfl
theorem u_182_52 {S : Scr} {d : Nat} {a0 a1 a2 a3 : AV} {st : List AV} {sh : Shp} {I : IM} {R : RM} {x0 : Int} {x1 : Int} {k : Nat} (h : tg sh k = 9) (hr : st.length ≤ 8) : ev S d 182 52 [a0, a1, a2, a3] (.inl x1 :: .inl x0 :: .inr (.inl k) :: st) (sh, I, R) = bnd (cl d 179 [.inr (.inl k), .inl x0, .inl x1] (sh, I, R)) (fun v M => ev S d 182 55 [a0, a1, a2, a3] (psh v st) M) := (ev_eq f_182_52).trans (congrArg (fin S d 182) (if_pos ⟨h, rfl, hr⟩))
theorem f_182_55 : fetch 182 55 = some (55, .ireturn, 1, [0], 0) := (fm_182 55).trans rfl
theorem u_182_55 {S : Scr} {d : Nat} {a0 a1 a2 a3 : AV} {sh : Shp} {I : IM} {R : RM} {x : Int} : ev S d 182 55 [a0, a1, a2, a3] [.inl x] (sh, I, R) = some (some (.inl x), (sh, I, R)) := (ev_eq f_182_55).trans fin_iret0
theorem f_182_56 : fetch 182 56 = some (56, .aload_n 0, 1, [0], 0) := (fm_182 56).trans rfl
theorem u_182_56 {S : Scr} {d : Nat} {a1 a2 a3 : AV} {st : List AV} {sh : Shp} {I : IM} {R : RM} {x : Nat} : ev S d 182 56 [.inr (.inl x), a1, a2, a3] st (sh, I, R) = ev S d 182 57 [.inr (.inl x), a1, a2, a3] (.inr (.inl x) :: st) (sh, I, R) := (ev_eq f_182_56).trans rfl
theorem f_182_57 : fetch 182 57 = some (57, .invokevirtual 188, 3, [178, 0, 155], 0) := (fm_182 57).trans rfl
theorem u_182_57 {S : Scr} {d : Nat} {a0 a1 a2 a3 : AV} {st : List AV} {sh : Shp} {I : IM} {R : RM} {k : Nat} (h : tg sh k = 9) (hr : st.length ≤ 8) : ev S d 182 57 [a0, a1, a2, a3] (.inr (.inl k) :: st) (sh, I, R) = bnd (cl d 178 [.inr (.inl k)] (sh, I, R)) (fun v M => ev S d 182 60 [a0, a1, a2, a3] (psh v st) M) := (ev_eq f_182_57).trans (congrArg (fin S d 182) (if_pos ⟨h, rfl, hr⟩))
theorem f_182_60 : fetch 182 60 = some (60, .bipush 48, 2, [], 48) := (fm_182 60).trans rfl
theorem u_182_60 {S : Scr} {d : Nat} {a0 a1 a2 a3 : AV} {st : List AV} {sh : Shp} {I : IM} {R : RM} : ev S d 182 60 [a0, a1, a2, a3] st (sh, I, R) = ev S d 182 62 [a0, a1, a2, a3] (.inl 48 :: st) (sh, I, R) := (ev_eq f_182_60).trans rfl
theorem f_182_62 : fetch 182 62 = some (62, .isub, 1, [], 0) := (fm_182 62).trans rfl
theorem u_182_62 {S : Scr} {d : Nat} {a0 a1 a2 a3 : AV} {st : List AV} {sh : Shp} {I : IM} {R : RM} {x y : Int} : ev S d 182 62 [a0, a1, a2, a3] (.inl y :: .inl x :: st) (sh, I, R) = ev S d 182 63 [a0, a1, a2, a3] (.inl (wr (x - y)) :: st) (sh, I, R) := (ev_eq f_182_62).trans rfl
theorem f_182_63 : fetch 182 63 = some (63, .istore_n 3, 1, [3], 0) := (fm_182 63).trans rfl
theorem u_182_63 {S : Scr} {d : Nat} {a0 a1 a2 a3 : AV} {st : List AV} {sh : Shp} {I : IM} {R : RM} {x : Int} : ev S d 182 63 [a0, a1, a2, a3] (.inl x :: st) (sh, I, R) = ev S d 182 64 [a0, a1, a2, .inl x] st (sh, I, R) := (ev_eq f_182_63).trans rfl
theorem f_182_64 : fetch 182 64 = some (64, .aload_n 0, 1, [0], 0) := (fm_182 64).trans rfl
theorem u_182_64 {S : Scr} {d : Nat} {a1 a2 a3 : AV} {st : List AV} {sh : Shp} {I : IM} {R : RM} {x : Nat} : ev S d 182 64 [.inr (.inl x), a1, a2, a3] st (sh, I, R) = ev S d 182 65 [.inr (.inl x), a1, a2, a3] (.inr (.inl x) :: st) (sh, I, R) := (ev_eq f_182_64).trans rfl
theorem f_182_65 : fetch 182 65 = some (65, .dup, 1, [], 0) := (fm_182 65).trans rfl
theorem u_182_65 {S : Scr} {d : Nat} {a0 a1 a2 a3 : AV} {st : List AV} {sh : Shp} {I : IM} {R : RM} {x : AV} : ev S d 182 65 [a0, a1, a2, a3] (x :: st) (sh, I, R) = ev S d 182 66 [a0, a1, a2, a3] (x :: x :: st) (sh, I, R) := (ev_eq f_182_65).trans rfl
theorem f_182_66 : fetch 182 66 = some (66, .getfield 176, 3, [9, 18, 0, 99], 0) := (fm_182 66).trans rfl
theorem u_182_66 {S : Scr} {d : Nat} {a0 a1 a2 a3 : AV} {st : List AV} {sh : Shp} {I : IM} {R : RM} {k : Nat} (h : tg sh k = 9) : ev S d 182 66 [a0, a1, a2, a3] (.inr (.inl k) :: st) (sh, I, R) = ev S d 182 69 [a0, a1, a2, a3] (.inl (I k 18) :: st) (sh, I, R) := (ev_eq f_182_66).trans (congrArg (fin S d 182) (if_pos h))
theorem f_182_69 : fetch 182 69 = some (69, .iconst 1, 1, [], 1) := (fm_182 69).trans rfl
theorem u_182_69 {S : Scr} {d : Nat} {a0 a1 a2 a3 : AV} {st : List AV} {sh : Shp} {I : IM} {R : RM} : ev S d 182 69 [a0, a1, a2, a3] st (sh, I, R) = ev S d 182 70 [a0, a1, a2, a3] (.inl 1 :: st) (sh, I, R) := (ev_eq f_182_69).trans rfl
theorem f_182_70 : fetch 182 70 = some (70, .iadd, 1, [], 0) := (fm_182 70).trans rfl
theorem u_182_70 {S : Scr} {d : Nat} {a0 a1 a2 a3 : AV} {st : List AV} {sh : Shp} {I : IM} {R : RM} {x y : Int} : ev S d 182 70 [a0, a1, a2, a3] (.inl y :: .inl x :: st) (sh, I, R) = ev S d 182 71 [a0, a1, a2, a3] (.inl (wr (x + y)) :: st) (sh, I, R) := (ev_eq f_182_70).trans rfl
theorem f_182_71 : fetch 182 71 = some (71, .putfield 176, 3, [9, 18, 0, 99], 0) := (fm_182 71).trans rfl
theorem u_182_71 {S : Scr} {d : Nat} {a0 a1 a2 a3 : AV} {st : List AV} {sh : Shp} {I : IM} {R : RM} {k : Nat} {x : Int} (h : tg sh k = 9) : ev S d 182 71 [a0, a1, a2, a3] (.inl x :: .inr (.inl k) :: st) (sh, I, R) = ev S d 182 74 [a0, a1, a2, a3] st (sh, up I k 18 x, R) := (ev_eq f_182_71).trans (congrArg (fin S d 182) (if_pos h))
theorem f_182_74 : fetch 182 74 = some (74, .iload_n 3, 1, [3], 0) := (fm_182 74).trans rfl
theorem u_182_74 {S : Scr} {d : Nat} {a0 a1 a2 : AV} {st : List AV} {sh : Shp} {I : IM} {R : RM} {x : Int} : ev S d 182 74 [a0, a1, a2, .inl x] st (sh, I, R) = ev S d 182 75 [a0, a1, a2, .inl x] (.inl x :: st) (sh, I, R) := (ev_eq f_182_74).trans rfl
theorem f_182_75 : fetch 182 75 = some (75, .ifCond .le 40, 3, [115], 0) := (fm_182 75).trans rfl
theorem u_182_75 {S : Scr} {d : Nat} {a0 a1 a2 a3 : AV} {st : List AV} {sh : Shp} {I : IM} {R : RM} {x : Int} : ev S d 182 75 [a0, a1, a2, a3] (.inl x :: st) (sh, I, R) = if x ≤ 0 then ev S d 182 115 [a0, a1, a2, a3] st (sh, I, R) else ev S d 182 78 [a0, a1, a2, a3] st (sh, I, R) := (ev_eq f_182_75).trans fin_if_le
theorem f_182_78 : fetch 182 78 = some (78, .aload_n 0, 1, [0], 0) := (fm_182 78).trans rfl
theorem u_182_78 {S : Scr} {d : Nat} {a1 a2 a3 : AV} {st : List AV} {sh : Shp} {I : IM} {R : RM} {x : Nat} : ev S d 182 78 [.inr (.inl x), a1, a2, a3] st (sh, I, R) = ev S d 182 79 [.inr (.inl x), a1, a2, a3] (.inr (.inl x) :: st) (sh, I, R) := (ev_eq f_182_78).trans rfl
theorem f_182_79 : fetch 182 79 = some (79, .invokevirtual 188, 3, [178, 0, 155], 0) := (fm_182 79).trans rfl
theorem u_182_79 {S : Scr} {d : Nat} {a0 a1 a2 a3 : AV} {st : List AV} {sh : Shp} {I : IM} {R : RM} {k : Nat} (h : tg sh k = 9) (hr : st.length ≤ 8) : ev S d 182 79 [a0, a1, a2, a3] (.inr (.inl k) :: st) (sh, I, R) = bnd (cl d 178 [.inr (.inl k)] (sh, I, R)) (fun v M => ev S d 182 82 [a0, a1, a2, a3] (psh v st) M) := (ev_eq f_182_79).trans (congrArg (fin S d 182) (if_pos ⟨h, rfl, hr⟩))
theorem f_182_82 : fetch 182 82 = some (82, .bipush 48, 2, [], 48) := (fm_182 82).trans rfl
theorem u_182_82 {S : Scr} {d : Nat} {a0 a1 a2 a3 : AV} {st : List AV} {sh : Shp} {I : IM} {R : RM} : ev S d 182 82 [a0, a1, a2, a3] st (sh, I, R) = ev S d 182 84 [a0, a1, a2, a3] (.inl 48 :: st) (sh, I, R) := (ev_eq f_182_82).trans rfl
theorem f_182_84 : fetch 182 84 = some (84, .bipush 57, 2, [], 57) := (fm_182 84).trans rfl
theorem u_182_84 {S : Scr} {d : Nat} {a0 a1 a2 a3 : AV} {st : List AV} {sh : Shp} {I : IM} {R : RM} : ev S d 182 84 [a0, a1, a2, a3] st (sh, I, R) = ev S d 182 86 [a0, a1, a2, a3] (.inl 57 :: st) (sh, I, R) := (ev_eq f_182_84).trans rfl
theorem f_182_86 : fetch 182 86 = some (86, .invokestatic 64, 3, [129, 3, 125], 0) := (fm_182 86).trans rfl
theorem u_182_86 {S : Scr} {d : Nat} {a0 a1 a2 a3 : AV} {st : List AV} {sh : Shp} {I : IM} {R : RM} {x0 : Int} {x1 : Int} {x2 : Int} (hr : st.length ≤ 8) : ev S d 182 86 [a0, a1, a2, a3] (.inl x2 :: .inl x1 :: .inl x0 :: st) (sh, I, R) = bnd (cl d 129 [.inl x0, .inl x1, .inl x2] (sh, I, R)) (fun v M => ev S d 182 89 [a0, a1, a2, a3] (psh v st) M) := (ev_eq f_182_86).trans (congrArg (fin S d 182) (if_pos ⟨rfl, hr⟩))
theorem f_182_89 : fetch 182 89 = some (89, .ifCond .eq 26, 3, [115], 0) := (fm_182 89).trans rfl
theorem u_182_89 {S : Scr} {d : Nat} {a0 a1 a2 a3 : AV} {st : List AV} {sh : Shp} {I : IM} {R : RM} {x : Int} : ev S d 182 89 [a0, a1, a2, a3] (.inl x :: st) (sh, I, R) = if x = 0 then ev S d 182 115 [a0, a1, a2, a3] st (sh, I, R) else ev S d 182 92 [a0, a1, a2, a3] st (sh, I, R) := (ev_eq f_182_89).trans fin_if_eq
theorem f_182_92 : fetch 182 92 = some (92, .bipush 10, 2, [], 10) := (fm_182 92).trans rfl
theorem u_182_92 {S : Scr} {d : Nat} {a0 a1 a2 a3 : AV} {st : List AV} {sh : Shp} {I : IM} {R : RM} : ev S d 182 92 [a0, a1, a2, a3] st (sh, I, R) = ev S d 182 94 [a0, a1, a2, a3] (.inl 10 :: st) (sh, I, R) := (ev_eq f_182_92).trans rfl
theorem f_182_94 : fetch 182 94 = some (94, .iload_n 3, 1, [3], 0) := (fm_182 94).trans rfl
theorem u_182_94 {S : Scr} {d : Nat} {a0 a1 a2 : AV} {st : List AV} {sh : Shp} {I : IM} {R : RM} {x : Int} : ev S d 182 94 [a0, a1, a2, .inl x] st (sh, I, R) = ev S d 182 95 [a0, a1, a2, .inl x] (.inl x :: st) (sh, I, R) := (ev_eq f_182_94).trans rfl
theorem f_182_95 : fetch 182 95 = some (95, .imul, 1, [], 0) := (fm_182 95).trans rfl
theorem u_182_95 {S : Scr} {d : Nat} {a0 a1 a2 a3 : AV} {st : List AV} {sh : Shp} {I : IM} {R : RM} {x y : Int} : ev S d 182 95 [a0, a1, a2, a3] (.inl y :: .inl x :: st) (sh, I, R) = ev S d 182 96 [a0, a1, a2, a3] (.inl (wr (x * y)) :: st) (sh, I, R) := (ev_eq f_182_95).trans rfl
theorem f_182_96 : fetch 182 96 = some (96, .aload_n 0, 1, [0], 0) := (fm_182 96).trans rfl
theorem u_182_96 {S : Scr} {d : Nat} {a1 a2 a3 : AV} {st : List AV} {sh : Shp} {I : IM} {R : RM} {x : Nat} : ev S d 182 96 [.inr (.inl x), a1, a2, a3] st (sh, I, R) = ev S d 182 97 [.inr (.inl x), a1, a2, a3] (.inr (.inl x) :: st) (sh, I, R) := (ev_eq f_182_96).trans rfl
theorem f_182_97 : fetch 182 97 = some (97, .invokevirtual 188, 3, [178, 0, 155], 0) := (fm_182 97).trans rfl
theorem u_182_97 {S : Scr} {d : Nat} {a0 a1 a2 a3 : AV} {st : List AV} {sh : Shp} {I : IM} {R : RM} {k : Nat} (h : tg sh k = 9) (hr : st.length ≤ 8) : ev S d 182 97 [a0, a1, a2, a3] (.inr (.inl k) :: st) (sh, I, R) = bnd (cl d 178 [.inr (.inl k)] (sh, I, R)) (fun v M => ev S d 182 100 [a0, a1, a2, a3] (psh v st) M) := (ev_eq f_182_97).trans (congrArg (fin S d 182) (if_pos ⟨h, rfl, hr⟩))
theorem f_182_100 : fetch 182 100 = some (100, .iadd, 1, [], 0) := (fm_182 100).trans rfl
theorem u_182_100 {S : Scr} {d : Nat} {a0 a1 a2 a3 : AV} {st : List AV} {sh : Shp} {I : IM} {R : RM} {x y : Int} : ev S d 182 100 [a0, a1, a2, a3] (.inl y :: .inl x :: st) (sh, I, R) = ev S d 182 101 [a0, a1, a2, a3] (.inl (wr (x + y)) :: st) (sh, I, R) := (ev_eq f_182_100).trans rfl
theorem f_182_101 : fetch 182 101 = some (101, .bipush 48, 2, [], 48) := (fm_182 101).trans rfl
theorem u_182_101 {S : Scr} {d : Nat} {a0 a1 a2 a3 : AV} {st : List AV} {sh : Shp} {I : IM} {R : RM} : ev S d 182 101 [a0, a1, a2, a3] st (sh, I, R) = ev S d 182 103 [a0, a1, a2, a3] (.inl 48 :: st) (sh, I, R) := (ev_eq f_182_101).trans rfl
theorem f_182_103 : fetch 182 103 = some (103, .isub, 1, [], 0) := (fm_182 103).trans rfl
theorem u_182_103 {S : Scr} {d : Nat} {a0 a1 a2 a3 : AV} {st : List AV} {sh : Shp} {I : IM} {R : RM} {x y : Int} : ev S d 182 103 [a0, a1, a2, a3] (.inl y :: .inl x :: st) (sh, I, R) = ev S d 182 104 [a0, a1, a2, a3] (.inl (wr (x - y)) :: st) (sh, I, R) := (ev_eq f_182_103).trans rfl
theorem f_182_104 : fetch 182 104 = some (104, .istore_n 3, 1, [3], 0) := (fm_182 104).trans rfl
theorem u_182_104 {S : Scr} {d : Nat} {a0 a1 a2 a3 : AV} {st : List AV} {sh : Shp} {I : IM} {R : RM} {x : Int} : ev S d 182 104 [a0, a1, a2, a3] (.inl x :: st) (sh, I, R) = ev S d 182 105 [a0, a1, a2, .inl x] st (sh, I, R) := (ev_eq f_182_104).trans rfl
theorem f_182_105 : fetch 182 105 = some (105, .aload_n 0, 1, [0], 0) := (fm_182 105).trans rfl
theorem u_182_105 {S : Scr} {d : Nat} {a1 a2 a3 : AV} {st : List AV} {sh : Shp} {I : IM} {R : RM} {x : Nat} : ev S d 182 105 [.inr (.inl x), a1, a2, a3] st (sh, I, R) = ev S d 182 106 [.inr (.inl x), a1, a2, a3] (.inr (.inl x) :: st) (sh, I, R) := (ev_eq f_182_105).trans rfl
theorem f_182_106 : fetch 182 106 = some (106, .dup, 1, [], 0) := (fm_182 106).trans rfl
theorem u_182_106 {S : Scr} {d : Nat} {a0 a1 a2 a3 : AV} {st : List AV} {sh : Shp} {I : IM} {R : RM} {x : AV} : ev S d 182 106 [a0, a1, a2, a3] (x :: st) (sh, I, R) = ev S d 182 107 [a0, a1, a2, a3] (x :: x :: st) (sh, I, R) := (ev_eq f_182_106).trans rfl
theorem f_182_107 : fetch 182 107 = some (107, .getfield 176, 3, [9, 18, 0, 99], 0) := (fm_182 107).trans rfl
theorem u_182_107 {S : Scr} {d : Nat} {a0 a1 a2 a3 : AV} {st : List AV} {sh : Shp} {I : IM} {R : RM} {k : Nat} (h : tg sh k = 9) : ev S d 182 107 [a0, a1, a2, a3] (.inr (.inl k) :: st) (sh, I, R) = ev S d 182 110 [a0, a1, a2, a3] (.inl (I k 18) :: st) (sh, I, R) := (ev_eq f_182_107).trans (congrArg (fin S d 182) (if_pos h))
theorem f_182_110 : fetch 182 110 = some (110, .iconst 1, 1, [], 1) := (fm_182 110).trans rfl
theorem u_182_110 {S : Scr} {d : Nat} {a0 a1 a2 a3 : AV} {st : List AV} {sh : Shp} {I : IM} {R : RM} : ev S d 182 110 [a0, a1, a2, a3] st (sh, I, R) = ev S d 182 111 [a0, a1, a2, a3] (.inl 1 :: st) (sh, I, R) := (ev_eq f_182_110).trans rfl
theorem f_182_111 : fetch 182 111 = some (111, .iadd, 1, [], 0) := (fm_182 111).trans rfl
theorem u_182_111 {S : Scr} {d : Nat} {a0 a1 a2 a3 : AV} {st : List AV} {sh : Shp} {I : IM} {R : RM} {x y : Int} : ev S d 182 111 [a0, a1, a2, a3] (.inl y :: .inl x :: st) (sh, I, R) = ev S d 182 112 [a0, a1, a2, a3] (.inl (wr (x + y)) :: st) (sh, I, R) := (ev_eq f_182_111).trans rfl
theorem f_182_112 : fetch 182 112 = some (112, .putfield 176, 3, [9, 18, 0, 99], 0) := (fm_182 112).trans rfl
theorem u_182_112 {S : Scr} {d : Nat} {a0 a1 a2 a3 : AV} {st : List AV} {sh : Shp} {I : IM} {R : RM} {k : Nat} {x : Int} (h : tg sh k = 9) : ev S d 182 112 [a0, a1, a2, a3] (.inl x :: .inr (.inl k) :: st) (sh, I, R) = ev S d 182 115 [a0, a1, a2, a3] st (sh, up I k 18 x, R) := (ev_eq f_182_112).trans (congrArg (fin S d 182) (if_pos h))
theorem f_182_115 : fetch 182 115 = some (115, .aload_n 0, 1, [0], 0) := (fm_182 115).trans rfl
theorem u_182_115 {S : Scr} {d : Nat} {a1 a2 a3 : AV} {st : List AV} {sh : Shp} {I : IM} {R : RM} {x : Nat} : ev S d 182 115 [.inr (.inl x), a1, a2, a3] st (sh, I, R) = ev S d 182 116 [.inr (.inl x), a1, a2, a3] (.inr (.inl x) :: st) (sh, I, R) := (ev_eq f_182_115).trans rfl
theorem f_182_116 : fetch 182 116 = some (116, .getfield 52, 3, [9, 22, 1, 93], 0) := (fm_182 116).trans rfl
theorem u_182_116 {S : Scr} {d : Nat} {a0 a1 a2 a3 : AV} {st : List AV} {sh : Shp} {I : IM} {R : RM} {k : Nat} (h : tg sh k = 9) : ev S d 182 116 [a0, a1, a2, a3] (.inr (.inl k) :: st) (sh, I, R) = ev S d 182 119 [a0, a1, a2, a3] (rv (R k 22) :: st) (sh, I, R) := (ev_eq f_182_116).trans (congrArg (fin S d 182) (if_pos h))
theorem f_182_119 : fetch 182 119 = some (119, .iload_n 1, 1, [1], 0) := (fm_182 119).trans rfl
theorem u_182_119 {S : Scr} {d : Nat} {a0 a2 a3 : AV} {st : List AV} {sh : Shp} {I : IM} {R : RM} {x : Int} : ev S d 182 119 [a0, .inl x, a2, a3] st (sh, I, R) = ev S d 182 120 [a0, .inl x, a2, a3] (.inl x :: st) (sh, I, R) := (ev_eq f_182_119).trans rfl
theorem f_182_120 : fetch 182 120 = some (120, .iload_n 2, 1, [2], 0) := (fm_182 120).trans rfl
theorem u_182_120 {S : Scr} {d : Nat} {a0 a1 a3 : AV} {st : List AV} {sh : Shp} {I : IM} {R : RM} {x : Int} : ev S d 182 120 [a0, a1, .inl x, a3] st (sh, I, R) = ev S d 182 121 [a0, a1, .inl x, a3] (.inl x :: st) (sh, I, R) := (ev_eq f_182_120).trans rfl
theorem f_182_121 : fetch 182 121 = some (121, .iload_n 3, 1, [3], 0) := (fm_182 121).trans rfl
theorem u_182_121 {S : Scr} {d : Nat} {a0 a1 a2 : AV} {st : List AV} {sh : Shp} {I : IM} {R : RM} {x : Int} : ev S d 182 121 [a0, a1, a2, .inl x] st (sh, I, R) = ev S d 182 122 [a0, a1, a2, .inl x] (.inl x :: st) (sh, I, R) := (ev_eq f_182_121).trans rfl
theorem f_182_122 : fetch 182 122 = some (122, .imul, 1, [], 0) := (fm_182 122).trans rfl
theorem u_182_122 {S : Scr} {d : Nat} {a0 a1 a2 a3 : AV} {st : List AV} {sh : Shp} {I : IM} {R : RM} {x y : Int} : ev S d 182 122 [a0, a1, a2, a3] (.inl y :: .inl x :: st) (sh, I, R) = ev S d 182 123 [a0, a1, a2, a3] (.inl (wr (x * y)) :: st) (sh, I, R) := (ev_eq f_182_122).trans rfl
theorem f_182_123 : fetch 182 123 = some (123, .iastore, 1, [], 0) := (fm_182 123).trans rfl
theorem u_182_123 {S : Scr} {d : Nat} {a0 a1 a2 a3 : AV} {st : List AV} {sh : Shp} {I : IM} {R : RM} {k : Nat} {i x : Int} (h : tg sh k = 100) (h0 : 0 ≤ i) (h1 : i < ln sh k) : ev S d 182 123 [a0, a1, a2, a3] (.inl x :: .inl i :: .inr (.inl k) :: st) (sh, I, R) = ev S d 182 124 [a0, a1, a2, a3] st (sh, up I k i x, R) := (ev_eq f_182_123).trans (congrArg (fin S d 182) (if_pos ⟨h, h0, h1⟩))
theorem f_182_124 : fetch 182 124 = some (124, .iconst 1, 1, [], 1) := (fm_182 124).trans rfl
theorem u_182_124 {S : Scr} {d : Nat} {a0 a1 a2 a3 : AV} {st : List AV} {sh : Shp} {I : IM} {R : RM} : ev S d 182 124 [a0, a1, a2, a3] st (sh, I, R) = ev S d 182 125 [a0, a1, a2, a3] (.inl 1 :: st) (sh, I, R) := (ev_eq f_182_124).trans rfl
theorem f_182_125 : fetch 182 125 = some (125, .ireturn, 1, [0], 0) := (fm_182 125).trans rfl
theorem u_182_125 {S : Scr} {d : Nat} {a0 a1 a2 a3 : AV} {sh : Shp} {I : IM} {R : RM} {x : Int} : ev S d 182 125 [a0, a1, a2, a3] [.inl x] (sh, I, R) = some (some (.inl x), (sh, I, R)) := (ev_eq f_182_125).trans fin_iret0
theorem c_183 {d : Nat} {a0 a1 : AV} {M : Mem} : cl (d + 1) 183 [a0, a1] M = ev S0 d 183 0 [a0, a1, .inr (.inr 1), .inr (.inr 1), .inr (.inr 1), .inr (.inr 1)] [] M := (cl_eq (as := [a0, a1]) (show 2 ≤ maxOf 183 by decide +kernel)).trans rfl
theorem mt_183 : MT[183]? = some m_183 := rfl
theorem fm_183 (pc : Nat) : fetch 183 pc = lk m_183.2.2.2.2.2 pc := by
  unfold fetch
  rw [mt_183]
theorem f_183_0 : fetch 183 0 = some (0, .aload_n 0, 1, [0], 0) := (fm_183 0).trans rfl
theorem u_183_0 {S : Scr} {d : Nat} {a1 a2 a3 a4 a5 : AV} {st : List AV} {sh : Shp} {I : IM} {R : RM} {x : Nat} : ev S d 183 0 [.inr (.inl x), a1, a2, a3, a4, a5] st (sh, I, R) = ev S d 183 1 [.inr (.inl x), a1, a2, a3, a4, a5] (.inr (.inl x) :: st) (sh, I, R) := (ev_eq f_183_0).trans rfl
theorem f_183_1 : fetch 183 1 = some (1, .invokevirtual 188, 3, [178, 0, 155], 0) := (fm_183 1).trans rfl
theorem u_183_1 {S : Scr} {d : Nat} {a0 a1 a2 a3 a4 a5 : AV} {st : List AV} {sh : Shp} {I : IM} {R : RM} {k : Nat} (h : tg sh k = 9) (hr : st.length ≤ 8) : ev S d 183 1 [a0, a1, a2, a3, a4, a5] (.inr (.inl k) :: st) (sh, I, R) = bnd (cl d 178 [.inr (.inl k)] (sh, I, R)) (fun v M => ev S d 183 4 [a0, a1, a2, a3, a4, a5] (psh v st) M) := (ev_eq f_183_1).trans (congrArg (fin S d 183) (if_pos ⟨h, rfl, hr⟩))
theorem f_183_4 : fetch 183 4 = some (4, .bipush 49, 2, [], 49) := (fm_183 4).trans rfl
theorem u_183_4 {S : Scr} {d : Nat} {a0 a1 a2 a3 a4 a5 : AV} {st : List AV} {sh : Shp} {I : IM} {R : RM} : ev S d 183 4 [a0, a1, a2, a3, a4, a5] st (sh, I, R) = ev S d 183 6 [a0, a1, a2, a3, a4, a5] (.inl 49 :: st) (sh, I, R) := (ev_eq f_183_4).trans rfl
theorem f_183_6 : fetch 183 6 = some (6, .bipush 51, 2, [], 51) := (fm_183 6).trans rfl
theorem u_183_6 {S : Scr} {d : Nat} {a0 a1 a2 a3 a4 a5 : AV} {st : List AV} {sh : Shp} {I : IM} {R : RM} : ev S d 183 6 [a0, a1, a2, a3, a4, a5] st (sh, I, R) = ev S d 183 8 [a0, a1, a2, a3, a4, a5] (.inl 51 :: st) (sh, I, R) := (ev_eq f_183_6).trans rfl
theorem f_183_8 : fetch 183 8 = some (8, .invokestatic 64, 3, [129, 3, 125], 0) := (fm_183 8).trans rfl
theorem u_183_8 {S : Scr} {d : Nat} {a0 a1 a2 a3 a4 a5 : AV} {st : List AV} {sh : Shp} {I : IM} {R : RM} {x0 : Int} {x1 : Int} {x2 : Int} (hr : st.length ≤ 8) : ev S d 183 8 [a0, a1, a2, a3, a4, a5] (.inl x2 :: .inl x1 :: .inl x0 :: st) (sh, I, R) = bnd (cl d 129 [.inl x0, .inl x1, .inl x2] (sh, I, R)) (fun v M => ev S d 183 11 [a0, a1, a2, a3, a4, a5] (psh v st) M) := (ev_eq f_183_8).trans (congrArg (fin S d 183) (if_pos ⟨rfl, hr⟩))
theorem f_183_11 : fetch 183 11 = some (11, .ifCond .ne 13, 3, [24], 0) := (fm_183 11).trans rfl
theorem u_183_11 {S : Scr} {d : Nat} {a0 a1 a2 a3 a4 a5 : AV} {st : List AV} {sh : Shp} {I : IM} {R : RM} {x : Int} : ev S d 183 11 [a0, a1, a2, a3, a4, a5] (.inl x :: st) (sh, I, R) = if ¬ x = 0 then ev S d 183 24 [a0, a1, a2, a3, a4, a5] st (sh, I, R) else ev S d 183 14 [a0, a1, a2, a3, a4, a5] st (sh, I, R) := (ev_eq f_183_11).trans fin_if_ne
theorem f_183_14 : fetch 183 14 = some (14, .aload_n 0, 1, [0], 0) := (fm_183 14).trans rfl
theorem u_183_14 {S : Scr} {d : Nat} {a1 a2 a3 a4 a5 : AV} {st : List AV} {sh : Shp} {I : IM} {R : RM} {x : Nat} : ev S d 183 14 [.inr (.inl x), a1, a2, a3, a4, a5] st (sh, I, R) = ev S d 183 15 [.inr (.inl x), a1, a2, a3, a4, a5] (.inr (.inl x) :: st) (sh, I, R) := (ev_eq f_183_14).trans rfl
theorem f_183_15 : fetch 183 15 = some (15, .iconst 1, 1, [], 1) := (fm_183 15).trans rfl
theorem u_183_15 {S : Scr} {d : Nat} {a0 a1 a2 a3 a4 a5 : AV} {st : List AV} {sh : Shp} {I : IM} {R : RM} : ev S d 183 15 [a0, a1, a2, a3, a4, a5] st (sh, I, R) = ev S d 183 16 [a0, a1, a2, a3, a4, a5] (.inl 1 :: st) (sh, I, R) := (ev_eq f_183_15).trans rfl
theorem f_183_16 : fetch 183 16 = some (16, .aload_n 0, 1, [0], 0) := (fm_183 16).trans rfl
theorem u_183_16 {S : Scr} {d : Nat} {a1 a2 a3 a4 a5 : AV} {st : List AV} {sh : Shp} {I : IM} {R : RM} {x : Nat} : ev S d 183 16 [.inr (.inl x), a1, a2, a3, a4, a5] st (sh, I, R) = ev S d 183 17 [.inr (.inl x), a1, a2, a3, a4, a5] (.inr (.inl x) :: st) (sh, I, R) := (ev_eq f_183_16).trans rfl
theorem f_183_17 : fetch 183 17 = some (17, .getfield 176, 3, [9, 18, 0, 99], 0) := (fm_183 17).trans rfl
theorem u_183_17 {S : Scr} {d : Nat} {a0 a1 a2 a3 a4 a5 : AV} {st : List AV} {sh : Shp} {I : IM} {R : RM} {k : Nat} (h : tg sh k = 9) : ev S d 183 17 [a0, a1, a2, a3, a4, a5] (.inr (.inl k) :: st) (sh, I, R) = ev S d 183 20 [a0, a1, a2, a3, a4, a5] (.inl (I k 18) :: st) (sh, I, R) := (ev_eq f_183_17).trans (congrArg (fin S d 183) (if_pos h))
theorem f_183_20 : fetch 183 20 = some (20, .invokevirtual 191, 3, [179, 2, 156], 0) := (fm_183 20).trans rfl
theorem u_183_20 {S : Scr} {d : Nat} {a0 a1 a2 a3 a4 a5 : AV} {st : List AV} {sh : Shp} {I : IM} {R : RM} {x0 : Int} {x1 : Int} {k : Nat} (h : tg sh k = 9) (hr : st.length ≤ 8) : ev S d 183 20 [a0, a1, a2, a3, a4, a5] (.inl x1 :: .inl x0 :: .inr (.inl k) :: st) (sh, I, R) = bnd (cl d 179 [.inr (.inl k), .inl x0, .inl x1] (sh, I, R)) (fun v M => ev S d 183 23 [a0, a1, a2, a3, a4, a5] (psh v st) M) := (ev_eq f_183_20).trans (congrArg (fin S d 183) (if_pos ⟨h, rfl, hr⟩))
theorem f_183_23 : fetch 183 23 = some (23, .ireturn, 1, [0], 0) := (fm_183 23).trans rfl
theorem u_183_23 {S : Scr} {d : Nat} {a0 a1 a2 a3 a4 a5 : AV} {sh : Shp} {I : IM} {R : RM} {x : Int} : ev S d 183 23 [a0, a1, a2, a3, a4, a5] [.inl x] (sh, I, R) = some (some (.inl x), (sh, I, R)) := (ev_eq f_183_23).trans fin_iret0
theorem f_183_24 : fetch 183 24 = some (24, .aload_n 0, 1, [0], 0) := (fm_183 24).trans rfl
theorem u_183_24 {S : Scr} {d : Nat} {a1 a2 a3 a4 a5 : AV} {st : List AV} {sh : Shp} {I : IM} {R : RM} {x : Nat} : ev S d 183 24 [.inr (.inl x), a1, a2, a3, a4, a5] st (sh, I, R) = ev S d 183 25 [.inr (.inl x), a1, a2, a3, a4, a5] (.inr (.inl x) :: st) (sh, I, R) := (ev_eq f_183_24).trans rfl
theorem f_183_25 : fetch 183 25 = some (25, .dup, 1, [], 0) := (fm_183 25).trans rfl
theorem u_183_25 {S : Scr} {d : Nat} {a0 a1 a2 a3 a4 a5 : AV} {st : List AV} {sh : Shp} {I : IM} {R : RM} {x : AV} : ev S d 183 25 [a0, a1, a2, a3, a4, a5] (x :: st) (sh, I, R) = ev S d 183 26 [a0, a1, a2, a3, a4, a5] (x :: x :: st) (sh, I, R) := (ev_eq f_183_25).trans rfl
theorem f_183_26 : fetch 183 26 = some (26, .getfield 176, 3, [9, 18, 0, 99], 0) := (fm_183 26).trans rfl
theorem u_183_26 {S : Scr} {d : Nat} {a0 a1 a2 a3 a4 a5 : AV} {st : List AV} {sh : Shp} {I : IM} {R : RM} {k : Nat} (h : tg sh k = 9) : ev S d 183 26 [a0, a1, a2, a3, a4, a5] (.inr (.inl k) :: st) (sh, I, R) = ev S d 183 29 [a0, a1, a2, a3, a4, a5] (.inl (I k 18) :: st) (sh, I, R) := (ev_eq f_183_26).trans (congrArg (fin S d 183) (if_pos h))
theorem f_183_29 : fetch 183 29 = some (29, .iconst 1, 1, [], 1) := (fm_183 29).trans rfl
theorem u_183_29 {S : Scr} {d : Nat} {a0 a1 a2 a3 a4 a5 : AV} {st : List AV} {sh : Shp} {I : IM} {R : RM} : ev S d 183 29 [a0, a1, a2, a3, a4, a5] st (sh, I, R) = ev S d 183 30 [a0, a1, a2, a3, a4, a5] (.inl 1 :: st) (sh, I, R) := (ev_eq f_183_29).trans rfl
theorem f_183_30 : fetch 183 30 = some (30, .iadd, 1, [], 0) := (fm_183 30).trans rfl
theorem u_183_30 {S : Scr} {d : Nat} {a0 a1 a2 a3 a4 a5 : AV} {st : List AV} {sh : Shp} {I : IM} {R : RM} {x y : Int} : ev S d 183 30 [a0, a1, a2, a3, a4, a5] (.inl y :: .inl x :: st) (sh, I, R) = ev S d 183 31 [a0, a1, a2, a3, a4, a5] (.inl (wr (x + y)) :: st) (sh, I, R) := (ev_eq f_183_30).trans rfl
theorem f_183_31 : fetch 183 31 = some (31, .putfield 176, 3, [9, 18, 0, 99], 0) := (fm_183 31).trans rfl
theorem u_183_31 {S : Scr} {d : Nat} {a0 a1 a2 a3 a4 a5 : AV} {st : List AV} {sh : Shp} {I : IM} {R : RM} {k : Nat} {x : Int} (h : tg sh k = 9) : ev S d 183 31 [a0, a1, a2, a3, a4, a5] (.inl x :: .inr (.inl k) :: st) (sh, I, R) = ev S d 183 34 [a0, a1, a2, a3, a4, a5] st (sh, up I k 18 x, R) := (ev_eq f_183_31).trans (congrArg (fin S d 183) (if_pos h))
theorem f_183_34 : fetch 183 34 = some (34, .iconst 0, 1, [], 0) := (fm_183 34).trans rfl
theorem u_183_34 {S : Scr} {d : Nat} {a0 a1 a2 a3 a4 a5 : AV} {st : List AV} {sh : Shp} {I : IM} {R : RM} : ev S d 183 34 [a0, a1, a2, a3, a4, a5] st (sh, I, R) = ev S d 183 35 [a0, a1, a2, a3, a4, a5] (.inl 0 :: st) (sh, I, R) := (ev_eq f_183_34).trans rfl
theorem f_183_35 : fetch 183 35 = some (35, .istore_n 2, 1, [2], 0) := (fm_183 35).trans rfl
theorem u_183_35 {S : Scr} {d : Nat} {a0 a1 a2 a3 a4 a5 : AV} {st : List AV} {sh : Shp} {I : IM} {R : RM} {x : Int} : ev S d 183 35 [a0, a1, a2, a3, a4, a5] (.inl x :: st) (sh, I, R) = ev S d 183 36 [a0, a1, .inl x, a3, a4, a5] st (sh, I, R) := (ev_eq f_183_35).trans rfl
theorem f_183_36 : fetch 183 36 = some (36, .aload_n 0, 1, [0], 0) := (fm_183 36).trans rfl
theorem u_183_36 {S : Scr} {d : Nat} {a1 a2 a3 a4 a5 : AV} {st : List AV} {sh : Shp} {I : IM} {R : RM} {x : Nat} : ev S d 183 36 [.inr (.inl x), a1, a2, a3, a4, a5] st (sh, I, R) = ev S d 183 37 [.inr (.inl x), a1, a2, a3, a4, a5] (.inr (.inl x) :: st) (sh, I, R) := (ev_eq f_183_36).trans rfl
theorem f_183_37 : fetch 183 37 = some (37, .invokevirtual 188, 3, [178, 0, 155], 0) := (fm_183 37).trans rfl
theorem u_183_37 {S : Scr} {d : Nat} {a0 a1 a2 a3 a4 a5 : AV} {st : List AV} {sh : Shp} {I : IM} {R : RM} {k : Nat} (h : tg sh k = 9) (hr : st.length ≤ 8) : ev S d 183 37 [a0, a1, a2, a3, a4, a5] (.inr (.inl k) :: st) (sh, I, R) = bnd (cl d 178 [.inr (.inl k)] (sh, I, R)) (fun v M => ev S d 183 40 [a0, a1, a2, a3, a4, a5] (psh v st) M) := (ev_eq f_183_37).trans (congrArg (fin S d 183) (if_pos ⟨h, rfl, hr⟩))
theorem f_183_40 : fetch 183 40 = some (40, .bipush 46, 2, [], 46) := (fm_183 40).trans rfl
theorem u_183_40 {S : Scr} {d : Nat} {a0 a1 a2 a3 a4 a5 : AV} {st : List AV} {sh : Shp} {I : IM} {R : RM} : ev S d 183 40 [a0, a1, a2, a3, a4, a5] st (sh, I, R) = ev S d 183 42 [a0, a1, a2, a3, a4, a5] (.inl 46 :: st) (sh, I, R) := (ev_eq f_183_40).trans rfl
theorem f_183_42 : fetch 183 42 = some (42, .if_icmp .eq 126, 3, [168], 0) := (fm_183 42).trans rfl
theorem u_183_42 {S : Scr} {d : Nat} {a0 a1 a2 a3 a4 a5 : AV} {st : List AV} {sh : Shp} {I : IM} {R : RM} {x y : Int} : ev S d 183 42 [a0, a1, a2, a3, a4, a5] (.inl y :: .inl x :: st) (sh, I, R) = if x = y then ev S d 183 168 [a0, a1, a2, a3, a4, a5] st (sh, I, R) else ev S d 183 45 [a0, a1, a2, a3, a4, a5] st (sh, I, R) := (ev_eq f_183_42).trans fin_icmp_eq
theorem f_183_45 : fetch 183 45 = some (45, .aload_n 0, 1, [0], 0) := (fm_183 45).trans rfl
theorem u_183_45 {S : Scr} {d : Nat} {a1 a2 a3 a4 a5 : AV} {st : List AV} {sh : Shp} {I : IM} {R : RM} {x : Nat} : ev S d 183 45 [.inr (.inl x), a1, a2, a3, a4, a5] st (sh, I, R) = ev S d 183 46 [.inr (.inl x), a1, a2, a3, a4, a5] (.inr (.inl x) :: st) (sh, I, R) := (ev_eq f_183_45).trans rfl
theorem f_183_46 : fetch 183 46 = some (46, .invokevirtual 188, 3, [178, 0, 155], 0) := (fm_183 46).trans rfl
theorem u_183_46 {S : Scr} {d : Nat} {a0 a1 a2 a3 a4 a5 : AV} {st : List AV} {sh : Shp} {I : IM} {R : RM} {k : Nat} (h : tg sh k = 9) (hr : st.length ≤ 8) : ev S d 183 46 [a0, a1, a2, a3, a4, a5] (.inr (.inl k) :: st) (sh, I, R) = bnd (cl d 178 [.inr (.inl k)] (sh, I, R)) (fun v M => ev S d 183 49 [a0, a1, a2, a3, a4, a5] (psh v st) M) := (ev_eq f_183_46).trans (congrArg (fin S d 183) (if_pos ⟨h, rfl, hr⟩))
theorem f_183_49 : fetch 183 49 = some (49, .istore_n 3, 1, [3], 0) := (fm_183 49).trans rfl
theorem u_183_49 {S : Scr} {d : Nat} {a0 a1 a2 a3 a4 a5 : AV} {st : List AV} {sh : Shp} {I : IM} {R : RM} {x : Int} : ev S d 183 49 [a0, a1, a2, a3, a4, a5] (.inl x :: st) (sh, I, R) = ev S d 183 50 [a0, a1, a2, .inl x, a4, a5] st (sh, I, R) := (ev_eq f_183_49).trans rfl
theorem f_183_50 : fetch 183 50 = some (50, .iload_n 3, 1, [3], 0) := (fm_183 50).trans rfl
theorem u_183_50 {S : Scr} {d : Nat} {a0 a1 a2 a4 a5 : AV} {st : List AV} {sh : Shp} {I : IM} {R : RM} {x : Int} : ev S d 183 50 [a0, a1, a2, .inl x, a4, a5] st (sh, I, R) = ev S d 183 51 [a0, a1, a2, .inl x, a4, a5] (.inl x :: st) (sh, I, R) := (ev_eq f_183_50).trans rfl
theorem f_183_51 : fetch 183 51 = some (51, .invokestatic 95, 3, [131, 1, 133], 0) := (fm_183 51).trans rfl
theorem u_183_51 {S : Scr} {d : Nat} {a0 a1 a2 a3 a4 a5 : AV} {st : List AV} {sh : Shp} {I : IM} {R : RM} {x0 : Int} (hr : st.length ≤ 8) : ev S d 183 51 [a0, a1, a2, a3, a4, a5] (.inl x0 :: st) (sh, I, R) = bnd (cl d 131 [.inl x0] (sh, I, R)) (fun v M => ev S d 183 54 [a0, a1, a2, a3, a4, a5] (psh v st) M) := (ev_eq f_183_51).trans (congrArg (fin S d 183) (if_pos ⟨rfl, hr⟩))
theorem f_183_54 : fetch 183 54 = some (54, .ifCond .ne 13, 3, [67], 0) := (fm_183 54).trans rfl
theorem u_183_54 {S : Scr} {d : Nat} {a0 a1 a2 a3 a4 a5 : AV} {st : List AV} {sh : Shp} {I : IM} {R : RM} {x : Int} : ev S d 183 54 [a0, a1, a2, a3, a4, a5] (.inl x :: st) (sh, I, R) = if ¬ x = 0 then ev S d 183 67 [a0, a1, a2, a3, a4, a5] st (sh, I, R) else ev S d 183 57 [a0, a1, a2, a3, a4, a5] st (sh, I, R) := (ev_eq f_183_54).trans fin_if_ne
theorem f_183_57 : fetch 183 57 = some (57, .aload_n 0, 1, [0], 0) := (fm_183 57).trans rfl
theorem u_183_57 {S : Scr} {d : Nat} {a1 a2 a3 a4 a5 : AV} {st : List AV} {sh : Shp} {I : IM} {R : RM} {x : Nat} : ev S d 183 57 [.inr (.inl x), a1, a2, a3, a4, a5] st (sh, I, R) = ev S d 183 58 [.inr (.inl x), a1, a2, a3, a4, a5] (.inr (.inl x) :: st) (sh, I, R) := (ev_eq f_183_57).trans rfl
theorem f_183_58 : fetch 183 58 = some (58, .iconst 1, 1, [], 1) := (fm_183 58).trans rfl
theorem u_183_58 {S : Scr} {d : Nat} {a0 a1 a2 a3 a4 a5 : AV} {st : List AV} {sh : Shp} {I : IM} {R : RM} : ev S d 183 58 [a0, a1, a2, a3, a4, a5] st (sh, I, R) = ev S d 183 59 [a0, a1, a2, a3, a4, a5] (.inl 1 :: st) (sh, I, R) := (ev_eq f_183_58).trans rfl
theorem f_183_59 : fetch 183 59 = some (59, .aload_n 0, 1, [0], 0) := (fm_183 59).trans rfl
theorem u_183_59 {S : Scr} {d : Nat} {a1 a2 a3 a4 a5 : AV} {st : List AV} {sh : Shp} {I : IM} {R : RM} {x : Nat} : ev S d 183 59 [.inr (.inl x), a1, a2, a3, a4, a5] st (sh, I, R) = ev S d 183 60 [.inr (.inl x), a1, a2, a3, a4, a5] (.inr (.inl x) :: st) (sh, I, R) := (ev_eq f_183_59).trans rfl
theorem f_183_60 : fetch 183 60 = some (60, .getfield 176, 3, [9, 18, 0, 99], 0) := (fm_183 60).trans rfl
theorem u_183_60 {S : Scr} {d : Nat} {a0 a1 a2 a3 a4 a5 : AV} {st : List AV} {sh : Shp} {I : IM} {R : RM} {k : Nat} (h : tg sh k = 9) : ev S d 183 60 [a0, a1, a2, a3, a4, a5] (.inr (.inl k) :: st) (sh, I, R) = ev S d 183 63 [a0, a1, a2, a3, a4, a5] (.inl (I k 18) :: st) (sh, I, R) := (ev_eq f_183_60).trans (congrArg (fin S d 183) (if_pos h))
theorem f_183_63 : fetch 183 63 = some (63, .invokevirtual 191, 3, [179, 2, 156], 0) := (fm_183 63).trans rfl
theorem u_183_63 {S : Scr} {d : Nat} {a0 a1 a2 a3 a4 a5 : AV} {st : List AV} {sh : Shp} {I : IM} {R : RM} {x0 : Int} {x1 : Int} {k : Nat} (h : tg sh k = 9) (hr : st.length ≤ 8) : ev S d 183 63 [a0, a1, a2, a3, a4, a5] (.inl x1 :: .inl x0 :: .inr (.inl k) :: st) (sh, I, R) = bnd (cl d 179 [.inr (.inl k), .inl x0, .inl x1] (sh, I, R)) (fun v M => ev S d 183 66 [a0, a1, a2, a3, a4, a5] (psh v st) M) := (ev_eq f_183_63).trans (congrArg (fin S d 183) (if_pos ⟨h, rfl, hr⟩))
theorem f_183_66 : fetch 183 66 = some (66, .ireturn, 1, [0], 0) := (fm_183 66).trans rfl
theorem u_183_66 {S : Scr} {d : Nat} {a0 a1 a2 a3 a4 a5 : AV} {sh : Shp} {I : IM} {R : RM} {x : Int} : ev S d 183 66 [a0, a1, a2, a3, a4, a5] [.inl x] (sh, I, R) = some (some (.inl x), (sh, I, R)) := (ev_eq f_183_66).trans fin_iret0
theorem f_183_67 : fetch 183 67 = some (67, .iload_n 2, 1, [2], 0) := (fm_183 67).trans rfl
theorem u_183_67 {S : Scr} {d : Nat} {a0 a1 a3 a4 a5 : AV} {st : List AV} {sh : Shp} {I : IM} {R : RM} {x : Int} : ev S d 183 67 [a0, a1, .inl x, a3, a4, a5] st (sh, I, R) = ev S d 183 68 [a0, a1, .inl x, a3, a4, a5] (.inl x :: st) (sh, I, R) := (ev_eq f_183_67).trans rfl
theorem f_183_68 : fetch 183 68 = some (68, .bipush 6, 2, [], 6) := (fm_183 68).trans rfl
theorem u_183_68 {S : Scr} {d : Nat} {a0 a1 a2 a3 a4 a5 : AV} {st : List AV} {sh : Shp} {I : IM} {R : RM} : ev S d 183 68 [a0, a1, a2, a3, a4, a5] st (sh, I, R) = ev S d 183 70 [a0, a1, a2, a3, a4, a5] (.inl 6 :: st) (sh, I, R) := (ev_eq f_183_68).trans rfl
theorem f_183_70 : fetch 183 70 = some (70, .if_icmp .ne 7, 3, [77], 0) := (fm_183 70).trans rfl
theorem u_183_70 {S : Scr} {d : Nat} {a0 a1 a2 a3 a4 a5 : AV} {st : List AV} {sh : Shp} {I : IM} {R : RM} {x y : Int} : ev S d 183 70 [a0, a1, a2, a3, a4, a5] (.inl y :: .inl x :: st) (sh, I, R) = if ¬ x = y then ev S d 183 77 [a0, a1, a2, a3, a4, a5] st (sh, I, R) else ev S d 183 73 [a0, a1, a2, a3, a4, a5] st (sh, I, R) := (ev_eq f_183_70).trans fin_icmp_ne
theorem f_183_73 : fetch 183 73 = some (73, .iconst 1, 1, [], 1) := (fm_183 73).trans rfl
theorem u_183_73 {S : Scr} {d : Nat} {a0 a1 a2 a3 a4 a5 : AV} {st : List AV} {sh : Shp} {I : IM} {R : RM} : ev S d 183 73 [a0, a1, a2, a3, a4, a5] st (sh, I, R) = ev S d 183 74 [a0, a1, a2, a3, a4, a5] (.inl 1 :: st) (sh, I, R) := (ev_eq f_183_73).trans rfl
theorem f_183_74 : fetch 183 74 = some (74, .goto 4, 3, [78], 0) := (fm_183 74).trans rfl
theorem u_183_74 {S : Scr} {d : Nat} {a0 a1 a2 a3 a4 a5 : AV} {st : List AV} {sh : Shp} {I : IM} {R : RM} : ev S d 183 74 [a0, a1, a2, a3, a4, a5] st (sh, I, R) = ev S d 183 78 [a0, a1, a2, a3, a4, a5] st (sh, I, R) := (ev_eq f_183_74).trans rfl
theorem f_183_77 : fetch 183 77 = some (77, .iconst 0, 1, [], 0) := (fm_183 77).trans rfl
theorem u_183_77 {S : Scr} {d : Nat} {a0 a1 a2 a3 a4 a5 : AV} {st : List AV} {sh : Shp} {I : IM} {R : RM} : ev S d 183 77 [a0, a1, a2, a3, a4, a5] st (sh, I, R) = ev S d 183 78 [a0, a1, a2, a3, a4, a5] (.inl 0 :: st) (sh, I, R) := (ev_eq f_183_77).trans rfl
theorem f_183_78 : fetch 183 78 = some (78, .istore 4, 2, [4], 0) := (fm_183 78).trans rfl
theorem u_183_78 {S : Scr} {d : Nat} {a0 a1 a2 a3 a4 a5 : AV} {st : List AV} {sh : Shp} {I : IM} {R : RM} {x : Int} : ev S d 183 78 [a0, a1, a2, a3, a4, a5] (.inl x :: st) (sh, I, R) = ev S d 183 80 [a0, a1, a2, a3, .inl x, a5] st (sh, I, R) := (ev_eq f_183_78).trans rfl
theorem f_183_80 : fetch 183 80 = some (80, .iconst 0, 1, [], 0) := (fm_183 80).trans rfl
theorem u_183_80 {S : Scr} {d : Nat} {a0 a1 a2 a3 a4 a5 : AV} {st : List AV} {sh : Shp} {I : IM} {R : RM} : ev S d 183 80 [a0, a1, a2, a3, a4, a5] st (sh, I, R) = ev S d 183 81 [a0, a1, a2, a3, a4, a5] (.inl 0 :: st) (sh, I, R) := (ev_eq f_183_80).trans rfl
theorem f_183_81 : fetch 183 81 = some (81, .istore 5, 2, [5], 0) := (fm_183 81).trans rfl
theorem u_183_81 {S : Scr} {d : Nat} {a0 a1 a2 a3 a4 a5 : AV} {st : List AV} {sh : Shp} {I : IM} {R : RM} {x : Int} : ev S d 183 81 [a0, a1, a2, a3, a4, a5] (.inl x :: st) (sh, I, R) = ev S d 183 83 [a0, a1, a2, a3, a4, .inl x] st (sh, I, R) := (ev_eq f_183_81).trans rfl
theorem f_183_83 : fetch 183 83 = some (83, .iload 5, 2, [5], 0) := (fm_183 83).trans rfl
theorem u_183_83 {S : Scr} {d : Nat} {a0 a1 a2 a3 a4 : AV} {st : List AV} {sh : Shp} {I : IM} {R : RM} {x : Int} : ev S d 183 83 [a0, a1, a2, a3, a4, .inl x] st (sh, I, R) = ev S d 183 85 [a0, a1, a2, a3, a4, .inl x] (.inl x :: st) (sh, I, R) := (ev_eq f_183_83).trans rfl
theorem f_183_85 : fetch 183 85 = some (85, .iload_n 2, 1, [2], 0) := (fm_183 85).trans rfl
theorem u_183_85 {S : Scr} {d : Nat} {a0 a1 a3 a4 a5 : AV} {st : List AV} {sh : Shp} {I : IM} {R : RM} {x : Int} : ev S d 183 85 [a0, a1, .inl x, a3, a4, a5] st (sh, I, R) = ev S d 183 86 [a0, a1, .inl x, a3, a4, a5] (.inl x :: st) (sh, I, R) := (ev_eq f_183_85).trans rfl
theorem f_183_86 : fetch 183 86 = some (86, .if_icmp .ge 30, 3, [116], 0) := (fm_183 86).trans rfl
theorem u_183_86 {S : Scr} {d : Nat} {a0 a1 a2 a3 a4 a5 : AV} {st : List AV} {sh : Shp} {I : IM} {R : RM} {x y : Int} : ev S d 183 86 [a0, a1, a2, a3, a4, a5] (.inl y :: .inl x :: st) (sh, I, R) = if y ≤ x then ev S d 183 116 [a0, a1, a2, a3, a4, a5] st (sh, I, R) else ev S d 183 89 [a0, a1, a2, a3, a4, a5] st (sh, I, R) := (ev_eq f_183_86).trans fin_icmp_ge
theorem f_183_89 : fetch 183 89 = some (89, .iload 4, 2, [4], 0) := (fm_183 89).trans rfl
theorem u_183_89 {S : Scr} {d : Nat} {a0 a1 a2 a3 a5 : AV} {st : List AV} {sh : Shp} {I : IM} {R : RM} {x : Int} : ev S d 183 89 [a0, a1, a2, a3, .inl x, a5] st (sh, I, R) = ev S d 183 91 [a0, a1, a2, a3, .inl x, a5] (.inl x :: st) (sh, I, R) := (ev_eq f_183_89).trans rfl
theorem f_183_91 : fetch 183 91 = some (91, .aload_n 0, 1, [0], 0) := (fm_183 91).trans rfl
theorem u_183_91 {S : Scr} {d : Nat} {a1 a2 a3 a4 a5 : AV} {st : List AV} {sh : Shp} {I : IM} {R : RM} {x : Nat} : ev S d 183 91 [.inr (.inl x), a1, a2, a3, a4, a5] st (sh, I, R) = ev S d 183 92 [.inr (.inl x), a1, a2, a3, a4, a5] (.inr (.inl x) :: st) (sh, I, R) := (ev_eq f_183_91).trans rfl
theorem f_183_92 : fetch 183 92 = some (92, .getfield 49, 3, [9, 21, 1, 92], 0) := (fm_183 92).trans rfl
theorem u_183_92 {S : Scr} {d : Nat} {a0 a1 a2 a3 a4 a5 : AV} {st : List AV} {sh : Shp} {I : IM} {R : RM} {k : Nat} (h : tg sh k = 9) : ev S d 183 92 [a0, a1, a2, a3, a4, a5] (.inr (.inl k) :: st) (sh, I, R) = ev S d 183 95 [a0, a1, a2, a3, a4, a5] (rv (R k 21) :: st) (sh, I, R) := (ev_eq f_183_92).trans (congrArg (fin S d 183) (if_pos h))
theorem f_183_95 : fetch 183 95 = some (95, .iload 5, 2, [5], 0) := (fm_183 95).trans rfl
theorem u_183_95 {S : Scr} {d : Nat} {a0 a1 a2 a3 a4 : AV} {st : List AV} {sh : Shp} {I : IM} {R : RM} {x : Int} : ev S d 183 95 [a0, a1, a2, a3, a4, .inl x] st (sh, I, R) = ev S d 183 97 [a0, a1, a2, a3, a4, .inl x] (.inl x :: st) (sh, I, R) := (ev_eq f_183_95).trans rfl
theorem f_183_97 : fetch 183 97 = some (97, .iaload, 1, [], 0) := (fm_183 97).trans rfl
theorem u_183_97 {S : Scr} {d : Nat} {a0 a1 a2 a3 a4 a5 : AV} {st : List AV} {sh : Shp} {I : IM} {R : RM} {k : Nat} {i : Int} (h : tg sh k = 100) (h0 : 0 ≤ i) (h1 : i < ln sh k) : ev S d 183 97 [a0, a1, a2, a3, a4, a5] (.inl i :: .inr (.inl k) :: st) (sh, I, R) = ev S d 183 98 [a0, a1, a2, a3, a4, a5] (.inl (I k i) :: st) (sh, I, R) := (ev_eq f_183_97).trans (congrArg (fin S d 183) (if_pos ⟨h, h0, h1⟩))
theorem f_183_98 : fetch 183 98 = some (98, .iload_n 3, 1, [3], 0) := (fm_183 98).trans rfl
theorem u_183_98 {S : Scr} {d : Nat} {a0 a1 a2 a4 a5 : AV} {st : List AV} {sh : Shp} {I : IM} {R : RM} {x : Int} : ev S d 183 98 [a0, a1, a2, .inl x, a4, a5] st (sh, I, R) = ev S d 183 99 [a0, a1, a2, .inl x, a4, a5] (.inl x :: st) (sh, I, R) := (ev_eq f_183_98).trans rfl
theorem f_183_99 : fetch 183 99 = some (99, .if_icmp .ne 7, 3, [106], 0) := (fm_183 99).trans rfl
theorem u_183_99 {S : Scr} {d : Nat} {a0 a1 a2 a3 a4 a5 : AV} {st : List AV} {sh : Shp} {I : IM} {R : RM} {x y : Int} : ev S d 183 99 [a0, a1, a2, a3, a4, a5] (.inl y :: .inl x :: st) (sh, I, R) = if ¬ x = y then ev S d 183 106 [a0, a1, a2, a3, a4, a5] st (sh, I, R) else ev S d 183 102 [a0, a1, a2, a3, a4, a5] st (sh, I, R) := (ev_eq f_183_99).trans fin_icmp_ne
theorem f_183_102 : fetch 183 102 = some (102, .iconst 1, 1, [], 1) := (fm_183 102).trans rfl
theorem u_183_102 {S : Scr} {d : Nat} {a0 a1 a2 a3 a4 a5 : AV} {st : List AV} {sh : Shp} {I : IM} {R : RM} : ev S d 183 102 [a0, a1, a2, a3, a4, a5] st (sh, I, R) = ev S d 183 103 [a0, a1, a2, a3, a4, a5] (.inl 1 :: st) (sh, I, R) := (ev_eq f_183_102).trans rfl
theorem f_183_103 : fetch 183 103 = some (103, .goto 4, 3, [107], 0) := (fm_183 103).trans rfl
theorem u_183_103 {S : Scr} {d : Nat} {a0 a1 a2 a3 a4 a5 : AV} {st : List AV} {sh : Shp} {I : IM} {R : RM} : ev S d 183 103 [a0, a1, a2, a3, a4, a5] st (sh, I, R) = ev S d 183 107 [a0, a1, a2, a3, a4, a5] st (sh, I, R) := (ev_eq f_183_103).trans rfl
theorem f_183_106 : fetch 183 106 = some (106, .iconst 0, 1, [], 0) := (fm_183 106).trans rfl
theorem u_183_106 {S : Scr} {d : Nat} {a0 a1 a2 a3 a4 a5 : AV} {st : List AV} {sh : Shp} {I : IM} {R : RM} : ev S d 183 106 [a0, a1, a2, a3, a4, a5] st (sh, I, R) = ev S d 183 107 [a0, a1, a2, a3, a4, a5] (.inl 0 :: st) (sh, I, R) := (ev_eq f_183_106).trans rfl
theorem f_183_107 : fetch 183 107 = some (107, .ior, 1, [], 0) := (fm_183 107).trans rfl
theorem u_183_107 {S : Scr} {d : Nat} {a0 a1 a2 a3 a4 a5 : AV} {st : List AV} {sh : Shp} {I : IM} {R : RM} {x y : Int} : ev S d 183 107 [a0, a1, a2, a3, a4, a5] (.inl y :: .inl x :: st) (sh, I, R) = ev S d 183 108 [a0, a1, a2, a3, a4, a5] (.inl (b32 (fun x y => x ||| y) x y) :: st) (sh, I, R) := (ev_eq f_183_107).trans rfl
theorem f_183_108 : fetch 183 108 = some (108, .istore 4, 2, [4], 0) := (fm_183 108).trans rfl
theorem u_183_108 {S : Scr} {d : Nat} {a0 a1 a2 a3 a4 a5 : AV} {st : List AV} {sh : Shp} {I : IM} {R : RM} {x : Int} : ev S d 183 108 [a0, a1, a2, a3, a4, a5] (.inl x :: st) (sh, I, R) = ev S d 183 110 [a0, a1, a2, a3, .inl x, a5] st (sh, I, R) := (ev_eq f_183_108).trans rfl
theorem f_183_110 : fetch 183 110 = some (110, .iinc 5 1, 3, [5], 1) := (fm_183 110).trans rfl
theorem u_183_110 {S : Scr} {d : Nat} {a0 a1 a2 a3 a4 : AV} {st : List AV} {sh : Shp} {I : IM} {R : RM} {x : Int} : ev S d 183 110 [a0, a1, a2, a3, a4, .inl x] st (sh, I, R) = ev S d 183 113 [a0, a1, a2, a3, a4, .inl (wr (x + 1))] st (sh, I, R) := (ev_eq f_183_110).trans rfl
theorem f_183_113 : fetch 183 113 = some (113, .goto (-30), 3, [83], 0) := (fm_183 113).trans rfl
theorem u_183_113 {S : Scr} {d : Nat} {a0 a1 a2 a3 a4 a5 : AV} {st : List AV} {sh : Shp} {I : IM} {R : RM} : ev S d 183 113 [a0, a1, a2, a3, a4, a5] st (sh, I, R) = ev S d 183 83 [a0, a1, a2, a3, a4, a5] st (sh, I, R) := (ev_eq f_183_113).trans rfl
theorem f_183_116 : fetch 183 116 = some (116, .iload 4, 2, [4], 0) := (fm_183 116).trans rfl
theorem u_183_116 {S : Scr} {d : Nat} {a0 a1 a2 a3 a5 : AV} {st : List AV} {sh : Shp} {I : IM} {R : RM} {x : Int} : ev S d 183 116 [a0, a1, a2, a3, .inl x, a5] st (sh, I, R) = ev S d 183 118 [a0, a1, a2, a3, .inl x, a5] (.inl x :: st) (sh, I, R) := (ev_eq f_183_116).trans rfl
theorem f_183_118 : fetch 183 118 = some (118, .ifCond .eq 14, 3, [132], 0) := (fm_183 118).trans rfl
theorem u_183_118 {S : Scr} {d : Nat} {a0 a1 a2 a3 a4 a5 : AV} {st : List AV} {sh : Shp} {I : IM} {R : RM} {x : Int} : ev S d 183 118 [a0, a1, a2, a3, a4, a5] (.inl x :: st) (sh, I, R) = if x = 0 then ev S d 183 132 [a0, a1, a2, a3, a4, a5] st (sh, I, R) else ev S d 183 121 [a0, a1, a2, a3, a4, a5] st (sh, I, R) := (ev_eq f_183_118).trans fin_if_eq
theorem f_183_121 : fetch 183 121 = some (121, .aload_n 0, 1, [0], 0) := (fm_183 121).trans rfl
theorem u_183_121 {S : Scr} {d : Nat} {a1 a2 a3 a4 a5 : AV} {st : List AV} {sh : Shp} {I : IM} {R : RM} {x : Nat} : ev S d 183 121 [.inr (.inl x), a1, a2, a3, a4, a5] st (sh, I, R) = ev S d 183 122 [.inr (.inl x), a1, a2, a3, a4, a5] (.inr (.inl x) :: st) (sh, I, R) := (ev_eq f_183_121).trans rfl
theorem f_183_122 : fetch 183 122 = some (122, .bipush 6, 2, [], 6) := (fm_183 122).trans rfl
theorem u_183_122 {S : Scr} {d : Nat} {a0 a1 a2 a3 a4 a5 : AV} {st : List AV} {sh : Shp} {I : IM} {R : RM} : ev S d 183 122 [a0, a1, a2, a3, a4, a5] st (sh, I, R) = ev S d 183 124 [a0, a1, a2, a3, a4, a5] (.inl 6 :: st) (sh, I, R) := (ev_eq f_183_122).trans rfl
theorem f_183_124 : fetch 183 124 = some (124, .aload_n 0, 1, [0], 0) := (fm_183 124).trans rfl
theorem u_183_124 {S : Scr} {d : Nat} {a1 a2 a3 a4 a5 : AV} {st : List AV} {sh : Shp} {I : IM} {R : RM} {x : Nat} : ev S d 183 124 [.inr (.inl x), a1, a2, a3, a4, a5] st (sh, I, R) = ev S d 183 125 [.inr (.inl x), a1, a2, a3, a4, a5] (.inr (.inl x) :: st) (sh, I, R) := (ev_eq f_183_124).trans rfl
theorem f_183_125 : fetch 183 125 = some (125, .getfield 176, 3, [9, 18, 0, 99], 0) := (fm_183 125).trans rfl
theorem u_183_125 {S : Scr} {d : Nat} {a0 a1 a2 a3 a4 a5 : AV} {st : List AV} {sh : Shp} {I : IM} {R : RM} {k : Nat} (h : tg sh k = 9) : ev S d 183 125 [a0, a1, a2, a3, a4, a5] (.inr (.inl k) :: st) (sh, I, R) = ev S d 183 128 [a0, a1, a2, a3, a4, a5] (.inl (I k 18) :: st) (sh, I, R) := (ev_eq f_183_125).trans (congrArg (fin S d 183) (if_pos h))
theorem f_183_128 : fetch 183 128 = some (128, .invokevirtual 191, 3, [179, 2, 156], 0) := (fm_183 128).trans rfl
theorem u_183_128 {S : Scr} {d : Nat} {a0 a1 a2 a3 a4 a5 : AV} {st : List AV} {sh : Shp} {I : IM} {R : RM} {x0 : Int} {x1 : Int} {k : Nat} (h : tg sh k = 9) (hr : st.length ≤ 8) : ev S d 183 128 [a0, a1, a2, a3, a4, a5] (.inl x1 :: .inl x0 :: .inr (.inl k) :: st) (sh, I, R) = bnd (cl d 179 [.inr (.inl k), .inl x0, .inl x1] (sh, I, R)) (fun v M => ev S d 183 131 [a0, a1, a2, a3, a4, a5] (psh v st) M) := (ev_eq f_183_128).trans (congrArg (fin S d 183) (if_pos ⟨h, rfl, hr⟩))
theorem f_183_131 : fetch 183 131 = some (131, .ireturn, 1, [0], 0) := (fm_183 131).trans rfl
theorem u_183_131 {S : Scr} {d : Nat} {a0 a1 a2 a3 a4 a5 : AV} {sh : Shp} {I : IM} {R : RM} {x : Int} : ev S d 183 131 [a0, a1, a2, a3, a4, a5] [.inl x] (sh, I, R) = some (some (.inl x), (sh, I, R)) := (ev_eq f_183_131).trans fin_iret0
theorem f_183_132 : fetch 183 132 = some (132, .aload_n 0, 1, [0], 0) := (fm_183 132).trans rfl
theorem u_183_132 {S : Scr} {d : Nat} {a1 a2 a3 a4 a5 : AV} {st : List AV} {sh : Shp} {I : IM} {R : RM} {x : Nat} : ev S d 183 132 [.inr (.inl x), a1, a2, a3, a4, a5] st (sh, I, R) = ev S d 183 133 [.inr (.inl x), a1, a2, a3, a4, a5] (.inr (.inl x) :: st) (sh, I, R) := (ev_eq f_183_132).trans rfl
theorem f_183_133 : fetch 183 133 = some (133, .getfield 49, 3, [9, 21, 1, 92], 0) := (fm_183 133).trans rfl
theorem u_183_133 {S : Scr} {d : Nat} {a0 a1 a2 a3 a4 a5 : AV} {st : List AV} {sh : Shp} {I : IM} {R : RM} {k : Nat} (h : tg sh k = 9) : ev S d 183 133 [a0, a1, a2, a3, a4, a5] (.inr (.inl k) :: st) (sh, I, R) = ev S d 183 136 [a0, a1, a2, a3, a4, a5] (rv (R k 21) :: st) (sh, I, R) := (ev_eq f_183_133).trans (congrArg (fin S d 183) (if_pos h))
theorem f_183_136 : fetch 183 136 = some (136, .iload_n 2, 1, [2], 0) := (fm_183 136).trans rfl
theorem u_183_136 {S : Scr} {d : Nat} {a0 a1 a3 a4 a5 : AV} {st : List AV} {sh : Shp} {I : IM} {R : RM} {x : Int} : ev S d 183 136 [a0, a1, .inl x, a3, a4, a5] st (sh, I, R) = ev S d 183 137 [a0, a1, .inl x, a3, a4, a5] (.inl x :: st) (sh, I, R) := (ev_eq f_183_136).trans rfl
theorem f_183_137 : fetch 183 137 = some (137, .iload_n 3, 1, [3], 0) := (fm_183 137).trans rfl
theorem u_183_137 {S : Scr} {d : Nat} {a0 a1 a2 a4 a5 : AV} {st : List AV} {sh : Shp} {I : IM} {R : RM} {x : Int} : ev S d 183 137 [a0, a1, a2, .inl x, a4, a5] st (sh, I, R) = ev S d 183 138 [a0, a1, a2, .inl x, a4, a5] (.inl x :: st) (sh, I, R) := (ev_eq f_183_137).trans rfl
theorem f_183_138 : fetch 183 138 = some (138, .iastore, 1, [], 0) := (fm_183 138).trans rfl
theorem u_183_138 {S : Scr} {d : Nat} {a0 a1 a2 a3 a4 a5 : AV} {st : List AV} {sh : Shp} {I : IM} {R : RM} {k : Nat} {i x : Int} (h : tg sh k = 100) (h0 : 0 ≤ i) (h1 : i < ln sh k) : ev S d 183 138 [a0, a1, a2, a3, a4, a5] (.inl x :: .inl i :: .inr (.inl k) :: st) (sh, I, R) = ev S d 183 139 [a0, a1, a2, a3, a4, a5] st (sh, up I k i x, R) := (ev_eq f_183_138).trans (congrArg (fin S d 183) (if_pos ⟨h, h0, h1⟩))
theorem f_183_139 : fetch 183 139 = some (139, .aload_n 0, 1, [0], 0) := (fm_183 139).trans rfl
theorem u_183_139 {S : Scr} {d : Nat} {a1 a2 a3 a4 a5 : AV} {st : List AV} {sh : Shp} {I : IM} {R : RM} {x : Nat} : ev S d 183 139 [.inr (.inl x), a1, a2, a3, a4, a5] st (sh, I, R) = ev S d 183 140 [.inr (.inl x), a1, a2, a3, a4, a5] (.inr (.inl x) :: st) (sh, I, R) := (ev_eq f_183_139).trans rfl
theorem f_183_140 : fetch 183 140 = some (140, .dup, 1, [], 0) := (fm_183 140).trans rfl
theorem u_183_140 {S : Scr} {d : Nat} {a0 a1 a2 a3 a4 a5 : AV} {st : List AV} {sh : Shp} {I : IM} {R : RM} {x : AV} : ev S d 183 140 [a0, a1, a2, a3, a4, a5] (x :: st) (sh, I, R) = ev S d 183 141 [a0, a1, a2, a3, a4, a5] (x :: x :: st) (sh, I, R) := (ev_eq f_183_140).trans rfl
theorem f_183_141 : fetch 183 141 = some (141, .getfield 176, 3, [9, 18, 0, 99], 0) := (fm_183 141).trans rfl
theorem u_183_141 {S : Scr} {d : Nat} {a0 a1 a2 a3 a4 a5 : AV} {st : List AV} {sh : Shp} {I : IM} {R : RM} {k : Nat} (h : tg sh k = 9) : ev S d 183 141 [a0, a1, a2, a3, a4, a5] (.inr (.inl k) :: st) (sh, I, R) = ev S d 183 144 [a0, a1, a2, a3, a4, a5] (.inl (I k 18) :: st) (sh, I, R) := (ev_eq f_183_141).trans (congrArg (fin S d 183) (if_pos h))
theorem f_183_144 : fetch 183 144 = some (144, .iconst 1, 1, [], 1) := (fm_183 144).trans rfl
theorem u_183_144 {S : Scr} {d : Nat} {a0 a1 a2 a3 a4 a5 : AV} {st : List AV} {sh : Shp} {I : IM} {R : RM} : ev S d 183 144 [a0, a1, a2, a3, a4, a5] st (sh, I, R) = ev S d 183 145 [a0, a1, a2, a3, a4, a5] (.inl 1 :: st) (sh, I, R) := (ev_eq f_183_144).trans rfl
theorem f_183_145 : fetch 183 145 = some (145, .iadd, 1, [], 0) := (fm_183 145).trans rfl
theorem u_183_145 {S : Scr} {d : Nat} {a0 a1 a2 a3 a4 a5 : AV} {st : List AV} {sh : Shp} {I : IM} {R : RM} {x y : Int} : ev S d 183 145 [a0, a1, a2, a3, a4, a5] (.inl y :: .inl x :: st) (sh, I, R) = ev S d 183 146 [a0, a1, a2, a3, a4, a5] (.inl (wr (x + y)) :: st) (sh, I, R) := (ev_eq f_183_145).trans rfl
theorem f_183_146 : fetch 183 146 = some (146, .putfield 176, 3, [9, 18, 0, 99], 0) := (fm_183 146).trans rfl
theorem u_183_146 {S : Scr} {d : Nat} {a0 a1 a2 a3 a4 a5 : AV} {st : List AV} {sh : Shp} {I : IM} {R : RM} {k : Nat} {x : Int} (h : tg sh k = 9) : ev S d 183 146 [a0, a1, a2, a3, a4, a5] (.inl x :: .inr (.inl k) :: st) (sh, I, R) = ev S d 183 149 [a0, a1, a2, a3, a4, a5] st (sh, up I k 18 x, R) := (ev_eq f_183_146).trans (congrArg (fin S d 183) (if_pos h))
theorem f_183_149 : fetch 183 149 = some (149, .aload_n 0, 1, [0], 0) := (fm_183 149).trans rfl
theorem u_183_149 {S : Scr} {d : Nat} {a1 a2 a3 a4 a5 : AV} {st : List AV} {sh : Shp} {I : IM} {R : RM} {x : Nat} : ev S d 183 149 [.inr (.inl x), a1, a2, a3, a4, a5] st (sh, I, R) = ev S d 183 150 [.inr (.inl x), a1, a2, a3, a4, a5] (.inr (.inl x) :: st) (sh, I, R) := (ev_eq f_183_149).trans rfl
theorem f_183_150 : fetch 183 150 = some (150, .iload_n 2, 1, [2], 0) := (fm_183 150).trans rfl
theorem u_183_150 {S : Scr} {d : Nat} {a0 a1 a3 a4 a5 : AV} {st : List AV} {sh : Shp} {I : IM} {R : RM} {x : Int} : ev S d 183 150 [a0, a1, .inl x, a3, a4, a5] st (sh, I, R) = ev S d 183 151 [a0, a1, .inl x, a3, a4, a5] (.inl x :: st) (sh, I, R) := (ev_eq f_183_150).trans rfl
theorem f_183_151 : fetch 183 151 = some (151, .invokevirtual 194, 3, [182, 1, 157], 0) := (fm_183 151).trans rfl
theorem u_183_151 {S : Scr} {d : Nat} {a0 a1 a2 a3 a4 a5 : AV} {st : List AV} {sh : Shp} {I : IM} {R : RM} {x0 : Int} {k : Nat} (h : tg sh k = 9) (hr : st.length ≤ 8) : ev S d 183 151 [a0, a1, a2, a3, a4, a5] (.inl x0 :: .inr (.inl k) :: st) (sh, I, R) = bnd (cl d 182 [.inr (.inl k), .inl x0] (sh, I, R)) (fun v M => ev S d 183 154 [a0, a1, a2, a3, a4, a5] (psh v st) M) := (ev_eq f_183_151).trans (congrArg (fin S d 183) (if_pos ⟨h, rfl, hr⟩))
theorem f_183_154 : fetch 183 154 = some (154, .bipush (-9), 2, [], (-9)) := (fm_183 154).trans rfl
theorem u_183_154 {S : Scr} {d : Nat} {a0 a1 a2 a3 a4 a5 : AV} {st : List AV} {sh : Shp} {I : IM} {R : RM} : ev S d 183 154 [a0, a1, a2, a3, a4, a5] st (sh, I, R) = ev S d 183 156 [a0, a1, a2, a3, a4, a5] (.inl (-9) :: st) (sh, I, R) := (ev_eq f_183_154).trans rfl
theorem f_183_156 : fetch 183 156 = some (156, .if_icmp .ne 6, 3, [162], 0) := (fm_183 156).trans rfl
theorem u_183_156 {S : Scr} {d : Nat} {a0 a1 a2 a3 a4 a5 : AV} {st : List AV} {sh : Shp} {I : IM} {R : RM} {x y : Int} : ev S d 183 156 [a0, a1, a2, a3, a4, a5] (.inl y :: .inl x :: st) (sh, I, R) = if ¬ x = y then ev S d 183 162 [a0, a1, a2, a3, a4, a5] st (sh, I, R) else ev S d 183 159 [a0, a1, a2, a3, a4, a5] st (sh, I, R) := (ev_eq f_183_156).trans fin_icmp_ne
theorem f_183_159 : fetch 183 159 = some (159, .bipush (-9), 2, [], (-9)) := (fm_183 159).trans rfl
theorem u_183_159 {S : Scr} {d : Nat} {a0 a1 a2 a3 a4 a5 : AV} {st : List AV} {sh : Shp} {I : IM} {R : RM} : ev S d 183 159 [a0, a1, a2, a3, a4, a5] st (sh, I, R) = ev S d 183 161 [a0, a1, a2, a3, a4, a5] (.inl (-9) :: st) (sh, I, R) := (ev_eq f_183_159).trans rfl
theorem f_183_161 : fetch 183 161 = some (161, .ireturn, 1, [0], 0) := (fm_183 161).trans rfl
theorem u_183_161 {S : Scr} {d : Nat} {a0 a1 a2 a3 a4 a5 : AV} {sh : Shp} {I : IM} {R : RM} {x : Int} : ev S d 183 161 [a0, a1, a2, a3, a4, a5] [.inl x] (sh, I, R) = some (some (.inl x), (sh, I, R)) := (ev_eq f_183_161).trans fin_iret0
theorem f_183_162 : fetch 183 162 = some (162, .iinc 2 1, 3, [2], 1) := (fm_183 162).trans rfl
theorem u_183_162 {S : Scr} {d : Nat} {a0 a1 a3 a4 a5 : AV} {st : List AV} {sh : Shp} {I : IM} {R : RM} {x : Int} : ev S d 183 162 [a0, a1, .inl x, a3, a4, a5] st (sh, I, R) = ev S d 183 165 [a0, a1, .inl (wr (x + 1)), a3, a4, a5] st (sh, I, R) := (ev_eq f_183_162).trans rfl
theorem f_183_165 : fetch 183 165 = some (165, .goto (-129), 3, [36], 0) := (fm_183 165).trans rfl
theorem u_183_165 {S : Scr} {d : Nat} {a0 a1 a2 a3 a4 a5 : AV} {st : List AV} {sh : Shp} {I : IM} {R : RM} : ev S d 183 165 [a0, a1, a2, a3, a4, a5] st (sh, I, R) = ev S d 183 36 [a0, a1, a2, a3, a4, a5] st (sh, I, R) := (ev_eq f_183_165).trans rfl
theorem f_183_168 : fetch 183 168 = some (168, .aload_n 0, 1, [0], 0) := (fm_183 168).trans rfl
theorem u_183_168 {S : Scr} {d : Nat} {a1 a2 a3 a4 a5 : AV} {st : List AV} {sh : Shp} {I : IM} {R : RM} {x : Nat} : ev S d 183 168 [.inr (.inl x), a1, a2, a3, a4, a5] st (sh, I, R) = ev S d 183 169 [.inr (.inl x), a1, a2, a3, a4, a5] (.inr (.inl x) :: st) (sh, I, R) := (ev_eq f_183_168).trans rfl
theorem f_183_169 : fetch 183 169 = some (169, .dup, 1, [], 0) := (fm_183 169).trans rfl
theorem u_183_169 {S : Scr} {d : Nat} {a0 a1 a2 a3 a4 a5 : AV} {st : List AV} {sh : Shp} {I : IM} {R : RM} {x : AV} : ev S d 183 169 [a0, a1, a2, a3, a4, a5] (x :: st) (sh, I, R) = ev S d 183 170 [a0, a1, a2, a3, a4, a5] (x :: x :: st) (sh, I, R) := (ev_eq f_183_169).trans rfl
theorem f_183_170 : fetch 183 170 = some (170, .getfield 176, 3, [9, 18, 0, 99], 0) := (fm_183 170).trans rfl
theorem u_183_170 {S : Scr} {d : Nat} {a0 a1 a2 a3 a4 a5 : AV} {st : List AV} {sh : Shp} {I : IM} {R : RM} {k : Nat} (h : tg sh k = 9) : ev S d 183 170 [a0, a1, a2, a3, a4, a5] (.inr (.inl k) :: st) (sh, I, R) = ev S d 183 173 [a0, a1, a2, a3, a4, a5] (.inl (I k 18) :: st) (sh, I, R) := (ev_eq f_183_170).trans (congrArg (fin S d 183) (if_pos h))
theorem f_183_173 : fetch 183 173 = some (173, .iconst 1, 1, [], 1) := (fm_183 173).trans rfl
theorem u_183_173 {S : Scr} {d : Nat} {a0 a1 a2 a3 a4 a5 : AV} {st : List AV} {sh : Shp} {I : IM} {R : RM} : ev S d 183 173 [a0, a1, a2, a3, a4, a5] st (sh, I, R) = ev S d 183 174 [a0, a1, a2, a3, a4, a5] (.inl 1 :: st) (sh, I, R) := (ev_eq f_183_173).trans rfl
theorem f_183_174 : fetch 183 174 = some (174, .iadd, 1, [], 0) := (fm_183 174).trans rfl
theorem u_183_174 {S : Scr} {d : Nat} {a0 a1 a2 a3 a4 a5 : AV} {st : List AV} {sh : Shp} {I : IM} {R : RM} {x y : Int} : ev S d 183 174 [a0, a1, a2, a3, a4, a5] (.inl y :: .inl x :: st) (sh, I, R) = ev S d 183 175 [a0, a1, a2, a3, a4, a5] (.inl (wr (x + y)) :: st) (sh, I, R) := (ev_eq f_183_174).trans rfl
theorem f_183_175 : fetch 183 175 = some (175, .putfield 176, 3, [9, 18, 0, 99], 0) := (fm_183 175).trans rfl
theorem u_183_175 {S : Scr} {d : Nat} {a0 a1 a2 a3 a4 a5 : AV} {st : List AV} {sh : Shp} {I : IM} {R : RM} {k : Nat} {x : Int} (h : tg sh k = 9) : ev S d 183 175 [a0, a1, a2, a3, a4, a5] (.inl x :: .inr (.inl k) :: st) (sh, I, R) = ev S d 183 178 [a0, a1, a2, a3, a4, a5] st (sh, up I k 18 x, R) := (ev_eq f_183_175).trans (congrArg (fin S d 183) (if_pos h))
theorem f_183_178 : fetch 183 178 = some (178, .aload_n 0, 1, [0], 0) := (fm_183 178).trans rfl
theorem u_183_178 {S : Scr} {d : Nat} {a1 a2 a3 a4 a5 : AV} {st : List AV} {sh : Shp} {I : IM} {R : RM} {x : Nat} : ev S d 183 178 [.inr (.inl x), a1, a2, a3, a4, a5] st (sh, I, R) = ev S d 183 179 [.inr (.inl x), a1, a2, a3, a4, a5] (.inr (.inl x) :: st) (sh, I, R) := (ev_eq f_183_178).trans rfl
theorem f_183_179 : fetch 183 179 = some (179, .iload_n 1, 1, [1], 0) := (fm_183 179).trans rfl
theorem u_183_179 {S : Scr} {d : Nat} {a0 a2 a3 a4 a5 : AV} {st : List AV} {sh : Shp} {I : IM} {R : RM} {x : Int} : ev S d 183 179 [a0, .inl x, a2, a3, a4, a5] st (sh, I, R) = ev S d 183 180 [a0, .inl x, a2, a3, a4, a5] (.inl x :: st) (sh, I, R) := (ev_eq f_183_179).trans rfl
theorem f_183_180 : fetch 183 180 = some (180, .iconst 0, 1, [], 0) := (fm_183 180).trans rfl
theorem u_183_180 {S : Scr} {d : Nat} {a0 a1 a2 a3 a4 a5 : AV} {st : List AV} {sh : Shp} {I : IM} {R : RM} : ev S d 183 180 [a0, a1, a2, a3, a4, a5] st (sh, I, R) = ev S d 183 181 [a0, a1, a2, a3, a4, a5] (.inl 0 :: st) (sh, I, R) := (ev_eq f_183_180).trans rfl
theorem f_183_181 : fetch 183 181 = some (181, .iload_n 1, 1, [1], 0) := (fm_183 181).trans rfl
theorem u_183_181 {S : Scr} {d : Nat} {a0 a2 a3 a4 a5 : AV} {st : List AV} {sh : Shp} {I : IM} {R : RM} {x : Int} : ev S d 183 181 [a0, .inl x, a2, a3, a4, a5] st (sh, I, R) = ev S d 183 182 [a0, .inl x, a2, a3, a4, a5] (.inl x :: st) (sh, I, R) := (ev_eq f_183_181).trans rfl
theorem f_183_182 : fetch 183 182 = some (182, .invokestatic 108, 3, [151, 1, 137], 0) := (fm_183 182).trans rfl
theorem u_183_182 {S : Scr} {d : Nat} {a0 a1 a2 a3 a4 a5 : AV} {st : List AV} {sh : Shp} {I : IM} {R : RM} {x0 : Int} (hr : st.length ≤ 8) : ev S d 183 182 [a0, a1, a2, a3, a4, a5] (.inl x0 :: st) (sh, I, R) = bnd (cl d 151 [.inl x0] (sh, I, R)) (fun v M => ev S d 183 185 [a0, a1, a2, a3, a4, a5] (psh v st) M) := (ev_eq f_183_182).trans (congrArg (fin S d 183) (if_pos ⟨rfl, hr⟩))
theorem f_183_185 : fetch 183 185 = some (185, .invokevirtual 111, 3, [139, 3, 138], 0) := (fm_183 185).trans rfl
theorem u_183_185 {S : Scr} {d : Nat} {a0 a1 a2 a3 a4 a5 : AV} {st : List AV} {sh : Shp} {I : IM} {R : RM} {x0 : Int} {x1 : Int} {x2 : Int} {k : Nat} (h : tg sh k = 9) (hr : st.length ≤ 8) : ev S d 183 185 [a0, a1, a2, a3, a4, a5] (.inl x2 :: .inl x1 :: .inl x0 :: .inr (.inl k) :: st) (sh, I, R) = bnd (cl d 139 [.inr (.inl k), .inl x0, .inl x1, .inl x2] (sh, I, R)) (fun v M => ev S d 183 188 [a0, a1, a2, a3, a4, a5] (psh v st) M) := (ev_eq f_183_185).trans (congrArg (fin S d 183) (if_pos ⟨h, rfl, hr⟩))
theorem f_183_188 : fetch 183 188 = some (188, .istore_n 3, 1, [3], 0) := (fm_183 188).trans rfl
theorem u_183_188 {S : Scr} {d : Nat} {a0 a1 a2 a3 a4 a5 : AV} {st : List AV} {sh : Shp} {I : IM} {R : RM} {x : Int} : ev S d 183 188 [a0, a1, a2, a3, a4, a5] (.inl x :: st) (sh, I, R) = ev S d 183 189 [a0, a1, a2, .inl x, a4, a5] st (sh, I, R) := (ev_eq f_183_188).trans rfl
theorem f_183_189 : fetch 183 189 = some (189, .iconst 0, 1, [], 0) := (fm_183 189).trans rfl
theorem u_183_189 {S : Scr} {d : Nat} {a0 a1 a2 a3 a4 a5 : AV} {st : List AV} {sh : Shp} {I : IM} {R : RM} : ev S d 183 189 [a0, a1, a2, a3, a4, a5] st (sh, I, R) = ev S d 183 190 [a0, a1, a2, a3, a4, a5] (.inl 0 :: st) (sh, I, R) := (ev_eq f_183_189).trans rfl
theorem f_183_190 : fetch 183 190 = some (190, .istore 4, 2, [4], 0) := (fm_183 190).trans rfl
theorem u_183_190 {S : Scr} {d : Nat} {a0 a1 a2 a3 a4 a5 : AV} {st : List AV} {sh : Shp} {I : IM} {R : RM} {x : Int} : ev S d 183 190 [a0, a1, a2, a3, a4, a5] (.inl x :: st) (sh, I, R) = ev S d 183 192 [a0, a1, a2, a3, .inl x, a5] st (sh, I, R) := (ev_eq f_183_190).trans rfl
theorem f_183_192 : fetch 183 192 = some (192, .iload 4, 2, [4], 0) := (fm_183 192).trans rfl
theorem u_183_192 {S : Scr} {d : Nat} {a0 a1 a2 a3 a5 : AV} {st : List AV} {sh : Shp} {I : IM} {R : RM} {x : Int} : ev S d 183 192 [a0, a1, a2, a3, .inl x, a5] st (sh, I, R) = ev S d 183 194 [a0, a1, a2, a3, .inl x, a5] (.inl x :: st) (sh, I, R) := (ev_eq f_183_192).trans rfl
theorem f_183_194 : fetch 183 194 = some (194, .iload_n 2, 1, [2], 0) := (fm_183 194).trans rfl
theorem u_183_194 {S : Scr} {d : Nat} {a0 a1 a3 a4 a5 : AV} {st : List AV} {sh : Shp} {I : IM} {R : RM} {x : Int} : ev S d 183 194 [a0, a1, .inl x, a3, a4, a5] st (sh, I, R) = ev S d 183 195 [a0, a1, .inl x, a3, a4, a5] (.inl x :: st) (sh, I, R) := (ev_eq f_183_194).trans rfl
theorem f_183_195 : fetch 183 195 = some (195, .if_icmp .ge 28, 3, [223], 0) := (fm_183 195).trans rfl
theorem u_183_195 {S : Scr} {d : Nat} {a0 a1 a2 a3 a4 a5 : AV} {st : List AV} {sh : Shp} {I : IM} {R : RM} {x y : Int} : ev S d 183 195 [a0, a1, a2, a3, a4, a5] (.inl y :: .inl x :: st) (sh, I, R) = if y ≤ x then ev S d 183 223 [a0, a1, a2, a3, a4, a5] st (sh, I, R) else ev S d 183 198 [a0, a1, a2, a3, a4, a5] st (sh, I, R) := (ev_eq f_183_195).trans fin_icmp_ge
theorem f_183_198 : fetch 183 198 = some (198, .aload_n 0, 1, [0], 0) := (fm_183 198).trans rfl
theorem u_183_198 {S : Scr} {d : Nat} {a1 a2 a3 a4 a5 : AV} {st : List AV} {sh : Shp} {I : IM} {R : RM} {x : Nat} : ev S d 183 198 [.inr (.inl x), a1, a2, a3, a4, a5] st (sh, I, R) = ev S d 183 199 [.inr (.inl x), a1, a2, a3, a4, a5] (.inr (.inl x) :: st) (sh, I, R) := (ev_eq f_183_198).trans rfl
theorem f_183_199 : fetch 183 199 = some (199, .iload_n 3, 1, [3], 0) := (fm_183 199).trans rfl
theorem u_183_199 {S : Scr} {d : Nat} {a0 a1 a2 a4 a5 : AV} {st : List AV} {sh : Shp} {I : IM} {R : RM} {x : Int} : ev S d 183 199 [a0, a1, a2, .inl x, a4, a5] st (sh, I, R) = ev S d 183 200 [a0, a1, a2, .inl x, a4, a5] (.inl x :: st) (sh, I, R) := (ev_eq f_183_199).trans rfl
theorem f_183_200 : fetch 183 200 = some (200, .aload_n 0, 1, [0], 0) := (fm_183 200).trans rfl
theorem u_183_200 {S : Scr} {d : Nat} {a1 a2 a3 a4 a5 : AV} {st : List AV} {sh : Shp} {I : IM} {R : RM} {x : Nat} : ev S d 183 200 [.inr (.inl x), a1, a2, a3, a4, a5] st (sh, I, R) = ev S d 183 201 [.inr (.inl x), a1, a2, a3, a4, a5] (.inr (.inl x) :: st) (sh, I, R) := (ev_eq f_183_200).trans rfl
theorem f_183_201 : fetch 183 201 = some (201, .getfield 49, 3, [9, 21, 1, 92], 0) := (fm_183 201).trans rfl
theorem u_183_201 {S : Scr} {d : Nat} {a0 a1 a2 a3 a4 a5 : AV} {st : List AV} {sh : Shp} {I : IM} {R : RM} {k : Nat} (h : tg sh k = 9) : ev S d 183 201 [a0, a1, a2, a3, a4, a5] (.inr (.inl k) :: st) (sh, I, R) = ev S d 183 204 [a0, a1, a2, a3, a4, a5] (rv (R k 21) :: st) (sh, I, R) := (ev_eq f_183_201).trans (congrArg (fin S d 183) (if_pos h))
theorem f_183_204 : fetch 183 204 = some (204, .iload 4, 2, [4], 0) := (fm_183 204).trans rfl
theorem u_183_204 {S : Scr} {d : Nat} {a0 a1 a2 a3 a5 : AV} {st : List AV} {sh : Shp} {I : IM} {R : RM} {x : Int} : ev S d 183 204 [a0, a1, a2, a3, .inl x, a5] st (sh, I, R) = ev S d 183 206 [a0, a1, a2, a3, .inl x, a5] (.inl x :: st) (sh, I, R) := (ev_eq f_183_204).trans rfl
theorem f_183_206 : fetch 183 206 = some (206, .iaload, 1, [], 0) := (fm_183 206).trans rfl
theorem u_183_206 {S : Scr} {d : Nat} {a0 a1 a2 a3 a4 a5 : AV} {st : List AV} {sh : Shp} {I : IM} {R : RM} {k : Nat} {i : Int} (h : tg sh k = 100) (h0 : 0 ≤ i) (h1 : i < ln sh k) : ev S d 183 206 [a0, a1, a2, a3, a4, a5] (.inl i :: .inr (.inl k) :: st) (sh, I, R) = ev S d 183 207 [a0, a1, a2, a3, a4, a5] (.inl (I k i) :: st) (sh, I, R) := (ev_eq f_183_206).trans (congrArg (fin S d 183) (if_pos ⟨h, h0, h1⟩))
theorem f_183_207 : fetch 183 207 = some (207, .aload_n 0, 1, [0], 0) := (fm_183 207).trans rfl
theorem u_183_207 {S : Scr} {d : Nat} {a1 a2 a3 a4 a5 : AV} {st : List AV} {sh : Shp} {I : IM} {R : RM} {x : Nat} : ev S d 183 207 [.inr (.inl x), a1, a2, a3, a4, a5] st (sh, I, R) = ev S d 183 208 [.inr (.inl x), a1, a2, a3, a4, a5] (.inr (.inl x) :: st) (sh, I, R) := (ev_eq f_183_207).trans rfl
theorem f_183_208 : fetch 183 208 = some (208, .getfield 52, 3, [9, 22, 1, 93], 0) := (fm_183 208).trans rfl
theorem u_183_208 {S : Scr} {d : Nat} {a0 a1 a2 a3 a4 a5 : AV} {st : List AV} {sh : Shp} {I : IM} {R : RM} {k : Nat} (h : tg sh k = 9) : ev S d 183 208 [a0, a1, a2, a3, a4, a5] (.inr (.inl k) :: st) (sh, I, R) = ev S d 183 211 [a0, a1, a2, a3, a4, a5] (rv (R k 22) :: st) (sh, I, R) := (ev_eq f_183_208).trans (congrArg (fin S d 183) (if_pos h))
theorem f_183_211 : fetch 183 211 = some (211, .iload 4, 2, [4], 0) := (fm_183 211).trans rfl
theorem u_183_211 {S : Scr} {d : Nat} {a0 a1 a2 a3 a5 : AV} {st : List AV} {sh : Shp} {I : IM} {R : RM} {x : Int} : ev S d 183 211 [a0, a1, a2, a3, .inl x, a5] st (sh, I, R) = ev S d 183 213 [a0, a1, a2, a3, .inl x, a5] (.inl x :: st) (sh, I, R) := (ev_eq f_183_211).trans rfl
theorem f_183_213 : fetch 183 213 = some (213, .iaload, 1, [], 0) := (fm_183 213).trans rfl
theorem u_183_213 {S : Scr} {d : Nat} {a0 a1 a2 a3 a4 a5 : AV} {st : List AV} {sh : Shp} {I : IM} {R : RM} {k : Nat} {i : Int} (h : tg sh k = 100) (h0 : 0 ≤ i) (h1 : i < ln sh k) : ev S d 183 213 [a0, a1, a2, a3, a4, a5] (.inl i :: .inr (.inl k) :: st) (sh, I, R) = ev S d 183 214 [a0, a1, a2, a3, a4, a5] (.inl (I k i) :: st) (sh, I, R) := (ev_eq f_183_213).trans (congrArg (fin S d 183) (if_pos ⟨h, h0, h1⟩))
theorem f_183_214 : fetch 183 214 = some (214, .invokevirtual 87, 3, [141, 3, 131], 0) := (fm_183 214).trans rfl
theorem u_183_214 {S : Scr} {d : Nat} {a0 a1 a2 a3 a4 a5 : AV} {st : List AV} {sh : Shp} {I : IM} {R : RM} {x0 : Int} {x1 : Int} {x2 : Int} {k : Nat} (h : tg sh k = 9) (hr : st.length ≤ 8) : ev S d 183 214 [a0, a1, a2, a3, a4, a5] (.inl x2 :: .inl x1 :: .inl x0 :: .inr (.inl k) :: st) (sh, I, R) = bnd (cl d 141 [.inr (.inl k), .inl x0, .inl x1, .inl x2] (sh, I, R)) (fun v M => ev S d 183 217 [a0, a1, a2, a3, a4, a5] (psh v st) M) := (ev_eq f_183_214).trans (congrArg (fin S d 183) (if_pos ⟨h, rfl, hr⟩))
theorem f_183_217 : fetch 183 217 = some (217, .iinc 4 1, 3, [4], 1) := (fm_183 217).trans rfl
theorem u_183_217 {S : Scr} {d : Nat} {a0 a1 a2 a3 a5 : AV} {st : List AV} {sh : Shp} {I : IM} {R : RM} {x : Int} : ev S d 183 217 [a0, a1, a2, a3, .inl x, a5] st (sh, I, R) = ev S d 183 220 [a0, a1, a2, a3, .inl (wr (x + 1)), a5] st (sh, I, R) := (ev_eq f_183_217).trans rfl
theorem f_183_220 : fetch 183 220 = some (220, .goto (-28), 3, [192], 0) := (fm_183 220).trans rfl
theorem u_183_220 {S : Scr} {d : Nat} {a0 a1 a2 a3 a4 a5 : AV} {st : List AV} {sh : Shp} {I : IM} {R : RM} : ev S d 183 220 [a0, a1, a2, a3, a4, a5] st (sh, I, R) = ev S d 183 192 [a0, a1, a2, a3, a4, a5] st (sh, I, R) := (ev_eq f_183_220).trans rfl
theorem f_183_223 : fetch 183 223 = some (223, .aload_n 0, 1, [0], 0) := (fm_183 223).trans rfl
theorem u_183_223 {S : Scr} {d : Nat} {a1 a2 a3 a4 a5 : AV} {st : List AV} {sh : Shp} {I : IM} {R : RM} {x : Nat} : ev S d 183 223 [.inr (.inl x), a1, a2, a3, a4, a5] st (sh, I, R) = ev S d 183 224 [.inr (.inl x), a1, a2, a3, a4, a5] (.inr (.inl x) :: st) (sh, I, R) := (ev_eq f_183_223).trans rfl
theorem f_183_224 : fetch 183 224 = some (224, .iload_n 3, 1, [3], 0) := (fm_183 224).trans rfl
theorem u_183_224 {S : Scr} {d : Nat} {a0 a1 a2 a4 a5 : AV} {st : List AV} {sh : Shp} {I : IM} {R : RM} {x : Int} : ev S d 183 224 [a0, a1, a2, .inl x, a4, a5] st (sh, I, R) = ev S d 183 225 [a0, a1, a2, .inl x, a4, a5] (.inl x :: st) (sh, I, R) := (ev_eq f_183_224).trans rfl
theorem f_183_225 : fetch 183 225 = some (225, .invokevirtual 115, 3, [145, 1, 139], 0) := (fm_183 225).trans rfl
theorem u_183_225 {S : Scr} {d : Nat} {a0 a1 a2 a3 a4 a5 : AV} {st : List AV} {sh : Shp} {I : IM} {R : RM} {x0 : Int} {k : Nat} (h : tg sh k = 9) (hr : st.length ≤ 8) : ev S d 183 225 [a0, a1, a2, a3, a4, a5] (.inl x0 :: .inr (.inl k) :: st) (sh, I, R) = bnd (cl d 145 [.inr (.inl k), .inl x0] (sh, I, R)) (fun v M => ev S d 183 228 [a0, a1, a2, a3, a4, a5] (psh v st) M) := (ev_eq f_183_225).trans (congrArg (fin S d 183) (if_pos ⟨h, rfl, hr⟩))
theorem f_183_228 : fetch 183 228 = some (228, .iload_n 3, 1, [3], 0) := (fm_183 228).trans rfl
theorem u_183_228 {S : Scr} {d : Nat} {a0 a1 a2 a4 a5 : AV} {st : List AV} {sh : Shp} {I : IM} {R : RM} {x : Int} : ev S d 183 228 [a0, a1, a2, .inl x, a4, a5] st (sh, I, R) = ev S d 183 229 [a0, a1, a2, .inl x, a4, a5] (.inl x :: st) (sh, I, R) := (ev_eq f_183_228).trans rfl
theorem f_183_229 : fetch 183 229 = some (229, .ireturn, 1, [0], 0) := (fm_183 229).trans rfl
theorem u_183_229 {S : Scr} {d : Nat} {a0 a1 a2 a3 a4 a5 : AV} {sh : Shp} {I : IM} {R : RM} {x : Int} : ev S d 183 229 [a0, a1, a2, a3, a4, a5] [.inl x] (sh, I, R) = some (some (.inl x), (sh, I, R)) := (ev_eq f_183_229).trans fin_iret0
theorem c_184 {d : Nat} {a0 : AV} {M : Mem} : cl (d + 1) 184 [a0] M = ev S0 d 184 0 [a0, .inr (.inr 1), .inr (.inr 1)] [] M := (cl_eq (as := [a0]) (show 1 ≤ maxOf 184 by decide +kernel)).trans rfl
theorem mt_184 : MT[184]? = some m_184 := rfl
theorem fm_184 (pc : Nat) : fetch 184 pc = lk m_184.2.2.2.2.2 pc := by
  unfold fetch
  rw [mt_184]
theorem f_184_0 : fetch 184 0 = some (0, .aload_n 0, 1, [0], 0) := (fm_184 0).trans rfl
theorem u_184_0 {S : Scr} {d : Nat} {a1 a2 : AV} {st : List AV} {sh : Shp} {I : IM} {R : RM} {x : Nat} : ev S d 184 0 [.inr (.inl x), a1, a2] st (sh, I, R) = ev S d 184 1 [.inr (.inl x), a1, a2] (.inr (.inl x) :: st) (sh, I, R) := (ev_eq f_184_0).trans rfl
theorem f_184_1 : fetch 184 1 = some (1, .invokevirtual 188, 3, [178, 0, 155], 0) := (fm_184 1).trans rfl
theorem u_184_1 {S : Scr} {d : Nat} {a0 a1 a2 : AV} {st : List AV} {sh : Shp} {I : IM} {R : RM} {k : Nat} (h : tg sh k = 9) (hr : st.length ≤ 8) : ev S d 184 1 [a0, a1, a2] (.inr (.inl k) :: st) (sh, I, R) = bnd (cl d 178 [.inr (.inl k)] (sh, I, R)) (fun v M => ev S d 184 4 [a0, a1, a2] (psh v st) M) := (ev_eq f_184_1).trans (congrArg (fin S d 184) (if_pos ⟨h, rfl, hr⟩))
theorem f_184_4 : fetch 184 4 = some (4, .bipush 48, 2, [], 48) := (fm_184 4).trans rfl
theorem u_184_4 {S : Scr} {d : Nat} {a0 a1 a2 : AV} {st : List AV} {sh : Shp} {I : IM} {R : RM} : ev S d 184 4 [a0, a1, a2] st (sh, I, R) = ev S d 184 6 [a0, a1, a2] (.inl 48 :: st) (sh, I, R) := (ev_eq f_184_4).trans rfl
theorem f_184_6 : fetch 184 6 = some (6, .bipush 51, 2, [], 51) := (fm_184 6).trans rfl
theorem u_184_6 {S : Scr} {d : Nat} {a0 a1 a2 : AV} {st : List AV} {sh : Shp} {I : IM} {R : RM} : ev S d 184 6 [a0, a1, a2] st (sh, I, R) = ev S d 184 8 [a0, a1, a2] (.inl 51 :: st) (sh, I, R) := (ev_eq f_184_6).trans rfl
theorem f_184_8 : fetch 184 8 = some (8, .invokestatic 64, 3, [129, 3, 125], 0) := (fm_184 8).trans rfl
theorem u_184_8 {S : Scr} {d : Nat} {a0 a1 a2 : AV} {st : List AV} {sh : Shp} {I : IM} {R : RM} {x0 : Int} {x1 : Int} {x2 : Int} (hr : st.length ≤ 8) : ev S d 184 8 [a0, a1, a2] (.inl x2 :: .inl x1 :: .inl x0 :: st) (sh, I, R) = bnd (cl d 129 [.inl x0, .inl x1, .inl x2] (sh, I, R)) (fun v M => ev S d 184 11 [a0, a1, a2] (psh v st) M) := (ev_eq f_184_8).trans (congrArg (fin S d 184) (if_pos ⟨rfl, hr⟩))
theorem f_184_11 : fetch 184 11 = some (11, .ifCond .ne 13, 3, [24], 0) := (fm_184 11).trans rfl
theorem u_184_11 {S : Scr} {d : Nat} {a0 a1 a2 : AV} {st : List AV} {sh : Shp} {I : IM} {R : RM} {x : Int} : ev S d 184 11 [a0, a1, a2] (.inl x :: st) (sh, I, R) = if ¬ x = 0 then ev S d 184 24 [a0, a1, a2] st (sh, I, R) else ev S d 184 14 [a0, a1, a2] st (sh, I, R) := (ev_eq f_184_11).trans fin_if_ne
theorem f_184_14 : fetch 184 14 = some (14, .aload_n 0, 1, [0], 0) := (fm_184 14).trans rfl
theorem u_184_14 {S : Scr} {d : Nat} {a1 a2 : AV} {st : List AV} {sh : Shp} {I : IM} {R : RM} {x : Nat} : ev S d 184 14 [.inr (.inl x), a1, a2] st (sh, I, R) = ev S d 184 15 [.inr (.inl x), a1, a2] (.inr (.inl x) :: st) (sh, I, R) := (ev_eq f_184_14).trans rfl
theorem f_184_15 : fetch 184 15 = some (15, .iconst 1, 1, [], 1) := (fm_184 15).trans rfl
theorem u_184_15 {S : Scr} {d : Nat} {a0 a1 a2 : AV} {st : List AV} {sh : Shp} {I : IM} {R : RM} : ev S d 184 15 [a0, a1, a2] st (sh, I, R) = ev S d 184 16 [a0, a1, a2] (.inl 1 :: st) (sh, I, R) := (ev_eq f_184_15).trans rfl
theorem f_184_16 : fetch 184 16 = some (16, .aload_n 0, 1, [0], 0) := (fm_184 16).trans rfl
theorem u_184_16 {S : Scr} {d : Nat} {a1 a2 : AV} {st : List AV} {sh : Shp} {I : IM} {R : RM} {x : Nat} : ev S d 184 16 [.inr (.inl x), a1, a2] st (sh, I, R) = ev S d 184 17 [.inr (.inl x), a1, a2] (.inr (.inl x) :: st) (sh, I, R) := (ev_eq f_184_16).trans rfl
theorem f_184_17 : fetch 184 17 = some (17, .getfield 176, 3, [9, 18, 0, 99], 0) := (fm_184 17).trans rfl
theorem u_184_17 {S : Scr} {d : Nat} {a0 a1 a2 : AV} {st : List AV} {sh : Shp} {I : IM} {R : RM} {k : Nat} (h : tg sh k = 9) : ev S d 184 17 [a0, a1, a2] (.inr (.inl k) :: st) (sh, I, R) = ev S d 184 20 [a0, a1, a2] (.inl (I k 18) :: st) (sh, I, R) := (ev_eq f_184_17).trans (congrArg (fin S d 184) (if_pos h))
theorem f_184_20 : fetch 184 20 = some (20, .invokevirtual 191, 3, [179, 2, 156], 0) := (fm_184 20).trans rfl
theorem u_184_20 {S : Scr} {d : Nat} {a0 a1 a2 : AV} {st : List AV} {sh : Shp} {I : IM} {R : RM} {x0 : Int} {x1 : Int} {k : Nat} (h : tg sh k = 9) (hr : st.length ≤ 8) : ev S d 184 20 [a0, a1, a2] (.inl x1 :: .inl x0 :: .inr (.inl k) :: st) (sh, I, R) = bnd (cl d 179 [.inr (.inl k), .inl x0, .inl x1] (sh, I, R)) (fun v M => ev S d 184 23 [a0, a1, a2] (psh v st) M) := (ev_eq f_184_20).trans (congrArg (fin S d 184) (if_pos ⟨h, rfl, hr⟩))
theorem f_184_23 : fetch 184 23 = some (23, .ireturn, 1, [0], 0) := (fm_184 23).trans rfl
theorem u_184_23 {S : Scr} {d : Nat} {a0 a1 a2 : AV} {sh : Shp} {I : IM} {R : RM} {x : Int} : ev S d 184 23 [a0, a1, a2] [.inl x] (sh, I, R) = some (some (.inl x), (sh, I, R)) := (ev_eq f_184_23).trans fin_iret0
theorem f_184_24 : fetch 184 24 = some (24, .aload_n 0, 1, [0], 0) := (fm_184 24).trans rfl
theorem u_184_24 {S : Scr} {d : Nat} {a1 a2 : AV} {st : List AV} {sh : Shp} {I : IM} {R : RM} {x : Nat} : ev S d 184 24 [.inr (.inl x), a1, a2] st (sh, I, R) = ev S d 184 25 [.inr (.inl x), a1, a2] (.inr (.inl x) :: st) (sh, I, R) := (ev_eq f_184_24).trans rfl
theorem f_184_25 : fetch 184 25 = some (25, .invokevirtual 188, 3, [178, 0, 155], 0) := (fm_184 25).trans rfl
theorem u_184_25 {S : Scr} {d : Nat} {a0 a1 a2 : AV} {st : List AV} {sh : Shp} {I : IM} {R : RM} {k : Nat} (h : tg sh k = 9) (hr : st.length ≤ 8) : ev S d 184 25 [a0, a1, a2] (.inr (.inl k) :: st) (sh, I, R) = bnd (cl d 178 [.inr (.inl k)] (sh, I, R)) (fun v M => ev S d 184 28 [a0, a1, a2] (psh v st) M) := (ev_eq f_184_25).trans (congrArg (fin S d 184) (if_pos ⟨h, rfl, hr⟩))
theorem f_184_28 : fetch 184 28 = some (28, .bipush 48, 2, [], 48) := (fm_184 28).trans rfl
theorem u_184_28 {S : Scr} {d : Nat} {a0 a1 a2 : AV} {st : List AV} {sh : Shp} {I : IM} {R : RM} : ev S d 184 28 [a0, a1, a2] st (sh, I, R) = ev S d 184 30 [a0, a1, a2] (.inl 48 :: st) (sh, I, R) := (ev_eq f_184_28).trans rfl
theorem f_184_30 : fetch 184 30 = some (30, .isub, 1, [], 0) := (fm_184 30).trans rfl
theorem u_184_30 {S : Scr} {d : Nat} {a0 a1 a2 : AV} {st : List AV} {sh : Shp} {I : IM} {R : RM} {x y : Int} : ev S d 184 30 [a0, a1, a2] (.inl y :: .inl x :: st) (sh, I, R) = ev S d 184 31 [a0, a1, a2] (.inl (wr (x - y)) :: st) (sh, I, R) := (ev_eq f_184_30).trans rfl
theorem f_184_31 : fetch 184 31 = some (31, .istore_n 1, 1, [1], 0) := (fm_184 31).trans rfl
theorem u_184_31 {S : Scr} {d : Nat} {a0 a1 a2 : AV} {st : List AV} {sh : Shp} {I : IM} {R : RM} {x : Int} : ev S d 184 31 [a0, a1, a2] (.inl x :: st) (sh, I, R) = ev S d 184 32 [a0, .inl x, a2] st (sh, I, R) := (ev_eq f_184_31).trans rfl
theorem f_184_32 : fetch 184 32 = some (32, .aload_n 0, 1, [0], 0) := (fm_184 32).trans rfl
theorem u_184_32 {S : Scr} {d : Nat} {a1 a2 : AV} {st : List AV} {sh : Shp} {I : IM} {R : RM} {x : Nat} : ev S d 184 32 [.inr (.inl x), a1, a2] st (sh, I, R) = ev S d 184 33 [.inr (.inl x), a1, a2] (.inr (.inl x) :: st) (sh, I, R) := (ev_eq f_184_32).trans rfl
theorem f_184_33 : fetch 184 33 = some (33, .dup, 1, [], 0) := (fm_184 33).trans rfl
theorem u_184_33 {S : Scr} {d : Nat} {a0 a1 a2 : AV} {st : List AV} {sh : Shp} {I : IM} {R : RM} {x : AV} : ev S d 184 33 [a0, a1, a2] (x :: st) (sh, I, R) = ev S d 184 34 [a0, a1, a2] (x :: x :: st) (sh, I, R) := (ev_eq f_184_33).trans rfl
theorem f_184_34 : fetch 184 34 = some (34, .getfield 176, 3, [9, 18, 0, 99], 0) := (fm_184 34).trans rfl
theorem u_184_34 {S : Scr} {d : Nat} {a0 a1 a2 : AV} {st : List AV} {sh : Shp} {I : IM} {R : RM} {k : Nat} (h : tg sh k = 9) : ev S d 184 34 [a0, a1, a2] (.inr (.inl k) :: st) (sh, I, R) = ev S d 184 37 [a0, a1, a2] (.inl (I k 18) :: st) (sh, I, R) := (ev_eq f_184_34).trans (congrArg (fin S d 184) (if_pos h))
theorem f_184_37 : fetch 184 37 = some (37, .iconst 1, 1, [], 1) := (fm_184 37).trans rfl
theorem u_184_37 {S : Scr} {d : Nat} {a0 a1 a2 : AV} {st : List AV} {sh : Shp} {I : IM} {R : RM} : ev S d 184 37 [a0, a1, a2] st (sh, I, R) = ev S d 184 38 [a0, a1, a2] (.inl 1 :: st) (sh, I, R) := (ev_eq f_184_37).trans rfl
theorem f_184_38 : fetch 184 38 = some (38, .iadd, 1, [], 0) := (fm_184 38).trans rfl
theorem u_184_38 {S : Scr} {d : Nat} {a0 a1 a2 : AV} {st : List AV} {sh : Shp} {I : IM} {R : RM} {x y : Int} : ev S d 184 38 [a0, a1, a2] (.inl y :: .inl x :: st) (sh, I, R) = ev S d 184 39 [a0, a1, a2] (.inl (wr (x + y)) :: st) (sh, I, R) := (ev_eq f_184_38).trans rfl
theorem f_184_39 : fetch 184 39 = some (39, .putfield 176, 3, [9, 18, 0, 99], 0) := (fm_184 39).trans rfl
theorem u_184_39 {S : Scr} {d : Nat} {a0 a1 a2 : AV} {st : List AV} {sh : Shp} {I : IM} {R : RM} {k : Nat} {x : Int} (h : tg sh k = 9) : ev S d 184 39 [a0, a1, a2] (.inl x :: .inr (.inl k) :: st) (sh, I, R) = ev S d 184 42 [a0, a1, a2] st (sh, up I k 18 x, R) := (ev_eq f_184_39).trans (congrArg (fin S d 184) (if_pos h))
theorem f_184_42 : fetch 184 42 = some (42, .aload_n 0, 1, [0], 0) := (fm_184 42).trans rfl
theorem u_184_42 {S : Scr} {d : Nat} {a1 a2 : AV} {st : List AV} {sh : Shp} {I : IM} {R : RM} {x : Nat} : ev S d 184 42 [.inr (.inl x), a1, a2] st (sh, I, R) = ev S d 184 43 [.inr (.inl x), a1, a2] (.inr (.inl x) :: st) (sh, I, R) := (ev_eq f_184_42).trans rfl
theorem f_184_43 : fetch 184 43 = some (43, .invokevirtual 188, 3, [178, 0, 155], 0) := (fm_184 43).trans rfl
theorem u_184_43 {S : Scr} {d : Nat} {a0 a1 a2 : AV} {st : List AV} {sh : Shp} {I : IM} {R : RM} {k : Nat} (h : tg sh k = 9) (hr : st.length ≤ 8) : ev S d 184 43 [a0, a1, a2] (.inr (.inl k) :: st) (sh, I, R) = bnd (cl d 178 [.inr (.inl k)] (sh, I, R)) (fun v M => ev S d 184 46 [a0, a1, a2] (psh v st) M) := (ev_eq f_184_43).trans (congrArg (fin S d 184) (if_pos ⟨h, rfl, hr⟩))
theorem f_184_46 : fetch 184 46 = some (46, .bipush 48, 2, [], 48) := (fm_184 46).trans rfl
theorem u_184_46 {S : Scr} {d : Nat} {a0 a1 a2 : AV} {st : List AV} {sh : Shp} {I : IM} {R : RM} : ev S d 184 46 [a0, a1, a2] st (sh, I, R) = ev S d 184 48 [a0, a1, a2] (.inl 48 :: st) (sh, I, R) := (ev_eq f_184_46).trans rfl
theorem f_184_48 : fetch 184 48 = some (48, .bipush 54, 2, [], 54) := (fm_184 48).trans rfl
theorem u_184_48 {S : Scr} {d : Nat} {a0 a1 a2 : AV} {st : List AV} {sh : Shp} {I : IM} {R : RM} : ev S d 184 48 [a0, a1, a2] st (sh, I, R) = ev S d 184 50 [a0, a1, a2] (.inl 54 :: st) (sh, I, R) := (ev_eq f_184_48).trans rfl
theorem f_184_50 : fetch 184 50 = some (50, .invokestatic 64, 3, [129, 3, 125], 0) := (fm_184 50).trans rfl
theorem u_184_50 {S : Scr} {d : Nat} {a0 a1 a2 : AV} {st : List AV} {sh : Shp} {I : IM} {R : RM} {x0 : Int} {x1 : Int} {x2 : Int} (hr : st.length ≤ 8) : ev S d 184 50 [a0, a1, a2] (.inl x2 :: .inl x1 :: .inl x0 :: st) (sh, I, R) = bnd (cl d 129 [.inl x0, .inl x1, .inl x2] (sh, I, R)) (fun v M => ev S d 184 53 [a0, a1, a2] (psh v st) M) := (ev_eq f_184_50).trans (congrArg (fin S d 184) (if_pos ⟨rfl, hr⟩))
theorem f_184_53 : fetch 184 53 = some (53, .ifCond .ne 13, 3, [66], 0) := (fm_184 53).trans rfl
theorem u_184_53 {S : Scr} {d : Nat} {a0 a1 a2 : AV} {st : List AV} {sh : Shp} {I : IM} {R : RM} {x : Int} : ev S d 184 53 [a0, a1, a2] (.inl x :: st) (sh, I, R) = if ¬ x = 0 then ev S d 184 66 [a0, a1, a2] st (sh, I, R) else ev S d 184 56 [a0, a1, a2] st (sh, I, R) := (ev_eq f_184_53).trans fin_if_ne
theorem f_184_56 : fetch 184 56 = some (56, .aload_n 0, 1, [0], 0) := (fm_184 56).trans rfl
theorem u_184_56 {S : Scr} {d : Nat} {a1 a2 : AV} {st : List AV} {sh : Shp} {I : IM} {R : RM} {x : Nat} : ev S d 184 56 [.inr (.inl x), a1, a2] st (sh, I, R) = ev S d 184 57 [.inr (.inl x), a1, a2] (.inr (.inl x) :: st) (sh, I, R) := (ev_eq f_184_56).trans rfl
theorem f_184_57 : fetch 184 57 = some (57, .iconst 1, 1, [], 1) := (fm_184 57).trans rfl
theorem u_184_57 {S : Scr} {d : Nat} {a0 a1 a2 : AV} {st : List AV} {sh : Shp} {I : IM} {R : RM} : ev S d 184 57 [a0, a1, a2] st (sh, I, R) = ev S d 184 58 [a0, a1, a2] (.inl 1 :: st) (sh, I, R) := (ev_eq f_184_57).trans rfl
theorem f_184_58 : fetch 184 58 = some (58, .aload_n 0, 1, [0], 0) := (fm_184 58).trans rfl
theorem u_184_58 {S : Scr} {d : Nat} {a1 a2 : AV} {st : List AV} {sh : Shp} {I : IM} {R : RM} {x : Nat} : ev S d 184 58 [.inr (.inl x), a1, a2] st (sh, I, R) = ev S d 184 59 [.inr (.inl x), a1, a2] (.inr (.inl x) :: st) (sh, I, R) := (ev_eq f_184_58).trans rfl
theorem f_184_59 : fetch 184 59 = some (59, .getfield 176, 3, [9, 18, 0, 99], 0) := (fm_184 59).trans rfl
theorem u_184_59 {S : Scr} {d : Nat} {a0 a1 a2 : AV} {st : List AV} {sh : Shp} {I : IM} {R : RM} {k : Nat} (h : tg sh k = 9) : ev S d 184 59 [a0, a1, a2] (.inr (.inl k) :: st) (sh, I, R) = ev S d 184 62 [a0, a1, a2] (.inl (I k 18) :: st) (sh, I, R) := (ev_eq f_184_59).trans (congrArg (fin S d 184) (if_pos h))
theorem f_184_62 : fetch 184 62 = some (62, .invokevirtual 191, 3, [179, 2, 156], 0) := (fm_184 62).trans rfl
theorem u_184_62 {S : Scr} {d : Nat} {a0 a1 a2 : AV} {st : List AV} {sh : Shp} {I : IM} {R : RM} {x0 : Int} {x1 : Int} {k : Nat} (h : tg sh k = 9) (hr : st.length ≤ 8) : ev S d 184 62 [a0, a1, a2] (.inl x1 :: .inl x0 :: .inr (.inl k) :: st) (sh, I, R) = bnd (cl d 179 [.inr (.inl k), .inl x0, .inl x1] (sh, I, R)) (fun v M => ev S d 184 65 [a0, a1, a2] (psh v st) M) := (ev_eq f_184_62).trans (congrArg (fin S d 184) (if_pos ⟨h, rfl, hr⟩))
theorem f_184_65 : fetch 184 65 = some (65, .ireturn, 1, [0], 0) := (fm_184 65).trans rfl
theorem u_184_65 {S : Scr} {d : Nat} {a0 a1 a2 : AV} {sh : Shp} {I : IM} {R : RM} {x : Int} : ev S d 184 65 [a0, a1, a2] [.inl x] (sh, I, R) = some (some (.inl x), (sh, I, R)) := (ev_eq f_184_65).trans fin_iret0
theorem f_184_66 : fetch 184 66 = some (66, .aload_n 0, 1, [0], 0) := (fm_184 66).trans rfl
theorem u_184_66 {S : Scr} {d : Nat} {a1 a2 : AV} {st : List AV} {sh : Shp} {I : IM} {R : RM} {x : Nat} : ev S d 184 66 [.inr (.inl x), a1, a2] st (sh, I, R) = ev S d 184 67 [.inr (.inl x), a1, a2] (.inr (.inl x) :: st) (sh, I, R) := (ev_eq f_184_66).trans rfl
theorem f_184_67 : fetch 184 67 = some (67, .invokevirtual 188, 3, [178, 0, 155], 0) := (fm_184 67).trans rfl
theorem u_184_67 {S : Scr} {d : Nat} {a0 a1 a2 : AV} {st : List AV} {sh : Shp} {I : IM} {R : RM} {k : Nat} (h : tg sh k = 9) (hr : st.length ≤ 8) : ev S d 184 67 [a0, a1, a2] (.inr (.inl k) :: st) (sh, I, R) = bnd (cl d 178 [.inr (.inl k)] (sh, I, R)) (fun v M => ev S d 184 70 [a0, a1, a2] (psh v st) M) := (ev_eq f_184_67).trans (congrArg (fin S d 184) (if_pos ⟨h, rfl, hr⟩))
theorem f_184_70 : fetch 184 70 = some (70, .bipush 48, 2, [], 48) := (fm_184 70).trans rfl
theorem u_184_70 {S : Scr} {d : Nat} {a0 a1 a2 : AV} {st : List AV} {sh : Shp} {I : IM} {R : RM} : ev S d 184 70 [a0, a1, a2] st (sh, I, R) = ev S d 184 72 [a0, a1, a2] (.inl 48 :: st) (sh, I, R) := (ev_eq f_184_70).trans rfl
theorem f_184_72 : fetch 184 72 = some (72, .isub, 1, [], 0) := (fm_184 72).trans rfl
theorem u_184_72 {S : Scr} {d : Nat} {a0 a1 a2 : AV} {st : List AV} {sh : Shp} {I : IM} {R : RM} {x y : Int} : ev S d 184 72 [a0, a1, a2] (.inl y :: .inl x :: st) (sh, I, R) = ev S d 184 73 [a0, a1, a2] (.inl (wr (x - y)) :: st) (sh, I, R) := (ev_eq f_184_72).trans rfl
theorem f_184_73 : fetch 184 73 = some (73, .istore_n 2, 1, [2], 0) := (fm_184 73).trans rfl
theorem u_184_73 {S : Scr} {d : Nat} {a0 a1 a2 : AV} {st : List AV} {sh : Shp} {I : IM} {R : RM} {x : Int} : ev S d 184 73 [a0, a1, a2] (.inl x :: st) (sh, I, R) = ev S d 184 74 [a0, a1, .inl x] st (sh, I, R) := (ev_eq f_184_73).trans rfl
theorem f_184_74 : fetch 184 74 = some (74, .aload_n 0, 1, [0], 0) := (fm_184 74).trans rfl
theorem u_184_74 {S : Scr} {d : Nat} {a1 a2 : AV} {st : List AV} {sh : Shp} {I : IM} {R : RM} {x : Nat} : ev S d 184 74 [.inr (.inl x), a1, a2] st (sh, I, R) = ev S d 184 75 [.inr (.inl x), a1, a2] (.inr (.inl x) :: st) (sh, I, R) := (ev_eq f_184_74).trans rfl
theorem f_184_75 : fetch 184 75 = some (75, .dup, 1, [], 0) := (fm_184 75).trans rfl
theorem u_184_75 {S : Scr} {d : Nat} {a0 a1 a2 : AV} {st : List AV} {sh : Shp} {I : IM} {R : RM} {x : AV} : ev S d 184 75 [a0, a1, a2] (x :: st) (sh, I, R) = ev S d 184 76 [a0, a1, a2] (x :: x :: st) (sh, I, R) := (ev_eq f_184_75).trans rfl
theorem f_184_76 : fetch 184 76 = some (76, .getfield 176, 3, [9, 18, 0, 99], 0) := (fm_184 76).trans rfl
theorem u_184_76 {S : Scr} {d : Nat} {a0 a1 a2 : AV} {st : List AV} {sh : Shp} {I : IM} {R : RM} {k : Nat} (h : tg sh k = 9) : ev S d 184 76 [a0, a1, a2] (.inr (.inl k) :: st) (sh, I, R) = ev S d 184 79 [a0, a1, a2] (.inl (I k 18) :: st) (sh, I, R) := (ev_eq f_184_76).trans (congrArg (fin S d 184) (if_pos h))
theorem f_184_79 : fetch 184 79 = some (79, .iconst 1, 1, [], 1) := (fm_184 79).trans rfl
theorem u_184_79 {S : Scr} {d : Nat} {a0 a1 a2 : AV} {st : List AV} {sh : Shp} {I : IM} {R : RM} : ev S d 184 79 [a0, a1, a2] st (sh, I, R) = ev S d 184 80 [a0, a1, a2] (.inl 1 :: st) (sh, I, R) := (ev_eq f_184_79).trans rfl
theorem f_184_80 : fetch 184 80 = some (80, .iadd, 1, [], 0) := (fm_184 80).trans rfl
theorem u_184_80 {S : Scr} {d : Nat} {a0 a1 a2 : AV} {st : List AV} {sh : Shp} {I : IM} {R : RM} {x y : Int} : ev S d 184 80 [a0, a1, a2] (.inl y :: .inl x :: st) (sh, I, R) = ev S d 184 81 [a0, a1, a2] (.inl (wr (x + y)) :: st) (sh, I, R) := (ev_eq f_184_80).trans rfl
theorem f_184_81 : fetch 184 81 = some (81, .putfield 176, 3, [9, 18, 0, 99], 0) := (fm_184 81).trans rfl
theorem u_184_81 {S : Scr} {d : Nat} {a0 a1 a2 : AV} {st : List AV} {sh : Shp} {I : IM} {R : RM} {k : Nat} {x : Int} (h : tg sh k = 9) : ev S d 184 81 [a0, a1, a2] (.inl x :: .inr (.inl k) :: st) (sh, I, R) = ev S d 184 84 [a0, a1, a2] st (sh, up I k 18 x, R) := (ev_eq f_184_81).trans (congrArg (fin S d 184) (if_pos h))
theorem f_184_84 : fetch 184 84 = some (84, .aload_n 0, 1, [0], 0) := (fm_184 84).trans rfl
theorem u_184_84 {S : Scr} {d : Nat} {a1 a2 : AV} {st : List AV} {sh : Shp} {I : IM} {R : RM} {x : Nat} : ev S d 184 84 [.inr (.inl x), a1, a2] st (sh, I, R) = ev S d 184 85 [.inr (.inl x), a1, a2] (.inr (.inl x) :: st) (sh, I, R) := (ev_eq f_184_84).trans rfl
theorem f_184_85 : fetch 184 85 = some (85, .iconst 4, 1, [], 4) := (fm_184 85).trans rfl
theorem u_184_85 {S : Scr} {d : Nat} {a0 a1 a2 : AV} {st : List AV} {sh : Shp} {I : IM} {R : RM} : ev S d 184 85 [a0, a1, a2] st (sh, I, R) = ev S d 184 86 [a0, a1, a2] (.inl 4 :: st) (sh, I, R) := (ev_eq f_184_85).trans rfl
theorem f_184_86 : fetch 184 86 = some (86, .iload_n 1, 1, [1], 0) := (fm_184 86).trans rfl
theorem u_184_86 {S : Scr} {d : Nat} {a0 a2 : AV} {st : List AV} {sh : Shp} {I : IM} {R : RM} {x : Int} : ev S d 184 86 [a0, .inl x, a2] st (sh, I, R) = ev S d 184 87 [a0, .inl x, a2] (.inl x :: st) (sh, I, R) := (ev_eq f_184_86).trans rfl
theorem f_184_87 : fetch 184 87 = some (87, .iload_n 2, 1, [2], 0) := (fm_184 87).trans rfl
theorem u_184_87 {S : Scr} {d : Nat} {a0 a1 : AV} {st : List AV} {sh : Shp} {I : IM} {R : RM} {x : Int} : ev S d 184 87 [a0, a1, .inl x] st (sh, I, R) = ev S d 184 88 [a0, a1, .inl x] (.inl x :: st) (sh, I, R) := (ev_eq f_184_87).trans rfl
theorem f_184_88 : fetch 184 88 = some (88, .invokevirtual 111, 3, [139, 3, 138], 0) := (fm_184 88).trans rfl
theorem u_184_88 {S : Scr} {d : Nat} {a0 a1 a2 : AV} {st : List AV} {sh : Shp} {I : IM} {R : RM} {x0 : Int} {x1 : Int} {x2 : Int} {k : Nat} (h : tg sh k = 9) (hr : st.length ≤ 8) : ev S d 184 88 [a0, a1, a2] (.inl x2 :: .inl x1 :: .inl x0 :: .inr (.inl k) :: st) (sh, I, R) = bnd (cl d 139 [.inr (.inl k), .inl x0, .inl x1, .inl x2] (sh, I, R)) (fun v M => ev S d 184 91 [a0, a1, a2] (psh v st) M) := (ev_eq f_184_88).trans (congrArg (fin S d 184) (if_pos ⟨h, rfl, hr⟩))
theorem f_184_91 : fetch 184 91 = some (91, .ireturn, 1, [0], 0) := (fm_184 91).trans rfl
theorem u_184_91 {S : Scr} {d : Nat} {a0 a1 a2 : AV} {sh : Shp} {I : IM} {R : RM} {x : Int} : ev S d 184 91 [a0, a1, a2] [.inl x] (sh, I, R) = some (some (.inl x), (sh, I, R)) := (ev_eq f_184_91).trans fin_iret0
theorem c_185 {d : Nat} {a0 : AV} {M : Mem} : cl (d + 1) 185 [a0] M = ev S0 d 185 0 [a0, .inr (.inr 1)] [] M := (cl_eq (as := [a0]) (show 1 ≤ maxOf 185 by decide +kernel)).trans rfl
theorem mt_185 : MT[185]? = some m_185 := rfl
theorem fm_185 (pc : Nat) : fetch 185 pc = lk m_185.2.2.2.2.2 pc := by
  unfold fetch
  rw [mt_185]
theorem f_185_0 : fetch 185 0 = some (0, .aload_n 0, 1, [0], 0) := (fm_185 0).trans rfl
theorem u_185_0 {S : Scr} {d : Nat} {a1 : AV} {st : List AV} {sh : Shp} {I : IM} {R : RM} {x : Nat} : ev S d 185 0 [.inr (.inl x), a1] st (sh, I, R) = ev S d 185 1 [.inr (.inl x), a1] (.inr (.inl x) :: st) (sh, I, R) := (ev_eq f_185_0).trans rfl
theorem f_185_1 : fetch 185 1 = some (1, .invokevirtual 188, 3, [178, 0, 155], 0) := (fm_185 1).trans rfl
theorem u_185_1 {S : Scr} {d : Nat} {a0 a1 : AV} {st : List AV} {sh : Shp} {I : IM} {R : RM} {k : Nat} (h : tg sh k = 9) (hr : st.length ≤ 8) : ev S d 185 1 [a0, a1] (.inr (.inl k) :: st) (sh, I, R) = bnd (cl d 178 [.inr (.inl k)] (sh, I, R)) (fun v M => ev S d 185 4 [a0, a1] (psh v st) M) := (ev_eq f_185_1).trans (congrArg (fin S d 185) (if_pos ⟨h, rfl, hr⟩))
theorem f_185_4 : fetch 185 4 = some (4, .bipush 65, 2, [], 65) := (fm_185 4).trans rfl
theorem u_185_4 {S : Scr} {d : Nat} {a0 a1 : AV} {st : List AV} {sh : Shp} {I : IM} {R : RM} : ev S d 185 4 [a0, a1] st (sh, I, R) = ev S d 185 6 [a0, a1] (.inl 65 :: st) (sh, I, R) := (ev_eq f_185_4).trans rfl
theorem f_185_6 : fetch 185 6 = some (6, .isub, 1, [], 0) := (fm_185 6).trans rfl
theorem u_185_6 {S : Scr} {d : Nat} {a0 a1 : AV} {st : List AV} {sh : Shp} {I : IM} {R : RM} {x y : Int} : ev S d 185 6 [a0, a1] (.inl y :: .inl x :: st) (sh, I, R) = ev S d 185 7 [a0, a1] (.inl (wr (x - y)) :: st) (sh, I, R) := (ev_eq f_185_6).trans rfl
theorem f_185_7 : fetch 185 7 = some (7, .istore_n 1, 1, [1], 0) := (fm_185 7).trans rfl
theorem u_185_7 {S : Scr} {d : Nat} {a0 a1 : AV} {st : List AV} {sh : Shp} {I : IM} {R : RM} {x : Int} : ev S d 185 7 [a0, a1] (.inl x :: st) (sh, I, R) = ev S d 185 8 [a0, .inl x] st (sh, I, R) := (ev_eq f_185_7).trans rfl
theorem f_185_8 : fetch 185 8 = some (8, .iload_n 1, 1, [1], 0) := (fm_185 8).trans rfl
theorem u_185_8 {S : Scr} {d : Nat} {a0 : AV} {st : List AV} {sh : Shp} {I : IM} {R : RM} {x : Int} : ev S d 185 8 [a0, .inl x] st (sh, I, R) = ev S d 185 9 [a0, .inl x] (.inl x :: st) (sh, I, R) := (ev_eq f_185_8).trans rfl
theorem f_185_9 : fetch 185 9 = some (9, .iconst 0, 1, [], 0) := (fm_185 9).trans rfl
theorem u_185_9 {S : Scr} {d : Nat} {a0 a1 : AV} {st : List AV} {sh : Shp} {I : IM} {R : RM} : ev S d 185 9 [a0, a1] st (sh, I, R) = ev S d 185 10 [a0, a1] (.inl 0 :: st) (sh, I, R) := (ev_eq f_185_9).trans rfl
theorem f_185_10 : fetch 185 10 = some (10, .bipush 29, 2, [], 29) := (fm_185 10).trans rfl
theorem u_185_10 {S : Scr} {d : Nat} {a0 a1 : AV} {st : List AV} {sh : Shp} {I : IM} {R : RM} : ev S d 185 10 [a0, a1] st (sh, I, R) = ev S d 185 12 [a0, a1] (.inl 29 :: st) (sh, I, R) := (ev_eq f_185_10).trans rfl
theorem f_185_12 : fetch 185 12 = some (12, .invokestatic 64, 3, [129, 3, 125], 0) := (fm_185 12).trans rfl
theorem u_185_12 {S : Scr} {d : Nat} {a0 a1 : AV} {st : List AV} {sh : Shp} {I : IM} {R : RM} {x0 : Int} {x1 : Int} {x2 : Int} (hr : st.length ≤ 8) : ev S d 185 12 [a0, a1] (.inl x2 :: .inl x1 :: .inl x0 :: st) (sh, I, R) = bnd (cl d 129 [.inl x0, .inl x1, .inl x2] (sh, I, R)) (fun v M => ev S d 185 15 [a0, a1] (psh v st) M) := (ev_eq f_185_12).trans (congrArg (fin S d 185) (if_pos ⟨rfl, hr⟩))
theorem f_185_15 : fetch 185 15 = some (15, .ifCond .ne 13, 3, [28], 0) := (fm_185 15).trans rfl
theorem u_185_15 {S : Scr} {d : Nat} {a0 a1 : AV} {st : List AV} {sh : Shp} {I : IM} {R : RM} {x : Int} : ev S d 185 15 [a0, a1] (.inl x :: st) (sh, I, R) = if ¬ x = 0 then ev S d 185 28 [a0, a1] st (sh, I, R) else ev S d 185 18 [a0, a1] st (sh, I, R) := (ev_eq f_185_15).trans fin_if_ne
theorem f_185_18 : fetch 185 18 = some (18, .aload_n 0, 1, [0], 0) := (fm_185 18).trans rfl
theorem u_185_18 {S : Scr} {d : Nat} {a1 : AV} {st : List AV} {sh : Shp} {I : IM} {R : RM} {x : Nat} : ev S d 185 18 [.inr (.inl x), a1] st (sh, I, R) = ev S d 185 19 [.inr (.inl x), a1] (.inr (.inl x) :: st) (sh, I, R) := (ev_eq f_185_18).trans rfl
theorem f_185_19 : fetch 185 19 = some (19, .iconst 1, 1, [], 1) := (fm_185 19).trans rfl
theorem u_185_19 {S : Scr} {d : Nat} {a0 a1 : AV} {st : List AV} {sh : Shp} {I : IM} {R : RM} : ev S d 185 19 [a0, a1] st (sh, I, R) = ev S d 185 20 [a0, a1] (.inl 1 :: st) (sh, I, R) := (ev_eq f_185_19).trans rfl
theorem f_185_20 : fetch 185 20 = some (20, .aload_n 0, 1, [0], 0) := (fm_185 20).trans rfl
theorem u_185_20 {S : Scr} {d : Nat} {a1 : AV} {st : List AV} {sh : Shp} {I : IM} {R : RM} {x : Nat} : ev S d 185 20 [.inr (.inl x), a1] st (sh, I, R) = ev S d 185 21 [.inr (.inl x), a1] (.inr (.inl x) :: st) (sh, I, R) := (ev_eq f_185_20).trans rfl
theorem f_185_21 : fetch 185 21 = some (21, .getfield 176, 3, [9, 18, 0, 99], 0) := (fm_185 21).trans rfl
theorem u_185_21 {S : Scr} {d : Nat} {a0 a1 : AV} {st : List AV} {sh : Shp} {I : IM} {R : RM} {k : Nat} (h : tg sh k = 9) : ev S d 185 21 [a0, a1] (.inr (.inl k) :: st) (sh, I, R) = ev S d 185 24 [a0, a1] (.inl (I k 18) :: st) (sh, I, R) := (ev_eq f_185_21).trans (congrArg (fin S d 185) (if_pos h))
theorem f_185_24 : fetch 185 24 = some (24, .invokevirtual 191, 3, [179, 2, 156], 0) := (fm_185 24).trans rfl
theorem u_185_24 {S : Scr} {d : Nat} {a0 a1 : AV} {st : List AV} {sh : Shp} {I : IM} {R : RM} {x0 : Int} {x1 : Int} {k : Nat} (h : tg sh k = 9) (hr : st.length ≤ 8) : ev S d 185 24 [a0, a1] (.inl x1 :: .inl x0 :: .inr (.inl k) :: st) (sh, I, R) = bnd (cl d 179 [.inr (.inl k), .inl x0, .inl x1] (sh, I, R)) (fun v M => ev S d 185 27 [a0, a1] (psh v st) M) := (ev_eq f_185_24).trans (congrArg (fin S d 185) (if_pos ⟨h, rfl, hr⟩))
theorem f_185_27 : fetch 185 27 = some (27, .ireturn, 1, [0], 0) := (fm_185 27).trans rfl
theorem u_185_27 {S : Scr} {d : Nat} {a0 a1 : AV} {sh : Shp} {I : IM} {R : RM} {x : Int} : ev S d 185 27 [a0, a1] [.inl x] (sh, I, R) = some (some (.inl x), (sh, I, R)) := (ev_eq f_185_27).trans fin_iret0
theorem f_185_28 : fetch 185 28 = some (28, .iload_n 1, 1, [1], 0) := (fm_185 28).trans rfl
theorem u_185_28 {S : Scr} {d : Nat} {a0 : AV} {st : List AV} {sh : Shp} {I : IM} {R : RM} {x : Int} : ev S d 185 28 [a0, .inl x] st (sh, I, R) = ev S d 185 29 [a0, .inl x] (.inl x :: st) (sh, I, R) := (ev_eq f_185_28).trans rfl
theorem f_185_29 : fetch 185 29 = some (29, .aload_n 0, 1, [0], 0) := (fm_185 29).trans rfl
theorem u_185_29 {S : Scr} {d : Nat} {a1 : AV} {st : List AV} {sh : Shp} {I : IM} {R : RM} {x : Nat} : ev S d 185 29 [.inr (.inl x), a1] st (sh, I, R) = ev S d 185 30 [.inr (.inl x), a1] (.inr (.inl x) :: st) (sh, I, R) := (ev_eq f_185_29).trans rfl
theorem f_185_30 : fetch 185 30 = some (30, .getfield 197, 3, [9, 19, 0, 103], 0) := (fm_185 30).trans rfl
theorem u_185_30 {S : Scr} {d : Nat} {a0 a1 : AV} {st : List AV} {sh : Shp} {I : IM} {R : RM} {k : Nat} (h : tg sh k = 9) : ev S d 185 30 [a0, a1] (.inr (.inl k) :: st) (sh, I, R) = ev S d 185 33 [a0, a1] (.inl (I k 19) :: st) (sh, I, R) := (ev_eq f_185_30).trans (congrArg (fin S d 185) (if_pos h))
theorem f_185_33 : fetch 185 33 = some (33, .if_icmp .lt 13, 3, [46], 0) := (fm_185 33).trans rfl
theorem u_185_33 {S : Scr} {d : Nat} {a0 a1 : AV} {st : List AV} {sh : Shp} {I : IM} {R : RM} {x y : Int} : ev S d 185 33 [a0, a1] (.inl y :: .inl x :: st) (sh, I, R) = if x < y then ev S d 185 46 [a0, a1] st (sh, I, R) else ev S d 185 36 [a0, a1] st (sh, I, R) := (ev_eq f_185_33).trans fin_icmp_lt
theorem f_185_36 : fetch 185 36 = some (36, .aload_n 0, 1, [0], 0) := (fm_185 36).trans rfl
theorem u_185_36 {S : Scr} {d : Nat} {a1 : AV} {st : List AV} {sh : Shp} {I : IM} {R : RM} {x : Nat} : ev S d 185 36 [.inr (.inl x), a1] st (sh, I, R) = ev S d 185 37 [.inr (.inl x), a1] (.inr (.inl x) :: st) (sh, I, R) := (ev_eq f_185_36).trans rfl
theorem f_185_37 : fetch 185 37 = some (37, .iconst 2, 1, [], 2) := (fm_185 37).trans rfl
theorem u_185_37 {S : Scr} {d : Nat} {a0 a1 : AV} {st : List AV} {sh : Shp} {I : IM} {R : RM} : ev S d 185 37 [a0, a1] st (sh, I, R) = ev S d 185 38 [a0, a1] (.inl 2 :: st) (sh, I, R) := (ev_eq f_185_37).trans rfl
theorem f_185_38 : fetch 185 38 = some (38, .aload_n 0, 1, [0], 0) := (fm_185 38).trans rfl
theorem u_185_38 {S : Scr} {d : Nat} {a1 : AV} {st : List AV} {sh : Shp} {I : IM} {R : RM} {x : Nat} : ev S d 185 38 [.inr (.inl x), a1] st (sh, I, R) = ev S d 185 39 [.inr (.inl x), a1] (.inr (.inl x) :: st) (sh, I, R) := (ev_eq f_185_38).trans rfl
theorem f_185_39 : fetch 185 39 = some (39, .getfield 176, 3, [9, 18, 0, 99], 0) := (fm_185 39).trans rfl
theorem u_185_39 {S : Scr} {d : Nat} {a0 a1 : AV} {st : List AV} {sh : Shp} {I : IM} {R : RM} {k : Nat} (h : tg sh k = 9) : ev S d 185 39 [a0, a1] (.inr (.inl k) :: st) (sh, I, R) = ev S d 185 42 [a0, a1] (.inl (I k 18) :: st) (sh, I, R) := (ev_eq f_185_39).trans (congrArg (fin S d 185) (if_pos h))
theorem f_185_42 : fetch 185 42 = some (42, .invokevirtual 191, 3, [179, 2, 156], 0) := (fm_185 42).trans rfl
theorem u_185_42 {S : Scr} {d : Nat} {a0 a1 : AV} {st : List AV} {sh : Shp} {I : IM} {R : RM} {x0 : Int} {x1 : Int} {k : Nat} (h : tg sh k = 9) (hr : st.length ≤ 8) : ev S d 185 42 [a0, a1] (.inl x1 :: .inl x0 :: .inr (.inl k) :: st) (sh, I, R) = bnd (cl d 179 [.inr (.inl k), .inl x0, .inl x1] (sh, I, R)) (fun v M => ev S d 185 45 [a0, a1] (psh v st) M) := (ev_eq f_185_42).trans (congrArg (fin S d 185) (if_pos ⟨h, rfl, hr⟩))
theorem f_185_45 : fetch 185 45 = some (45, .ireturn, 1, [0], 0) := (fm_185 45).trans rfl
theorem u_185_45 {S : Scr} {d : Nat} {a0 a1 : AV} {sh : Shp} {I : IM} {R : RM} {x : Int} : ev S d 185 45 [a0, a1] [.inl x] (sh, I, R) = some (some (.inl x), (sh, I, R)) := (ev_eq f_185_45).trans fin_iret0
theorem f_185_46 : fetch 185 46 = some (46, .aload_n 0, 1, [0], 0) := (fm_185 46).trans rfl
theorem u_185_46 {S : Scr} {d : Nat} {a1 : AV} {st : List AV} {sh : Shp} {I : IM} {R : RM} {x : Nat} : ev S d 185 46 [.inr (.inl x), a1] st (sh, I, R) = ev S d 185 47 [.inr (.inl x), a1] (.inr (.inl x) :: st) (sh, I, R) := (ev_eq f_185_46).trans rfl
theorem f_185_47 : fetch 185 47 = some (47, .dup, 1, [], 0) := (fm_185 47).trans rfl
theorem u_185_47 {S : Scr} {d : Nat} {a0 a1 : AV} {st : List AV} {sh : Shp} {I : IM} {R : RM} {x : AV} : ev S d 185 47 [a0, a1] (x :: st) (sh, I, R) = ev S d 185 48 [a0, a1] (x :: x :: st) (sh, I, R) := (ev_eq f_185_47).trans rfl
theorem f_185_48 : fetch 185 48 = some (48, .getfield 176, 3, [9, 18, 0, 99], 0) := (fm_185 48).trans rfl
theorem u_185_48 {S : Scr} {d : Nat} {a0 a1 : AV} {st : List AV} {sh : Shp} {I : IM} {R : RM} {k : Nat} (h : tg sh k = 9) : ev S d 185 48 [a0, a1] (.inr (.inl k) :: st) (sh, I, R) = ev S d 185 51 [a0, a1] (.inl (I k 18) :: st) (sh, I, R) := (ev_eq f_185_48).trans (congrArg (fin S d 185) (if_pos h))
theorem f_185_51 : fetch 185 51 = some (51, .iconst 1, 1, [], 1) := (fm_185 51).trans rfl
theorem u_185_51 {S : Scr} {d : Nat} {a0 a1 : AV} {st : List AV} {sh : Shp} {I : IM} {R : RM} : ev S d 185 51 [a0, a1] st (sh, I, R) = ev S d 185 52 [a0, a1] (.inl 1 :: st) (sh, I, R) := (ev_eq f_185_51).trans rfl
theorem f_185_52 : fetch 185 52 = some (52, .iadd, 1, [], 0) := (fm_185 52).trans rfl
theorem u_185_52 {S : Scr} {d : Nat} {a0 a1 : AV} {st : List AV} {sh : Shp} {I : IM} {R : RM} {x y : Int} : ev S d 185 52 [a0, a1] (.inl y :: .inl x :: st) (sh, I, R) = ev S d 185 53 [a0, a1] (.inl (wr (x + y)) :: st) (sh, I, R) := (ev_eq f_185_52).trans rfl
theorem f_185_53 : fetch 185 53 = some (53, .putfield 176, 3, [9, 18, 0, 99], 0) := (fm_185 53).trans rfl
theorem u_185_53 {S : Scr} {d : Nat} {a0 a1 : AV} {st : List AV} {sh : Shp} {I : IM} {R : RM} {k : Nat} {x : Int} (h : tg sh k = 9) : ev S d 185 53 [a0, a1] (.inl x :: .inr (.inl k) :: st) (sh, I, R) = ev S d 185 56 [a0, a1] st (sh, up I k 18 x, R) := (ev_eq f_185_53).trans (congrArg (fin S d 185) (if_pos h))
theorem f_185_56 : fetch 185 56 = some (56, .aload_n 0, 1, [0], 0) := (fm_185 56).trans rfl
theorem u_185_56 {S : Scr} {d : Nat} {a1 : AV} {st : List AV} {sh : Shp} {I : IM} {R : RM} {x : Nat} : ev S d 185 56 [.inr (.inl x), a1] st (sh, I, R) = ev S d 185 57 [.inr (.inl x), a1] (.inr (.inl x) :: st) (sh, I, R) := (ev_eq f_185_56).trans rfl
theorem f_185_57 : fetch 185 57 = some (57, .getfield 46, 3, [9, 20, 1, 91], 0) := (fm_185 57).trans rfl
theorem u_185_57 {S : Scr} {d : Nat} {a0 a1 : AV} {st : List AV} {sh : Shp} {I : IM} {R : RM} {k : Nat} (h : tg sh k = 9) : ev S d 185 57 [a0, a1] (.inr (.inl k) :: st) (sh, I, R) = ev S d 185 60 [a0, a1] (rv (R k 20) :: st) (sh, I, R) := (ev_eq f_185_57).trans (congrArg (fin S d 185) (if_pos h))
theorem f_185_60 : fetch 185 60 = some (60, .iload_n 1, 1, [1], 0) := (fm_185 60).trans rfl
theorem u_185_60 {S : Scr} {d : Nat} {a0 : AV} {st : List AV} {sh : Shp} {I : IM} {R : RM} {x : Int} : ev S d 185 60 [a0, .inl x] st (sh, I, R) = ev S d 185 61 [a0, .inl x] (.inl x :: st) (sh, I, R) := (ev_eq f_185_60).trans rfl
theorem f_185_61 : fetch 185 61 = some (61, .iaload, 1, [], 0) := (fm_185 61).trans rfl
theorem u_185_61 {S : Scr} {d : Nat} {a0 a1 : AV} {st : List AV} {sh : Shp} {I : IM} {R : RM} {k : Nat} {i : Int} (h : tg sh k = 100) (h0 : 0 ≤ i) (h1 : i < ln sh k) : ev S d 185 61 [a0, a1] (.inl i :: .inr (.inl k) :: st) (sh, I, R) = ev S d 185 62 [a0, a1] (.inl (I k i) :: st) (sh, I, R) := (ev_eq f_185_61).trans (congrArg (fin S d 185) (if_pos ⟨h, h0, h1⟩))
theorem f_185_62 : fetch 185 62 = some (62, .ireturn, 1, [0], 0) := (fm_185 62).trans rfl
theorem u_185_62 {S : Scr} {d : Nat} {a0 a1 : AV} {sh : Shp} {I : IM} {R : RM} {x : Int} : ev S d 185 62 [a0, a1] [.inl x] (sh, I, R) = some (some (.inl x), (sh, I, R)) := (ev_eq f_185_62).trans fin_iret0
theorem c_186 {d : Nat} {a0 a1 : AV} {M : Mem} : cl (d + 1) 186 [a0, a1] M = ev S0 d 186 0 [a0, a1, .inr (.inr 1), .inr (.inr 1), .inr (.inr 1), .inr (.inr 1), .inr (.inr 1), .inr (.inr 1), .inr (.inr 1)] [] M := (cl_eq (as := [a0, a1]) (show 2 ≤ maxOf 186 by decide +kernel)).trans rfl
theorem mt_186 : MT[186]? = some m_186 := rfl
theorem fm_186 (pc : Nat) : fetch 186 pc = lk m_186.2.2.2.2.2 pc := by
  unfold fetch
  rw [mt_186]
theorem f_186_0 : fetch 186 0 = some (0, .aload_n 0, 1, [0], 0) := (fm_186 0).trans rfl
theorem u_186_0 {S : Scr} {d : Nat} {a1 a2 a3 a4 a5 a6 a7 a8 : AV} {st : List AV} {sh : Shp} {I : IM} {R : RM} {x : Nat} : ev S d 186 0 [.inr (.inl x), a1, a2, a3, a4, a5, a6, a7, a8] st (sh, I, R) = ev S d 186 1 [.inr (.inl x), a1, a2, a3, a4, a5, a6, a7, a8] (.inr (.inl x) :: st) (sh, I, R) := (ev_eq f_186_0).trans rfl
theorem f_186_1 : fetch 186 1 = some (1, .getfield 176, 3, [9, 18, 0, 99], 0) := (fm_186 1).trans rfl
theorem u_186_1 {S : Scr} {d : Nat} {a0 a1 a2 a3 a4 a5 a6 a7 a8 : AV} {st : List AV} {sh : Shp} {I : IM} {R : RM} {k : Nat} (h : tg sh k = 9) : ev S d 186 1 [a0, a1, a2, a3, a4, a5, a6, a7, a8] (.inr (.inl k) :: st) (sh, I, R) = ev S d 186 4 [a0, a1, a2, a3, a4, a5, a6, a7, a8] (.inl (I k 18) :: st) (sh, I, R) := (ev_eq f_186_1).trans (congrArg (fin S d 186) (if_pos h))
theorem f_186_4 : fetch 186 4 = some (4, .istore_n 2, 1, [2], 0) := (fm_186 4).trans rfl
theorem u_186_4 {S : Scr} {d : Nat} {a0 a1 a2 a3 a4 a5 a6 a7 a8 : AV} {st : List AV} {sh : Shp} {I : IM} {R : RM} {x : Int} : ev S d 186 4 [a0, a1, a2, a3, a4, a5, a6, a7, a8] (.inl x :: st) (sh, I, R) = ev S d 186 5 [a0, a1, .inl x, a3, a4, a5, a6, a7, a8] st (sh, I, R) := (ev_eq f_186_4).trans rfl
theorem f_186_5 : fetch 186 5 = some (5, .aload_n 0, 1, [0], 0) := (fm_186 5).trans rfl
theorem u_186_5 {S : Scr} {d : Nat} {a1 a2 a3 a4 a5 a6 a7 a8 : AV} {st : List AV} {sh : Shp} {I : IM} {R : RM} {x : Nat} : ev S d 186 5 [.inr (.inl x), a1, a2, a3, a4, a5, a6, a7, a8] st (sh, I, R) = ev S d 186 6 [.inr (.inl x), a1, a2, a3, a4, a5, a6, a7, a8] (.inr (.inl x) :: st) (sh, I, R) := (ev_eq f_186_5).trans rfl
theorem f_186_6 : fetch 186 6 = some (6, .invokevirtual 188, 3, [178, 0, 155], 0) := (fm_186 6).trans rfl
theorem u_186_6 {S : Scr} {d : Nat} {a0 a1 a2 a3 a4 a5 a6 a7 a8 : AV} {st : List AV} {sh : Shp} {I : IM} {R : RM} {k : Nat} (h : tg sh k = 9) (hr : st.length ≤ 8) : ev S d 186 6 [a0, a1, a2, a3, a4, a5, a6, a7, a8] (.inr (.inl k) :: st) (sh, I, R) = bnd (cl d 178 [.inr (.inl k)] (sh, I, R)) (fun v M => ev S d 186 9 [a0, a1, a2, a3, a4, a5, a6, a7, a8] (psh v st) M) := (ev_eq f_186_6).trans (congrArg (fin S d 186) (if_pos ⟨h, rfl, hr⟩))
theorem f_186_9 : fetch 186 9 = some (9, .istore_n 3, 1, [3], 0) := (fm_186 9).trans rfl
theorem u_186_9 {S : Scr} {d : Nat} {a0 a1 a2 a3 a4 a5 a6 a7 a8 : AV} {st : List AV} {sh : Shp} {I : IM} {R : RM} {x : Int} : ev S d 186 9 [a0, a1, a2, a3, a4, a5, a6, a7, a8] (.inl x :: st) (sh, I, R) = ev S d 186 10 [a0, a1, a2, .inl x, a4, a5, a6, a7, a8] st (sh, I, R) := (ev_eq f_186_9).trans rfl
theorem f_186_10 : fetch 186 10 = some (10, .iload_n 3, 1, [3], 0) := (fm_186 10).trans rfl
theorem u_186_10 {S : Scr} {d : Nat} {a0 a1 a2 a4 a5 a6 a7 a8 : AV} {st : List AV} {sh : Shp} {I : IM} {R : RM} {x : Int} : ev S d 186 10 [a0, a1, a2, .inl x, a4, a5, a6, a7, a8] st (sh, I, R) = ev S d 186 11 [a0, a1, a2, .inl x, a4, a5, a6, a7, a8] (.inl x :: st) (sh, I, R) := (ev_eq f_186_10).trans rfl
theorem f_186_11 : fetch 186 11 = some (11, .bipush 45, 2, [], 45) := (fm_186 11).trans rfl
theorem u_186_11 {S : Scr} {d : Nat} {a0 a1 a2 a3 a4 a5 a6 a7 a8 : AV} {st : List AV} {sh : Shp} {I : IM} {R : RM} : ev S d 186 11 [a0, a1, a2, a3, a4, a5, a6, a7, a8] st (sh, I, R) = ev S d 186 13 [a0, a1, a2, a3, a4, a5, a6, a7, a8] (.inl 45 :: st) (sh, I, R) := (ev_eq f_186_11).trans rfl
theorem f_186_13 : fetch 186 13 = some (13, .if_icmp .ne 15, 3, [28], 0) := (fm_186 13).trans rfl
theorem u_186_13 {S : Scr} {d : Nat} {a0 a1 a2 a3 a4 a5 a6 a7 a8 : AV} {st : List AV} {sh : Shp} {I : IM} {R : RM} {x y : Int} : ev S d 186 13 [a0, a1, a2, a3, a4, a5, a6, a7, a8] (.inl y :: .inl x :: st) (sh, I, R) = if ¬ x = y then ev S d 186 28 [a0, a1, a2, a3, a4, a5, a6, a7, a8] st (sh, I, R) else ev S d 186 16 [a0, a1, a2, a3, a4, a5, a6, a7, a8] st (sh, I, R) := (ev_eq f_186_13).trans fin_icmp_ne
theorem f_186_16 : fetch 186 16 = some (16, .aload_n 0, 1, [0], 0) := (fm_186 16).trans rfl
theorem u_186_16 {S : Scr} {d : Nat} {a1 a2 a3 a4 a5 a6 a7 a8 : AV} {st : List AV} {sh : Shp} {I : IM} {R : RM} {x : Nat} : ev S d 186 16 [.inr (.inl x), a1, a2, a3, a4, a5, a6, a7, a8] st (sh, I, R) = ev S d 186 17 [.inr (.inl x), a1, a2, a3, a4, a5, a6, a7, a8] (.inr (.inl x) :: st) (sh, I, R) := (ev_eq f_186_16).trans rfl
theorem f_186_17 : fetch 186 17 = some (17, .dup, 1, [], 0) := (fm_186 17).trans rfl
theorem u_186_17 {S : Scr} {d : Nat} {a0 a1 a2 a3 a4 a5 a6 a7 a8 : AV} {st : List AV} {sh : Shp} {I : IM} {R : RM} {x : AV} : ev S d 186 17 [a0, a1, a2, a3, a4, a5, a6, a7, a8] (x :: st) (sh, I, R) = ev S d 186 18 [a0, a1, a2, a3, a4, a5, a6, a7, a8] (x :: x :: st) (sh, I, R) := (ev_eq f_186_17).trans rfl
theorem f_186_18 : fetch 186 18 = some (18, .getfield 176, 3, [9, 18, 0, 99], 0) := (fm_186 18).trans rfl
theorem u_186_18 {S : Scr} {d : Nat} {a0 a1 a2 a3 a4 a5 a6 a7 a8 : AV} {st : List AV} {sh : Shp} {I : IM} {R : RM} {k : Nat} (h : tg sh k = 9) : ev S d 186 18 [a0, a1, a2, a3, a4, a5, a6, a7, a8] (.inr (.inl k) :: st) (sh, I, R) = ev S d 186 21 [a0, a1, a2, a3, a4, a5, a6, a7, a8] (.inl (I k 18) :: st) (sh, I, R) := (ev_eq f_186_18).trans (congrArg (fin S d 186) (if_pos h))
theorem f_186_21 : fetch 186 21 = some (21, .iconst 1, 1, [], 1) := (fm_186 21).trans rfl
theorem u_186_21 {S : Scr} {d : Nat} {a0 a1 a2 a3 a4 a5 a6 a7 a8 : AV} {st : List AV} {sh : Shp} {I : IM} {R : RM} : ev S d 186 21 [a0, a1, a2, a3, a4, a5, a6, a7, a8] st (sh, I, R) = ev S d 186 22 [a0, a1, a2, a3, a4, a5, a6, a7, a8] (.inl 1 :: st) (sh, I, R) := (ev_eq f_186_21).trans rfl
theorem f_186_22 : fetch 186 22 = some (22, .iadd, 1, [], 0) := (fm_186 22).trans rfl
theorem u_186_22 {S : Scr} {d : Nat} {a0 a1 a2 a3 a4 a5 a6 a7 a8 : AV} {st : List AV} {sh : Shp} {I : IM} {R : RM} {x y : Int} : ev S d 186 22 [a0, a1, a2, a3, a4, a5, a6, a7, a8] (.inl y :: .inl x :: st) (sh, I, R) = ev S d 186 23 [a0, a1, a2, a3, a4, a5, a6, a7, a8] (.inl (wr (x + y)) :: st) (sh, I, R) := (ev_eq f_186_22).trans rfl
theorem f_186_23 : fetch 186 23 = some (23, .putfield 176, 3, [9, 18, 0, 99], 0) := (fm_186 23).trans rfl
theorem u_186_23 {S : Scr} {d : Nat} {a0 a1 a2 a3 a4 a5 a6 a7 a8 : AV} {st : List AV} {sh : Shp} {I : IM} {R : RM} {k : Nat} {x : Int} (h : tg sh k = 9) : ev S d 186 23 [a0, a1, a2, a3, a4, a5, a6, a7, a8] (.inl x :: .inr (.inl k) :: st) (sh, I, R) = ev S d 186 26 [a0, a1, a2, a3, a4, a5, a6, a7, a8] st (sh, up I k 18 x, R) := (ev_eq f_186_23).trans (congrArg (fin S d 186) (if_pos h))
theorem f_186_26 : fetch 186 26 = some (26, .iconst (-1), 1, [], (-1)) := (fm_186 26).trans rfl
theorem u_186_26 {S : Scr} {d : Nat} {a0 a1 a2 a3 a4 a5 a6 a7 a8 : AV} {st : List AV} {sh : Shp} {I : IM} {R : RM} : ev S d 186 26 [a0, a1, a2, a3, a4, a5, a6, a7, a8] st (sh, I, R) = ev S d 186 27 [a0, a1, a2, a3, a4, a5, a6, a7, a8] (.inl (-1) :: st) (sh, I, R) := (ev_eq f_186_26).trans rfl
theorem f_186_27 : fetch 186 27 = some (27, .ireturn, 1, [0], 0) := (fm_186 27).trans rfl
theorem u_186_27 {S : Scr} {d : Nat} {a0 a1 a2 a3 a4 a5 a6 a7 a8 : AV} {sh : Shp} {I : IM} {R : RM} {x : Int} : ev S d 186 27 [a0, a1, a2, a3, a4, a5, a6, a7, a8] [.inl x] (sh, I, R) = some (some (.inl x), (sh, I, R)) := (ev_eq f_186_27).trans fin_iret0
theorem f_186_28 : fetch 186 28 = some (28, .iload_n 3, 1, [3], 0) := (fm_186 28).trans rfl
theorem u_186_28 {S : Scr} {d : Nat} {a0 a1 a2 a4 a5 a6 a7 a8 : AV} {st : List AV} {sh : Shp} {I : IM} {R : RM} {x : Int} : ev S d 186 28 [a0, a1, a2, .inl x, a4, a5, a6, a7, a8] st (sh, I, R) = ev S d 186 29 [a0, a1, a2, .inl x, a4, a5, a6, a7, a8] (.inl x :: st) (sh, I, R) := (ev_eq f_186_28).trans rfl
theorem f_186_29 : fetch 186 29 = some (29, .bipush 35, 2, [], 35) := (fm_186 29).trans rfl
theorem u_186_29 {S : Scr} {d : Nat} {a0 a1 a2 a3 a4 a5 a6 a7 a8 : AV} {st : List AV} {sh : Shp} {I : IM} {R : RM} : ev S d 186 29 [a0, a1, a2, a3, a4, a5, a6, a7, a8] st (sh, I, R) = ev S d 186 31 [a0, a1, a2, a3, a4, a5, a6, a7, a8] (.inl 35 :: st) (sh, I, R) := (ev_eq f_186_29).trans rfl
theorem f_186_31 : fetch 186 31 = some (31, .if_icmp .ne 18, 3, [49], 0) := (fm_186 31).trans rfl
theorem u_186_31 {S : Scr} {d : Nat} {a0 a1 a2 a3 a4 a5 a6 a7 a8 : AV} {st : List AV} {sh : Shp} {I : IM} {R : RM} {x y : Int} : ev S d 186 31 [a0, a1, a2, a3, a4, a5, a6, a7, a8] (.inl y :: .inl x :: st) (sh, I, R) = if ¬ x = y then ev S d 186 49 [a0, a1, a2, a3, a4, a5, a6, a7, a8] st (sh, I, R) else ev S d 186 34 [a0, a1, a2, a3, a4, a5, a6, a7, a8] st (sh, I, R) := (ev_eq f_186_31).trans fin_icmp_ne
theorem f_186_34 : fetch 186 34 = some (34, .aload_n 0, 1, [0], 0) := (fm_186 34).trans rfl
theorem u_186_34 {S : Scr} {d : Nat} {a1 a2 a3 a4 a5 a6 a7 a8 : AV} {st : List AV} {sh : Shp} {I : IM} {R : RM} {x : Nat} : ev S d 186 34 [.inr (.inl x), a1, a2, a3, a4, a5, a6, a7, a8] st (sh, I, R) = ev S d 186 35 [.inr (.inl x), a1, a2, a3, a4, a5, a6, a7, a8] (.inr (.inl x) :: st) (sh, I, R) := (ev_eq f_186_34).trans rfl
theorem f_186_35 : fetch 186 35 = some (35, .dup, 1, [], 0) := (fm_186 35).trans rfl
theorem u_186_35 {S : Scr} {d : Nat} {a0 a1 a2 a3 a4 a5 a6 a7 a8 : AV} {st : List AV} {sh : Shp} {I : IM} {R : RM} {x : AV} : ev S d 186 35 [a0, a1, a2, a3, a4, a5, a6, a7, a8] (x :: st) (sh, I, R) = ev S d 186 36 [a0, a1, a2, a3, a4, a5, a6, a7, a8] (x :: x :: st) (sh, I, R) := (ev_eq f_186_35).trans rfl
theorem f_186_36 : fetch 186 36 = some (36, .getfield 176, 3, [9, 18, 0, 99], 0) := (fm_186 36).trans rfl
theorem u_186_36 {S : Scr} {d : Nat} {a0 a1 a2 a3 a4 a5 a6 a7 a8 : AV} {st : List AV} {sh : Shp} {I : IM} {R : RM} {k : Nat} (h : tg sh k = 9) : ev S d 186 36 [a0, a1, a2, a3, a4, a5, a6, a7, a8] (.inr (.inl k) :: st) (sh, I, R) = ev S d 186 39 [a0, a1, a2, a3, a4, a5, a6, a7, a8] (.inl (I k 18) :: st) (sh, I, R) := (ev_eq f_186_36).trans (congrArg (fin S d 186) (if_pos h))
theorem f_186_39 : fetch 186 39 = some (39, .iconst 1, 1, [], 1) := (fm_186 39).trans rfl
theorem u_186_39 {S : Scr} {d : Nat} {a0 a1 a2 a3 a4 a5 a6 a7 a8 : AV} {st : List AV} {sh : Shp} {I : IM} {R : RM} : ev S d 186 39 [a0, a1, a2, a3, a4, a5, a6, a7, a8] st (sh, I, R) = ev S d 186 40 [a0, a1, a2, a3, a4, a5, a6, a7, a8] (.inl 1 :: st) (sh, I, R) := (ev_eq f_186_39).trans rfl
theorem f_186_40 : fetch 186 40 = some (40, .iadd, 1, [], 0) := (fm_186 40).trans rfl
theorem u_186_40 {S : Scr} {d : Nat} {a0 a1 a2 a3 a4 a5 a6 a7 a8 : AV} {st : List AV} {sh : Shp} {I : IM} {R : RM} {x y : Int} : ev S d 186 40 [a0, a1, a2, a3, a4, a5, a6, a7, a8] (.inl y :: .inl x :: st) (sh, I, R) = ev S d 186 41 [a0, a1, a2, a3, a4, a5, a6, a7, a8] (.inl (wr (x + y)) :: st) (sh, I, R) := (ev_eq f_186_40).trans rfl
theorem f_186_41 : fetch 186 41 = some (41, .putfield 176, 3, [9, 18, 0, 99], 0) := (fm_186 41).trans rfl
theorem u_186_41 {S : Scr} {d : Nat} {a0 a1 a2 a3 a4 a5 a6 a7 a8 : AV} {st : List AV} {sh : Shp} {I : IM} {R : RM} {k : Nat} {x : Int} (h : tg sh k = 9) : ev S d 186 41 [a0, a1, a2, a3, a4, a5, a6, a7, a8] (.inl x :: .inr (.inl k) :: st) (sh, I, R) = ev S d 186 44 [a0, a1, a2, a3, a4, a5, a6, a7, a8] st (sh, up I k 18 x, R) := (ev_eq f_186_41).trans (congrArg (fin S d 186) (if_pos h))
theorem f_186_44 : fetch 186 44 = some (44, .aload_n 0, 1, [0], 0) := (fm_186 44).trans rfl
theorem u_186_44 {S : Scr} {d : Nat} {a1 a2 a3 a4 a5 a6 a7 a8 : AV} {st : List AV} {sh : Shp} {I : IM} {R : RM} {x : Nat} : ev S d 186 44 [.inr (.inl x), a1, a2, a3, a4, a5, a6, a7, a8] st (sh, I, R) = ev S d 186 45 [.inr (.inl x), a1, a2, a3, a4, a5, a6, a7, a8] (.inr (.inl x) :: st) (sh, I, R) := (ev_eq f_186_44).trans rfl
theorem f_186_45 : fetch 186 45 = some (45, .invokevirtual 200, 3, [185, 0, 158], 0) := (fm_186 45).trans rfl
theorem u_186_45 {S : Scr} {d : Nat} {a0 a1 a2 a3 a4 a5 a6 a7 a8 : AV} {st : List AV} {sh : Shp} {I : IM} {R : RM} {k : Nat} (h : tg sh k = 9) (hr : st.length ≤ 8) : ev S d 186 45 [a0, a1, a2, a3, a4, a5, a6, a7, a8] (.inr (.inl k) :: st) (sh, I, R) = bnd (cl d 185 [.inr (.inl k)] (sh, I, R)) (fun v M => ev S d 186 48 [a0, a1, a2, a3, a4, a5, a6, a7, a8] (psh v st) M) := (ev_eq f_186_45).trans (congrArg (fin S d 186) (if_pos ⟨h, rfl, hr⟩))
theorem f_186_48 : fetch 186 48 = some (48, .ireturn, 1, [0], 0) := (fm_186 48).trans rfl
theorem u_186_48 {S : Scr} {d : Nat} {a0 a1 a2 a3 a4 a5 a6 a7 a8 : AV} {sh : Shp} {I : IM} {R : RM} {x : Int} : ev S d 186 48 [a0, a1, a2, a3, a4, a5, a6, a7, a8] [.inl x] (sh, I, R) = some (some (.inl x), (sh, I, R)) := (ev_eq f_186_48).trans fin_iret0
theorem f_186_49 : fetch 186 49 = some (49, .aload_n 0, 1, [0], 0) := (fm_186 49).trans rfl
theorem u_186_49 {S : Scr} {d : Nat} {a1 a2 a3 a4 a5 a6 a7 a8 : AV} {st : List AV} {sh : Shp} {I : IM} {R : RM} {x : Nat} : ev S d 186 49 [.inr (.inl x), a1, a2, a3, a4, a5, a6, a7, a8] st (sh, I, R) = ev S d 186 50 [.inr (.inl x), a1, a2, a3, a4, a5, a6, a7, a8] (.inr (.inl x) :: st) (sh, I, R) := (ev_eq f_186_49).trans rfl
theorem f_186_50 : fetch 186 50 = some (50, .iload_n 3, 1, [3], 0) := (fm_186 50).trans rfl
theorem u_186_50 {S : Scr} {d : Nat} {a0 a1 a2 a4 a5 a6 a7 a8 : AV} {st : List AV} {sh : Shp} {I : IM} {R : RM} {x : Int} : ev S d 186 50 [a0, a1, a2, .inl x, a4, a5, a6, a7, a8] st (sh, I, R) = ev S d 186 51 [a0, a1, a2, .inl x, a4, a5, a6, a7, a8] (.inl x :: st) (sh, I, R) := (ev_eq f_186_50).trans rfl
theorem f_186_51 : fetch 186 51 = some (51, .invokevirtual 203, 3, [181, 1, 159], 0) := (fm_186 51).trans rfl
theorem u_186_51 {S : Scr} {d : Nat} {a0 a1 a2 a3 a4 a5 a6 a7 a8 : AV} {st : List AV} {sh : Shp} {I : IM} {R : RM} {x0 : Int} {k : Nat} (h : tg sh k = 9) (hr : st.length ≤ 8) : ev S d 186 51 [a0, a1, a2, a3, a4, a5, a6, a7, a8] (.inl x0 :: .inr (.inl k) :: st) (sh, I, R) = bnd (cl d 181 [.inr (.inl k), .inl x0] (sh, I, R)) (fun v M => ev S d 186 54 [a0, a1, a2, a3, a4, a5, a6, a7, a8] (psh v st) M) := (ev_eq f_186_51).trans (congrArg (fin S d 186) (if_pos ⟨h, rfl, hr⟩))
theorem f_186_54 : fetch 186 54 = some (54, .istore 4, 2, [4], 0) := (fm_186 54).trans rfl
theorem u_186_54 {S : Scr} {d : Nat} {a0 a1 a2 a3 a4 a5 a6 a7 a8 : AV} {st : List AV} {sh : Shp} {I : IM} {R : RM} {x : Int} : ev S d 186 54 [a0, a1, a2, a3, a4, a5, a6, a7, a8] (.inl x :: st) (sh, I, R) = ev S d 186 56 [a0, a1, a2, a3, .inl x, a5, a6, a7, a8] st (sh, I, R) := (ev_eq f_186_54).trans rfl
theorem f_186_56 : fetch 186 56 = some (56, .iload 4, 2, [4], 0) := (fm_186 56).trans rfl
theorem u_186_56 {S : Scr} {d : Nat} {a0 a1 a2 a3 a5 a6 a7 a8 : AV} {st : List AV} {sh : Shp} {I : IM} {R : RM} {x : Int} : ev S d 186 56 [a0, a1, a2, a3, .inl x, a5, a6, a7, a8] st (sh, I, R) = ev S d 186 58 [a0, a1, a2, a3, .inl x, a5, a6, a7, a8] (.inl x :: st) (sh, I, R) := (ev_eq f_186_56).trans rfl
theorem f_186_58 : fetch 186 58 = some (58, .ifCond .ne 13, 3, [71], 0) := (fm_186 58).trans rfl
theorem u_186_58 {S : Scr} {d : Nat} {a0 a1 a2 a3 a4 a5 a6 a7 a8 : AV} {st : List AV} {sh : Shp} {I : IM} {R : RM} {x : Int} : ev S d 186 58 [a0, a1, a2, a3, a4, a5, a6, a7, a8] (.inl x :: st) (sh, I, R) = if ¬ x = 0 then ev S d 186 71 [a0, a1, a2, a3, a4, a5, a6, a7, a8] st (sh, I, R) else ev S d 186 61 [a0, a1, a2, a3, a4, a5, a6, a7, a8] st (sh, I, R) := (ev_eq f_186_58).trans fin_if_ne
theorem f_186_61 : fetch 186 61 = some (61, .aload_n 0, 1, [0], 0) := (fm_186 61).trans rfl
theorem u_186_61 {S : Scr} {d : Nat} {a1 a2 a3 a4 a5 a6 a7 a8 : AV} {st : List AV} {sh : Shp} {I : IM} {R : RM} {x : Nat} : ev S d 186 61 [.inr (.inl x), a1, a2, a3, a4, a5, a6, a7, a8] st (sh, I, R) = ev S d 186 62 [.inr (.inl x), a1, a2, a3, a4, a5, a6, a7, a8] (.inr (.inl x) :: st) (sh, I, R) := (ev_eq f_186_61).trans rfl
theorem f_186_62 : fetch 186 62 = some (62, .iconst 1, 1, [], 1) := (fm_186 62).trans rfl
theorem u_186_62 {S : Scr} {d : Nat} {a0 a1 a2 a3 a4 a5 a6 a7 a8 : AV} {st : List AV} {sh : Shp} {I : IM} {R : RM} : ev S d 186 62 [a0, a1, a2, a3, a4, a5, a6, a7, a8] st (sh, I, R) = ev S d 186 63 [a0, a1, a2, a3, a4, a5, a6, a7, a8] (.inl 1 :: st) (sh, I, R) := (ev_eq f_186_62).trans rfl
theorem f_186_63 : fetch 186 63 = some (63, .aload_n 0, 1, [0], 0) := (fm_186 63).trans rfl
theorem u_186_63 {S : Scr} {d : Nat} {a1 a2 a3 a4 a5 a6 a7 a8 : AV} {st : List AV} {sh : Shp} {I : IM} {R : RM} {x : Nat} : ev S d 186 63 [.inr (.inl x), a1, a2, a3, a4, a5, a6, a7, a8] st (sh, I, R) = ev S d 186 64 [.inr (.inl x), a1, a2, a3, a4, a5, a6, a7, a8] (.inr (.inl x) :: st) (sh, I, R) := (ev_eq f_186_63).trans rfl
theorem f_186_64 : fetch 186 64 = some (64, .getfield 176, 3, [9, 18, 0, 99], 0) := (fm_186 64).trans rfl
theorem u_186_64 {S : Scr} {d : Nat} {a0 a1 a2 a3 a4 a5 a6 a7 a8 : AV} {st : List AV} {sh : Shp} {I : IM} {R : RM} {k : Nat} (h : tg sh k = 9) : ev S d 186 64 [a0, a1, a2, a3, a4, a5, a6, a7, a8] (.inr (.inl k) :: st) (sh, I, R) = ev S d 186 67 [a0, a1, a2, a3, a4, a5, a6, a7, a8] (.inl (I k 18) :: st) (sh, I, R) := (ev_eq f_186_64).trans (congrArg (fin S d 186) (if_pos h))
theorem f_186_67 : fetch 186 67 = some (67, .invokevirtual 191, 3, [179, 2, 156], 0) := (fm_186 67).trans rfl
theorem u_186_67 {S : Scr} {d : Nat} {a0 a1 a2 a3 a4 a5 a6 a7 a8 : AV} {st : List AV} {sh : Shp} {I : IM} {R : RM} {x0 : Int} {x1 : Int} {k : Nat} (h : tg sh k = 9) (hr : st.length ≤ 8) : ev S d 186 67 [a0, a1, a2, a3, a4, a5, a6, a7, a8] (.inl x1 :: .inl x0 :: .inr (.inl k) :: st) (sh, I, R) = bnd (cl d 179 [.inr (.inl k), .inl x0, .inl x1] (sh, I, R)) (fun v M => ev S d 186 70 [a0, a1, a2, a3, a4, a5, a6, a7, a8] (psh v st) M) := (ev_eq f_186_67).trans (congrArg (fin S d 186) (if_pos ⟨h, rfl, hr⟩))
theorem f_186_70 : fetch 186 70 = some (70, .ireturn, 1, [0], 0) := (fm_186 70).trans rfl
theorem u_186_70 {S : Scr} {d : Nat} {a0 a1 a2 a3 a4 a5 a6 a7 a8 : AV} {sh : Shp} {I : IM} {R : RM} {x : Int} : ev S d 186 70 [a0, a1, a2, a3, a4, a5, a6, a7, a8] [.inl x] (sh, I, R) = some (some (.inl x), (sh, I, R)) := (ev_eq f_186_70).trans fin_iret0
theorem f_186_71 : fetch 186 71 = some (71, .iload_n 1, 1, [1], 0) := (fm_186 71).trans rfl
theorem u_186_71 {S : Scr} {d : Nat} {a0 a2 a3 a4 a5 a6 a7 a8 : AV} {st : List AV} {sh : Shp} {I : IM} {R : RM} {x : Int} : ev S d 186 71 [a0, .inl x, a2, a3, a4, a5, a6, a7, a8] st (sh, I, R) = ev S d 186 72 [a0, .inl x, a2, a3, a4, a5, a6, a7, a8] (.inl x :: st) (sh, I, R) := (ev_eq f_186_71).trans rfl
theorem f_186_72 : fetch 186 72 = some (72, .bipush 12, 2, [], 12) := (fm_186 72).trans rfl
theorem u_186_72 {S : Scr} {d : Nat} {a0 a1 a2 a3 a4 a5 a6 a7 a8 : AV} {st : List AV} {sh : Shp} {I : IM} {R : RM} : ev S d 186 72 [a0, a1, a2, a3, a4, a5, a6, a7, a8] st (sh, I, R) = ev S d 186 74 [a0, a1, a2, a3, a4, a5, a6, a7, a8] (.inl 12 :: st) (sh, I, R) := (ev_eq f_186_72).trans rfl
theorem f_186_74 : fetch 186 74 = some (74, .if_icmp .ne 13, 3, [87], 0) := (fm_186 74).trans rfl
theorem u_186_74 {S : Scr} {d : Nat} {a0 a1 a2 a3 a4 a5 a6 a7 a8 : AV} {st : List AV} {sh : Shp} {I : IM} {R : RM} {x y : Int} : ev S d 186 74 [a0, a1, a2, a3, a4, a5, a6, a7, a8] (.inl y :: .inl x :: st) (sh, I, R) = if ¬ x = y then ev S d 186 87 [a0, a1, a2, a3, a4, a5, a6, a7, a8] st (sh, I, R) else ev S d 186 77 [a0, a1, a2, a3, a4, a5, a6, a7, a8] st (sh, I, R) := (ev_eq f_186_74).trans fin_icmp_ne
theorem f_186_77 : fetch 186 77 = some (77, .aload_n 0, 1, [0], 0) := (fm_186 77).trans rfl
theorem u_186_77 {S : Scr} {d : Nat} {a1 a2 a3 a4 a5 a6 a7 a8 : AV} {st : List AV} {sh : Shp} {I : IM} {R : RM} {x : Nat} : ev S d 186 77 [.inr (.inl x), a1, a2, a3, a4, a5, a6, a7, a8] st (sh, I, R) = ev S d 186 78 [.inr (.inl x), a1, a2, a3, a4, a5, a6, a7, a8] (.inr (.inl x) :: st) (sh, I, R) := (ev_eq f_186_77).trans rfl
theorem f_186_78 : fetch 186 78 = some (78, .iconst 5, 1, [], 5) := (fm_186 78).trans rfl
theorem u_186_78 {S : Scr} {d : Nat} {a0 a1 a2 a3 a4 a5 a6 a7 a8 : AV} {st : List AV} {sh : Shp} {I : IM} {R : RM} : ev S d 186 78 [a0, a1, a2, a3, a4, a5, a6, a7, a8] st (sh, I, R) = ev S d 186 79 [a0, a1, a2, a3, a4, a5, a6, a7, a8] (.inl 5 :: st) (sh, I, R) := (ev_eq f_186_78).trans rfl
theorem f_186_79 : fetch 186 79 = some (79, .aload_n 0, 1, [0], 0) := (fm_186 79).trans rfl
theorem u_186_79 {S : Scr} {d : Nat} {a1 a2 a3 a4 a5 a6 a7 a8 : AV} {st : List AV} {sh : Shp} {I : IM} {R : RM} {x : Nat} : ev S d 186 79 [.inr (.inl x), a1, a2, a3, a4, a5, a6, a7, a8] st (sh, I, R) = ev S d 186 80 [.inr (.inl x), a1, a2, a3, a4, a5, a6, a7, a8] (.inr (.inl x) :: st) (sh, I, R) := (ev_eq f_186_79).trans rfl
theorem f_186_80 : fetch 186 80 = some (80, .getfield 176, 3, [9, 18, 0, 99], 0) := (fm_186 80).trans rfl
theorem u_186_80 {S : Scr} {d : Nat} {a0 a1 a2 a3 a4 a5 a6 a7 a8 : AV} {st : List AV} {sh : Shp} {I : IM} {R : RM} {k : Nat} (h : tg sh k = 9) : ev S d 186 80 [a0, a1, a2, a3, a4, a5, a6, a7, a8] (.inr (.inl k) :: st) (sh, I, R) = ev S d 186 83 [a0, a1, a2, a3, a4, a5, a6, a7, a8] (.inl (I k 18) :: st) (sh, I, R) := (ev_eq f_186_80).trans (congrArg (fin S d 186) (if_pos h))
theorem f_186_83 : fetch 186 83 = some (83, .invokevirtual 191, 3, [179, 2, 156], 0) := (fm_186 83).trans rfl
theorem u_186_83 {S : Scr} {d : Nat} {a0 a1 a2 a3 a4 a5 a6 a7 a8 : AV} {st : List AV} {sh : Shp} {I : IM} {R : RM} {x0 : Int} {x1 : Int} {k : Nat} (h : tg sh k = 9) (hr : st.length ≤ 8) : ev S d 186 83 [a0, a1, a2, a3, a4, a5, a6, a7, a8] (.inl x1 :: .inl x0 :: .inr (.inl k) :: st) (sh, I, R) = bnd (cl d 179 [.inr (.inl k), .inl x0, .inl x1] (sh, I, R)) (fun v M => ev S d 186 86 [a0, a1, a2, a3, a4, a5, a6, a7, a8] (psh v st) M) := (ev_eq f_186_83).trans (congrArg (fin S d 186) (if_pos ⟨h, rfl, hr⟩))
theorem f_186_86 : fetch 186 86 = some (86, .ireturn, 1, [0], 0) := (fm_186 86).trans rfl
theorem u_186_86 {S : Scr} {d : Nat} {a0 a1 a2 a3 a4 a5 a6 a7 a8 : AV} {sh : Shp} {I : IM} {R : RM} {x : Int} : ev S d 186 86 [a0, a1, a2, a3, a4, a5, a6, a7, a8] [.inl x] (sh, I, R) = some (some (.inl x), (sh, I, R)) := (ev_eq f_186_86).trans fin_iret0
theorem f_186_87 : fetch 186 87 = some (87, .aload_n 0, 1, [0], 0) := (fm_186 87).trans rfl
theorem u_186_87 {S : Scr} {d : Nat} {a1 a2 a3 a4 a5 a6 a7 a8 : AV} {st : List AV} {sh : Shp} {I : IM} {R : RM} {x : Nat} : ev S d 186 87 [.inr (.inl x), a1, a2, a3, a4, a5, a6, a7, a8] st (sh, I, R) = ev S d 186 88 [.inr (.inl x), a1, a2, a3, a4, a5, a6, a7, a8] (.inr (.inl x) :: st) (sh, I, R) := (ev_eq f_186_87).trans rfl
theorem f_186_88 : fetch 186 88 = some (88, .invokevirtual 105, 3, [137, 0, 136], 0) := (fm_186 88).trans rfl
theorem u_186_88 {S : Scr} {d : Nat} {a0 a1 a2 a3 a4 a5 a6 a7 a8 : AV} {st : List AV} {sh : Shp} {I : IM} {R : RM} {k : Nat} (h : tg sh k = 9) (hr : st.length ≤ 8) : ev S d 186 88 [a0, a1, a2, a3, a4, a5, a6, a7, a8] (.inr (.inl k) :: st) (sh, I, R) = bnd (cl d 137 [.inr (.inl k)] (sh, I, R)) (fun v M => ev S d 186 91 [a0, a1, a2, a3, a4, a5, a6, a7, a8] (psh v st) M) := (ev_eq f_186_88).trans (congrArg (fin S d 186) (if_pos ⟨h, rfl, hr⟩))
theorem f_186_91 : fetch 186 91 = some (91, .bipush 30, 2, [], 30) := (fm_186 91).trans rfl
theorem u_186_91 {S : Scr} {d : Nat} {a0 a1 a2 a3 a4 a5 a6 a7 a8 : AV} {st : List AV} {sh : Shp} {I : IM} {R : RM} : ev S d 186 91 [a0, a1, a2, a3, a4, a5, a6, a7, a8] st (sh, I, R) = ev S d 186 93 [a0, a1, a2, a3, a4, a5, a6, a7, a8] (.inl 30 :: st) (sh, I, R) := (ev_eq f_186_91).trans rfl
theorem f_186_93 : fetch 186 93 = some (93, .if_icmp .ne 13, 3, [106], 0) := (fm_186 93).trans rfl
theorem u_186_93 {S : Scr} {d : Nat} {a0 a1 a2 a3 a4 a5 a6 a7 a8 : AV} {st : List AV} {sh : Shp} {I : IM} {R : RM} {x y : Int} : ev S d 186 93 [a0, a1, a2, a3, a4, a5, a6, a7, a8] (.inl y :: .inl x :: st) (sh, I, R) = if ¬ x = y then ev S d 186 106 [a0, a1, a2, a3, a4, a5, a6, a7, a8] st (sh, I, R) else ev S d 186 96 [a0, a1, a2, a3, a4, a5, a6, a7, a8] st (sh, I, R) := (ev_eq f_186_93).trans fin_icmp_ne
theorem f_186_96 : fetch 186 96 = some (96, .aload_n 0, 1, [0], 0) := (fm_186 96).trans rfl
theorem u_186_96 {S : Scr} {d : Nat} {a1 a2 a3 a4 a5 a6 a7 a8 : AV} {st : List AV} {sh : Shp} {I : IM} {R : RM} {x : Nat} : ev S d 186 96 [.inr (.inl x), a1, a2, a3, a4, a5, a6, a7, a8] st (sh, I, R) = ev S d 186 97 [.inr (.inl x), a1, a2, a3, a4, a5, a6, a7, a8] (.inr (.inl x) :: st) (sh, I, R) := (ev_eq f_186_96).trans rfl
theorem f_186_97 : fetch 186 97 = some (97, .iconst 4, 1, [], 4) := (fm_186 97).trans rfl
theorem u_186_97 {S : Scr} {d : Nat} {a0 a1 a2 a3 a4 a5 a6 a7 a8 : AV} {st : List AV} {sh : Shp} {I : IM} {R : RM} : ev S d 186 97 [a0, a1, a2, a3, a4, a5, a6, a7, a8] st (sh, I, R) = ev S d 186 98 [a0, a1, a2, a3, a4, a5, a6, a7, a8] (.inl 4 :: st) (sh, I, R) := (ev_eq f_186_97).trans rfl
theorem f_186_98 : fetch 186 98 = some (98, .aload_n 0, 1, [0], 0) := (fm_186 98).trans rfl
theorem u_186_98 {S : Scr} {d : Nat} {a1 a2 a3 a4 a5 a6 a7 a8 : AV} {st : List AV} {sh : Shp} {I : IM} {R : RM} {x : Nat} : ev S d 186 98 [.inr (.inl x), a1, a2, a3, a4, a5, a6, a7, a8] st (sh, I, R) = ev S d 186 99 [.inr (.inl x), a1, a2, a3, a4, a5, a6, a7, a8] (.inr (.inl x) :: st) (sh, I, R) := (ev_eq f_186_98).trans rfl
theorem f_186_99 : fetch 186 99 = some (99, .getfield 176, 3, [9, 18, 0, 99], 0) := (fm_186 99).trans rfl
theorem u_186_99 {S : Scr} {d : Nat} {a0 a1 a2 a3 a4 a5 a6 a7 a8 : AV} {st : List AV} {sh : Shp} {I : IM} {R : RM} {k : Nat} (h : tg sh k = 9) : ev S d 186 99 [a0, a1, a2, a3, a4, a5, a6, a7, a8] (.inr (.inl k) :: st) (sh, I, R) = ev S d 186 102 [a0, a1, a2, a3, a4, a5, a6, a7, a8] (.inl (I k 18) :: st) (sh, I, R) := (ev_eq f_186_99).trans (congrArg (fin S d 186) (if_pos h))
theorem f_186_102 : fetch 186 102 = some (102, .invokevirtual 191, 3, [179, 2, 156], 0) := (fm_186 102).trans rfl
theorem u_186_102 {S : Scr} {d : Nat} {a0 a1 a2 a3 a4 a5 a6 a7 a8 : AV} {st : List AV} {sh : Shp} {I : IM} {R : RM} {x0 : Int} {x1 : Int} {k : Nat} (h : tg sh k = 9) (hr : st.length ≤ 8) : ev S d 186 102 [a0, a1, a2, a3, a4, a5, a6, a7, a8] (.inl x1 :: .inl x0 :: .inr (.inl k) :: st) (sh, I, R) = bnd (cl d 179 [.inr (.inl k), .inl x0, .inl x1] (sh, I, R)) (fun v M => ev S d 186 105 [a0, a1, a2, a3, a4, a5, a6, a7, a8] (psh v st) M) := (ev_eq f_186_102).trans (congrArg (fin S d 186) (if_pos ⟨h, rfl, hr⟩))
theorem f_186_105 : fetch 186 105 = some (105, .ireturn, 1, [0], 0) := (fm_186 105).trans rfl
theorem u_186_105 {S : Scr} {d : Nat} {a0 a1 a2 a3 a4 a5 a6 a7 a8 : AV} {sh : Shp} {I : IM} {R : RM} {x : Int} : ev S d 186 105 [a0, a1, a2, a3, a4, a5, a6, a7, a8] [.inl x] (sh, I, R) = some (some (.inl x), (sh, I, R)) := (ev_eq f_186_105).trans fin_iret0
theorem f_186_106 : fetch 186 106 = some (106, .aload_n 0, 1, [0], 0) := (fm_186 106).trans rfl
theorem u_186_106 {S : Scr} {d : Nat} {a1 a2 a3 a4 a5 a6 a7 a8 : AV} {st : List AV} {sh : Shp} {I : IM} {R : RM} {x : Nat} : ev S d 186 106 [.inr (.inl x), a1, a2, a3, a4, a5, a6, a7, a8] st (sh, I, R) = ev S d 186 107 [.inr (.inl x), a1, a2, a3, a4, a5, a6, a7, a8] (.inr (.inl x) :: st) (sh, I, R) := (ev_eq f_186_106).trans rfl
theorem f_186_107 : fetch 186 107 = some (107, .dup, 1, [], 0) := (fm_186 107).trans rfl
theorem u_186_107 {S : Scr} {d : Nat} {a0 a1 a2 a3 a4 a5 a6 a7 a8 : AV} {st : List AV} {sh : Shp} {I : IM} {R : RM} {x : AV} : ev S d 186 107 [a0, a1, a2, a3, a4, a5, a6, a7, a8] (x :: st) (sh, I, R) = ev S d 186 108 [a0, a1, a2, a3, a4, a5, a6, a7, a8] (x :: x :: st) (sh, I, R) := (ev_eq f_186_107).trans rfl
theorem f_186_108 : fetch 186 108 = some (108, .getfield 176, 3, [9, 18, 0, 99], 0) := (fm_186 108).trans rfl
theorem u_186_108 {S : Scr} {d : Nat} {a0 a1 a2 a3 a4 a5 a6 a7 a8 : AV} {st : List AV} {sh : Shp} {I : IM} {R : RM} {k : Nat} (h : tg sh k = 9) : ev S d 186 108 [a0, a1, a2, a3, a4, a5, a6, a7, a8] (.inr (.inl k) :: st) (sh, I, R) = ev S d 186 111 [a0, a1, a2, a3, a4, a5, a6, a7, a8] (.inl (I k 18) :: st) (sh, I, R) := (ev_eq f_186_108).trans (congrArg (fin S d 186) (if_pos h))
theorem f_186_111 : fetch 186 111 = some (111, .iconst 1, 1, [], 1) := (fm_186 111).trans rfl
theorem u_186_111 {S : Scr} {d : Nat} {a0 a1 a2 a3 a4 a5 a6 a7 a8 : AV} {st : List AV} {sh : Shp} {I : IM} {R : RM} : ev S d 186 111 [a0, a1, a2, a3, a4, a5, a6, a7, a8] st (sh, I, R) = ev S d 186 112 [a0, a1, a2, a3, a4, a5, a6, a7, a8] (.inl 1 :: st) (sh, I, R) := (ev_eq f_186_111).trans rfl
theorem f_186_112 : fetch 186 112 = some (112, .iadd, 1, [], 0) := (fm_186 112).trans rfl
theorem u_186_112 {S : Scr} {d : Nat} {a0 a1 a2 a3 a4 a5 a6 a7 a8 : AV} {st : List AV} {sh : Shp} {I : IM} {R : RM} {x y : Int} : ev S d 186 112 [a0, a1, a2, a3, a4, a5, a6, a7, a8] (.inl y :: .inl x :: st) (sh, I, R) = ev S d 186 113 [a0, a1, a2, a3, a4, a5, a6, a7, a8] (.inl (wr (x + y)) :: st) (sh, I, R) := (ev_eq f_186_112).trans rfl
theorem f_186_113 : fetch 186 113 = some (113, .putfield 176, 3, [9, 18, 0, 99], 0) := (fm_186 113).trans rfl
theorem u_186_113 {S : Scr} {d : Nat} {a0 a1 a2 a3 a4 a5 a6 a7 a8 : AV} {st : List AV} {sh : Shp} {I : IM} {R : RM} {k : Nat} {x : Int} (h : tg sh k = 9) : ev S d 186 113 [a0, a1, a2, a3, a4, a5, a6, a7, a8] (.inl x :: .inr (.inl k) :: st) (sh, I, R) = ev S d 186 116 [a0, a1, a2, a3, a4, a5, a6, a7, a8] st (sh, up I k 18 x, R) := (ev_eq f_186_113).trans (congrArg (fin S d 186) (if_pos h))
theorem f_186_116 : fetch 186 116 = some (116, .iload 4, 2, [4], 0) := (fm_186 116).trans rfl
theorem u_186_116 {S : Scr} {d : Nat} {a0 a1 a2 a3 a5 a6 a7 a8 : AV} {st : List AV} {sh : Shp} {I : IM} {R : RM} {x : Int} : ev S d 186 116 [a0, a1, a2, a3, .inl x, a5, a6, a7, a8] st (sh, I, R) = ev S d 186 118 [a0, a1, a2, a3, .inl x, a5, a6, a7, a8] (.inl x :: st) (sh, I, R) := (ev_eq f_186_116).trans rfl
theorem f_186_118 : fetch 186 118 = some (118, .iconst 4, 1, [], 4) := (fm_186 118).trans rfl
theorem u_186_118 {S : Scr} {d : Nat} {a0 a1 a2 a3 a4 a5 a6 a7 a8 : AV} {st : List AV} {sh : Shp} {I : IM} {R : RM} : ev S d 186 118 [a0, a1, a2, a3, a4, a5, a6, a7, a8] st (sh, I, R) = ev S d 186 119 [a0, a1, a2, a3, a4, a5, a6, a7, a8] (.inl 4 :: st) (sh, I, R) := (ev_eq f_186_118).trans rfl
theorem f_186_119 : fetch 186 119 = some (119, .if_icmp .ne 10, 3, [129], 0) := (fm_186 119).trans rfl
theorem u_186_119 {S : Scr} {d : Nat} {a0 a1 a2 a3 a4 a5 a6 a7 a8 : AV} {st : List AV} {sh : Shp} {I : IM} {R : RM} {x y : Int} : ev S d 186 119 [a0, a1, a2, a3, a4, a5, a6, a7, a8] (.inl y :: .inl x :: st) (sh, I, R) = if ¬ x = y then ev S d 186 129 [a0, a1, a2, a3, a4, a5, a6, a7, a8] st (sh, I, R) else ev S d 186 122 [a0, a1, a2, a3, a4, a5, a6, a7, a8] st (sh, I, R) := (ev_eq f_186_119).trans fin_icmp_ne
theorem f_186_122 : fetch 186 122 = some (122, .aload_n 0, 1, [0], 0) := (fm_186 122).trans rfl
theorem u_186_122 {S : Scr} {d : Nat} {a1 a2 a3 a4 a5 a6 a7 a8 : AV} {st : List AV} {sh : Shp} {I : IM} {R : RM} {x : Nat} : ev S d 186 122 [.inr (.inl x), a1, a2, a3, a4, a5, a6, a7, a8] st (sh, I, R) = ev S d 186 123 [.inr (.inl x), a1, a2, a3, a4, a5, a6, a7, a8] (.inr (.inl x) :: st) (sh, I, R) := (ev_eq f_186_122).trans rfl
theorem f_186_123 : fetch 186 123 = some (123, .invokevirtual 206, 3, [184, 0, 160], 0) := (fm_186 123).trans rfl
theorem u_186_123 {S : Scr} {d : Nat} {a0 a1 a2 a3 a4 a5 a6 a7 a8 : AV} {st : List AV} {sh : Shp} {I : IM} {R : RM} {k : Nat} (h : tg sh k = 9) (hr : st.length ≤ 8) : ev S d 186 123 [a0, a1, a2, a3, a4, a5, a6, a7, a8] (.inr (.inl k) :: st) (sh, I, R) = bnd (cl d 184 [.inr (.inl k)] (sh, I, R)) (fun v M => ev S d 186 126 [a0, a1, a2, a3, a4, a5, a6, a7, a8] (psh v st) M) := (ev_eq f_186_123).trans (congrArg (fin S d 186) (if_pos ⟨h, rfl, hr⟩))
theorem f_186_126 : fetch 186 126 = some (126, .goto 9, 3, [135], 0) := (fm_186 126).trans rfl
theorem u_186_126 {S : Scr} {d : Nat} {a0 a1 a2 a3 a4 a5 a6 a7 a8 : AV} {st : List AV} {sh : Shp} {I : IM} {R : RM} : ev S d 186 126 [a0, a1, a2, a3, a4, a5, a6, a7, a8] st (sh, I, R) = ev S d 186 135 [a0, a1, a2, a3, a4, a5, a6, a7, a8] st (sh, I, R) := (ev_eq f_186_126).trans rfl
theorem f_186_129 : fetch 186 129 = some (129, .aload_n 0, 1, [0], 0) := (fm_186 129).trans rfl
theorem u_186_129 {S : Scr} {d : Nat} {a1 a2 a3 a4 a5 a6 a7 a8 : AV} {st : List AV} {sh : Shp} {I : IM} {R : RM} {x : Nat} : ev S d 186 129 [.inr (.inl x), a1, a2, a3, a4, a5, a6, a7, a8] st (sh, I, R) = ev S d 186 130 [.inr (.inl x), a1, a2, a3, a4, a5, a6, a7, a8] (.inr (.inl x) :: st) (sh, I, R) := (ev_eq f_186_129).trans rfl
theorem f_186_130 : fetch 186 130 = some (130, .iload 4, 2, [4], 0) := (fm_186 130).trans rfl
theorem u_186_130 {S : Scr} {d : Nat} {a0 a1 a2 a3 a5 a6 a7 a8 : AV} {st : List AV} {sh : Shp} {I : IM} {R : RM} {x : Int} : ev S d 186 130 [a0, a1, a2, a3, .inl x, a5, a6, a7, a8] st (sh, I, R) = ev S d 186 132 [a0, a1, a2, a3, .inl x, a5, a6, a7, a8] (.inl x :: st) (sh, I, R) := (ev_eq f_186_130).trans rfl
theorem f_186_132 : fetch 186 132 = some (132, .invokevirtual 209, 3, [183, 1, 161], 0) := (fm_186 132).trans rfl
theorem u_186_132 {S : Scr} {d : Nat} {a0 a1 a2 a3 a4 a5 a6 a7 a8 : AV} {st : List AV} {sh : Shp} {I : IM} {R : RM} {x0 : Int} {k : Nat} (h : tg sh k = 9) (hr : st.length ≤ 8) : ev S d 186 132 [a0, a1, a2, a3, a4, a5, a6, a7, a8] (.inl x0 :: .inr (.inl k) :: st) (sh, I, R) = bnd (cl d 183 [.inr (.inl k), .inl x0] (sh, I, R)) (fun v M => ev S d 186 135 [a0, a1, a2, a3, a4, a5, a6, a7, a8] (psh v st) M) := (ev_eq f_186_132).trans (congrArg (fin S d 186) (if_pos ⟨h, rfl, hr⟩))
theorem f_186_135 : fetch 186 135 = some (135, .istore 5, 2, [5], 0) := (fm_186 135).trans rfl
theorem u_186_135 {S : Scr} {d : Nat} {a0 a1 a2 a3 a4 a5 a6 a7 a8 : AV} {st : List AV} {sh : Shp} {I : IM} {R : RM} {x : Int} : ev S d 186 135 [a0, a1, a2, a3, a4, a5, a6, a7, a8] (.inl x :: st) (sh, I, R) = ev S d 186 137 [a0, a1, a2, a3, a4, .inl x, a6, a7, a8] st (sh, I, R) := (ev_eq f_186_135).trans rfl
theorem f_186_137 : fetch 186 137 = some (137, .iload 5, 2, [5], 0) := (fm_186 137).trans rfl
theorem u_186_137 {S : Scr} {d : Nat} {a0 a1 a2 a3 a4 a6 a7 a8 : AV} {st : List AV} {sh : Shp} {I : IM} {R : RM} {x : Int} : ev S d 186 137 [a0, a1, a2, a3, a4, .inl x, a6, a7, a8] st (sh, I, R) = ev S d 186 139 [a0, a1, a2, a3, a4, .inl x, a6, a7, a8] (.inl x :: st) (sh, I, R) := (ev_eq f_186_137).trans rfl
theorem f_186_139 : fetch 186 139 = some (139, .bipush (-9), 2, [], (-9)) := (fm_186 139).trans rfl
theorem u_186_139 {S : Scr} {d : Nat} {a0 a1 a2 a3 a4 a5 a6 a7 a8 : AV} {st : List AV} {sh : Shp} {I : IM} {R : RM} : ev S d 186 139 [a0, a1, a2, a3, a4, a5, a6, a7, a8] st (sh, I, R) = ev S d 186 141 [a0, a1, a2, a3, a4, a5, a6, a7, a8] (.inl (-9) :: st) (sh, I, R) := (ev_eq f_186_139).trans rfl
theorem f_186_141 : fetch 186 141 = some (141, .if_icmp .ne 9, 3, [150], 0) := (fm_186 141).trans rfl
theorem u_186_141 {S : Scr} {d : Nat} {a0 a1 a2 a3 a4 a5 a6 a7 a8 : AV} {st : List AV} {sh : Shp} {I : IM} {R : RM} {x y : Int} : ev S d 186 141 [a0, a1, a2, a3, a4, a5, a6, a7, a8] (.inl y :: .inl x :: st) (sh, I, R) = if ¬ x = y then ev S d 186 150 [a0, a1, a2, a3, a4, a5, a6, a7, a8] st (sh, I, R) else ev S d 186 144 [a0, a1, a2, a3, a4, a5, a6, a7, a8] st (sh, I, R) := (ev_eq f_186_141).trans fin_icmp_ne
theorem f_186_144 : fetch 186 144 = some (144, .aload_n 0, 1, [0], 0) := (fm_186 144).trans rfl
theorem u_186_144 {S : Scr} {d : Nat} {a1 a2 a3 a4 a5 a6 a7 a8 : AV} {st : List AV} {sh : Shp} {I : IM} {R : RM} {x : Nat} : ev S d 186 144 [.inr (.inl x), a1, a2, a3, a4, a5, a6, a7, a8] st (sh, I, R) = ev S d 186 145 [.inr (.inl x), a1, a2, a3, a4, a5, a6, a7, a8] (.inr (.inl x) :: st) (sh, I, R) := (ev_eq f_186_144).trans rfl
theorem f_186_145 : fetch 186 145 = some (145, .iload_n 2, 1, [2], 0) := (fm_186 145).trans rfl
theorem u_186_145 {S : Scr} {d : Nat} {a0 a1 a3 a4 a5 a6 a7 a8 : AV} {st : List AV} {sh : Shp} {I : IM} {R : RM} {x : Int} : ev S d 186 145 [a0, a1, .inl x, a3, a4, a5, a6, a7, a8] st (sh, I, R) = ev S d 186 146 [a0, a1, .inl x, a3, a4, a5, a6, a7, a8] (.inl x :: st) (sh, I, R) := (ev_eq f_186_145).trans rfl
theorem f_186_146 : fetch 186 146 = some (146, .invokevirtual 212, 3, [180, 1, 162], 0) := (fm_186 146).trans rfl
theorem u_186_146 {S : Scr} {d : Nat} {a0 a1 a2 a3 a4 a5 a6 a7 a8 : AV} {st : List AV} {sh : Shp} {I : IM} {R : RM} {x0 : Int} {k : Nat} (h : tg sh k = 9) (hr : st.length ≤ 8) : ev S d 186 146 [a0, a1, a2, a3, a4, a5, a6, a7, a8] (.inl x0 :: .inr (.inl k) :: st) (sh, I, R) = bnd (cl d 180 [.inr (.inl k), .inl x0] (sh, I, R)) (fun v M => ev S d 186 149 [a0, a1, a2, a3, a4, a5, a6, a7, a8] (psh v st) M) := (ev_eq f_186_146).trans (congrArg (fin S d 186) (if_pos ⟨h, rfl, hr⟩))
theorem f_186_149 : fetch 186 149 = some (149, .ireturn, 1, [0], 0) := (fm_186 149).trans rfl
theorem u_186_149 {S : Scr} {d : Nat} {a0 a1 a2 a3 a4 a5 a6 a7 a8 : AV} {sh : Shp} {I : IM} {R : RM} {x : Int} : ev S d 186 149 [a0, a1, a2, a3, a4, a5, a6, a7, a8] [.inl x] (sh, I, R) = some (some (.inl x), (sh, I, R)) := (ev_eq f_186_149).trans fin_iret0
theorem f_186_150 : fetch 186 150 = some (150, .aload_n 0, 1, [0], 0) := (fm_186 150).trans rfl
theorem u_186_150 {S : Scr} {d : Nat} {a1 a2 a3 a4 a5 a6 a7 a8 : AV} {st : List AV} {sh : Shp} {I : IM} {R : RM} {x : Nat} : ev S d 186 150 [.inr (.inl x), a1, a2, a3, a4, a5, a6, a7, a8] st (sh, I, R) = ev S d 186 151 [.inr (.inl x), a1, a2, a3, a4, a5, a6, a7, a8] (.inr (.inl x) :: st) (sh, I, R) := (ev_eq f_186_150).trans rfl
theorem f_186_151 : fetch 186 151 = some (151, .getfield 46, 3, [9, 20, 1, 91], 0) := (fm_186 151).trans rfl
theorem u_186_151 {S : Scr} {d : Nat} {a0 a1 a2 a3 a4 a5 a6 a7 a8 : AV} {st : List AV} {sh : Shp} {I : IM} {R : RM} {k : Nat} (h : tg sh k = 9) : ev S d 186 151 [a0, a1, a2, a3, a4, a5, a6, a7, a8] (.inr (.inl k) :: st) (sh, I, R) = ev S d 186 154 [a0, a1, a2, a3, a4, a5, a6, a7, a8] (rv (R k 20) :: st) (sh, I, R) := (ev_eq f_186_151).trans (congrArg (fin S d 186) (if_pos h))
theorem f_186_154 : fetch 186 154 = some (154, .aload_n 0, 1, [0], 0) := (fm_186 154).trans rfl
theorem u_186_154 {S : Scr} {d : Nat} {a1 a2 a3 a4 a5 a6 a7 a8 : AV} {st : List AV} {sh : Shp} {I : IM} {R : RM} {x : Nat} : ev S d 186 154 [.inr (.inl x), a1, a2, a3, a4, a5, a6, a7, a8] st (sh, I, R) = ev S d 186 155 [.inr (.inl x), a1, a2, a3, a4, a5, a6, a7, a8] (.inr (.inl x) :: st) (sh, I, R) := (ev_eq f_186_154).trans rfl
theorem f_186_155 : fetch 186 155 = some (155, .getfield 197, 3, [9, 19, 0, 103], 0) := (fm_186 155).trans rfl
theorem u_186_155 {S : Scr} {d : Nat} {a0 a1 a2 a3 a4 a5 a6 a7 a8 : AV} {st : List AV} {sh : Shp} {I : IM} {R : RM} {k : Nat} (h : tg sh k = 9) : ev S d 186 155 [a0, a1, a2, a3, a4, a5, a6, a7, a8] (.inr (.inl k) :: st) (sh, I, R) = ev S d 186 158 [a0, a1, a2, a3, a4, a5, a6, a7, a8] (.inl (I k 19) :: st) (sh, I, R) := (ev_eq f_186_155).trans (congrArg (fin S d 186) (if_pos h))
theorem f_186_158 : fetch 186 158 = some (158, .iload 5, 2, [5], 0) := (fm_186 158).trans rfl
theorem u_186_158 {S : Scr} {d : Nat} {a0 a1 a2 a3 a4 a6 a7 a8 : AV} {st : List AV} {sh : Shp} {I : IM} {R : RM} {x : Int} : ev S d 186 158 [a0, a1, a2, a3, a4, .inl x, a6, a7, a8] st (sh, I, R) = ev S d 186 160 [a0, a1, a2, a3, a4, .inl x, a6, a7, a8] (.inl x :: st) (sh, I, R) := (ev_eq f_186_158).trans rfl
theorem f_186_160 : fetch 186 160 = some (160, .iastore, 1, [], 0) := (fm_186 160).trans rfl
theorem u_186_160 {S : Scr} {d : Nat} {a0 a1 a2 a3 a4 a5 a6 a7 a8 : AV} {st : List AV} {sh : Shp} {I : IM} {R : RM} {k : Nat} {i x : Int} (h : tg sh k = 100) (h0 : 0 ≤ i) (h1 : i < ln sh k) : ev S d 186 160 [a0, a1, a2, a3, a4, a5, a6, a7, a8] (.inl x :: .inl i :: .inr (.inl k) :: st) (sh, I, R) = ev S d 186 161 [a0, a1, a2, a3, a4, a5, a6, a7, a8] st (sh, up I k i x, R) := (ev_eq f_186_160).trans (congrArg (fin S d 186) (if_pos ⟨h, h0, h1⟩))
theorem f_186_161 : fetch 186 161 = some (161, .aload_n 0, 1, [0], 0) := (fm_186 161).trans rfl
theorem u_186_161 {S : Scr} {d : Nat} {a1 a2 a3 a4 a5 a6 a7 a8 : AV} {st : List AV} {sh : Shp} {I : IM} {R : RM} {x : Nat} : ev S d 186 161 [.inr (.inl x), a1, a2, a3, a4, a5, a6, a7, a8] st (sh, I, R) = ev S d 186 162 [.inr (.inl x), a1, a2, a3, a4, a5, a6, a7, a8] (.inr (.inl x) :: st) (sh, I, R) := (ev_eq f_186_161).trans rfl
theorem f_186_162 : fetch 186 162 = some (162, .dup, 1, [], 0) := (fm_186 162).trans rfl
theorem u_186_162 {S : Scr} {d : Nat} {a0 a1 a2 a3 a4 a5 a6 a7 a8 : AV} {st : List AV} {sh : Shp} {I : IM} {R : RM} {x : AV} : ev S d 186 162 [a0, a1, a2, a3, a4, a5, a6, a7, a8] (x :: st) (sh, I, R) = ev S d 186 163 [a0, a1, a2, a3, a4, a5, a6, a7, a8] (x :: x :: st) (sh, I, R) := (ev_eq f_186_162).trans rfl
theorem f_186_163 : fetch 186 163 = some (163, .getfield 197, 3, [9, 19, 0, 103], 0) := (fm_186 163).trans rfl
theorem u_186_163 {S : Scr} {d : Nat} {a0 a1 a2 a3 a4 a5 a6 a7 a8 : AV} {st : List AV} {sh : Shp} {I : IM} {R : RM} {k : Nat} (h : tg sh k = 9) : ev S d 186 163 [a0, a1, a2, a3, a4, a5, a6, a7, a8] (.inr (.inl k) :: st) (sh, I, R) = ev S d 186 166 [a0, a1, a2, a3, a4, a5, a6, a7, a8] (.inl (I k 19) :: st) (sh, I, R) := (ev_eq f_186_163).trans (congrArg (fin S d 186) (if_pos h))
theorem f_186_166 : fetch 186 166 = some (166, .iconst 1, 1, [], 1) := (fm_186 166).trans rfl
theorem u_186_166 {S : Scr} {d : Nat} {a0 a1 a2 a3 a4 a5 a6 a7 a8 : AV} {st : List AV} {sh : Shp} {I : IM} {R : RM} : ev S d 186 166 [a0, a1, a2, a3, a4, a5, a6, a7, a8] st (sh, I, R) = ev S d 186 167 [a0, a1, a2, a3, a4, a5, a6, a7, a8] (.inl 1 :: st) (sh, I, R) := (ev_eq f_186_166).trans rfl
theorem f_186_167 : fetch 186 167 = some (167, .iadd, 1, [], 0) := (fm_186 167).trans rfl
theorem u_186_167 {S : Scr} {d : Nat} {a0 a1 a2 a3 a4 a5 a6 a7 a8 : AV} {st : List AV} {sh : Shp} {I : IM} {R : RM} {x y : Int} : ev S d 186 167 [a0, a1, a2, a3, a4, a5, a6, a7, a8] (.inl y :: .inl x :: st) (sh, I, R) = ev S d 186 168 [a0, a1, a2, a3, a4, a5, a6, a7, a8] (.inl (wr (x + y)) :: st) (sh, I, R) := (ev_eq f_186_167).trans rfl
theorem f_186_168 : fetch 186 168 = some (168, .putfield 197, 3, [9, 19, 0, 103], 0) := (fm_186 168).trans rfl
theorem u_186_168 {S : Scr} {d : Nat} {a0 a1 a2 a3 a4 a5 a6 a7 a8 : AV} {st : List AV} {sh : Shp} {I : IM} {R : RM} {k : Nat} {x : Int} (h : tg sh k = 9) : ev S d 186 168 [a0, a1, a2, a3, a4, a5, a6, a7, a8] (.inl x :: .inr (.inl k) :: st) (sh, I, R) = ev S d 186 171 [a0, a1, a2, a3, a4, a5, a6, a7, a8] st (sh, up I k 19 x, R) := (ev_eq f_186_168).trans (congrArg (fin S d 186) (if_pos h))
theorem f_186_171 : fetch 186 171 = some (171, .iconst 0, 1, [], 0) := (fm_186 171).trans rfl
theorem u_186_171 {S : Scr} {d : Nat} {a0 a1 a2 a3 a4 a5 a6 a7 a8 : AV} {st : List AV} {sh : Shp} {I : IM} {R : RM} : ev S d 186 171 [a0, a1, a2, a3, a4, a5, a6, a7, a8] st (sh, I, R) = ev S d 186 172 [a0, a1, a2, a3, a4, a5, a6, a7, a8] (.inl 0 :: st) (sh, I, R) := (ev_eq f_186_171).trans rfl
theorem f_186_172 : fetch 186 172 = some (172, .istore 6, 2, [6], 0) := (fm_186 172).trans rfl
theorem u_186_172 {S : Scr} {d : Nat} {a0 a1 a2 a3 a4 a5 a6 a7 a8 : AV} {st : List AV} {sh : Shp} {I : IM} {R : RM} {x : Int} : ev S d 186 172 [a0, a1, a2, a3, a4, a5, a6, a7, a8] (.inl x :: st) (sh, I, R) = ev S d 186 174 [a0, a1, a2, a3, a4, a5, .inl x, a7, a8] st (sh, I, R) := (ev_eq f_186_172).trans rfl
theorem f_186_174 : fetch 186 174 = some (174, .iload 6, 2, [6], 0) := (fm_186 174).trans rfl
theorem u_186_174 {S : Scr} {d : Nat} {a0 a1 a2 a3 a4 a5 a7 a8 : AV} {st : List AV} {sh : Shp} {I : IM} {R : RM} {x : Int} : ev S d 186 174 [a0, a1, a2, a3, a4, a5, .inl x, a7, a8] st (sh, I, R) = ev S d 186 176 [a0, a1, a2, a3, a4, a5, .inl x, a7, a8] (.inl x :: st) (sh, I, R) := (ev_eq f_186_174).trans rfl
theorem f_186_176 : fetch 186 176 = some (176, .aload_n 0, 1, [0], 0) := (fm_186 176).trans rfl
theorem u_186_176 {S : Scr} {d : Nat} {a1 a2 a3 a4 a5 a6 a7 a8 : AV} {st : List AV} {sh : Shp} {I : IM} {R : RM} {x : Nat} : ev S d 186 176 [.inr (.inl x), a1, a2, a3, a4, a5, a6, a7, a8] st (sh, I, R) = ev S d 186 177 [.inr (.inl x), a1, a2, a3, a4, a5, a6, a7, a8] (.inr (.inl x) :: st) (sh, I, R) := (ev_eq f_186_176).trans rfl
theorem f_186_177 : fetch 186 177 = some (177, .getfield 9, 3, [9, 0, 1, 79], 0) := (fm_186 177).trans rfl
theorem u_186_177 {S : Scr} {d : Nat} {a0 a1 a2 a3 a4 a5 a6 a7 a8 : AV} {st : List AV} {sh : Shp} {I : IM} {R : RM} {k : Nat} (h : tg sh k = 9) : ev S d 186 177 [a0, a1, a2, a3, a4, a5, a6, a7, a8] (.inr (.inl k) :: st) (sh, I, R) = ev S d 186 180 [a0, a1, a2, a3, a4, a5, a6, a7, a8] (rv (R k 0) :: st) (sh, I, R) := (ev_eq f_186_177).trans (congrArg (fin S d 186) (if_pos h))
theorem f_186_180 : fetch 186 180 = some (180, .bipush 60, 2, [], 60) := (fm_186 180).trans rfl
theorem u_186_180 {S : Scr} {d : Nat} {a0 a1 a2 a3 a4 a5 a6 a7 a8 : AV} {st : List AV} {sh : Shp} {I : IM} {R : RM} : ev S d 186 180 [a0, a1, a2, a3, a4, a5, a6, a7, a8] st (sh, I, R) = ev S d 186 182 [a0, a1, a2, a3, a4, a5, a6, a7, a8] (.inl 60 :: st) (sh, I, R) := (ev_eq f_186_180).trans rfl
theorem f_186_182 : fetch 186 182 = some (182, .iload 5, 2, [5], 0) := (fm_186 182).trans rfl
theorem u_186_182 {S : Scr} {d : Nat} {a0 a1 a2 a3 a4 a6 a7 a8 : AV} {st : List AV} {sh : Shp} {I : IM} {R : RM} {x : Int} : ev S d 186 182 [a0, a1, a2, a3, a4, .inl x, a6, a7, a8] st (sh, I, R) = ev S d 186 184 [a0, a1, a2, a3, a4, .inl x, a6, a7, a8] (.inl x :: st) (sh, I, R) := (ev_eq f_186_182).trans rfl
theorem f_186_184 : fetch 186 184 = some (184, .iadd, 1, [], 0) := (fm_186 184).trans rfl
theorem u_186_184 {S : Scr} {d : Nat} {a0 a1 a2 a3 a4 a5 a6 a7 a8 : AV} {st : List AV} {sh : Shp} {I : IM} {R : RM} {x y : Int} : ev S d 186 184 [a0, a1, a2, a3, a4, a5, a6, a7, a8] (.inl y :: .inl x :: st) (sh, I, R) = ev S d 186 185 [a0, a1, a2, a3, a4, a5, a6, a7, a8] (.inl (wr (x + y)) :: st) (sh, I, R) := (ev_eq f_186_184).trans rfl
theorem f_186_185 : fetch 186 185 = some (185, .iaload, 1, [], 0) := (fm_186 185).trans rfl
theorem u_186_185 {S : Scr} {d : Nat} {a0 a1 a2 a3 a4 a5 a6 a7 a8 : AV} {st : List AV} {sh : Shp} {I : IM} {R : RM} {k : Nat} {i : Int} (h : tg sh k = 100) (h0 : 0 ≤ i) (h1 : i < ln sh k) : ev S d 186 185 [a0, a1, a2, a3, a4, a5, a6, a7, a8] (.inl i :: .inr (.inl k) :: st) (sh, I, R) = ev S d 186 186 [a0, a1, a2, a3, a4, a5, a6, a7, a8] (.inl (I k i) :: st) (sh, I, R) := (ev_eq f_186_185).trans (congrArg (fin S d 186) (if_pos ⟨h, h0, h1⟩))
theorem f_186_186 : fetch 186 186 = some (186, .if_icmp .ge 87, 3, [273], 0) := (fm_186 186).trans rfl
theorem u_186_186 {S : Scr} {d : Nat} {a0 a1 a2 a3 a4 a5 a6 a7 a8 : AV} {st : List AV} {sh : Shp} {I : IM} {R : RM} {x y : Int} : ev S d 186 186 [a0, a1, a2, a3, a4, a5, a6, a7, a8] (.inl y :: .inl x :: st) (sh, I, R) = if y ≤ x then ev S d 186 273 [a0, a1, a2, a3, a4, a5, a6, a7, a8] st (sh, I, R) else ev S d 186 189 [a0, a1, a2, a3, a4, a5, a6, a7, a8] st (sh, I, R) := (ev_eq f_186_186).trans fin_icmp_ge
theorem f_186_189 : fetch 186 189 = some (189, .aload_n 0, 1, [0], 0) := (fm_186 189).trans rfl
theorem u_186_189 {S : Scr} {d : Nat} {a1 a2 a3 a4 a5 a6 a7 a8 : AV} {st : List AV} {sh : Shp} {I : IM} {R : RM} {x : Nat} : ev S d 186 189 [.inr (.inl x), a1, a2, a3, a4, a5, a6, a7, a8] st (sh, I, R) = ev S d 186 190 [.inr (.inl x), a1, a2, a3, a4, a5, a6, a7, a8] (.inr (.inl x) :: st) (sh, I, R) := (ev_eq f_186_189).trans rfl
theorem f_186_190 : fetch 186 190 = some (190, .getfield 176, 3, [9, 18, 0, 99], 0) := (fm_186 190).trans rfl
theorem u_186_190 {S : Scr} {d : Nat} {a0 a1 a2 a3 a4 a5 a6 a7 a8 : AV} {st : List AV} {sh : Shp} {I : IM} {R : RM} {k : Nat} (h : tg sh k = 9) : ev S d 186 190 [a0, a1, a2, a3, a4, a5, a6, a7, a8] (.inr (.inl k) :: st) (sh, I, R) = ev S d 186 193 [a0, a1, a2, a3, a4, a5, a6, a7, a8] (.inl (I k 18) :: st) (sh, I, R) := (ev_eq f_186_190).trans (congrArg (fin S d 186) (if_pos h))
theorem f_186_193 : fetch 186 193 = some (193, .istore 7, 2, [7], 0) := (fm_186 193).trans rfl
theorem u_186_193 {S : Scr} {d : Nat} {a0 a1 a2 a3 a4 a5 a6 a7 a8 : AV} {st : List AV} {sh : Shp} {I : IM} {R : RM} {x : Int} : ev S d 186 193 [a0, a1, a2, a3, a4, a5, a6, a7, a8] (.inl x :: st) (sh, I, R) = ev S d 186 195 [a0, a1, a2, a3, a4, a5, a6, .inl x, a8] st (sh, I, R) := (ev_eq f_186_193).trans rfl
theorem f_186_195 : fetch 186 195 = some (195, .aload_n 0, 1, [0], 0) := (fm_186 195).trans rfl
theorem u_186_195 {S : Scr} {d : Nat} {a1 a2 a3 a4 a5 a6 a7 a8 : AV} {st : List AV} {sh : Shp} {I : IM} {R : RM} {x : Nat} : ev S d 186 195 [.inr (.inl x), a1, a2, a3, a4, a5, a6, a7, a8] st (sh, I, R) = ev S d 186 196 [.inr (.inl x), a1, a2, a3, a4, a5, a6, a7, a8] (.inr (.inl x) :: st) (sh, I, R) := (ev_eq f_186_195).trans rfl
theorem f_186_196 : fetch 186 196 = some (196, .iload_n 1, 1, [1], 0) := (fm_186 196).trans rfl
theorem u_186_196 {S : Scr} {d : Nat} {a0 a2 a3 a4 a5 a6 a7 a8 : AV} {st : List AV} {sh : Shp} {I : IM} {R : RM} {x : Int} : ev S d 186 196 [a0, .inl x, a2, a3, a4, a5, a6, a7, a8] st (sh, I, R) = ev S d 186 197 [a0, .inl x, a2, a3, a4, a5, a6, a7, a8] (.inl x :: st) (sh, I, R) := (ev_eq f_186_196).trans rfl
theorem f_186_197 : fetch 186 197 = some (197, .iconst 1, 1, [], 1) := (fm_186 197).trans rfl
theorem u_186_197 {S : Scr} {d : Nat} {a0 a1 a2 a3 a4 a5 a6 a7 a8 : AV} {st : List AV} {sh : Shp} {I : IM} {R : RM} : ev S d 186 197 [a0, a1, a2, a3, a4, a5, a6, a7, a8] st (sh, I, R) = ev S d 186 198 [a0, a1, a2, a3, a4, a5, a6, a7, a8] (.inl 1 :: st) (sh, I, R) := (ev_eq f_186_197).trans rfl
theorem f_186_198 : fetch 186 198 = some (198, .iadd, 1, [], 0) := (fm_186 198).trans rfl
theorem u_186_198 {S : Scr} {d : Nat} {a0 a1 a2 a3 a4 a5 a6 a7 a8 : AV} {st : List AV} {sh : Shp} {I : IM} {R : RM} {x y : Int} : ev S d 186 198 [a0, a1, a2, a3, a4, a5, a6, a7, a8] (.inl y :: .inl x :: st) (sh, I, R) = ev S d 186 199 [a0, a1, a2, a3, a4, a5, a6, a7, a8] (.inl (wr (x + y)) :: st) (sh, I, R) := (ev_eq f_186_198).trans rfl
theorem f_186_199 : fetch 186 199 = some (199, .invokevirtual 215, 3, [186, 1, 163], 0) := (fm_186 199).trans rfl
theorem u_186_199 {S : Scr} {d : Nat} {a0 a1 a2 a3 a4 a5 a6 a7 a8 : AV} {st : List AV} {sh : Shp} {I : IM} {R : RM} {x0 : Int} {k : Nat} (h : tg sh k = 9) (hr : st.length ≤ 8) : ev S d 186 199 [a0, a1, a2, a3, a4, a5, a6, a7, a8] (.inl x0 :: .inr (.inl k) :: st) (sh, I, R) = bnd (cl d 186 [.inr (.inl k), .inl x0] (sh, I, R)) (fun v M => ev S d 186 202 [a0, a1, a2, a3, a4, a5, a6, a7, a8] (psh v st) M) := (ev_eq f_186_199).trans (congrArg (fin S d 186) (if_pos ⟨h, rfl, hr⟩))
theorem f_186_202 : fetch 186 202 = some (202, .istore 8, 2, [8], 0) := (fm_186 202).trans rfl
theorem u_186_202 {S : Scr} {d : Nat} {a0 a1 a2 a3 a4 a5 a6 a7 a8 : AV} {st : List AV} {sh : Shp} {I : IM} {R : RM} {x : Int} : ev S d 186 202 [a0, a1, a2, a3, a4, a5, a6, a7, a8] (.inl x :: st) (sh, I, R) = ev S d 186 204 [a0, a1, a2, a3, a4, a5, a6, a7, .inl x] st (sh, I, R) := (ev_eq f_186_202).trans rfl
theorem f_186_204 : fetch 186 204 = some (204, .iload 8, 2, [8], 0) := (fm_186 204).trans rfl
theorem u_186_204 {S : Scr} {d : Nat} {a0 a1 a2 a3 a4 a5 a6 a7 : AV} {st : List AV} {sh : Shp} {I : IM} {R : RM} {x : Int} : ev S d 186 204 [a0, a1, a2, a3, a4, a5, a6, a7, .inl x] st (sh, I, R) = ev S d 186 206 [a0, a1, a2, a3, a4, a5, a6, a7, .inl x] (.inl x :: st) (sh, I, R) := (ev_eq f_186_204).trans rfl
theorem f_186_206 : fetch 186 206 = some (206, .ifCond .lt 29, 3, [235], 0) := (fm_186 206).trans rfl
theorem u_186_206 {S : Scr} {d : Nat} {a0 a1 a2 a3 a4 a5 a6 a7 a8 : AV} {st : List AV} {sh : Shp} {I : IM} {R : RM} {x : Int} : ev S d 186 206 [a0, a1, a2, a3, a4, a5, a6, a7, a8] (.inl x :: st) (sh, I, R) = if x < 0 then ev S d 186 235 [a0, a1, a2, a3, a4, a5, a6, a7, a8] st (sh, I, R) else ev S d 186 209 [a0, a1, a2, a3, a4, a5, a6, a7, a8] st (sh, I, R) := (ev_eq f_186_206).trans fin_if_lt
theorem f_186_209 : fetch 186 209 = some (209, .iload 4, 2, [4], 0) := (fm_186 209).trans rfl
theorem u_186_209 {S : Scr} {d : Nat} {a0 a1 a2 a3 a5 a6 a7 a8 : AV} {st : List AV} {sh : Shp} {I : IM} {R : RM} {x : Int} : ev S d 186 209 [a0, a1, a2, a3, .inl x, a5, a6, a7, a8] st (sh, I, R) = ev S d 186 211 [a0, a1, a2, a3, .inl x, a5, a6, a7, a8] (.inl x :: st) (sh, I, R) := (ev_eq f_186_209).trans rfl
theorem f_186_211 : fetch 186 211 = some (211, .iconst 4, 1, [], 4) := (fm_186 211).trans rfl
theorem u_186_211 {S : Scr} {d : Nat} {a0 a1 a2 a3 a4 a5 a6 a7 a8 : AV} {st : List AV} {sh : Shp} {I : IM} {R : RM} : ev S d 186 211 [a0, a1, a2, a3, a4, a5, a6, a7, a8] st (sh, I, R) = ev S d 186 212 [a0, a1, a2, a3, a4, a5, a6, a7, a8] (.inl 4 :: st) (sh, I, R) := (ev_eq f_186_211).trans rfl
theorem f_186_212 : fetch 186 212 = some (212, .if_icmp .ne 23, 3, [235], 0) := (fm_186 212).trans rfl
theorem u_186_212 {S : Scr} {d : Nat} {a0 a1 a2 a3 a4 a5 a6 a7 a8 : AV} {st : List AV} {sh : Shp} {I : IM} {R : RM} {x y : Int} : ev S d 186 212 [a0, a1, a2, a3, a4, a5, a6, a7, a8] (.inl y :: .inl x :: st) (sh, I, R) = if ¬ x = y then ev S d 186 235 [a0, a1, a2, a3, a4, a5, a6, a7, a8] st (sh, I, R) else ev S d 186 215 [a0, a1, a2, a3, a4, a5, a6, a7, a8] st (sh, I, R) := (ev_eq f_186_212).trans fin_icmp_ne
theorem f_186_215 : fetch 186 215 = some (215, .aload_n 0, 1, [0], 0) := (fm_186 215).trans rfl
theorem u_186_215 {S : Scr} {d : Nat} {a1 a2 a3 a4 a5 a6 a7 a8 : AV} {st : List AV} {sh : Shp} {I : IM} {R : RM} {x : Nat} : ev S d 186 215 [.inr (.inl x), a1, a2, a3, a4, a5, a6, a7, a8] st (sh, I, R) = ev S d 186 216 [.inr (.inl x), a1, a2, a3, a4, a5, a6, a7, a8] (.inr (.inl x) :: st) (sh, I, R) := (ev_eq f_186_215).trans rfl
theorem f_186_216 : fetch 186 216 = some (216, .iload 5, 2, [5], 0) := (fm_186 216).trans rfl
theorem u_186_216 {S : Scr} {d : Nat} {a0 a1 a2 a3 a4 a6 a7 a8 : AV} {st : List AV} {sh : Shp} {I : IM} {R : RM} {x : Int} : ev S d 186 216 [a0, a1, a2, a3, a4, .inl x, a6, a7, a8] st (sh, I, R) = ev S d 186 218 [a0, a1, a2, a3, a4, .inl x, a6, a7, a8] (.inl x :: st) (sh, I, R) := (ev_eq f_186_216).trans rfl
theorem f_186_218 : fetch 186 218 = some (218, .iload 8, 2, [8], 0) := (fm_186 218).trans rfl
theorem u_186_218 {S : Scr} {d : Nat} {a0 a1 a2 a3 a4 a5 a6 a7 : AV} {st : List AV} {sh : Shp} {I : IM} {R : RM} {x : Int} : ev S d 186 218 [a0, a1, a2, a3, a4, a5, a6, a7, .inl x] st (sh, I, R) = ev S d 186 220 [a0, a1, a2, a3, a4, a5, a6, a7, .inl x] (.inl x :: st) (sh, I, R) := (ev_eq f_186_218).trans rfl
theorem f_186_220 : fetch 186 220 = some (220, .invokevirtual 125, 3, [146, 2, 142], 0) := (fm_186 220).trans rfl
theorem u_186_220 {S : Scr} {d : Nat} {a0 a1 a2 a3 a4 a5 a6 a7 a8 : AV} {st : List AV} {sh : Shp} {I : IM} {R : RM} {x0 : Int} {x1 : Int} {k : Nat} (h : tg sh k = 9) (hr : st.length ≤ 8) : ev S d 186 220 [a0, a1, a2, a3, a4, a5, a6, a7, a8] (.inl x1 :: .inl x0 :: .inr (.inl k) :: st) (sh, I, R) = bnd (cl d 146 [.inr (.inl k), .inl x0, .inl x1] (sh, I, R)) (fun v M => ev S d 186 223 [a0, a1, a2, a3, a4, a5, a6, a7, a8] (psh v st) M) := (ev_eq f_186_220).trans (congrArg (fin S d 186) (if_pos ⟨h, rfl, hr⟩))
theorem f_186_223 : fetch 186 223 = some (223, .ifCond .ne 12, 3, [235], 0) := (fm_186 223).trans rfl
theorem u_186_223 {S : Scr} {d : Nat} {a0 a1 a2 a3 a4 a5 a6 a7 a8 : AV} {st : List AV} {sh : Shp} {I : IM} {R : RM} {x : Int} : ev S d 186 223 [a0, a1, a2, a3, a4, a5, a6, a7, a8] (.inl x :: st) (sh, I, R) = if ¬ x = 0 then ev S d 186 235 [a0, a1, a2, a3, a4, a5, a6, a7, a8] st (sh, I, R) else ev S d 186 226 [a0, a1, a2, a3, a4, a5, a6, a7, a8] st (sh, I, R) := (ev_eq f_186_223).trans fin_if_ne
theorem f_186_226 : fetch 186 226 = some (226, .aload_n 0, 1, [0], 0) := (fm_186 226).trans rfl
theorem u_186_226 {S : Scr} {d : Nat} {a1 a2 a3 a4 a5 a6 a7 a8 : AV} {st : List AV} {sh : Shp} {I : IM} {R : RM} {x : Nat} : ev S d 186 226 [.inr (.inl x), a1, a2, a3, a4, a5, a6, a7, a8] st (sh, I, R) = ev S d 186 227 [.inr (.inl x), a1, a2, a3, a4, a5, a6, a7, a8] (.inr (.inl x) :: st) (sh, I, R) := (ev_eq f_186_226).trans rfl
theorem f_186_227 : fetch 186 227 = some (227, .iconst 3, 1, [], 3) := (fm_186 227).trans rfl
theorem u_186_227 {S : Scr} {d : Nat} {a0 a1 a2 a3 a4 a5 a6 a7 a8 : AV} {st : List AV} {sh : Shp} {I : IM} {R : RM} : ev S d 186 227 [a0, a1, a2, a3, a4, a5, a6, a7, a8] st (sh, I, R) = ev S d 186 228 [a0, a1, a2, a3, a4, a5, a6, a7, a8] (.inl 3 :: st) (sh, I, R) := (ev_eq f_186_227).trans rfl
theorem f_186_228 : fetch 186 228 = some (228, .iload 7, 2, [7], 0) := (fm_186 228).trans rfl
theorem u_186_228 {S : Scr} {d : Nat} {a0 a1 a2 a3 a4 a5 a6 a8 : AV} {st : List AV} {sh : Shp} {I : IM} {R : RM} {x : Int} : ev S d 186 228 [a0, a1, a2, a3, a4, a5, a6, .inl x, a8] st (sh, I, R) = ev S d 186 230 [a0, a1, a2, a3, a4, a5, a6, .inl x, a8] (.inl x :: st) (sh, I, R) := (ev_eq f_186_228).trans rfl
theorem f_186_230 : fetch 186 230 = some (230, .invokevirtual 191, 3, [179, 2, 156], 0) := (fm_186 230).trans rfl
theorem u_186_230 {S : Scr} {d : Nat} {a0 a1 a2 a3 a4 a5 a6 a7 a8 : AV} {st : List AV} {sh : Shp} {I : IM} {R : RM} {x0 : Int} {x1 : Int} {k : Nat} (h : tg sh k = 9) (hr : st.length ≤ 8) : ev S d 186 230 [a0, a1, a2, a3, a4, a5, a6, a7, a8] (.inl x1 :: .inl x0 :: .inr (.inl k) :: st) (sh, I, R) = bnd (cl d 179 [.inr (.inl k), .inl x0, .inl x1] (sh, I, R)) (fun v M => ev S d 186 233 [a0, a1, a2, a3, a4, a5, a6, a7, a8] (psh v st) M) := (ev_eq f_186_230).trans (congrArg (fin S d 186) (if_pos ⟨h, rfl, hr⟩))
theorem f_186_233 : fetch 186 233 = some (233, .istore 8, 2, [8], 0) := (fm_186 233).trans rfl
theorem u_186_233 {S : Scr} {d : Nat} {a0 a1 a2 a3 a4 a5 a6 a7 a8 : AV} {st : List AV} {sh : Shp} {I : IM} {R : RM} {x : Int} : ev S d 186 233 [a0, a1, a2, a3, a4, a5, a6, a7, a8] (.inl x :: st) (sh, I, R) = ev S d 186 235 [a0, a1, a2, a3, a4, a5, a6, a7, .inl x] st (sh, I, R) := (ev_eq f_186_233).trans rfl
theorem f_186_235 : fetch 186 235 = some (235, .iload 8, 2, [8], 0) := (fm_186 235).trans rfl
theorem u_186_235 {S : Scr} {d : Nat} {a0 a1 a2 a3 a4 a5 a6 a7 : AV} {st : List AV} {sh : Shp} {I : IM} {R : RM} {x : Int} : ev S d 186 235 [a0, a1, a2, a3, a4, a5, a6, a7, .inl x] st (sh, I, R) = ev S d 186 237 [a0, a1, a2, a3, a4, a5, a6, a7, .inl x] (.inl x :: st) (sh, I, R) := (ev_eq f_186_235).trans rfl
theorem f_186_237 : fetch 186 237 = some (237, .bipush (-9), 2, [], (-9)) := (fm_186 237).trans rfl
theorem u_186_237 {S : Scr} {d : Nat} {a0 a1 a2 a3 a4 a5 a6 a7 a8 : AV} {st : List AV} {sh : Shp} {I : IM} {R : RM} : ev S d 186 237 [a0, a1, a2, a3, a4, a5, a6, a7, a8] st (sh, I, R) = ev S d 186 239 [a0, a1, a2, a3, a4, a5, a6, a7, a8] (.inl (-9) :: st) (sh, I, R) := (ev_eq f_186_237).trans rfl
theorem f_186_239 : fetch 186 239 = some (239, .if_icmp .ne 9, 3, [248], 0) := (fm_186 239).trans rfl
theorem u_186_239 {S : Scr} {d : Nat} {a0 a1 a2 a3 a4 a5 a6 a7 a8 : AV} {st : List AV} {sh : Shp} {I : IM} {R : RM} {x y : Int} : ev S d 186 239 [a0, a1, a2, a3, a4, a5, a6, a7, a8] (.inl y :: .inl x :: st) (sh, I, R) = if ¬ x = y then ev S d 186 248 [a0, a1, a2, a3, a4, a5, a6, a7, a8] st (sh, I, R) else ev S d 186 242 [a0, a1, a2, a3, a4, a5, a6, a7, a8] st (sh, I, R) := (ev_eq f_186_239).trans fin_icmp_ne
theorem f_186_242 : fetch 186 242 = some (242, .aload_n 0, 1, [0], 0) := (fm_186 242).trans rfl
theorem u_186_242 {S : Scr} {d : Nat} {a1 a2 a3 a4 a5 a6 a7 a8 : AV} {st : List AV} {sh : Shp} {I : IM} {R : RM} {x : Nat} : ev S d 186 242 [.inr (.inl x), a1, a2, a3, a4, a5, a6, a7, a8] st (sh, I, R) = ev S d 186 243 [.inr (.inl x), a1, a2, a3, a4, a5, a6, a7, a8] (.inr (.inl x) :: st) (sh, I, R) := (ev_eq f_186_242).trans rfl
theorem f_186_243 : fetch 186 243 = some (243, .iload_n 2, 1, [2], 0) := (fm_186 243).trans rfl
theorem u_186_243 {S : Scr} {d : Nat} {a0 a1 a3 a4 a5 a6 a7 a8 : AV} {st : List AV} {sh : Shp} {I : IM} {R : RM} {x : Int} : ev S d 186 243 [a0, a1, .inl x, a3, a4, a5, a6, a7, a8] st (sh, I, R) = ev S d 186 244 [a0, a1, .inl x, a3, a4, a5, a6, a7, a8] (.inl x :: st) (sh, I, R) := (ev_eq f_186_243).trans rfl
theorem f_186_244 : fetch 186 244 = some (244, .invokevirtual 212, 3, [180, 1, 162], 0) := (fm_186 244).trans rfl
theorem u_186_244 {S : Scr} {d : Nat} {a0 a1 a2 a3 a4 a5 a6 a7 a8 : AV} {st : List AV} {sh : Shp} {I : IM} {R : RM} {x0 : Int} {k : Nat} (h : tg sh k = 9) (hr : st.length ≤ 8) : ev S d 186 244 [a0, a1, a2, a3, a4, a5, a6, a7, a8] (.inl x0 :: .inr (.inl k) :: st) (sh, I, R) = bnd (cl d 180 [.inr (.inl k), .inl x0] (sh, I, R)) (fun v M => ev S d 186 247 [a0, a1, a2, a3, a4, a5, a6, a7, a8] (psh v st) M) := (ev_eq f_186_244).trans (congrArg (fin S d 186) (if_pos ⟨h, rfl, hr⟩))
theorem f_186_247 : fetch 186 247 = some (247, .ireturn, 1, [0], 0) := (fm_186 247).trans rfl
theorem u_186_247 {S : Scr} {d : Nat} {a0 a1 a2 a3 a4 a5 a6 a7 a8 : AV} {sh : Shp} {I : IM} {R : RM} {x : Int} : ev S d 186 247 [a0, a1, a2, a3, a4, a5, a6, a7, a8] [.inl x] (sh, I, R) = some (some (.inl x), (sh, I, R)) := (ev_eq f_186_247).trans fin_iret0
theorem f_186_248 : fetch 186 248 = some (248, .aload_n 0, 1, [0], 0) := (fm_186 248).trans rfl
theorem u_186_248 {S : Scr} {d : Nat} {a1 a2 a3 a4 a5 a6 a7 a8 : AV} {st : List AV} {sh : Shp} {I : IM} {R : RM} {x : Nat} : ev S d 186 248 [.inr (.inl x), a1, a2, a3, a4, a5, a6, a7, a8] st (sh, I, R) = ev S d 186 249 [.inr (.inl x), a1, a2, a3, a4, a5, a6, a7, a8] (.inr (.inl x) :: st) (sh, I, R) := (ev_eq f_186_248).trans rfl
theorem f_186_249 : fetch 186 249 = some (249, .getfield 9, 3, [9, 0, 1, 79], 0) := (fm_186 249).trans rfl
theorem u_186_249 {S : Scr} {d : Nat} {a0 a1 a2 a3 a4 a5 a6 a7 a8 : AV} {st : List AV} {sh : Shp} {I : IM} {R : RM} {k : Nat} (h : tg sh k = 9) : ev S d 186 249 [a0, a1, a2, a3, a4, a5, a6, a7, a8] (.inr (.inl k) :: st) (sh, I, R) = ev S d 186 252 [a0, a1, a2, a3, a4, a5, a6, a7, a8] (rv (R k 0) :: st) (sh, I, R) := (ev_eq f_186_249).trans (congrArg (fin S d 186) (if_pos h))
theorem f_186_252 : fetch 186 252 = some (252, .sipush 480, 3, [], 480) := (fm_186 252).trans rfl
theorem u_186_252 {S : Scr} {d : Nat} {a0 a1 a2 a3 a4 a5 a6 a7 a8 : AV} {st : List AV} {sh : Shp} {I : IM} {R : RM} : ev S d 186 252 [a0, a1, a2, a3, a4, a5, a6, a7, a8] st (sh, I, R) = ev S d 186 255 [a0, a1, a2, a3, a4, a5, a6, a7, a8] (.inl 480 :: st) (sh, I, R) := (ev_eq f_186_252).trans rfl
theorem f_186_255 : fetch 186 255 = some (255, .bipush 6, 2, [], 6) := (fm_186 255).trans rfl
theorem u_186_255 {S : Scr} {d : Nat} {a0 a1 a2 a3 a4 a5 a6 a7 a8 : AV} {st : List AV} {sh : Shp} {I : IM} {R : RM} : ev S d 186 255 [a0, a1, a2, a3, a4, a5, a6, a7, a8] st (sh, I, R) = ev S d 186 257 [a0, a1, a2, a3, a4, a5, a6, a7, a8] (.inl 6 :: st) (sh, I, R) := (ev_eq f_186_255).trans rfl
theorem f_186_257 : fetch 186 257 = some (257, .iload 5, 2, [5], 0) := (fm_186 257).trans rfl
theorem u_186_257 {S : Scr} {d : Nat} {a0 a1 a2 a3 a4 a6 a7 a8 : AV} {st : List AV} {sh : Shp} {I : IM} {R : RM} {x : Int} : ev S d 186 257 [a0, a1, a2, a3, a4, .inl x, a6, a7, a8] st (sh, I, R) = ev S d 186 259 [a0, a1, a2, a3, a4, .inl x, a6, a7, a8] (.inl x :: st) (sh, I, R) := (ev_eq f_186_257).trans rfl
theorem f_186_259 : fetch 186 259 = some (259, .imul, 1, [], 0) := (fm_186 259).trans rfl
theorem u_186_259 {S : Scr} {d : Nat} {a0 a1 a2 a3 a4 a5 a6 a7 a8 : AV} {st : List AV} {sh : Shp} {I : IM} {R : RM} {x y : Int} : ev S d 186 259 [a0, a1, a2, a3, a4, a5, a6, a7, a8] (.inl y :: .inl x :: st) (sh, I, R) = ev S d 186 260 [a0, a1, a2, a3, a4, a5, a6, a7, a8] (.inl (wr (x * y)) :: st) (sh, I, R) := (ev_eq f_186_259).trans rfl
theorem f_186_260 : fetch 186 260 = some (260, .iadd, 1, [], 0) := (fm_186 260).trans rfl
theorem u_186_260 {S : Scr} {d : Nat} {a0 a1 a2 a3 a4 a5 a6 a7 a8 : AV} {st : List AV} {sh : Shp} {I : IM} {R : RM} {x y : Int} : ev S d 186 260 [a0, a1, a2, a3, a4, a5, a6, a7, a8] (.inl y :: .inl x :: st) (sh, I, R) = ev S d 186 261 [a0, a1, a2, a3, a4, a5, a6, a7, a8] (.inl (wr (x + y)) :: st) (sh, I, R) := (ev_eq f_186_260).trans rfl
theorem f_186_261 : fetch 186 261 = some (261, .iload 6, 2, [6], 0) := (fm_186 261).trans rfl
theorem u_186_261 {S : Scr} {d : Nat} {a0 a1 a2 a3 a4 a5 a7 a8 : AV} {st : List AV} {sh : Shp} {I : IM} {R : RM} {x : Int} : ev S d 186 261 [a0, a1, a2, a3, a4, a5, .inl x, a7, a8] st (sh, I, R) = ev S d 186 263 [a0, a1, a2, a3, a4, a5, .inl x, a7, a8] (.inl x :: st) (sh, I, R) := (ev_eq f_186_261).trans rfl
theorem f_186_263 : fetch 186 263 = some (263, .iadd, 1, [], 0) := (fm_186 263).trans rfl
theorem u_186_263 {S : Scr} {d : Nat} {a0 a1 a2 a3 a4 a5 a6 a7 a8 : AV} {st : List AV} {sh : Shp} {I : IM} {R : RM} {x y : Int} : ev S d 186 263 [a0, a1, a2, a3, a4, a5, a6, a7, a8] (.inl y :: .inl x :: st) (sh, I, R) = ev S d 186 264 [a0, a1, a2, a3, a4, a5, a6, a7, a8] (.inl (wr (x + y)) :: st) (sh, I, R) := (ev_eq f_186_263).trans rfl
theorem f_186_264 : fetch 186 264 = some (264, .iload 8, 2, [8], 0) := (fm_186 264).trans rfl
theorem u_186_264 {S : Scr} {d : Nat} {a0 a1 a2 a3 a4 a5 a6 a7 : AV} {st : List AV} {sh : Shp} {I : IM} {R : RM} {x : Int} : ev S d 186 264 [a0, a1, a2, a3, a4, a5, a6, a7, .inl x] st (sh, I, R) = ev S d 186 266 [a0, a1, a2, a3, a4, a5, a6, a7, .inl x] (.inl x :: st) (sh, I, R) := (ev_eq f_186_264).trans rfl
theorem f_186_266 : fetch 186 266 = some (266, .iastore, 1, [], 0) := (fm_186 266).trans rfl
theorem u_186_266 {S : Scr} {d : Nat} {a0 a1 a2 a3 a4 a5 a6 a7 a8 : AV} {st : List AV} {sh : Shp} {I : IM} {R : RM} {k : Nat} {i x : Int} (h : tg sh k = 100) (h0 : 0 ≤ i) (h1 : i < ln sh k) : ev S d 186 266 [a0, a1, a2, a3, a4, a5, a6, a7, a8] (.inl x :: .inl i :: .inr (.inl k) :: st) (sh, I, R) = ev S d 186 267 [a0, a1, a2, a3, a4, a5, a6, a7, a8] st (sh, up I k i x, R) := (ev_eq f_186_266).trans (congrArg (fin S d 186) (if_pos ⟨h, h0, h1⟩))
theorem f_186_267 : fetch 186 267 = some (267, .iinc 6 1, 3, [6], 1) := (fm_186 267).trans rfl
theorem u_186_267 {S : Scr} {d : Nat} {a0 a1 a2 a3 a4 a5 a7 a8 : AV} {st : List AV} {sh : Shp} {I : IM} {R : RM} {x : Int} : ev S d 186 267 [a0, a1, a2, a3, a4, a5, .inl x, a7, a8] st (sh, I, R) = ev S d 186 270 [a0, a1, a2, a3, a4, a5, .inl (wr (x + 1)), a7, a8] st (sh, I, R) := (ev_eq f_186_267).trans rfl
theorem f_186_270 : fetch 186 270 = some (270, .goto (-96), 3, [174], 0) := (fm_186 270).trans rfl
theorem u_186_270 {S : Scr} {d : Nat} {a0 a1 a2 a3 a4 a5 a6 a7 a8 : AV} {st : List AV} {sh : Shp} {I : IM} {R : RM} : ev S d 186 270 [a0, a1, a2, a3, a4, a5, a6, a7, a8] st (sh, I, R) = ev S d 186 174 [a0, a1, a2, a3, a4, a5, a6, a7, a8] st (sh, I, R) := (ev_eq f_186_270).trans rfl
theorem f_186_273 : fetch 186 273 = some (273, .iload 5, 2, [5], 0) := (fm_186 273).trans rfl
theorem u_186_273 {S : Scr} {d : Nat} {a0 a1 a2 a3 a4 a6 a7 a8 : AV} {st : List AV} {sh : Shp} {I : IM} {R : RM} {x : Int} : ev S d 186 273 [a0, a1, a2, a3, a4, .inl x, a6, a7, a8] st (sh, I, R) = ev S d 186 275 [a0, a1, a2, a3, a4, .inl x, a6, a7, a8] (.inl x :: st) (sh, I, R) := (ev_eq f_186_273).trans rfl
theorem f_186_275 : fetch 186 275 = some (275, .ireturn, 1, [0], 0) := (fm_186 275).trans rfl
theorem u_186_275 {S : Scr} {d : Nat} {a0 a1 a2 a3 a4 a5 a6 a7 a8 : AV} {sh : Shp} {I : IM} {R : RM} {x : Int} : ev S d 186 275 [a0, a1, a2, a3, a4, a5, a6, a7, a8] [.inl x] (sh, I, R) = some (some (.inl x), (sh, I, R)) := (ev_eq f_186_275).trans fin_iret0
theorem c_187 {d : Nat} {a0 a1 : AV} {M : Mem} : cl (d + 1) 187 [a0, a1] M = ev S0 d 187 0 [a0, a1, .inr (.inr 1)] [] M := (cl_eq (as := [a0, a1]) (show 2 ≤ maxOf 187 by decide +kernel)).trans rfl
theorem mt_187 : MT[187]? = some m_187 := rfl
theorem fm_187 (pc : Nat) : fetch 187 pc = lk m_187.2.2.2.2.2 pc := by
  unfold fetch
  rw [mt_187]
theorem f_187_0 : fetch 187 0 = some (0, .iload_n 1, 1, [1], 0) := (fm_187 0).trans rfl
theorem u_187_0 {S : Scr} {d : Nat} {a0 a2 : AV} {st : List AV} {sh : Shp} {I : IM} {R : RM} {x : Int} : ev S d 187 0 [a0, .inl x, a2] st (sh, I, R) = ev S d 187 1 [a0, .inl x, a2] (.inl x :: st) (sh, I, R) := (ev_eq f_187_0).trans rfl
theorem f_187_1 : fetch 187 1 = some (1, .invokestatic 153, 3, [169, 1, 150], 0) := (fm_187 1).trans rfl
theorem u_187_1 {S : Scr} {d : Nat} {a0 a1 a2 : AV} {st : List AV} {sh : Shp} {I : IM} {R : RM} {x0 : Int} (hr : st.length ≤ 8) : ev S d 187 1 [a0, a1, a2] (.inl x0 :: st) (sh, I, R) = bnd (cl d 169 [.inl x0] (sh, I, R)) (fun v M => ev S d 187 4 [a0, a1, a2] (psh v st) M) := (ev_eq f_187_1).trans (congrArg (fin S d 187) (if_pos ⟨rfl, hr⟩))
theorem f_187_4 : fetch 187 4 = some (4, .ifCond .ne 5, 3, [9], 0) := (fm_187 4).trans rfl
theorem u_187_4 {S : Scr} {d : Nat} {a0 a1 a2 : AV} {st : List AV} {sh : Shp} {I : IM} {R : RM} {x : Int} : ev S d 187 4 [a0, a1, a2] (.inl x :: st) (sh, I, R) = if ¬ x = 0 then ev S d 187 9 [a0, a1, a2] st (sh, I, R) else ev S d 187 7 [a0, a1, a2] st (sh, I, R) := (ev_eq f_187_4).trans fin_if_ne
theorem f_187_7 : fetch 187 7 = some (7, .iconst (-1), 1, [], (-1)) := (fm_187 7).trans rfl
theorem u_187_7 {S : Scr} {d : Nat} {a0 a1 a2 : AV} {st : List AV} {sh : Shp} {I : IM} {R : RM} : ev S d 187 7 [a0, a1, a2] st (sh, I, R) = ev S d 187 8 [a0, a1, a2] (.inl (-1) :: st) (sh, I, R) := (ev_eq f_187_7).trans rfl
theorem f_187_8 : fetch 187 8 = some (8, .ireturn, 1, [0], 0) := (fm_187 8).trans rfl
theorem u_187_8 {S : Scr} {d : Nat} {a0 a1 a2 : AV} {sh : Shp} {I : IM} {R : RM} {x : Int} : ev S d 187 8 [a0, a1, a2] [.inl x] (sh, I, R) = some (some (.inl x), (sh, I, R)) := (ev_eq f_187_8).trans fin_iret0
theorem f_187_9 : fetch 187 9 = some (9, .aload_n 0, 1, [0], 0) := (fm_187 9).trans rfl
theorem u_187_9 {S : Scr} {d : Nat} {a1 a2 : AV} {st : List AV} {sh : Shp} {I : IM} {R : RM} {x : Nat} : ev S d 187 9 [.inr (.inl x), a1, a2] st (sh, I, R) = ev S d 187 10 [.inr (.inl x), a1, a2] (.inr (.inl x) :: st) (sh, I, R) := (ev_eq f_187_9).trans rfl
theorem f_187_10 : fetch 187 10 = some (10, .getfield 22, 3, [9, 5, 1, 83], 0) := (fm_187 10).trans rfl
theorem u_187_10 {S : Scr} {d : Nat} {a0 a1 a2 : AV} {st : List AV} {sh : Shp} {I : IM} {R : RM} {k : Nat} (h : tg sh k = 9) : ev S d 187 10 [a0, a1, a2] (.inr (.inl k) :: st) (sh, I, R) = ev S d 187 13 [a0, a1, a2] (rv (R k 5) :: st) (sh, I, R) := (ev_eq f_187_10).trans (congrArg (fin S d 187) (if_pos h))
theorem f_187_13 : fetch 187 13 = some (13, .iload_n 1, 1, [1], 0) := (fm_187 13).trans rfl
theorem u_187_13 {S : Scr} {d : Nat} {a0 a2 : AV} {st : List AV} {sh : Shp} {I : IM} {R : RM} {x : Int} : ev S d 187 13 [a0, .inl x, a2] st (sh, I, R) = ev S d 187 14 [a0, .inl x, a2] (.inl x :: st) (sh, I, R) := (ev_eq f_187_13).trans rfl
theorem f_187_14 : fetch 187 14 = some (14, .iaload, 1, [], 0) := (fm_187 14).trans rfl
theorem u_187_14 {S : Scr} {d : Nat} {a0 a1 a2 : AV} {st : List AV} {sh : Shp} {I : IM} {R : RM} {k : Nat} {i : Int} (h : tg sh k = 100) (h0 : 0 ≤ i) (h1 : i < ln sh k) : ev S d 187 14 [a0, a1, a2] (.inl i :: .inr (.inl k) :: st) (sh, I, R) = ev S d 187 15 [a0, a1, a2] (.inl (I k i) :: st) (sh, I, R) := (ev_eq f_187_14).trans (congrArg (fin S d 187) (if_pos ⟨h, h0, h1⟩))
theorem f_187_15 : fetch 187 15 = some (15, .ifCond .ge 6, 3, [21], 0) := (fm_187 15).trans rfl
theorem u_187_15 {S : Scr} {d : Nat} {a0 a1 a2 : AV} {st : List AV} {sh : Shp} {I : IM} {R : RM} {x : Int} : ev S d 187 15 [a0, a1, a2] (.inl x :: st) (sh, I, R) = if 0 ≤ x then ev S d 187 21 [a0, a1, a2] st (sh, I, R) else ev S d 187 18 [a0, a1, a2] st (sh, I, R) := (ev_eq f_187_15).trans fin_if_ge
theorem f_187_18 : fetch 187 18 = some (18, .bipush (-11), 2, [], (-11)) := (fm_187 18).trans rfl
theorem u_187_18 {S : Scr} {d : Nat} {a0 a1 a2 : AV} {st : List AV} {sh : Shp} {I : IM} {R : RM} : ev S d 187 18 [a0, a1, a2] st (sh, I, R) = ev S d 187 20 [a0, a1, a2] (.inl (-11) :: st) (sh, I, R) := (ev_eq f_187_18).trans rfl
theorem f_187_20 : fetch 187 20 = some (20, .ireturn, 1, [0], 0) := (fm_187 20).trans rfl
theorem u_187_20 {S : Scr} {d : Nat} {a0 a1 a2 : AV} {sh : Shp} {I : IM} {R : RM} {x : Int} : ev S d 187 20 [a0, a1, a2] [.inl x] (sh, I, R) = some (some (.inl x), (sh, I, R)) := (ev_eq f_187_20).trans fin_iret0
theorem f_187_21 : fetch 187 21 = some (21, .aload_n 0, 1, [0], 0) := (fm_187 21).trans rfl
theorem u_187_21 {S : Scr} {d : Nat} {a1 a2 : AV} {st : List AV} {sh : Shp} {I : IM} {R : RM} {x : Nat} : ev S d 187 21 [.inr (.inl x), a1, a2] st (sh, I, R) = ev S d 187 22 [.inr (.inl x), a1, a2] (.inr (.inl x) :: st) (sh, I, R) := (ev_eq f_187_21).trans rfl
theorem f_187_22 : fetch 187 22 = some (22, .getfield 9, 3, [9, 0, 1, 79], 0) := (fm_187 22).trans rfl
theorem u_187_22 {S : Scr} {d : Nat} {a0 a1 a2 : AV} {st : List AV} {sh : Shp} {I : IM} {R : RM} {k : Nat} (h : tg sh k = 9) : ev S d 187 22 [a0, a1, a2] (.inr (.inl k) :: st) (sh, I, R) = ev S d 187 25 [a0, a1, a2] (rv (R k 0) :: st) (sh, I, R) := (ev_eq f_187_22).trans (congrArg (fin S d 187) (if_pos h))
theorem f_187_25 : fetch 187 25 = some (25, .aload_n 0, 1, [0], 0) := (fm_187 25).trans rfl
theorem u_187_25 {S : Scr} {d : Nat} {a1 a2 : AV} {st : List AV} {sh : Shp} {I : IM} {R : RM} {x : Nat} : ev S d 187 25 [.inr (.inl x), a1, a2] st (sh, I, R) = ev S d 187 26 [.inr (.inl x), a1, a2] (.inr (.inl x) :: st) (sh, I, R) := (ev_eq f_187_25).trans rfl
theorem f_187_26 : fetch 187 26 = some (26, .getfield 13, 3, [9, 1, 1, 80], 0) := (fm_187 26).trans rfl
theorem u_187_26 {S : Scr} {d : Nat} {a0 a1 a2 : AV} {st : List AV} {sh : Shp} {I : IM} {R : RM} {k : Nat} (h : tg sh k = 9) : ev S d 187 26 [a0, a1, a2] (.inr (.inl k) :: st) (sh, I, R) = ev S d 187 29 [a0, a1, a2] (rv (R k 1) :: st) (sh, I, R) := (ev_eq f_187_26).trans (congrArg (fin S d 187) (if_pos h))
theorem f_187_29 : fetch 187 29 = some (29, .invokestatic 218, 3, [130, 2, 164], 0) := (fm_187 29).trans rfl
theorem u_187_29 {S : Scr} {d : Nat} {a0 a1 a2 : AV} {st : List AV} {sh : Shp} {I : IM} {R : RM} {x0 : Nat} {x1 : Nat} (hr : st.length ≤ 8) : ev S d 187 29 [a0, a1, a2] (.inr (.inl x1) :: .inr (.inl x0) :: st) (sh, I, R) = bnd (cl d 130 [.inr (.inl x0), .inr (.inl x1)] (sh, I, R)) (fun v M => ev S d 187 32 [a0, a1, a2] (psh v st) M) := (ev_eq f_187_29).trans (congrArg (fin S d 187) (if_pos ⟨rfl, hr⟩))
theorem u_187_29kn {S : Scr} {d : Nat} {a0 a1 a2 : AV} {st : List AV} {sh : Shp} {I : IM} {R : RM} {x0 : Nat} (hr : st.length ≤ 8) : ev S d 187 29 [a0, a1, a2] (.inr (.inr 0) :: .inr (.inl x0) :: st) (sh, I, R) = bnd (cl d 130 [.inr (.inl x0), .inr (.inr 0)] (sh, I, R)) (fun v M => ev S d 187 32 [a0, a1, a2] (psh v st) M) := (ev_eq f_187_29).trans (congrArg (fin S d 187) (if_pos ⟨rfl, hr⟩))
theorem u_187_29nk {S : Scr} {d : Nat} {a0 a1 a2 : AV} {st : List AV} {sh : Shp} {I : IM} {R : RM} {x1 : Nat} (hr : st.length ≤ 8) : ev S d 187 29 [a0, a1, a2] (.inr (.inl x1) :: .inr (.inr 0) :: st) (sh, I, R) = bnd (cl d 130 [.inr (.inr 0), .inr (.inl x1)] (sh, I, R)) (fun v M => ev S d 187 32 [a0, a1, a2] (psh v st) M) := (ev_eq f_187_29).trans (congrArg (fin S d 187) (if_pos ⟨rfl, hr⟩))
theorem u_187_29nn {S : Scr} {d : Nat} {a0 a1 a2 : AV} {st : List AV} {sh : Shp} {I : IM} {R : RM} (hr : st.length ≤ 8) : ev S d 187 29 [a0, a1, a2] (.inr (.inr 0) :: .inr (.inr 0) :: st) (sh, I, R) = bnd (cl d 130 [.inr (.inr 0), .inr (.inr 0)] (sh, I, R)) (fun v M => ev S d 187 32 [a0, a1, a2] (psh v st) M) := (ev_eq f_187_29).trans (congrArg (fin S d 187) (if_pos ⟨rfl, hr⟩))
theorem f_187_32 : fetch 187 32 = some (32, .aload_n 0, 1, [0], 0) := (fm_187 32).trans rfl
theorem u_187_32 {S : Scr} {d : Nat} {a1 a2 : AV} {st : List AV} {sh : Shp} {I : IM} {R : RM} {x : Nat} : ev S d 187 32 [.inr (.inl x), a1, a2] st (sh, I, R) = ev S d 187 33 [.inr (.inl x), a1, a2] (.inr (.inl x) :: st) (sh, I, R) := (ev_eq f_187_32).trans rfl
theorem f_187_33 : fetch 187 33 = some (33, .sipush 200, 3, [], 200) := (fm_187 33).trans rfl
theorem u_187_33 {S : Scr} {d : Nat} {a0 a1 a2 : AV} {st : List AV} {sh : Shp} {I : IM} {R : RM} : ev S d 187 33 [a0, a1, a2] st (sh, I, R) = ev S d 187 36 [a0, a1, a2] (.inl 200 :: st) (sh, I, R) := (ev_eq f_187_33).trans rfl
theorem f_187_36 : fetch 187 36 = some (36, .iload_n 1, 1, [1], 0) := (fm_187 36).trans rfl
theorem u_187_36 {S : Scr} {d : Nat} {a0 a2 : AV} {st : List AV} {sh : Shp} {I : IM} {R : RM} {x : Int} : ev S d 187 36 [a0, .inl x, a2] st (sh, I, R) = ev S d 187 37 [a0, .inl x, a2] (.inl x :: st) (sh, I, R) := (ev_eq f_187_36).trans rfl
theorem f_187_37 : fetch 187 37 = some (37, .imul, 1, [], 0) := (fm_187 37).trans rfl
theorem u_187_37 {S : Scr} {d : Nat} {a0 a1 a2 : AV} {st : List AV} {sh : Shp} {I : IM} {R : RM} {x y : Int} : ev S d 187 37 [a0, a1, a2] (.inl y :: .inl x :: st) (sh, I, R) = ev S d 187 38 [a0, a1, a2] (.inl (wr (x * y)) :: st) (sh, I, R) := (ev_eq f_187_37).trans rfl
theorem f_187_38 : fetch 187 38 = some (38, .putfield 182, 3, [9, 16, 0, 101], 0) := (fm_187 38).trans rfl
theorem u_187_38 {S : Scr} {d : Nat} {a0 a1 a2 : AV} {st : List AV} {sh : Shp} {I : IM} {R : RM} {k : Nat} {x : Int} (h : tg sh k = 9) : ev S d 187 38 [a0, a1, a2] (.inl x :: .inr (.inl k) :: st) (sh, I, R) = ev S d 187 41 [a0, a1, a2] st (sh, up I k 16 x, R) := (ev_eq f_187_38).trans (congrArg (fin S d 187) (if_pos h))
theorem f_187_41 : fetch 187 41 = some (41, .aload_n 0, 1, [0], 0) := (fm_187 41).trans rfl
theorem u_187_41 {S : Scr} {d : Nat} {a1 a2 : AV} {st : List AV} {sh : Shp} {I : IM} {R : RM} {x : Nat} : ev S d 187 41 [.inr (.inl x), a1, a2] st (sh, I, R) = ev S d 187 42 [.inr (.inl x), a1, a2] (.inr (.inl x) :: st) (sh, I, R) := (ev_eq f_187_41).trans rfl
theorem f_187_42 : fetch 187 42 = some (42, .aload_n 0, 1, [0], 0) := (fm_187 42).trans rfl
theorem u_187_42 {S : Scr} {d : Nat} {a1 a2 : AV} {st : List AV} {sh : Shp} {I : IM} {R : RM} {x : Nat} : ev S d 187 42 [.inr (.inl x), a1, a2] st (sh, I, R) = ev S d 187 43 [.inr (.inl x), a1, a2] (.inr (.inl x) :: st) (sh, I, R) := (ev_eq f_187_42).trans rfl
theorem f_187_43 : fetch 187 43 = some (43, .getfield 22, 3, [9, 5, 1, 83], 0) := (fm_187 43).trans rfl
theorem u_187_43 {S : Scr} {d : Nat} {a0 a1 a2 : AV} {st : List AV} {sh : Shp} {I : IM} {R : RM} {k : Nat} (h : tg sh k = 9) : ev S d 187 43 [a0, a1, a2] (.inr (.inl k) :: st) (sh, I, R) = ev S d 187 46 [a0, a1, a2] (rv (R k 5) :: st) (sh, I, R) := (ev_eq f_187_43).trans (congrArg (fin S d 187) (if_pos h))
theorem f_187_46 : fetch 187 46 = some (46, .iload_n 1, 1, [1], 0) := (fm_187 46).trans rfl
theorem u_187_46 {S : Scr} {d : Nat} {a0 a2 : AV} {st : List AV} {sh : Shp} {I : IM} {R : RM} {x : Int} : ev S d 187 46 [a0, .inl x, a2] st (sh, I, R) = ev S d 187 47 [a0, .inl x, a2] (.inl x :: st) (sh, I, R) := (ev_eq f_187_46).trans rfl
theorem f_187_47 : fetch 187 47 = some (47, .iaload, 1, [], 0) := (fm_187 47).trans rfl
theorem u_187_47 {S : Scr} {d : Nat} {a0 a1 a2 : AV} {st : List AV} {sh : Shp} {I : IM} {R : RM} {k : Nat} {i : Int} (h : tg sh k = 100) (h0 : 0 ≤ i) (h1 : i < ln sh k) : ev S d 187 47 [a0, a1, a2] (.inl i :: .inr (.inl k) :: st) (sh, I, R) = ev S d 187 48 [a0, a1, a2] (.inl (I k i) :: st) (sh, I, R) := (ev_eq f_187_47).trans (congrArg (fin S d 187) (if_pos ⟨h, h0, h1⟩))
theorem f_187_48 : fetch 187 48 = some (48, .putfield 179, 3, [9, 17, 0, 100], 0) := (fm_187 48).trans rfl
theorem u_187_48 {S : Scr} {d : Nat} {a0 a1 a2 : AV} {st : List AV} {sh : Shp} {I : IM} {R : RM} {k : Nat} {x : Int} (h : tg sh k = 9) : ev S d 187 48 [a0, a1, a2] (.inl x :: .inr (.inl k) :: st) (sh, I, R) = ev S d 187 51 [a0, a1, a2] st (sh, up I k 17 x, R) := (ev_eq f_187_48).trans (congrArg (fin S d 187) (if_pos h))
theorem f_187_51 : fetch 187 51 = some (51, .aload_n 0, 1, [0], 0) := (fm_187 51).trans rfl
theorem u_187_51 {S : Scr} {d : Nat} {a1 a2 : AV} {st : List AV} {sh : Shp} {I : IM} {R : RM} {x : Nat} : ev S d 187 51 [.inr (.inl x), a1, a2] st (sh, I, R) = ev S d 187 52 [.inr (.inl x), a1, a2] (.inr (.inl x) :: st) (sh, I, R) := (ev_eq f_187_51).trans rfl
theorem f_187_52 : fetch 187 52 = some (52, .iconst 0, 1, [], 0) := (fm_187 52).trans rfl
theorem u_187_52 {S : Scr} {d : Nat} {a0 a1 a2 : AV} {st : List AV} {sh : Shp} {I : IM} {R : RM} : ev S d 187 52 [a0, a1, a2] st (sh, I, R) = ev S d 187 53 [a0, a1, a2] (.inl 0 :: st) (sh, I, R) := (ev_eq f_187_52).trans rfl
theorem f_187_53 : fetch 187 53 = some (53, .putfield 176, 3, [9, 18, 0, 99], 0) := (fm_187 53).trans rfl
theorem u_187_53 {S : Scr} {d : Nat} {a0 a1 a2 : AV} {st : List AV} {sh : Shp} {I : IM} {R : RM} {k : Nat} {x : Int} (h : tg sh k = 9) : ev S d 187 53 [a0, a1, a2] (.inl x :: .inr (.inl k) :: st) (sh, I, R) = ev S d 187 56 [a0, a1, a2] st (sh, up I k 18 x, R) := (ev_eq f_187_53).trans (congrArg (fin S d 187) (if_pos h))
theorem f_187_56 : fetch 187 56 = some (56, .aload_n 0, 1, [0], 0) := (fm_187 56).trans rfl
theorem u_187_56 {S : Scr} {d : Nat} {a1 a2 : AV} {st : List AV} {sh : Shp} {I : IM} {R : RM} {x : Nat} : ev S d 187 56 [.inr (.inl x), a1, a2] st (sh, I, R) = ev S d 187 57 [.inr (.inl x), a1, a2] (.inr (.inl x) :: st) (sh, I, R) := (ev_eq f_187_56).trans rfl
theorem f_187_57 : fetch 187 57 = some (57, .iconst 0, 1, [], 0) := (fm_187 57).trans rfl
theorem u_187_57 {S : Scr} {d : Nat} {a0 a1 a2 : AV} {st : List AV} {sh : Shp} {I : IM} {R : RM} : ev S d 187 57 [a0, a1, a2] st (sh, I, R) = ev S d 187 58 [a0, a1, a2] (.inl 0 :: st) (sh, I, R) := (ev_eq f_187_57).trans rfl
theorem f_187_58 : fetch 187 58 = some (58, .putfield 197, 3, [9, 19, 0, 103], 0) := (fm_187 58).trans rfl
theorem u_187_58 {S : Scr} {d : Nat} {a0 a1 a2 : AV} {st : List AV} {sh : Shp} {I : IM} {R : RM} {k : Nat} {x : Int} (h : tg sh k = 9) : ev S d 187 58 [a0, a1, a2] (.inl x :: .inr (.inl k) :: st) (sh, I, R) = ev S d 187 61 [a0, a1, a2] st (sh, up I k 19 x, R) := (ev_eq f_187_58).trans (congrArg (fin S d 187) (if_pos h))
theorem f_187_61 : fetch 187 61 = some (61, .aload_n 0, 1, [0], 0) := (fm_187 61).trans rfl
theorem u_187_61 {S : Scr} {d : Nat} {a1 a2 : AV} {st : List AV} {sh : Shp} {I : IM} {R : RM} {x : Nat} : ev S d 187 61 [.inr (.inl x), a1, a2] st (sh, I, R) = ev S d 187 62 [.inr (.inl x), a1, a2] (.inr (.inl x) :: st) (sh, I, R) := (ev_eq f_187_61).trans rfl
theorem f_187_62 : fetch 187 62 = some (62, .iconst 0, 1, [], 0) := (fm_187 62).trans rfl
theorem u_187_62 {S : Scr} {d : Nat} {a0 a1 a2 : AV} {st : List AV} {sh : Shp} {I : IM} {R : RM} : ev S d 187 62 [a0, a1, a2] st (sh, I, R) = ev S d 187 63 [a0, a1, a2] (.inl 0 :: st) (sh, I, R) := (ev_eq f_187_62).trans rfl
theorem f_187_63 : fetch 187 63 = some (63, .invokevirtual 215, 3, [186, 1, 163], 0) := (fm_187 63).trans rfl
theorem u_187_63 {S : Scr} {d : Nat} {a0 a1 a2 : AV} {st : List AV} {sh : Shp} {I : IM} {R : RM} {x0 : Int} {k : Nat} (h : tg sh k = 9) (hr : st.length ≤ 8) : ev S d 187 63 [a0, a1, a2] (.inl x0 :: .inr (.inl k) :: st) (sh, I, R) = bnd (cl d 186 [.inr (.inl k), .inl x0] (sh, I, R)) (fun v M => ev S d 187 66 [a0, a1, a2] (psh v st) M) := (ev_eq f_187_63).trans (congrArg (fin S d 187) (if_pos ⟨h, rfl, hr⟩))
theorem f_187_66 : fetch 187 66 = some (66, .istore_n 2, 1, [2], 0) := (fm_187 66).trans rfl
theorem u_187_66 {S : Scr} {d : Nat} {a0 a1 a2 : AV} {st : List AV} {sh : Shp} {I : IM} {R : RM} {x : Int} : ev S d 187 66 [a0, a1, a2] (.inl x :: st) (sh, I, R) = ev S d 187 67 [a0, a1, .inl x] st (sh, I, R) := (ev_eq f_187_66).trans rfl
theorem f_187_67 : fetch 187 67 = some (67, .iload_n 2, 1, [2], 0) := (fm_187 67).trans rfl
theorem u_187_67 {S : Scr} {d : Nat} {a0 a1 : AV} {st : List AV} {sh : Shp} {I : IM} {R : RM} {x : Int} : ev S d 187 67 [a0, a1, .inl x] st (sh, I, R) = ev S d 187 68 [a0, a1, .inl x] (.inl x :: st) (sh, I, R) := (ev_eq f_187_67).trans rfl
theorem f_187_68 : fetch 187 68 = some (68, .bipush (-9), 2, [], (-9)) := (fm_187 68).trans rfl
theorem u_187_68 {S : Scr} {d : Nat} {a0 a1 a2 : AV} {st : List AV} {sh : Shp} {I : IM} {R : RM} : ev S d 187 68 [a0, a1, a2] st (sh, I, R) = ev S d 187 70 [a0, a1, a2] (.inl (-9) :: st) (sh, I, R) := (ev_eq f_187_68).trans rfl
theorem f_187_70 : fetch 187 70 = some (70, .if_icmp .eq 25, 3, [95], 0) := (fm_187 70).trans rfl
theorem u_187_70 {S : Scr} {d : Nat} {a0 a1 a2 : AV} {st : List AV} {sh : Shp} {I : IM} {R : RM} {x y : Int} : ev S d 187 70 [a0, a1, a2] (.inl y :: .inl x :: st) (sh, I, R) = if x = y then ev S d 187 95 [a0, a1, a2] st (sh, I, R) else ev S d 187 73 [a0, a1, a2] st (sh, I, R) := (ev_eq f_187_70).trans fin_icmp_eq
theorem f_187_73 : fetch 187 73 = some (73, .aload_n 0, 1, [0], 0) := (fm_187 73).trans rfl
theorem u_187_73 {S : Scr} {d : Nat} {a1 a2 : AV} {st : List AV} {sh : Shp} {I : IM} {R : RM} {x : Nat} : ev S d 187 73 [.inr (.inl x), a1, a2] st (sh, I, R) = ev S d 187 74 [.inr (.inl x), a1, a2] (.inr (.inl x) :: st) (sh, I, R) := (ev_eq f_187_73).trans rfl
theorem f_187_74 : fetch 187 74 = some (74, .getfield 176, 3, [9, 18, 0, 99], 0) := (fm_187 74).trans rfl
theorem u_187_74 {S : Scr} {d : Nat} {a0 a1 a2 : AV} {st : List AV} {sh : Shp} {I : IM} {R : RM} {k : Nat} (h : tg sh k = 9) : ev S d 187 74 [a0, a1, a2] (.inr (.inl k) :: st) (sh, I, R) = ev S d 187 77 [a0, a1, a2] (.inl (I k 18) :: st) (sh, I, R) := (ev_eq f_187_74).trans (congrArg (fin S d 187) (if_pos h))
theorem f_187_77 : fetch 187 77 = some (77, .aload_n 0, 1, [0], 0) := (fm_187 77).trans rfl
theorem u_187_77 {S : Scr} {d : Nat} {a1 a2 : AV} {st : List AV} {sh : Shp} {I : IM} {R : RM} {x : Nat} : ev S d 187 77 [.inr (.inl x), a1, a2] st (sh, I, R) = ev S d 187 78 [.inr (.inl x), a1, a2] (.inr (.inl x) :: st) (sh, I, R) := (ev_eq f_187_77).trans rfl
theorem f_187_78 : fetch 187 78 = some (78, .getfield 179, 3, [9, 17, 0, 100], 0) := (fm_187 78).trans rfl
theorem u_187_78 {S : Scr} {d : Nat} {a0 a1 a2 : AV} {st : List AV} {sh : Shp} {I : IM} {R : RM} {k : Nat} (h : tg sh k = 9) : ev S d 187 78 [a0, a1, a2] (.inr (.inl k) :: st) (sh, I, R) = ev S d 187 81 [a0, a1, a2] (.inl (I k 17) :: st) (sh, I, R) := (ev_eq f_187_78).trans (congrArg (fin S d 187) (if_pos h))
theorem f_187_81 : fetch 187 81 = some (81, .if_icmp .ge 14, 3, [95], 0) := (fm_187 81).trans rfl
theorem u_187_81 {S : Scr} {d : Nat} {a0 a1 a2 : AV} {st : List AV} {sh : Shp} {I : IM} {R : RM} {x y : Int} : ev S d 187 81 [a0, a1, a2] (.inl y :: .inl x :: st) (sh, I, R) = if y ≤ x then ev S d 187 95 [a0, a1, a2] st (sh, I, R) else ev S d 187 84 [a0, a1, a2] st (sh, I, R) := (ev_eq f_187_81).trans fin_icmp_ge
theorem f_187_84 : fetch 187 84 = some (84, .aload_n 0, 1, [0], 0) := (fm_187 84).trans rfl
theorem u_187_84 {S : Scr} {d : Nat} {a1 a2 : AV} {st : List AV} {sh : Shp} {I : IM} {R : RM} {x : Nat} : ev S d 187 84 [.inr (.inl x), a1, a2] st (sh, I, R) = ev S d 187 85 [.inr (.inl x), a1, a2] (.inr (.inl x) :: st) (sh, I, R) := (ev_eq f_187_84).trans rfl
theorem f_187_85 : fetch 187 85 = some (85, .bipush 7, 2, [], 7) := (fm_187 85).trans rfl
theorem u_187_85 {S : Scr} {d : Nat} {a0 a1 a2 : AV} {st : List AV} {sh : Shp} {I : IM} {R : RM} : ev S d 187 85 [a0, a1, a2] st (sh, I, R) = ev S d 187 87 [a0, a1, a2] (.inl 7 :: st) (sh, I, R) := (ev_eq f_187_85).trans rfl
theorem f_187_87 : fetch 187 87 = some (87, .aload_n 0, 1, [0], 0) := (fm_187 87).trans rfl
theorem u_187_87 {S : Scr} {d : Nat} {a1 a2 : AV} {st : List AV} {sh : Shp} {I : IM} {R : RM} {x : Nat} : ev S d 187 87 [.inr (.inl x), a1, a2] st (sh, I, R) = ev S d 187 88 [.inr (.inl x), a1, a2] (.inr (.inl x) :: st) (sh, I, R) := (ev_eq f_187_87).trans rfl
theorem f_187_88 : fetch 187 88 = some (88, .getfield 176, 3, [9, 18, 0, 99], 0) := (fm_187 88).trans rfl
theorem u_187_88 {S : Scr} {d : Nat} {a0 a1 a2 : AV} {st : List AV} {sh : Shp} {I : IM} {R : RM} {k : Nat} (h : tg sh k = 9) : ev S d 187 88 [a0, a1, a2] (.inr (.inl k) :: st) (sh, I, R) = ev S d 187 91 [a0, a1, a2] (.inl (I k 18) :: st) (sh, I, R) := (ev_eq f_187_88).trans (congrArg (fin S d 187) (if_pos h))
theorem f_187_91 : fetch 187 91 = some (91, .invokevirtual 191, 3, [179, 2, 156], 0) := (fm_187 91).trans rfl
theorem u_187_91 {S : Scr} {d : Nat} {a0 a1 a2 : AV} {st : List AV} {sh : Shp} {I : IM} {R : RM} {x0 : Int} {x1 : Int} {k : Nat} (h : tg sh k = 9) (hr : st.length ≤ 8) : ev S d 187 91 [a0, a1, a2] (.inl x1 :: .inl x0 :: .inr (.inl k) :: st) (sh, I, R) = bnd (cl d 179 [.inr (.inl k), .inl x0, .inl x1] (sh, I, R)) (fun v M => ev S d 187 94 [a0, a1, a2] (psh v st) M) := (ev_eq f_187_91).trans (congrArg (fin S d 187) (if_pos ⟨h, rfl, hr⟩))
theorem f_187_94 : fetch 187 94 = some (94, .istore_n 2, 1, [2], 0) := (fm_187 94).trans rfl
theorem u_187_94 {S : Scr} {d : Nat} {a0 a1 a2 : AV} {st : List AV} {sh : Shp} {I : IM} {R : RM} {x : Int} : ev S d 187 94 [a0, a1, a2] (.inl x :: st) (sh, I, R) = ev S d 187 95 [a0, a1, .inl x] st (sh, I, R) := (ev_eq f_187_94).trans rfl
theorem f_187_95 : fetch 187 95 = some (95, .iload_n 2, 1, [2], 0) := (fm_187 95).trans rfl
theorem u_187_95 {S : Scr} {d : Nat} {a0 a1 : AV} {st : List AV} {sh : Shp} {I : IM} {R : RM} {x : Int} : ev S d 187 95 [a0, a1, .inl x] st (sh, I, R) = ev S d 187 96 [a0, a1, .inl x] (.inl x :: st) (sh, I, R) := (ev_eq f_187_95).trans rfl
theorem f_187_96 : fetch 187 96 = some (96, .bipush (-9), 2, [], (-9)) := (fm_187 96).trans rfl
theorem u_187_96 {S : Scr} {d : Nat} {a0 a1 a2 : AV} {st : List AV} {sh : Shp} {I : IM} {R : RM} : ev S d 187 96 [a0, a1, a2] st (sh, I, R) = ev S d 187 98 [a0, a1, a2] (.inl (-9) :: st) (sh, I, R) := (ev_eq f_187_96).trans rfl
theorem f_187_98 : fetch 187 98 = some (98, .if_icmp .ne 17, 3, [115], 0) := (fm_187 98).trans rfl
theorem u_187_98 {S : Scr} {d : Nat} {a0 a1 a2 : AV} {st : List AV} {sh : Shp} {I : IM} {R : RM} {x y : Int} : ev S d 187 98 [a0, a1, a2] (.inl y :: .inl x :: st) (sh, I, R) = if ¬ x = y then ev S d 187 115 [a0, a1, a2] st (sh, I, R) else ev S d 187 101 [a0, a1, a2] st (sh, I, R) := (ev_eq f_187_98).trans fin_icmp_ne
theorem f_187_101 : fetch 187 101 = some (101, .aload_n 0, 1, [0], 0) := (fm_187 101).trans rfl
theorem u_187_101 {S : Scr} {d : Nat} {a1 a2 : AV} {st : List AV} {sh : Shp} {I : IM} {R : RM} {x : Nat} : ev S d 187 101 [.inr (.inl x), a1, a2] st (sh, I, R) = ev S d 187 102 [.inr (.inl x), a1, a2] (.inr (.inl x) :: st) (sh, I, R) := (ev_eq f_187_101).trans rfl
theorem f_187_102 : fetch 187 102 = some (102, .getfield 13, 3, [9, 1, 1, 80], 0) := (fm_187 102).trans rfl
theorem u_187_102 {S : Scr} {d : Nat} {a0 a1 a2 : AV} {st : List AV} {sh : Shp} {I : IM} {R : RM} {k : Nat} (h : tg sh k = 9) : ev S d 187 102 [a0, a1, a2] (.inr (.inl k) :: st) (sh, I, R) = ev S d 187 105 [a0, a1, a2] (rv (R k 1) :: st) (sh, I, R) := (ev_eq f_187_102).trans (congrArg (fin S d 187) (if_pos h))
theorem f_187_105 : fetch 187 105 = some (105, .aload_n 0, 1, [0], 0) := (fm_187 105).trans rfl
theorem u_187_105 {S : Scr} {d : Nat} {a1 a2 : AV} {st : List AV} {sh : Shp} {I : IM} {R : RM} {x : Nat} : ev S d 187 105 [.inr (.inl x), a1, a2] st (sh, I, R) = ev S d 187 106 [.inr (.inl x), a1, a2] (.inr (.inl x) :: st) (sh, I, R) := (ev_eq f_187_105).trans rfl
theorem f_187_106 : fetch 187 106 = some (106, .getfield 9, 3, [9, 0, 1, 79], 0) := (fm_187 106).trans rfl
theorem u_187_106 {S : Scr} {d : Nat} {a0 a1 a2 : AV} {st : List AV} {sh : Shp} {I : IM} {R : RM} {k : Nat} (h : tg sh k = 9) : ev S d 187 106 [a0, a1, a2] (.inr (.inl k) :: st) (sh, I, R) = ev S d 187 109 [a0, a1, a2] (rv (R k 0) :: st) (sh, I, R) := (ev_eq f_187_106).trans (congrArg (fin S d 187) (if_pos h))
theorem f_187_109 : fetch 187 109 = some (109, .invokestatic 218, 3, [130, 2, 164], 0) := (fm_187 109).trans rfl
theorem u_187_109 {S : Scr} {d : Nat} {a0 a1 a2 : AV} {st : List AV} {sh : Shp} {I : IM} {R : RM} {x0 : Nat} {x1 : Nat} (hr : st.length ≤ 8) : ev S d 187 109 [a0, a1, a2] (.inr (.inl x1) :: .inr (.inl x0) :: st) (sh, I, R) = bnd (cl d 130 [.inr (.inl x0), .inr (.inl x1)] (sh, I, R)) (fun v M => ev S d 187 112 [a0, a1, a2] (psh v st) M) := (ev_eq f_187_109).trans (congrArg (fin S d 187) (if_pos ⟨rfl, hr⟩))
theorem u_187_109kn {S : Scr} {d : Nat} {a0 a1 a2 : AV} {st : List AV} {sh : Shp} {I : IM} {R : RM} {x0 : Nat} (hr : st.length ≤ 8) : ev S d 187 109 [a0, a1, a2] (.inr (.inr 0) :: .inr (.inl x0) :: st) (sh, I, R) = bnd (cl d 130 [.inr (.inl x0), .inr (.inr 0)] (sh, I, R)) (fun v M => ev S d 187 112 [a0, a1, a2] (psh v st) M) := (ev_eq f_187_109).trans (congrArg (fin S d 187) (if_pos ⟨rfl, hr⟩))
theorem u_187_109nk {S : Scr} {d : Nat} {a0 a1 a2 : AV} {st : List AV} {sh : Shp} {I : IM} {R : RM} {x1 : Nat} (hr : st.length ≤ 8) : ev S d 187 109 [a0, a1, a2] (.inr (.inl x1) :: .inr (.inr 0) :: st) (sh, I, R) = bnd (cl d 130 [.inr (.inr 0), .inr (.inl x1)] (sh, I, R)) (fun v M => ev S d 187 112 [a0, a1, a2] (psh v st) M) := (ev_eq f_187_109).trans (congrArg (fin S d 187) (if_pos ⟨rfl, hr⟩))
theorem u_187_109nn {S : Scr} {d : Nat} {a0 a1 a2 : AV} {st : List AV} {sh : Shp} {I : IM} {R : RM} (hr : st.length ≤ 8) : ev S d 187 109 [a0, a1, a2] (.inr (.inr 0) :: .inr (.inr 0) :: st) (sh, I, R) = bnd (cl d 130 [.inr (.inr 0), .inr (.inr 0)] (sh, I, R)) (fun v M => ev S d 187 112 [a0, a1, a2] (psh v st) M) := (ev_eq f_187_109).trans (congrArg (fin S d 187) (if_pos ⟨rfl, hr⟩))
theorem f_187_112 : fetch 187 112 = some (112, .bipush (-5), 2, [], (-5)) := (fm_187 112).trans rfl
theorem u_187_112 {S : Scr} {d : Nat} {a0 a1 a2 : AV} {st : List AV} {sh : Shp} {I : IM} {R : RM} : ev S d 187 112 [a0, a1, a2] st (sh, I, R) = ev S d 187 114 [a0, a1, a2] (.inl (-5) :: st) (sh, I, R) := (ev_eq f_187_112).trans rfl
theorem f_187_114 : fetch 187 114 = some (114, .ireturn, 1, [0], 0) := (fm_187 114).trans rfl
theorem u_187_114 {S : Scr} {d : Nat} {a0 a1 a2 : AV} {sh : Shp} {I : IM} {R : RM} {x : Int} : ev S d 187 114 [a0, a1, a2] [.inl x] (sh, I, R) = some (some (.inl x), (sh, I, R)) := (ev_eq f_187_114).trans fin_iret0
theorem f_187_115 : fetch 187 115 = some (115, .iload_n 2, 1, [2], 0) := (fm_187 115).trans rfl
theorem u_187_115 {S : Scr} {d : Nat} {a0 a1 : AV} {st : List AV} {sh : Shp} {I : IM} {R : RM} {x : Int} : ev S d 187 115 [a0, a1, .inl x] st (sh, I, R) = ev S d 187 116 [a0, a1, .inl x] (.inl x :: st) (sh, I, R) := (ev_eq f_187_115).trans rfl
theorem f_187_116 : fetch 187 116 = some (116, .invokestatic 131, 3, [136, 1, 144], 0) := (fm_187 116).trans rfl
theorem u_187_116 {S : Scr} {d : Nat} {a0 a1 a2 : AV} {st : List AV} {sh : Shp} {I : IM} {R : RM} {x0 : Int} (hr : st.length ≤ 8) : ev S d 187 116 [a0, a1, a2] (.inl x0 :: st) (sh, I, R) = bnd (cl d 136 [.inl x0] (sh, I, R)) (fun v M => ev S d 187 119 [a0, a1, a2] (psh v st) M) := (ev_eq f_187_116).trans (congrArg (fin S d 187) (if_pos ⟨rfl, hr⟩))
theorem f_187_119 : fetch 187 119 = some (119, .ireturn, 1, [0], 0) := (fm_187 119).trans rfl
theorem u_187_119 {S : Scr} {d : Nat} {a0 a1 a2 : AV} {sh : Shp} {I : IM} {R : RM} {x : Int} : ev S d 187 119 [a0, a1, a2] [.inl x] (sh, I, R) = some (some (.inl x), (sh, I, R)) := (ev_eq f_187_119).trans fin_iret0
theorem c_188 {d : Nat} {a0 a1 a2 : AV} {M : Mem} : cl (d + 1) 188 [a0, a1, a2] M = ev S0 d 188 0 [a0, a1, a2, .inr (.inr 1)] [] M := (cl_eq (as := [a0, a1, a2]) (show 3 ≤ maxOf 188 by decide +kernel)).trans rfl
theorem mt_188 : MT[188]? = some m_188 := rfl
theorem fm_188 (pc : Nat) : fetch 188 pc = lk m_188.2.2.2.2.2 pc := by
  unfold fetch
  rw [mt_188]
theorem f_188_0 : fetch 188 0 = some (0, .iload_n 1, 1, [1], 0) := (fm_188 0).trans rfl
theorem u_188_0 {S : Scr} {d : Nat} {a0 a2 a3 : AV} {st : List AV} {sh : Shp} {I : IM} {R : RM} {x : Int} : ev S d 188 0 [a0, .inl x, a2, a3] st (sh, I, R) = ev S d 188 1 [a0, .inl x, a2, a3] (.inl x :: st) (sh, I, R) := (ev_eq f_188_0).trans rfl
theorem f_188_1 : fetch 188 1 = some (1, .ifCond .lt 12, 3, [13], 0) := (fm_188 1).trans rfl
theorem u_188_1 {S : Scr} {d : Nat} {a0 a1 a2 a3 : AV} {st : List AV} {sh : Shp} {I : IM} {R : RM} {x : Int} : ev S d 188 1 [a0, a1, a2, a3] (.inl x :: st) (sh, I, R) = if x < 0 then ev S d 188 13 [a0, a1, a2, a3] st (sh, I, R) else ev S d 188 4 [a0, a1, a2, a3] st (sh, I, R) := (ev_eq f_188_1).trans fin_if_lt
theorem f_188_4 : fetch 188 4 = some (4, .iload_n 2, 1, [2], 0) := (fm_188 4).trans rfl
theorem u_188_4 {S : Scr} {d : Nat} {a0 a1 a3 : AV} {st : List AV} {sh : Shp} {I : IM} {R : RM} {x : Int} : ev S d 188 4 [a0, a1, .inl x, a3] st (sh, I, R) = ev S d 188 5 [a0, a1, .inl x, a3] (.inl x :: st) (sh, I, R) := (ev_eq f_188_4).trans rfl
theorem f_188_5 : fetch 188 5 = some (5, .iconst 0, 1, [], 0) := (fm_188 5).trans rfl
theorem u_188_5 {S : Scr} {d : Nat} {a0 a1 a2 a3 : AV} {st : List AV} {sh : Shp} {I : IM} {R : RM} : ev S d 188 5 [a0, a1, a2, a3] st (sh, I, R) = ev S d 188 6 [a0, a1, a2, a3] (.inl 0 :: st) (sh, I, R) := (ev_eq f_188_5).trans rfl
theorem f_188_6 : fetch 188 6 = some (6, .iconst 1, 1, [], 1) := (fm_188 6).trans rfl
theorem u_188_6 {S : Scr} {d : Nat} {a0 a1 a2 a3 : AV} {st : List AV} {sh : Shp} {I : IM} {R : RM} : ev S d 188 6 [a0, a1, a2, a3] st (sh, I, R) = ev S d 188 7 [a0, a1, a2, a3] (.inl 1 :: st) (sh, I, R) := (ev_eq f_188_6).trans rfl
theorem f_188_7 : fetch 188 7 = some (7, .invokestatic 64, 3, [129, 3, 125], 0) := (fm_188 7).trans rfl
theorem u_188_7 {S : Scr} {d : Nat} {a0 a1 a2 a3 : AV} {st : List AV} {sh : Shp} {I : IM} {R : RM} {x0 : Int} {x1 : Int} {x2 : Int} (hr : st.length ≤ 8) : ev S d 188 7 [a0, a1, a2, a3] (.inl x2 :: .inl x1 :: .inl x0 :: st) (sh, I, R) = bnd (cl d 129 [.inl x0, .inl x1, .inl x2] (sh, I, R)) (fun v M => ev S d 188 10 [a0, a1, a2, a3] (psh v st) M) := (ev_eq f_188_7).trans (congrArg (fin S d 188) (if_pos ⟨rfl, hr⟩))
theorem f_188_10 : fetch 188 10 = some (10, .ifCond .ne 5, 3, [15], 0) := (fm_188 10).trans rfl
theorem u_188_10 {S : Scr} {d : Nat} {a0 a1 a2 a3 : AV} {st : List AV} {sh : Shp} {I : IM} {R : RM} {x : Int} : ev S d 188 10 [a0, a1, a2, a3] (.inl x :: st) (sh, I, R) = if ¬ x = 0 then ev S d 188 15 [a0, a1, a2, a3] st (sh, I, R) else ev S d 188 13 [a0, a1, a2, a3] st (sh, I, R) := (ev_eq f_188_10).trans fin_if_ne
theorem f_188_13 : fetch 188 13 = some (13, .iconst (-1), 1, [], (-1)) := (fm_188 13).trans rfl
theorem u_188_13 {S : Scr} {d : Nat} {a0 a1 a2 a3 : AV} {st : List AV} {sh : Shp} {I : IM} {R : RM} : ev S d 188 13 [a0, a1, a2, a3] st (sh, I, R) = ev S d 188 14 [a0, a1, a2, a3] (.inl (-1) :: st) (sh, I, R) := (ev_eq f_188_13).trans rfl
theorem f_188_14 : fetch 188 14 = some (14, .ireturn, 1, [0], 0) := (fm_188 14).trans rfl
theorem u_188_14 {S : Scr} {d : Nat} {a0 a1 a2 a3 : AV} {sh : Shp} {I : IM} {R : RM} {x : Int} : ev S d 188 14 [a0, a1, a2, a3] [.inl x] (sh, I, R) = some (some (.inl x), (sh, I, R)) := (ev_eq f_188_14).trans fin_iret0
theorem f_188_15 : fetch 188 15 = some (15, .iload_n 1, 1, [1], 0) := (fm_188 15).trans rfl
theorem u_188_15 {S : Scr} {d : Nat} {a0 a2 a3 : AV} {st : List AV} {sh : Shp} {I : IM} {R : RM} {x : Int} : ev S d 188 15 [a0, .inl x, a2, a3] st (sh, I, R) = ev S d 188 16 [a0, .inl x, a2, a3] (.inl x :: st) (sh, I, R) := (ev_eq f_188_15).trans rfl
theorem f_188_16 : fetch 188 16 = some (16, .aload_n 0, 1, [0], 0) := (fm_188 16).trans rfl
theorem u_188_16 {S : Scr} {d : Nat} {a1 a2 a3 : AV} {st : List AV} {sh : Shp} {I : IM} {R : RM} {x : Nat} : ev S d 188 16 [.inr (.inl x), a1, a2, a3] st (sh, I, R) = ev S d 188 17 [.inr (.inl x), a1, a2, a3] (.inr (.inl x) :: st) (sh, I, R) := (ev_eq f_188_16).trans rfl
theorem f_188_17 : fetch 188 17 = some (17, .getfield 185, 3, [9, 15, 0, 102], 0) := (fm_188 17).trans rfl
theorem u_188_17 {S : Scr} {d : Nat} {a0 a1 a2 a3 : AV} {st : List AV} {sh : Shp} {I : IM} {R : RM} {k : Nat} (h : tg sh k = 9) : ev S d 188 17 [a0, a1, a2, a3] (.inr (.inl k) :: st) (sh, I, R) = ev S d 188 20 [a0, a1, a2, a3] (.inl (I k 15) :: st) (sh, I, R) := (ev_eq f_188_17).trans (congrArg (fin S d 188) (if_pos h))
theorem f_188_20 : fetch 188 20 = some (20, .if_icmp .lt 6, 3, [26], 0) := (fm_188 20).trans rfl
theorem u_188_20 {S : Scr} {d : Nat} {a0 a1 a2 a3 : AV} {st : List AV} {sh : Shp} {I : IM} {R : RM} {x y : Int} : ev S d 188 20 [a0, a1, a2, a3] (.inl y :: .inl x :: st) (sh, I, R) = if x < y then ev S d 188 26 [a0, a1, a2, a3] st (sh, I, R) else ev S d 188 23 [a0, a1, a2, a3] st (sh, I, R) := (ev_eq f_188_20).trans fin_icmp_lt
theorem f_188_23 : fetch 188 23 = some (23, .bipush (-2), 2, [], (-2)) := (fm_188 23).trans rfl
theorem u_188_23 {S : Scr} {d : Nat} {a0 a1 a2 a3 : AV} {st : List AV} {sh : Shp} {I : IM} {R : RM} : ev S d 188 23 [a0, a1, a2, a3] st (sh, I, R) = ev S d 188 25 [a0, a1, a2, a3] (.inl (-2) :: st) (sh, I, R) := (ev_eq f_188_23).trans rfl
theorem f_188_25 : fetch 188 25 = some (25, .ireturn, 1, [0], 0) := (fm_188 25).trans rfl
theorem u_188_25 {S : Scr} {d : Nat} {a0 a1 a2 a3 : AV} {sh : Shp} {I : IM} {R : RM} {x : Int} : ev S d 188 25 [a0, a1, a2, a3] [.inl x] (sh, I, R) = some (some (.inl x), (sh, I, R)) := (ev_eq f_188_25).trans fin_iret0
theorem f_188_26 : fetch 188 26 = some (26, .aload_n 0, 1, [0], 0) := (fm_188 26).trans rfl
theorem u_188_26 {S : Scr} {d : Nat} {a1 a2 a3 : AV} {st : List AV} {sh : Shp} {I : IM} {R : RM} {x : Nat} : ev S d 188 26 [.inr (.inl x), a1, a2, a3] st (sh, I, R) = ev S d 188 27 [.inr (.inl x), a1, a2, a3] (.inr (.inl x) :: st) (sh, I, R) := (ev_eq f_188_26).trans rfl
theorem f_188_27 : fetch 188 27 = some (27, .getfield 185, 3, [9, 15, 0, 102], 0) := (fm_188 27).trans rfl
theorem u_188_27 {S : Scr} {d : Nat} {a0 a1 a2 a3 : AV} {st : List AV} {sh : Shp} {I : IM} {R : RM} {k : Nat} (h : tg sh k = 9) : ev S d 188 27 [a0, a1, a2, a3] (.inr (.inl k) :: st) (sh, I, R) = ev S d 188 30 [a0, a1, a2, a3] (.inl (I k 15) :: st) (sh, I, R) := (ev_eq f_188_27).trans (congrArg (fin S d 188) (if_pos h))
theorem f_188_30 : fetch 188 30 = some (30, .iconst 1, 1, [], 1) := (fm_188 30).trans rfl
theorem u_188_30 {S : Scr} {d : Nat} {a0 a1 a2 a3 : AV} {st : List AV} {sh : Shp} {I : IM} {R : RM} : ev S d 188 30 [a0, a1, a2, a3] st (sh, I, R) = ev S d 188 31 [a0, a1, a2, a3] (.inl 1 :: st) (sh, I, R) := (ev_eq f_188_30).trans rfl
theorem f_188_31 : fetch 188 31 = some (31, .isub, 1, [], 0) := (fm_188 31).trans rfl
theorem u_188_31 {S : Scr} {d : Nat} {a0 a1 a2 a3 : AV} {st : List AV} {sh : Shp} {I : IM} {R : RM} {x y : Int} : ev S d 188 31 [a0, a1, a2, a3] (.inl y :: .inl x :: st) (sh, I, R) = ev S d 188 32 [a0, a1, a2, a3] (.inl (wr (x - y)) :: st) (sh, I, R) := (ev_eq f_188_31).trans rfl
theorem f_188_32 : fetch 188 32 = some (32, .iload_n 1, 1, [1], 0) := (fm_188 32).trans rfl
theorem u_188_32 {S : Scr} {d : Nat} {a0 a2 a3 : AV} {st : List AV} {sh : Shp} {I : IM} {R : RM} {x : Int} : ev S d 188 32 [a0, .inl x, a2, a3] st (sh, I, R) = ev S d 188 33 [a0, .inl x, a2, a3] (.inl x :: st) (sh, I, R) := (ev_eq f_188_32).trans rfl
theorem f_188_33 : fetch 188 33 = some (33, .isub, 1, [], 0) := (fm_188 33).trans rfl
theorem u_188_33 {S : Scr} {d : Nat} {a0 a1 a2 a3 : AV} {st : List AV} {sh : Shp} {I : IM} {R : RM} {x y : Int} : ev S d 188 33 [a0, a1, a2, a3] (.inl y :: .inl x :: st) (sh, I, R) = ev S d 188 34 [a0, a1, a2, a3] (.inl (wr (x - y)) :: st) (sh, I, R) := (ev_eq f_188_33).trans rfl
theorem f_188_34 : fetch 188 34 = some (34, .istore_n 3, 1, [3], 0) := (fm_188 34).trans rfl
theorem u_188_34 {S : Scr} {d : Nat} {a0 a1 a2 a3 : AV} {st : List AV} {sh : Shp} {I : IM} {R : RM} {x : Int} : ev S d 188 34 [a0, a1, a2, a3] (.inl x :: st) (sh, I, R) = ev S d 188 35 [a0, a1, a2, .inl x] st (sh, I, R) := (ev_eq f_188_34).trans rfl
theorem f_188_35 : fetch 188 35 = some (35, .iload_n 2, 1, [2], 0) := (fm_188 35).trans rfl
theorem u_188_35 {S : Scr} {d : Nat} {a0 a1 a3 : AV} {st : List AV} {sh : Shp} {I : IM} {R : RM} {x : Int} : ev S d 188 35 [a0, a1, .inl x, a3] st (sh, I, R) = ev S d 188 36 [a0, a1, .inl x, a3] (.inl x :: st) (sh, I, R) := (ev_eq f_188_35).trans rfl
theorem f_188_36 : fetch 188 36 = some (36, .ifCond .ne 12, 3, [48], 0) := (fm_188 36).trans rfl
theorem u_188_36 {S : Scr} {d : Nat} {a0 a1 a2 a3 : AV} {st : List AV} {sh : Shp} {I : IM} {R : RM} {x : Int} : ev S d 188 36 [a0, a1, a2, a3] (.inl x :: st) (sh, I, R) = if ¬ x = 0 then ev S d 188 48 [a0, a1, a2, a3] st (sh, I, R) else ev S d 188 39 [a0, a1, a2, a3] st (sh, I, R) := (ev_eq f_188_36).trans fin_if_ne
theorem f_188_39 : fetch 188 39 = some (39, .aload_n 0, 1, [0], 0) := (fm_188 39).trans rfl
theorem u_188_39 {S : Scr} {d : Nat} {a1 a2 a3 : AV} {st : List AV} {sh : Shp} {I : IM} {R : RM} {x : Nat} : ev S d 188 39 [.inr (.inl x), a1, a2, a3] st (sh, I, R) = ev S d 188 40 [.inr (.inl x), a1, a2, a3] (.inr (.inl x) :: st) (sh, I, R) := (ev_eq f_188_39).trans rfl
theorem f_188_40 : fetch 188 40 = some (40, .getfield 40, 3, [9, 13, 1, 89], 0) := (fm_188 40).trans rfl
theorem u_188_40 {S : Scr} {d : Nat} {a0 a1 a2 a3 : AV} {st : List AV} {sh : Shp} {I : IM} {R : RM} {k : Nat} (h : tg sh k = 9) : ev S d 188 40 [a0, a1, a2, a3] (.inr (.inl k) :: st) (sh, I, R) = ev S d 188 43 [a0, a1, a2, a3] (rv (R k 13) :: st) (sh, I, R) := (ev_eq f_188_40).trans (congrArg (fin S d 188) (if_pos h))
theorem f_188_43 : fetch 188 43 = some (43, .iload_n 3, 1, [3], 0) := (fm_188 43).trans rfl
theorem u_188_43 {S : Scr} {d : Nat} {a0 a1 a2 : AV} {st : List AV} {sh : Shp} {I : IM} {R : RM} {x : Int} : ev S d 188 43 [a0, a1, a2, .inl x] st (sh, I, R) = ev S d 188 44 [a0, a1, a2, .inl x] (.inl x :: st) (sh, I, R) := (ev_eq f_188_43).trans rfl
theorem f_188_44 : fetch 188 44 = some (44, .iaload, 1, [], 0) := (fm_188 44).trans rfl
theorem u_188_44 {S : Scr} {d : Nat} {a0 a1 a2 a3 : AV} {st : List AV} {sh : Shp} {I : IM} {R : RM} {k : Nat} {i : Int} (h : tg sh k = 100) (h0 : 0 ≤ i) (h1 : i < ln sh k) : ev S d 188 44 [a0, a1, a2, a3] (.inl i :: .inr (.inl k) :: st) (sh, I, R) = ev S d 188 45 [a0, a1, a2, a3] (.inl (I k i) :: st) (sh, I, R) := (ev_eq f_188_44).trans (congrArg (fin S d 188) (if_pos ⟨h, h0, h1⟩))
theorem f_188_45 : fetch 188 45 = some (45, .goto 9, 3, [54], 0) := (fm_188 45).trans rfl
theorem u_188_45 {S : Scr} {d : Nat} {a0 a1 a2 a3 : AV} {st : List AV} {sh : Shp} {I : IM} {R : RM} : ev S d 188 45 [a0, a1, a2, a3] st (sh, I, R) = ev S d 188 54 [a0, a1, a2, a3] st (sh, I, R) := (ev_eq f_188_45).trans rfl
theorem f_188_48 : fetch 188 48 = some (48, .aload_n 0, 1, [0], 0) := (fm_188 48).trans rfl
theorem u_188_48 {S : Scr} {d : Nat} {a1 a2 a3 : AV} {st : List AV} {sh : Shp} {I : IM} {R : RM} {x : Nat} : ev S d 188 48 [.inr (.inl x), a1, a2, a3] st (sh, I, R) = ev S d 188 49 [.inr (.inl x), a1, a2, a3] (.inr (.inl x) :: st) (sh, I, R) := (ev_eq f_188_48).trans rfl
theorem f_188_49 : fetch 188 49 = some (49, .getfield 43, 3, [9, 14, 1, 90], 0) := (fm_188 49).trans rfl
theorem u_188_49 {S : Scr} {d : Nat} {a0 a1 a2 a3 : AV} {st : List AV} {sh : Shp} {I : IM} {R : RM} {k : Nat} (h : tg sh k = 9) : ev S d 188 49 [a0, a1, a2, a3] (.inr (.inl k) :: st) (sh, I, R) = ev S d 188 52 [a0, a1, a2, a3] (rv (R k 14) :: st) (sh, I, R) := (ev_eq f_188_49).trans (congrArg (fin S d 188) (if_pos h))
theorem f_188_52 : fetch 188 52 = some (52, .iload_n 3, 1, [3], 0) := (fm_188 52).trans rfl
theorem u_188_52 {S : Scr} {d : Nat} {a0 a1 a2 : AV} {st : List AV} {sh : Shp} {I : IM} {R : RM} {x : Int} : ev S d 188 52 [a0, a1, a2, .inl x] st (sh, I, R) = ev S d 188 53 [a0, a1, a2, .inl x] (.inl x :: st) (sh, I, R) := (ev_eq f_188_52).trans rfl
theorem f_188_53 : fetch 188 53 = some (53, .iaload, 1, [], 0) := (fm_188 53).trans rfl
theorem u_188_53 {S : Scr} {d : Nat} {a0 a1 a2 a3 : AV} {st : List AV} {sh : Shp} {I : IM} {R : RM} {k : Nat} {i : Int} (h : tg sh k = 100) (h0 : 0 ≤ i) (h1 : i < ln sh k) : ev S d 188 53 [a0, a1, a2, a3] (.inl i :: .inr (.inl k) :: st) (sh, I, R) = ev S d 188 54 [a0, a1, a2, a3] (.inl (I k i) :: st) (sh, I, R) := (ev_eq f_188_53).trans (congrArg (fin S d 188) (if_pos ⟨h, h0, h1⟩))
theorem f_188_54 : fetch 188 54 = some (54, .ireturn, 1, [0], 0) := (fm_188 54).trans rfl
theorem u_188_54 {S : Scr} {d : Nat} {a0 a1 a2 a3 : AV} {sh : Shp} {I : IM} {R : RM} {x : Int} : ev S d 188 54 [a0, a1, a2, a3] [.inl x] (sh, I, R) = some (some (.inl x), (sh, I, R)) := (ev_eq f_188_54).trans fin_iret0
theorem c_189 {d : Nat} {a0 a1 a2 : AV} {M : Mem} : cl (d + 1) 189 [a0, a1, a2] M = ev S0 d 189 0 [a0, a1, a2, .inr (.inr 1)] [] M := (cl_eq (as := [a0, a1, a2]) (show 3 ≤ maxOf 189 by decide +kernel)).trans rfl
theorem mt_189 : MT[189]? = some m_189 := rfl
theorem fm_189 (pc : Nat) : fetch 189 pc = lk m_189.2.2.2.2.2 pc := by
  unfold fetch
  rw [mt_189]
theorem f_189_0 : fetch 189 0 = some (0, .iload_n 1, 1, [1], 0) := (fm_189 0).trans rfl
theorem u_189_0 {S : Scr} {d : Nat} {a0 a2 a3 : AV} {st : List AV} {sh : Shp} {I : IM} {R : RM} {x : Int} : ev S d 189 0 [a0, .inl x, a2, a3] st (sh, I, R) = ev S d 189 1 [a0, .inl x, a2, a3] (.inl x :: st) (sh, I, R) := (ev_eq f_189_0).trans rfl
theorem f_189_1 : fetch 189 1 = some (1, .invokestatic 153, 3, [169, 1, 150], 0) := (fm_189 1).trans rfl
theorem u_189_1 {S : Scr} {d : Nat} {a0 a1 a2 a3 : AV} {st : List AV} {sh : Shp} {I : IM} {R : RM} {x0 : Int} (hr : st.length ≤ 8) : ev S d 189 1 [a0, a1, a2, a3] (.inl x0 :: st) (sh, I, R) = bnd (cl d 169 [.inl x0] (sh, I, R)) (fun v M => ev S d 189 4 [a0, a1, a2, a3] (psh v st) M) := (ev_eq f_189_1).trans (congrArg (fin S d 189) (if_pos ⟨rfl, hr⟩))
theorem f_189_4 : fetch 189 4 = some (4, .ifCond .eq 11, 3, [15], 0) := (fm_189 4).trans rfl
theorem u_189_4 {S : Scr} {d : Nat} {a0 a1 a2 a3 : AV} {st : List AV} {sh : Shp} {I : IM} {R : RM} {x : Int} : ev S d 189 4 [a0, a1, a2, a3] (.inl x :: st) (sh, I, R) = if x = 0 then ev S d 189 15 [a0, a1, a2, a3] st (sh, I, R) else ev S d 189 7 [a0, a1, a2, a3] st (sh, I, R) := (ev_eq f_189_4).trans fin_if_eq
theorem f_189_7 : fetch 189 7 = some (7, .aload_n 0, 1, [0], 0) := (fm_189 7).trans rfl
theorem u_189_7 {S : Scr} {d : Nat} {a1 a2 a3 : AV} {st : List AV} {sh : Shp} {I : IM} {R : RM} {x : Nat} : ev S d 189 7 [.inr (.inl x), a1, a2, a3] st (sh, I, R) = ev S d 189 8 [.inr (.inl x), a1, a2, a3] (.inr (.inl x) :: st) (sh, I, R) := (ev_eq f_189_7).trans rfl
theorem f_189_8 : fetch 189 8 = some (8, .iload_n 2, 1, [2], 0) := (fm_189 8).trans rfl
theorem u_189_8 {S : Scr} {d : Nat} {a0 a1 a3 : AV} {st : List AV} {sh : Shp} {I : IM} {R : RM} {x : Int} : ev S d 189 8 [a0, a1, .inl x, a3] st (sh, I, R) = ev S d 189 9 [a0, a1, .inl x, a3] (.inl x :: st) (sh, I, R) := (ev_eq f_189_8).trans rfl
theorem f_189_9 : fetch 189 9 = some (9, .invokevirtual 122, 3, [134, 1, 141], 0) := (fm_189 9).trans rfl
theorem u_189_9 {S : Scr} {d : Nat} {a0 a1 a2 a3 : AV} {st : List AV} {sh : Shp} {I : IM} {R : RM} {x0 : Int} {k : Nat} (h : tg sh k = 9) (hr : st.length ≤ 8) : ev S d 189 9 [a0, a1, a2, a3] (.inl x0 :: .inr (.inl k) :: st) (sh, I, R) = bnd (cl d 134 [.inr (.inl k), .inl x0] (sh, I, R)) (fun v M => ev S d 189 12 [a0, a1, a2, a3] (psh v st) M) := (ev_eq f_189_9).trans (congrArg (fin S d 189) (if_pos ⟨h, rfl, hr⟩))
theorem f_189_12 : fetch 189 12 = some (12, .ifCond .ne 5, 3, [17], 0) := (fm_189 12).trans rfl
theorem u_189_12 {S : Scr} {d : Nat} {a0 a1 a2 a3 : AV} {st : List AV} {sh : Shp} {I : IM} {R : RM} {x : Int} : ev S d 189 12 [a0, a1, a2, a3] (.inl x :: st) (sh, I, R) = if ¬ x = 0 then ev S d 189 17 [a0, a1, a2, a3] st (sh, I, R) else ev S d 189 15 [a0, a1, a2, a3] st (sh, I, R) := (ev_eq f_189_12).trans fin_if_ne
theorem f_189_15 : fetch 189 15 = some (15, .iconst (-1), 1, [], (-1)) := (fm_189 15).trans rfl
theorem u_189_15 {S : Scr} {d : Nat} {a0 a1 a2 a3 : AV} {st : List AV} {sh : Shp} {I : IM} {R : RM} : ev S d 189 15 [a0, a1, a2, a3] st (sh, I, R) = ev S d 189 16 [a0, a1, a2, a3] (.inl (-1) :: st) (sh, I, R) := (ev_eq f_189_15).trans rfl
theorem f_189_16 : fetch 189 16 = some (16, .ireturn, 1, [0], 0) := (fm_189 16).trans rfl
theorem u_189_16 {S : Scr} {d : Nat} {a0 a1 a2 a3 : AV} {sh : Shp} {I : IM} {R : RM} {x : Int} : ev S d 189 16 [a0, a1, a2, a3] [.inl x] (sh, I, R) = some (some (.inl x), (sh, I, R)) := (ev_eq f_189_16).trans fin_iret0
theorem f_189_17 : fetch 189 17 = some (17, .aload_n 0, 1, [0], 0) := (fm_189 17).trans rfl
theorem u_189_17 {S : Scr} {d : Nat} {a1 a2 a3 : AV} {st : List AV} {sh : Shp} {I : IM} {R : RM} {x : Nat} : ev S d 189 17 [.inr (.inl x), a1, a2, a3] st (sh, I, R) = ev S d 189 18 [.inr (.inl x), a1, a2, a3] (.inr (.inl x) :: st) (sh, I, R) := (ev_eq f_189_17).trans rfl
theorem f_189_18 : fetch 189 18 = some (18, .getfield 22, 3, [9, 5, 1, 83], 0) := (fm_189 18).trans rfl
theorem u_189_18 {S : Scr} {d : Nat} {a0 a1 a2 a3 : AV} {st : List AV} {sh : Shp} {I : IM} {R : RM} {k : Nat} (h : tg sh k = 9) : ev S d 189 18 [a0, a1, a2, a3] (.inr (.inl k) :: st) (sh, I, R) = ev S d 189 21 [a0, a1, a2, a3] (rv (R k 5) :: st) (sh, I, R) := (ev_eq f_189_18).trans (congrArg (fin S d 189) (if_pos h))
theorem f_189_21 : fetch 189 21 = some (21, .iload_n 1, 1, [1], 0) := (fm_189 21).trans rfl
theorem u_189_21 {S : Scr} {d : Nat} {a0 a2 a3 : AV} {st : List AV} {sh : Shp} {I : IM} {R : RM} {x : Int} : ev S d 189 21 [a0, .inl x, a2, a3] st (sh, I, R) = ev S d 189 22 [a0, .inl x, a2, a3] (.inl x :: st) (sh, I, R) := (ev_eq f_189_21).trans rfl
theorem f_189_22 : fetch 189 22 = some (22, .iaload, 1, [], 0) := (fm_189 22).trans rfl
theorem u_189_22 {S : Scr} {d : Nat} {a0 a1 a2 a3 : AV} {st : List AV} {sh : Shp} {I : IM} {R : RM} {k : Nat} {i : Int} (h : tg sh k = 100) (h0 : 0 ≤ i) (h1 : i < ln sh k) : ev S d 189 22 [a0, a1, a2, a3] (.inl i :: .inr (.inl k) :: st) (sh, I, R) = ev S d 189 23 [a0, a1, a2, a3] (.inl (I k i) :: st) (sh, I, R) := (ev_eq f_189_22).trans (congrArg (fin S d 189) (if_pos ⟨h, h0, h1⟩))
theorem f_189_23 : fetch 189 23 = some (23, .ifCond .ge 6, 3, [29], 0) := (fm_189 23).trans rfl
theorem u_189_23 {S : Scr} {d : Nat} {a0 a1 a2 a3 : AV} {st : List AV} {sh : Shp} {I : IM} {R : RM} {x : Int} : ev S d 189 23 [a0, a1, a2, a3] (.inl x :: st) (sh, I, R) = if 0 ≤ x then ev S d 189 29 [a0, a1, a2, a3] st (sh, I, R) else ev S d 189 26 [a0, a1, a2, a3] st (sh, I, R) := (ev_eq f_189_23).trans fin_if_ge
theorem f_189_26 : fetch 189 26 = some (26, .bipush (-11), 2, [], (-11)) := (fm_189 26).trans rfl
theorem u_189_26 {S : Scr} {d : Nat} {a0 a1 a2 a3 : AV} {st : List AV} {sh : Shp} {I : IM} {R : RM} : ev S d 189 26 [a0, a1, a2, a3] st (sh, I, R) = ev S d 189 28 [a0, a1, a2, a3] (.inl (-11) :: st) (sh, I, R) := (ev_eq f_189_26).trans rfl
theorem f_189_28 : fetch 189 28 = some (28, .ireturn, 1, [0], 0) := (fm_189 28).trans rfl
theorem u_189_28 {S : Scr} {d : Nat} {a0 a1 a2 a3 : AV} {sh : Shp} {I : IM} {R : RM} {x : Int} : ev S d 189 28 [a0, a1, a2, a3] [.inl x] (sh, I, R) = some (some (.inl x), (sh, I, R)) := (ev_eq f_189_28).trans fin_iret0
theorem f_189_29 : fetch 189 29 = some (29, .aload_n 0, 1, [0], 0) := (fm_189 29).trans rfl
theorem u_189_29 {S : Scr} {d : Nat} {a1 a2 a3 : AV} {st : List AV} {sh : Shp} {I : IM} {R : RM} {x : Nat} : ev S d 189 29 [.inr (.inl x), a1, a2, a3] st (sh, I, R) = ev S d 189 30 [.inr (.inl x), a1, a2, a3] (.inr (.inl x) :: st) (sh, I, R) := (ev_eq f_189_29).trans rfl
theorem f_189_30 : fetch 189 30 = some (30, .iload_n 2, 1, [2], 0) := (fm_189 30).trans rfl
theorem u_189_30 {S : Scr} {d : Nat} {a0 a1 a3 : AV} {st : List AV} {sh : Shp} {I : IM} {R : RM} {x : Int} : ev S d 189 30 [a0, a1, .inl x, a3] st (sh, I, R) = ev S d 189 31 [a0, a1, .inl x, a3] (.inl x :: st) (sh, I, R) := (ev_eq f_189_30).trans rfl
theorem f_189_31 : fetch 189 31 = some (31, .invokevirtual 173, 3, [176, 1, 154], 0) := (fm_189 31).trans rfl
theorem u_189_31 {S : Scr} {d : Nat} {a0 a1 a2 a3 : AV} {st : List AV} {sh : Shp} {I : IM} {R : RM} {x0 : Int} {k : Nat} (h : tg sh k = 9) (hr : st.length ≤ 8) : ev S d 189 31 [a0, a1, a2, a3] (.inl x0 :: .inr (.inl k) :: st) (sh, I, R) = bnd (cl d 176 [.inr (.inl k), .inl x0] (sh, I, R)) (fun v M => ev S d 189 34 [a0, a1, a2, a3] (psh v st) M) := (ev_eq f_189_31).trans (congrArg (fin S d 189) (if_pos ⟨h, rfl, hr⟩))
theorem f_189_34 : fetch 189 34 = some (34, .ifCond .ne 6, 3, [40], 0) := (fm_189 34).trans rfl
theorem u_189_34 {S : Scr} {d : Nat} {a0 a1 a2 a3 : AV} {st : List AV} {sh : Shp} {I : IM} {R : RM} {x : Int} : ev S d 189 34 [a0, a1, a2, a3] (.inl x :: st) (sh, I, R) = if ¬ x = 0 then ev S d 189 40 [a0, a1, a2, a3] st (sh, I, R) else ev S d 189 37 [a0, a1, a2, a3] st (sh, I, R) := (ev_eq f_189_34).trans fin_if_ne
theorem f_189_37 : fetch 189 37 = some (37, .bipush (-3), 2, [], (-3)) := (fm_189 37).trans rfl
theorem u_189_37 {S : Scr} {d : Nat} {a0 a1 a2 a3 : AV} {st : List AV} {sh : Shp} {I : IM} {R : RM} : ev S d 189 37 [a0, a1, a2, a3] st (sh, I, R) = ev S d 189 39 [a0, a1, a2, a3] (.inl (-3) :: st) (sh, I, R) := (ev_eq f_189_37).trans rfl
theorem f_189_39 : fetch 189 39 = some (39, .ireturn, 1, [0], 0) := (fm_189 39).trans rfl
theorem u_189_39 {S : Scr} {d : Nat} {a0 a1 a2 a3 : AV} {sh : Shp} {I : IM} {R : RM} {x : Int} : ev S d 189 39 [a0, a1, a2, a3] [.inl x] (sh, I, R) = some (some (.inl x), (sh, I, R)) := (ev_eq f_189_39).trans fin_iret0
theorem f_189_40 : fetch 189 40 = some (40, .iconst 0, 1, [], 0) := (fm_189 40).trans rfl
theorem u_189_40 {S : Scr} {d : Nat} {a0 a1 a2 a3 : AV} {st : List AV} {sh : Shp} {I : IM} {R : RM} : ev S d 189 40 [a0, a1, a2, a3] st (sh, I, R) = ev S d 189 41 [a0, a1, a2, a3] (.inl 0 :: st) (sh, I, R) := (ev_eq f_189_40).trans rfl
theorem f_189_41 : fetch 189 41 = some (41, .istore_n 3, 1, [3], 0) := (fm_189 41).trans rfl
theorem u_189_41 {S : Scr} {d : Nat} {a0 a1 a2 a3 : AV} {st : List AV} {sh : Shp} {I : IM} {R : RM} {x : Int} : ev S d 189 41 [a0, a1, a2, a3] (.inl x :: st) (sh, I, R) = ev S d 189 42 [a0, a1, a2, .inl x] st (sh, I, R) := (ev_eq f_189_41).trans rfl
theorem f_189_42 : fetch 189 42 = some (42, .iload_n 3, 1, [3], 0) := (fm_189 42).trans rfl
theorem u_189_42 {S : Scr} {d : Nat} {a0 a1 a2 : AV} {st : List AV} {sh : Shp} {I : IM} {R : RM} {x : Int} : ev S d 189 42 [a0, a1, a2, .inl x] st (sh, I, R) = ev S d 189 43 [a0, a1, a2, .inl x] (.inl x :: st) (sh, I, R) := (ev_eq f_189_42).trans rfl
theorem f_189_43 : fetch 189 43 = some (43, .aload_n 0, 1, [0], 0) := (fm_189 43).trans rfl
theorem u_189_43 {S : Scr} {d : Nat} {a1 a2 a3 : AV} {st : List AV} {sh : Shp} {I : IM} {R : RM} {x : Nat} : ev S d 189 43 [.inr (.inl x), a1, a2, a3] st (sh, I, R) = ev S d 189 44 [.inr (.inl x), a1, a2, a3] (.inr (.inl x) :: st) (sh, I, R) := (ev_eq f_189_43).trans rfl
theorem f_189_44 : fetch 189 44 = some (44, .getfield 22, 3, [9, 5, 1, 83], 0) := (fm_189 44).trans rfl
theorem u_189_44 {S : Scr} {d : Nat} {a0 a1 a2 a3 : AV} {st : List AV} {sh : Shp} {I : IM} {R : RM} {k : Nat} (h : tg sh k = 9) : ev S d 189 44 [a0, a1, a2, a3] (.inr (.inl k) :: st) (sh, I, R) = ev S d 189 47 [a0, a1, a2, a3] (rv (R k 5) :: st) (sh, I, R) := (ev_eq f_189_44).trans (congrArg (fin S d 189) (if_pos h))
theorem f_189_47 : fetch 189 47 = some (47, .iload_n 1, 1, [1], 0) := (fm_189 47).trans rfl
theorem u_189_47 {S : Scr} {d : Nat} {a0 a2 a3 : AV} {st : List AV} {sh : Shp} {I : IM} {R : RM} {x : Int} : ev S d 189 47 [a0, .inl x, a2, a3] st (sh, I, R) = ev S d 189 48 [a0, .inl x, a2, a3] (.inl x :: st) (sh, I, R) := (ev_eq f_189_47).trans rfl
theorem f_189_48 : fetch 189 48 = some (48, .iaload, 1, [], 0) := (fm_189 48).trans rfl
theorem u_189_48 {S : Scr} {d : Nat} {a0 a1 a2 a3 : AV} {st : List AV} {sh : Shp} {I : IM} {R : RM} {k : Nat} {i : Int} (h : tg sh k = 100) (h0 : 0 ≤ i) (h1 : i < ln sh k) : ev S d 189 48 [a0, a1, a2, a3] (.inl i :: .inr (.inl k) :: st) (sh, I, R) = ev S d 189 49 [a0, a1, a2, a3] (.inl (I k i) :: st) (sh, I, R) := (ev_eq f_189_48).trans (congrArg (fin S d 189) (if_pos ⟨h, h0, h1⟩))
theorem f_189_49 : fetch 189 49 = some (49, .if_icmp .ge 40, 3, [89], 0) := (fm_189 49).trans rfl
theorem u_189_49 {S : Scr} {d : Nat} {a0 a1 a2 a3 : AV} {st : List AV} {sh : Shp} {I : IM} {R : RM} {x y : Int} : ev S d 189 49 [a0, a1, a2, a3] (.inl y :: .inl x :: st) (sh, I, R) = if y ≤ x then ev S d 189 89 [a0, a1, a2, a3] st (sh, I, R) else ev S d 189 52 [a0, a1, a2, a3] st (sh, I, R) := (ev_eq f_189_49).trans fin_icmp_ge
theorem f_189_52 : fetch 189 52 = some (52, .iload_n 3, 1, [3], 0) := (fm_189 52).trans rfl
theorem u_189_52 {S : Scr} {d : Nat} {a0 a1 a2 : AV} {st : List AV} {sh : Shp} {I : IM} {R : RM} {x : Int} : ev S d 189 52 [a0, a1, a2, .inl x] st (sh, I, R) = ev S d 189 53 [a0, a1, a2, .inl x] (.inl x :: st) (sh, I, R) := (ev_eq f_189_52).trans rfl
theorem f_189_53 : fetch 189 53 = some (53, .aload_n 0, 1, [0], 0) := (fm_189 53).trans rfl
theorem u_189_53 {S : Scr} {d : Nat} {a1 a2 a3 : AV} {st : List AV} {sh : Shp} {I : IM} {R : RM} {x : Nat} : ev S d 189 53 [.inr (.inl x), a1, a2, a3] st (sh, I, R) = ev S d 189 54 [.inr (.inl x), a1, a2, a3] (.inr (.inl x) :: st) (sh, I, R) := (ev_eq f_189_53).trans rfl
theorem f_189_54 : fetch 189 54 = some (54, .getfield 156, 3, [9, 12, 0, 98], 0) := (fm_189 54).trans rfl
theorem u_189_54 {S : Scr} {d : Nat} {a0 a1 a2 a3 : AV} {st : List AV} {sh : Shp} {I : IM} {R : RM} {k : Nat} (h : tg sh k = 9) : ev S d 189 54 [a0, a1, a2, a3] (.inr (.inl k) :: st) (sh, I, R) = ev S d 189 57 [a0, a1, a2, a3] (.inl (I k 12) :: st) (sh, I, R) := (ev_eq f_189_54).trans (congrArg (fin S d 189) (if_pos h))
theorem f_189_57 : fetch 189 57 = some (57, .if_icmp .ge 24, 3, [81], 0) := (fm_189 57).trans rfl
theorem u_189_57 {S : Scr} {d : Nat} {a0 a1 a2 a3 : AV} {st : List AV} {sh : Shp} {I : IM} {R : RM} {x y : Int} : ev S d 189 57 [a0, a1, a2, a3] (.inl y :: .inl x :: st) (sh, I, R) = if y ≤ x then ev S d 189 81 [a0, a1, a2, a3] st (sh, I, R) else ev S d 189 60 [a0, a1, a2, a3] st (sh, I, R) := (ev_eq f_189_57).trans fin_icmp_ge
theorem f_189_60 : fetch 189 60 = some (60, .aload_n 0, 1, [0], 0) := (fm_189 60).trans rfl
theorem u_189_60 {S : Scr} {d : Nat} {a1 a2 a3 : AV} {st : List AV} {sh : Shp} {I : IM} {R : RM} {x : Nat} : ev S d 189 60 [.inr (.inl x), a1, a2, a3] st (sh, I, R) = ev S d 189 61 [.inr (.inl x), a1, a2, a3] (.inr (.inl x) :: st) (sh, I, R) := (ev_eq f_189_60).trans rfl
theorem f_189_61 : fetch 189 61 = some (61, .getfield 37, 3, [9, 11, 1, 88], 0) := (fm_189 61).trans rfl
theorem u_189_61 {S : Scr} {d : Nat} {a0 a1 a2 a3 : AV} {st : List AV} {sh : Shp} {I : IM} {R : RM} {k : Nat} (h : tg sh k = 9) : ev S d 189 61 [a0, a1, a2, a3] (.inr (.inl k) :: st) (sh, I, R) = ev S d 189 64 [a0, a1, a2, a3] (rv (R k 11) :: st) (sh, I, R) := (ev_eq f_189_61).trans (congrArg (fin S d 189) (if_pos h))
theorem f_189_64 : fetch 189 64 = some (64, .iload_n 3, 1, [3], 0) := (fm_189 64).trans rfl
theorem u_189_64 {S : Scr} {d : Nat} {a0 a1 a2 : AV} {st : List AV} {sh : Shp} {I : IM} {R : RM} {x : Int} : ev S d 189 64 [a0, a1, a2, .inl x] st (sh, I, R) = ev S d 189 65 [a0, a1, a2, .inl x] (.inl x :: st) (sh, I, R) := (ev_eq f_189_64).trans rfl
theorem f_189_65 : fetch 189 65 = some (65, .iaload, 1, [], 0) := (fm_189 65).trans rfl
theorem u_189_65 {S : Scr} {d : Nat} {a0 a1 a2 a3 : AV} {st : List AV} {sh : Shp} {I : IM} {R : RM} {k : Nat} {i : Int} (h : tg sh k = 100) (h0 : 0 ≤ i) (h1 : i < ln sh k) : ev S d 189 65 [a0, a1, a2, a3] (.inl i :: .inr (.inl k) :: st) (sh, I, R) = ev S d 189 66 [a0, a1, a2, a3] (.inl (I k i) :: st) (sh, I, R) := (ev_eq f_189_65).trans (congrArg (fin S d 189) (if_pos ⟨h, h0, h1⟩))
theorem f_189_66 : fetch 189 66 = some (66, .aload_n 0, 1, [0], 0) := (fm_189 66).trans rfl
theorem u_189_66 {S : Scr} {d : Nat} {a1 a2 a3 : AV} {st : List AV} {sh : Shp} {I : IM} {R : RM} {x : Nat} : ev S d 189 66 [.inr (.inl x), a1, a2, a3] st (sh, I, R) = ev S d 189 67 [.inr (.inl x), a1, a2, a3] (.inr (.inl x) :: st) (sh, I, R) := (ev_eq f_189_66).trans rfl
theorem f_189_67 : fetch 189 67 = some (67, .getfield 25, 3, [9, 6, 1, 84], 0) := (fm_189 67).trans rfl
theorem u_189_67 {S : Scr} {d : Nat} {a0 a1 a2 a3 : AV} {st : List AV} {sh : Shp} {I : IM} {R : RM} {k : Nat} (h : tg sh k = 9) : ev S d 189 67 [a0, a1, a2, a3] (.inr (.inl k) :: st) (sh, I, R) = ev S d 189 70 [a0, a1, a2, a3] (rv (R k 6) :: st) (sh, I, R) := (ev_eq f_189_67).trans (congrArg (fin S d 189) (if_pos h))
theorem f_189_70 : fetch 189 70 = some (70, .sipush 200, 3, [], 200) := (fm_189 70).trans rfl
theorem u_189_70 {S : Scr} {d : Nat} {a0 a1 a2 a3 : AV} {st : List AV} {sh : Shp} {I : IM} {R : RM} : ev S d 189 70 [a0, a1, a2, a3] st (sh, I, R) = ev S d 189 73 [a0, a1, a2, a3] (.inl 200 :: st) (sh, I, R) := (ev_eq f_189_70).trans rfl
theorem f_189_73 : fetch 189 73 = some (73, .iload_n 1, 1, [1], 0) := (fm_189 73).trans rfl
theorem u_189_73 {S : Scr} {d : Nat} {a0 a2 a3 : AV} {st : List AV} {sh : Shp} {I : IM} {R : RM} {x : Int} : ev S d 189 73 [a0, .inl x, a2, a3] st (sh, I, R) = ev S d 189 74 [a0, .inl x, a2, a3] (.inl x :: st) (sh, I, R) := (ev_eq f_189_73).trans rfl
theorem f_189_74 : fetch 189 74 = some (74, .imul, 1, [], 0) := (fm_189 74).trans rfl
theorem u_189_74 {S : Scr} {d : Nat} {a0 a1 a2 a3 : AV} {st : List AV} {sh : Shp} {I : IM} {R : RM} {x y : Int} : ev S d 189 74 [a0, a1, a2, a3] (.inl y :: .inl x :: st) (sh, I, R) = ev S d 189 75 [a0, a1, a2, a3] (.inl (wr (x * y)) :: st) (sh, I, R) := (ev_eq f_189_74).trans rfl
theorem f_189_75 : fetch 189 75 = some (75, .iload_n 3, 1, [3], 0) := (fm_189 75).trans rfl
theorem u_189_75 {S : Scr} {d : Nat} {a0 a1 a2 : AV} {st : List AV} {sh : Shp} {I : IM} {R : RM} {x : Int} : ev S d 189 75 [a0, a1, a2, .inl x] st (sh, I, R) = ev S d 189 76 [a0, a1, a2, .inl x] (.inl x :: st) (sh, I, R) := (ev_eq f_189_75).trans rfl
theorem f_189_76 : fetch 189 76 = some (76, .iadd, 1, [], 0) := (fm_189 76).trans rfl
theorem u_189_76 {S : Scr} {d : Nat} {a0 a1 a2 a3 : AV} {st : List AV} {sh : Shp} {I : IM} {R : RM} {x y : Int} : ev S d 189 76 [a0, a1, a2, a3] (.inl y :: .inl x :: st) (sh, I, R) = ev S d 189 77 [a0, a1, a2, a3] (.inl (wr (x + y)) :: st) (sh, I, R) := (ev_eq f_189_76).trans rfl
theorem f_189_77 : fetch 189 77 = some (77, .iaload, 1, [], 0) := (fm_189 77).trans rfl
theorem u_189_77 {S : Scr} {d : Nat} {a0 a1 a2 a3 : AV} {st : List AV} {sh : Shp} {I : IM} {R : RM} {k : Nat} {i : Int} (h : tg sh k = 100) (h0 : 0 ≤ i) (h1 : i < ln sh k) : ev S d 189 77 [a0, a1, a2, a3] (.inl i :: .inr (.inl k) :: st) (sh, I, R) = ev S d 189 78 [a0, a1, a2, a3] (.inl (I k i) :: st) (sh, I, R) := (ev_eq f_189_77).trans (congrArg (fin S d 189) (if_pos ⟨h, h0, h1⟩))
theorem f_189_78 : fetch 189 78 = some (78, .if_icmp .eq 5, 3, [83], 0) := (fm_189 78).trans rfl
theorem u_189_78 {S : Scr} {d : Nat} {a0 a1 a2 a3 : AV} {st : List AV} {sh : Shp} {I : IM} {R : RM} {x y : Int} : ev S d 189 78 [a0, a1, a2, a3] (.inl y :: .inl x :: st) (sh, I, R) = if x = y then ev S d 189 83 [a0, a1, a2, a3] st (sh, I, R) else ev S d 189 81 [a0, a1, a2, a3] st (sh, I, R) := (ev_eq f_189_78).trans fin_icmp_eq
theorem f_189_81 : fetch 189 81 = some (81, .iload_n 3, 1, [3], 0) := (fm_189 81).trans rfl
theorem u_189_81 {S : Scr} {d : Nat} {a0 a1 a2 : AV} {st : List AV} {sh : Shp} {I : IM} {R : RM} {x : Int} : ev S d 189 81 [a0, a1, a2, .inl x] st (sh, I, R) = ev S d 189 82 [a0, a1, a2, .inl x] (.inl x :: st) (sh, I, R) := (ev_eq f_189_81).trans rfl
theorem f_189_82 : fetch 189 82 = some (82, .ireturn, 1, [0], 0) := (fm_189 82).trans rfl
theorem u_189_82 {S : Scr} {d : Nat} {a0 a1 a2 a3 : AV} {sh : Shp} {I : IM} {R : RM} {x : Int} : ev S d 189 82 [a0, a1, a2, a3] [.inl x] (sh, I, R) = some (some (.inl x), (sh, I, R)) := (ev_eq f_189_82).trans fin_iret0
theorem f_189_83 : fetch 189 83 = some (83, .iinc 3 1, 3, [3], 1) := (fm_189 83).trans rfl
theorem u_189_83 {S : Scr} {d : Nat} {a0 a1 a2 : AV} {st : List AV} {sh : Shp} {I : IM} {R : RM} {x : Int} : ev S d 189 83 [a0, a1, a2, .inl x] st (sh, I, R) = ev S d 189 86 [a0, a1, a2, .inl (wr (x + 1))] st (sh, I, R) := (ev_eq f_189_83).trans rfl
theorem f_189_86 : fetch 189 86 = some (86, .goto (-44), 3, [42], 0) := (fm_189 86).trans rfl
theorem u_189_86 {S : Scr} {d : Nat} {a0 a1 a2 a3 : AV} {st : List AV} {sh : Shp} {I : IM} {R : RM} : ev S d 189 86 [a0, a1, a2, a3] st (sh, I, R) = ev S d 189 42 [a0, a1, a2, a3] st (sh, I, R) := (ev_eq f_189_86).trans rfl
theorem f_189_89 : fetch 189 89 = some (89, .aload_n 0, 1, [0], 0) := (fm_189 89).trans rfl
theorem u_189_89 {S : Scr} {d : Nat} {a1 a2 a3 : AV} {st : List AV} {sh : Shp} {I : IM} {R : RM} {x : Nat} : ev S d 189 89 [.inr (.inl x), a1, a2, a3] st (sh, I, R) = ev S d 189 90 [.inr (.inl x), a1, a2, a3] (.inr (.inl x) :: st) (sh, I, R) := (ev_eq f_189_89).trans rfl
theorem f_189_90 : fetch 189 90 = some (90, .getfield 156, 3, [9, 12, 0, 98], 0) := (fm_189 90).trans rfl
theorem u_189_90 {S : Scr} {d : Nat} {a0 a1 a2 a3 : AV} {st : List AV} {sh : Shp} {I : IM} {R : RM} {k : Nat} (h : tg sh k = 9) : ev S d 189 90 [a0, a1, a2, a3] (.inr (.inl k) :: st) (sh, I, R) = ev S d 189 93 [a0, a1, a2, a3] (.inl (I k 12) :: st) (sh, I, R) := (ev_eq f_189_90).trans (congrArg (fin S d 189) (if_pos h))
theorem f_189_93 : fetch 189 93 = some (93, .aload_n 0, 1, [0], 0) := (fm_189 93).trans rfl
theorem u_189_93 {S : Scr} {d : Nat} {a1 a2 a3 : AV} {st : List AV} {sh : Shp} {I : IM} {R : RM} {x : Nat} : ev S d 189 93 [.inr (.inl x), a1, a2, a3] st (sh, I, R) = ev S d 189 94 [.inr (.inl x), a1, a2, a3] (.inr (.inl x) :: st) (sh, I, R) := (ev_eq f_189_93).trans rfl
theorem f_189_94 : fetch 189 94 = some (94, .getfield 22, 3, [9, 5, 1, 83], 0) := (fm_189 94).trans rfl
theorem u_189_94 {S : Scr} {d : Nat} {a0 a1 a2 a3 : AV} {st : List AV} {sh : Shp} {I : IM} {R : RM} {k : Nat} (h : tg sh k = 9) : ev S d 189 94 [a0, a1, a2, a3] (.inr (.inl k) :: st) (sh, I, R) = ev S d 189 97 [a0, a1, a2, a3] (rv (R k 5) :: st) (sh, I, R) := (ev_eq f_189_94).trans (congrArg (fin S d 189) (if_pos h))
theorem f_189_97 : fetch 189 97 = some (97, .iload_n 1, 1, [1], 0) := (fm_189 97).trans rfl
theorem u_189_97 {S : Scr} {d : Nat} {a0 a2 a3 : AV} {st : List AV} {sh : Shp} {I : IM} {R : RM} {x : Int} : ev S d 189 97 [a0, .inl x, a2, a3] st (sh, I, R) = ev S d 189 98 [a0, .inl x, a2, a3] (.inl x :: st) (sh, I, R) := (ev_eq f_189_97).trans rfl
theorem f_189_98 : fetch 189 98 = some (98, .iaload, 1, [], 0) := (fm_189 98).trans rfl
theorem u_189_98 {S : Scr} {d : Nat} {a0 a1 a2 a3 : AV} {st : List AV} {sh : Shp} {I : IM} {R : RM} {k : Nat} {i : Int} (h : tg sh k = 100) (h0 : 0 ≤ i) (h1 : i < ln sh k) : ev S d 189 98 [a0, a1, a2, a3] (.inl i :: .inr (.inl k) :: st) (sh, I, R) = ev S d 189 99 [a0, a1, a2, a3] (.inl (I k i) :: st) (sh, I, R) := (ev_eq f_189_98).trans (congrArg (fin S d 189) (if_pos ⟨h, h0, h1⟩))
theorem f_189_99 : fetch 189 99 = some (99, .if_icmp .le 12, 3, [111], 0) := (fm_189 99).trans rfl
theorem u_189_99 {S : Scr} {d : Nat} {a0 a1 a2 a3 : AV} {st : List AV} {sh : Shp} {I : IM} {R : RM} {x y : Int} : ev S d 189 99 [a0, a1, a2, a3] (.inl y :: .inl x :: st) (sh, I, R) = if x ≤ y then ev S d 189 111 [a0, a1, a2, a3] st (sh, I, R) else ev S d 189 102 [a0, a1, a2, a3] st (sh, I, R) := (ev_eq f_189_99).trans fin_icmp_le
theorem f_189_102 : fetch 189 102 = some (102, .aload_n 0, 1, [0], 0) := (fm_189 102).trans rfl
theorem u_189_102 {S : Scr} {d : Nat} {a1 a2 a3 : AV} {st : List AV} {sh : Shp} {I : IM} {R : RM} {x : Nat} : ev S d 189 102 [.inr (.inl x), a1, a2, a3] st (sh, I, R) = ev S d 189 103 [.inr (.inl x), a1, a2, a3] (.inr (.inl x) :: st) (sh, I, R) := (ev_eq f_189_102).trans rfl
theorem f_189_103 : fetch 189 103 = some (103, .getfield 22, 3, [9, 5, 1, 83], 0) := (fm_189 103).trans rfl
theorem u_189_103 {S : Scr} {d : Nat} {a0 a1 a2 a3 : AV} {st : List AV} {sh : Shp} {I : IM} {R : RM} {k : Nat} (h : tg sh k = 9) : ev S d 189 103 [a0, a1, a2, a3] (.inr (.inl k) :: st) (sh, I, R) = ev S d 189 106 [a0, a1, a2, a3] (rv (R k 5) :: st) (sh, I, R) := (ev_eq f_189_103).trans (congrArg (fin S d 189) (if_pos h))
theorem f_189_106 : fetch 189 106 = some (106, .iload_n 1, 1, [1], 0) := (fm_189 106).trans rfl
theorem u_189_106 {S : Scr} {d : Nat} {a0 a2 a3 : AV} {st : List AV} {sh : Shp} {I : IM} {R : RM} {x : Int} : ev S d 189 106 [a0, .inl x, a2, a3] st (sh, I, R) = ev S d 189 107 [a0, .inl x, a2, a3] (.inl x :: st) (sh, I, R) := (ev_eq f_189_106).trans rfl
theorem f_189_107 : fetch 189 107 = some (107, .iaload, 1, [], 0) := (fm_189 107).trans rfl
theorem u_189_107 {S : Scr} {d : Nat} {a0 a1 a2 a3 : AV} {st : List AV} {sh : Shp} {I : IM} {R : RM} {k : Nat} {i : Int} (h : tg sh k = 100) (h0 : 0 ≤ i) (h1 : i < ln sh k) : ev S d 189 107 [a0, a1, a2, a3] (.inl i :: .inr (.inl k) :: st) (sh, I, R) = ev S d 189 108 [a0, a1, a2, a3] (.inl (I k i) :: st) (sh, I, R) := (ev_eq f_189_107).trans (congrArg (fin S d 189) (if_pos ⟨h, h0, h1⟩))
theorem f_189_108 : fetch 189 108 = some (108, .goto 5, 3, [113], 0) := (fm_189 108).trans rfl
theorem u_189_108 {S : Scr} {d : Nat} {a0 a1 a2 a3 : AV} {st : List AV} {sh : Shp} {I : IM} {R : RM} : ev S d 189 108 [a0, a1, a2, a3] st (sh, I, R) = ev S d 189 113 [a0, a1, a2, a3] st (sh, I, R) := (ev_eq f_189_108).trans rfl
theorem f_189_111 : fetch 189 111 = some (111, .bipush (-2), 2, [], (-2)) := (fm_189 111).trans rfl
theorem u_189_111 {S : Scr} {d : Nat} {a0 a1 a2 a3 : AV} {st : List AV} {sh : Shp} {I : IM} {R : RM} : ev S d 189 111 [a0, a1, a2, a3] st (sh, I, R) = ev S d 189 113 [a0, a1, a2, a3] (.inl (-2) :: st) (sh, I, R) := (ev_eq f_189_111).trans rfl
theorem f_189_113 : fetch 189 113 = some (113, .ireturn, 1, [0], 0) := (fm_189 113).trans rfl
theorem u_189_113 {S : Scr} {d : Nat} {a0 a1 a2 a3 : AV} {sh : Shp} {I : IM} {R : RM} {x : Int} : ev S d 189 113 [a0, a1, a2, a3] [.inl x] (sh, I, R) = some (some (.inl x), (sh, I, R)) := (ev_eq f_189_113).trans fin_iret0
theorem c_190 {d : Nat} {a0 a1 : AV} {M : Mem} : cl (d + 1) 190 [a0, a1] M = ev S0 d 190 0 [a0, a1, .inr (.inr 1), .inr (.inr 1)] [] M := (cl_eq (as := [a0, a1]) (show 2 ≤ maxOf 190 by decide +kernel)).trans rfl
theorem mt_190 : MT[190]? = some m_190 := rfl
theorem fm_190 (pc : Nat) : fetch 190 pc = lk m_190.2.2.2.2.2 pc := by
  unfold fetch
  rw [mt_190]
theorem f_190_0 : fetch 190 0 = some (0, .iconst 0, 1, [], 0) := (fm_190 0).trans rfl
theorem u_190_0 {S : Scr} {d : Nat} {a0 a1 a2 a3 : AV} {st : List AV} {sh : Shp} {I : IM} {R : RM} : ev S d 190 0 [a0, a1, a2, a3] st (sh, I, R) = ev S d 190 1 [a0, a1, a2, a3] (.inl 0 :: st) (sh, I, R) := (ev_eq f_190_0).trans rfl
theorem f_190_1 : fetch 190 1 = some (1, .istore_n 2, 1, [2], 0) := (fm_190 1).trans rfl
theorem u_190_1 {S : Scr} {d : Nat} {a0 a1 a2 a3 : AV} {st : List AV} {sh : Shp} {I : IM} {R : RM} {x : Int} : ev S d 190 1 [a0, a1, a2, a3] (.inl x :: st) (sh, I, R) = ev S d 190 2 [a0, a1, .inl x, a3] st (sh, I, R) := (ev_eq f_190_1).trans rfl
theorem f_190_2 : fetch 190 2 = some (2, .iconst 0, 1, [], 0) := (fm_190 2).trans rfl
theorem u_190_2 {S : Scr} {d : Nat} {a0 a1 a2 a3 : AV} {st : List AV} {sh : Shp} {I : IM} {R : RM} : ev S d 190 2 [a0, a1, a2, a3] st (sh, I, R) = ev S d 190 3 [a0, a1, a2, a3] (.inl 0 :: st) (sh, I, R) := (ev_eq f_190_2).trans rfl
theorem f_190_3 : fetch 190 3 = some (3, .istore_n 3, 1, [3], 0) := (fm_190 3).trans rfl
theorem u_190_3 {S : Scr} {d : Nat} {a0 a1 a2 a3 : AV} {st : List AV} {sh : Shp} {I : IM} {R : RM} {x : Int} : ev S d 190 3 [a0, a1, a2, a3] (.inl x :: st) (sh, I, R) = ev S d 190 4 [a0, a1, a2, .inl x] st (sh, I, R) := (ev_eq f_190_3).trans rfl
theorem f_190_4 : fetch 190 4 = some (4, .iload_n 3, 1, [3], 0) := (fm_190 4).trans rfl
theorem u_190_4 {S : Scr} {d : Nat} {a0 a1 a2 : AV} {st : List AV} {sh : Shp} {I : IM} {R : RM} {x : Int} : ev S d 190 4 [a0, a1, a2, .inl x] st (sh, I, R) = ev S d 190 5 [a0, a1, a2, .inl x] (.inl x :: st) (sh, I, R) := (ev_eq f_190_4).trans rfl
theorem f_190_5 : fetch 190 5 = some (5, .aload_n 0, 1, [0], 0) := (fm_190 5).trans rfl
theorem u_190_5 {S : Scr} {d : Nat} {a1 a2 a3 : AV} {st : List AV} {sh : Shp} {I : IM} {R : RM} {x : Nat} : ev S d 190 5 [.inr (.inl x), a1, a2, a3] st (sh, I, R) = ev S d 190 6 [.inr (.inl x), a1, a2, a3] (.inr (.inl x) :: st) (sh, I, R) := (ev_eq f_190_5).trans rfl
theorem f_190_6 : fetch 190 6 = some (6, .getfield 9, 3, [9, 0, 1, 79], 0) := (fm_190 6).trans rfl
theorem u_190_6 {S : Scr} {d : Nat} {a0 a1 a2 a3 : AV} {st : List AV} {sh : Shp} {I : IM} {R : RM} {k : Nat} (h : tg sh k = 9) : ev S d 190 6 [a0, a1, a2, a3] (.inr (.inl k) :: st) (sh, I, R) = ev S d 190 9 [a0, a1, a2, a3] (rv (R k 0) :: st) (sh, I, R) := (ev_eq f_190_6).trans (congrArg (fin S d 190) (if_pos h))
theorem f_190_9 : fetch 190 9 = some (9, .bipush 60, 2, [], 60) := (fm_190 9).trans rfl
theorem u_190_9 {S : Scr} {d : Nat} {a0 a1 a2 a3 : AV} {st : List AV} {sh : Shp} {I : IM} {R : RM} : ev S d 190 9 [a0, a1, a2, a3] st (sh, I, R) = ev S d 190 11 [a0, a1, a2, a3] (.inl 60 :: st) (sh, I, R) := (ev_eq f_190_9).trans rfl
theorem f_190_11 : fetch 190 11 = some (11, .iload_n 1, 1, [1], 0) := (fm_190 11).trans rfl
theorem u_190_11 {S : Scr} {d : Nat} {a0 a2 a3 : AV} {st : List AV} {sh : Shp} {I : IM} {R : RM} {x : Int} : ev S d 190 11 [a0, .inl x, a2, a3] st (sh, I, R) = ev S d 190 12 [a0, .inl x, a2, a3] (.inl x :: st) (sh, I, R) := (ev_eq f_190_11).trans rfl
theorem f_190_12 : fetch 190 12 = some (12, .iadd, 1, [], 0) := (fm_190 12).trans rfl
theorem u_190_12 {S : Scr} {d : Nat} {a0 a1 a2 a3 : AV} {st : List AV} {sh : Shp} {I : IM} {R : RM} {x y : Int} : ev S d 190 12 [a0, a1, a2, a3] (.inl y :: .inl x :: st) (sh, I, R) = ev S d 190 13 [a0, a1, a2, a3] (.inl (wr (x + y)) :: st) (sh, I, R) := (ev_eq f_190_12).trans rfl
theorem f_190_13 : fetch 190 13 = some (13, .iaload, 1, [], 0) := (fm_190 13).trans rfl
theorem u_190_13 {S : Scr} {d : Nat} {a0 a1 a2 a3 : AV} {st : List AV} {sh : Shp} {I : IM} {R : RM} {k : Nat} {i : Int} (h : tg sh k = 100) (h0 : 0 ≤ i) (h1 : i < ln sh k) : ev S d 190 13 [a0, a1, a2, a3] (.inl i :: .inr (.inl k) :: st) (sh, I, R) = ev S d 190 14 [a0, a1, a2, a3] (.inl (I k i) :: st) (sh, I, R) := (ev_eq f_190_13).trans (congrArg (fin S d 190) (if_pos ⟨h, h0, h1⟩))
theorem f_190_14 : fetch 190 14 = some (14, .if_icmp .ge 33, 3, [47], 0) := (fm_190 14).trans rfl
theorem u_190_14 {S : Scr} {d : Nat} {a0 a1 a2 a3 : AV} {st : List AV} {sh : Shp} {I : IM} {R : RM} {x y : Int} : ev S d 190 14 [a0, a1, a2, a3] (.inl y :: .inl x :: st) (sh, I, R) = if y ≤ x then ev S d 190 47 [a0, a1, a2, a3] st (sh, I, R) else ev S d 190 17 [a0, a1, a2, a3] st (sh, I, R) := (ev_eq f_190_14).trans fin_icmp_ge
theorem f_190_17 : fetch 190 17 = some (17, .iload_n 2, 1, [2], 0) := (fm_190 17).trans rfl
theorem u_190_17 {S : Scr} {d : Nat} {a0 a1 a3 : AV} {st : List AV} {sh : Shp} {I : IM} {R : RM} {x : Int} : ev S d 190 17 [a0, a1, .inl x, a3] st (sh, I, R) = ev S d 190 18 [a0, a1, .inl x, a3] (.inl x :: st) (sh, I, R) := (ev_eq f_190_17).trans rfl
theorem f_190_18 : fetch 190 18 = some (18, .aload_n 0, 1, [0], 0) := (fm_190 18).trans rfl
theorem u_190_18 {S : Scr} {d : Nat} {a1 a2 a3 : AV} {st : List AV} {sh : Shp} {I : IM} {R : RM} {x : Nat} : ev S d 190 18 [.inr (.inl x), a1, a2, a3] st (sh, I, R) = ev S d 190 19 [.inr (.inl x), a1, a2, a3] (.inr (.inl x) :: st) (sh, I, R) := (ev_eq f_190_18).trans rfl
theorem f_190_19 : fetch 190 19 = some (19, .iload_n 1, 1, [1], 0) := (fm_190 19).trans rfl
theorem u_190_19 {S : Scr} {d : Nat} {a0 a2 a3 : AV} {st : List AV} {sh : Shp} {I : IM} {R : RM} {x : Int} : ev S d 190 19 [a0, .inl x, a2, a3] st (sh, I, R) = ev S d 190 20 [a0, .inl x, a2, a3] (.inl x :: st) (sh, I, R) := (ev_eq f_190_19).trans rfl
theorem f_190_20 : fetch 190 20 = some (20, .iload_n 3, 1, [3], 0) := (fm_190 20).trans rfl
theorem u_190_20 {S : Scr} {d : Nat} {a0 a1 a2 : AV} {st : List AV} {sh : Shp} {I : IM} {R : RM} {x : Int} : ev S d 190 20 [a0, a1, a2, .inl x] st (sh, I, R) = ev S d 190 21 [a0, a1, a2, .inl x] (.inl x :: st) (sh, I, R) := (ev_eq f_190_20).trans rfl
theorem f_190_21 : fetch 190 21 = some (21, .invokevirtual 128, 3, [135, 2, 143], 0) := (fm_190 21).trans rfl
theorem u_190_21 {S : Scr} {d : Nat} {a0 a1 a2 a3 : AV} {st : List AV} {sh : Shp} {I : IM} {R : RM} {x0 : Int} {x1 : Int} {k : Nat} (h : tg sh k = 9) (hr : st.length ≤ 8) : ev S d 190 21 [a0, a1, a2, a3] (.inl x1 :: .inl x0 :: .inr (.inl k) :: st) (sh, I, R) = bnd (cl d 135 [.inr (.inl k), .inl x0, .inl x1] (sh, I, R)) (fun v M => ev S d 190 24 [a0, a1, a2, a3] (psh v st) M) := (ev_eq f_190_21).trans (congrArg (fin S d 190) (if_pos ⟨h, rfl, hr⟩))
theorem f_190_24 : fetch 190 24 = some (24, .ifCond .ge 7, 3, [31], 0) := (fm_190 24).trans rfl
theorem u_190_24 {S : Scr} {d : Nat} {a0 a1 a2 a3 : AV} {st : List AV} {sh : Shp} {I : IM} {R : RM} {x : Int} : ev S d 190 24 [a0, a1, a2, a3] (.inl x :: st) (sh, I, R) = if 0 ≤ x then ev S d 190 31 [a0, a1, a2, a3] st (sh, I, R) else ev S d 190 27 [a0, a1, a2, a3] st (sh, I, R) := (ev_eq f_190_24).trans fin_if_ge
theorem f_190_27 : fetch 190 27 = some (27, .iconst 0, 1, [], 0) := (fm_190 27).trans rfl
theorem u_190_27 {S : Scr} {d : Nat} {a0 a1 a2 a3 : AV} {st : List AV} {sh : Shp} {I : IM} {R : RM} : ev S d 190 27 [a0, a1, a2, a3] st (sh, I, R) = ev S d 190 28 [a0, a1, a2, a3] (.inl 0 :: st) (sh, I, R) := (ev_eq f_190_27).trans rfl
theorem f_190_28 : fetch 190 28 = some (28, .goto 11, 3, [39], 0) := (fm_190 28).trans rfl
theorem u_190_28 {S : Scr} {d : Nat} {a0 a1 a2 a3 : AV} {st : List AV} {sh : Shp} {I : IM} {R : RM} : ev S d 190 28 [a0, a1, a2, a3] st (sh, I, R) = ev S d 190 39 [a0, a1, a2, a3] st (sh, I, R) := (ev_eq f_190_28).trans rfl
theorem f_190_31 : fetch 190 31 = some (31, .iconst 1, 1, [], 1) := (fm_190 31).trans rfl
theorem u_190_31 {S : Scr} {d : Nat} {a0 a1 a2 a3 : AV} {st : List AV} {sh : Shp} {I : IM} {R : RM} : ev S d 190 31 [a0, a1, a2, a3] st (sh, I, R) = ev S d 190 32 [a0, a1, a2, a3] (.inl 1 :: st) (sh, I, R) := (ev_eq f_190_31).trans rfl
theorem f_190_32 : fetch 190 32 = some (32, .aload_n 0, 1, [0], 0) := (fm_190 32).trans rfl
theorem u_190_32 {S : Scr} {d : Nat} {a1 a2 a3 : AV} {st : List AV} {sh : Shp} {I : IM} {R : RM} {x : Nat} : ev S d 190 32 [.inr (.inl x), a1, a2, a3] st (sh, I, R) = ev S d 190 33 [.inr (.inl x), a1, a2, a3] (.inr (.inl x) :: st) (sh, I, R) := (ev_eq f_190_32).trans rfl
theorem f_190_33 : fetch 190 33 = some (33, .iload_n 1, 1, [1], 0) := (fm_190 33).trans rfl
theorem u_190_33 {S : Scr} {d : Nat} {a0 a2 a3 : AV} {st : List AV} {sh : Shp} {I : IM} {R : RM} {x : Int} : ev S d 190 33 [a0, .inl x, a2, a3] st (sh, I, R) = ev S d 190 34 [a0, .inl x, a2, a3] (.inl x :: st) (sh, I, R) := (ev_eq f_190_33).trans rfl
theorem f_190_34 : fetch 190 34 = some (34, .iload_n 3, 1, [3], 0) := (fm_190 34).trans rfl
theorem u_190_34 {S : Scr} {d : Nat} {a0 a1 a2 : AV} {st : List AV} {sh : Shp} {I : IM} {R : RM} {x : Int} : ev S d 190 34 [a0, a1, a2, .inl x] st (sh, I, R) = ev S d 190 35 [a0, a1, a2, .inl x] (.inl x :: st) (sh, I, R) := (ev_eq f_190_34).trans rfl
theorem f_190_35 : fetch 190 35 = some (35, .invokevirtual 128, 3, [135, 2, 143], 0) := (fm_190 35).trans rfl
theorem u_190_35 {S : Scr} {d : Nat} {a0 a1 a2 a3 : AV} {st : List AV} {sh : Shp} {I : IM} {R : RM} {x0 : Int} {x1 : Int} {k : Nat} (h : tg sh k = 9) (hr : st.length ≤ 8) : ev S d 190 35 [a0, a1, a2, a3] (.inl x1 :: .inl x0 :: .inr (.inl k) :: st) (sh, I, R) = bnd (cl d 135 [.inr (.inl k), .inl x0, .inl x1] (sh, I, R)) (fun v M => ev S d 190 38 [a0, a1, a2, a3] (psh v st) M) := (ev_eq f_190_35).trans (congrArg (fin S d 190) (if_pos ⟨h, rfl, hr⟩))
theorem f_190_38 : fetch 190 38 = some (38, .ishl, 1, [], 0) := (fm_190 38).trans rfl
theorem u_190_38 {S : Scr} {d : Nat} {a0 a1 a2 a3 : AV} {st : List AV} {sh : Shp} {I : IM} {R : RM} {x y : Int} : ev S d 190 38 [a0, a1, a2, a3] (.inl y :: .inl x :: st) (sh, I, R) = ev S d 190 39 [a0, a1, a2, a3] (.inl (b32 (fun x y => x <<< (y &&& 31)) x y) :: st) (sh, I, R) := (ev_eq f_190_38).trans rfl
theorem f_190_39 : fetch 190 39 = some (39, .ior, 1, [], 0) := (fm_190 39).trans rfl
theorem u_190_39 {S : Scr} {d : Nat} {a0 a1 a2 a3 : AV} {st : List AV} {sh : Shp} {I : IM} {R : RM} {x y : Int} : ev S d 190 39 [a0, a1, a2, a3] (.inl y :: .inl x :: st) (sh, I, R) = ev S d 190 40 [a0, a1, a2, a3] (.inl (b32 (fun x y => x ||| y) x y) :: st) (sh, I, R) := (ev_eq f_190_39).trans rfl
theorem f_190_40 : fetch 190 40 = some (40, .istore_n 2, 1, [2], 0) := (fm_190 40).trans rfl
theorem u_190_40 {S : Scr} {d : Nat} {a0 a1 a2 a3 : AV} {st : List AV} {sh : Shp} {I : IM} {R : RM} {x : Int} : ev S d 190 40 [a0, a1, a2, a3] (.inl x :: st) (sh, I, R) = ev S d 190 41 [a0, a1, .inl x, a3] st (sh, I, R) := (ev_eq f_190_40).trans rfl
theorem f_190_41 : fetch 190 41 = some (41, .iinc 3 1, 3, [3], 1) := (fm_190 41).trans rfl
theorem u_190_41 {S : Scr} {d : Nat} {a0 a1 a2 : AV} {st : List AV} {sh : Shp} {I : IM} {R : RM} {x : Int} : ev S d 190 41 [a0, a1, a2, .inl x] st (sh, I, R) = ev S d 190 44 [a0, a1, a2, .inl (wr (x + 1))] st (sh, I, R) := (ev_eq f_190_41).trans rfl
theorem f_190_44 : fetch 190 44 = some (44, .goto (-40), 3, [4], 0) := (fm_190 44).trans rfl
theorem u_190_44 {S : Scr} {d : Nat} {a0 a1 a2 a3 : AV} {st : List AV} {sh : Shp} {I : IM} {R : RM} : ev S d 190 44 [a0, a1, a2, a3] st (sh, I, R) = ev S d 190 4 [a0, a1, a2, a3] st (sh, I, R) := (ev_eq f_190_44).trans rfl
theorem f_190_47 : fetch 190 47 = some (47, .iload_n 2, 1, [2], 0) := (fm_190 47).trans rfl
theorem u_190_47 {S : Scr} {d : Nat} {a0 a1 a3 : AV} {st : List AV} {sh : Shp} {I : IM} {R : RM} {x : Int} : ev S d 190 47 [a0, a1, .inl x, a3] st (sh, I, R) = ev S d 190 48 [a0, a1, .inl x, a3] (.inl x :: st) (sh, I, R) := (ev_eq f_190_47).trans rfl
theorem f_190_48 : fetch 190 48 = some (48, .ireturn, 1, [0], 0) := (fm_190 48).trans rfl
theorem u_190_48 {S : Scr} {d : Nat} {a0 a1 a2 a3 : AV} {sh : Shp} {I : IM} {R : RM} {x : Int} : ev S d 190 48 [a0, a1, a2, a3] [.inl x] (sh, I, R) = some (some (.inl x), (sh, I, R)) := (ev_eq f_190_48).trans fin_iret0
theorem c_191 {d : Nat} {a0 a1 : AV} {M : Mem} : cl (d + 1) 191 [a0, a1] M = ev S0 d 191 0 [a0, a1, .inr (.inr 1), .inr (.inr 1), .inr (.inr 1), .inr (.inr 1)] [] M := (cl_eq (as := [a0, a1]) (show 2 ≤ maxOf 191 by decide +kernel)).trans rfl
theorem mt_191 : MT[191]? = some m_191 := rfl
theorem fm_191 (pc : Nat) : fetch 191 pc = lk m_191.2.2.2.2.2 pc := by
  unfold fetch
  rw [mt_191]
theorem f_191_0 : fetch 191 0 = some (0, .iload_n 1, 1, [1], 0) := (fm_191 0).trans rfl
theorem u_191_0 {S : Scr} {d : Nat} {a0 a2 a3 a4 a5 : AV} {st : List AV} {sh : Shp} {I : IM} {R : RM} {x : Int} : ev S d 191 0 [a0, .inl x, a2, a3, a4, a5] st (sh, I, R) = ev S d 191 1 [a0, .inl x, a2, a3, a4, a5] (.inl x :: st) (sh, I, R) := (ev_eq f_191_0).trans rfl
theorem f_191_1 : fetch 191 1 = some (1, .istore_n 2, 1, [2], 0) := (fm_191 1).trans rfl
theorem u_191_1 {S : Scr} {d : Nat} {a0 a1 a2 a3 a4 a5 : AV} {st : List AV} {sh : Shp} {I : IM} {R : RM} {x : Int} : ev S d 191 1 [a0, a1, a2, a3, a4, a5] (.inl x :: st) (sh, I, R) = ev S d 191 2 [a0, a1, .inl x, a3, a4, a5] st (sh, I, R) := (ev_eq f_191_1).trans rfl
theorem f_191_2 : fetch 191 2 = some (2, .iconst 0, 1, [], 0) := (fm_191 2).trans rfl
theorem u_191_2 {S : Scr} {d : Nat} {a0 a1 a2 a3 a4 a5 : AV} {st : List AV} {sh : Shp} {I : IM} {R : RM} : ev S d 191 2 [a0, a1, a2, a3, a4, a5] st (sh, I, R) = ev S d 191 3 [a0, a1, a2, a3, a4, a5] (.inl 0 :: st) (sh, I, R) := (ev_eq f_191_2).trans rfl
theorem f_191_3 : fetch 191 3 = some (3, .istore_n 3, 1, [3], 0) := (fm_191 3).trans rfl
theorem u_191_3 {S : Scr} {d : Nat} {a0 a1 a2 a3 a4 a5 : AV} {st : List AV} {sh : Shp} {I : IM} {R : RM} {x : Int} : ev S d 191 3 [a0, a1, a2, a3, a4, a5] (.inl x :: st) (sh, I, R) = ev S d 191 4 [a0, a1, a2, .inl x, a4, a5] st (sh, I, R) := (ev_eq f_191_3).trans rfl
theorem f_191_4 : fetch 191 4 = some (4, .iload_n 2, 1, [2], 0) := (fm_191 4).trans rfl
theorem u_191_4 {S : Scr} {d : Nat} {a0 a1 a3 a4 a5 : AV} {st : List AV} {sh : Shp} {I : IM} {R : RM} {x : Int} : ev S d 191 4 [a0, a1, .inl x, a3, a4, a5] st (sh, I, R) = ev S d 191 5 [a0, a1, .inl x, a3, a4, a5] (.inl x :: st) (sh, I, R) := (ev_eq f_191_4).trans rfl
theorem f_191_5 : fetch 191 5 = some (5, .iload_n 3, 1, [3], 0) := (fm_191 5).trans rfl
theorem u_191_5 {S : Scr} {d : Nat} {a0 a1 a2 a4 a5 : AV} {st : List AV} {sh : Shp} {I : IM} {R : RM} {x : Int} : ev S d 191 5 [a0, a1, a2, .inl x, a4, a5] st (sh, I, R) = ev S d 191 6 [a0, a1, a2, .inl x, a4, a5] (.inl x :: st) (sh, I, R) := (ev_eq f_191_5).trans rfl
theorem f_191_6 : fetch 191 6 = some (6, .if_icmp .eq 55, 3, [61], 0) := (fm_191 6).trans rfl
theorem u_191_6 {S : Scr} {d : Nat} {a0 a1 a2 a3 a4 a5 : AV} {st : List AV} {sh : Shp} {I : IM} {R : RM} {x y : Int} : ev S d 191 6 [a0, a1, a2, a3, a4, a5] (.inl y :: .inl x :: st) (sh, I, R) = if x = y then ev S d 191 61 [a0, a1, a2, a3, a4, a5] st (sh, I, R) else ev S d 191 9 [a0, a1, a2, a3, a4, a5] st (sh, I, R) := (ev_eq f_191_6).trans fin_icmp_eq
theorem f_191_9 : fetch 191 9 = some (9, .iload_n 2, 1, [2], 0) := (fm_191 9).trans rfl
theorem u_191_9 {S : Scr} {d : Nat} {a0 a1 a3 a4 a5 : AV} {st : List AV} {sh : Shp} {I : IM} {R : RM} {x : Int} : ev S d 191 9 [a0, a1, .inl x, a3, a4, a5] st (sh, I, R) = ev S d 191 10 [a0, a1, .inl x, a3, a4, a5] (.inl x :: st) (sh, I, R) := (ev_eq f_191_9).trans rfl
theorem f_191_10 : fetch 191 10 = some (10, .iload_n 3, 1, [3], 0) := (fm_191 10).trans rfl
theorem u_191_10 {S : Scr} {d : Nat} {a0 a1 a2 a4 a5 : AV} {st : List AV} {sh : Shp} {I : IM} {R : RM} {x : Int} : ev S d 191 10 [a0, a1, a2, .inl x, a4, a5] st (sh, I, R) = ev S d 191 11 [a0, a1, a2, .inl x, a4, a5] (.inl x :: st) (sh, I, R) := (ev_eq f_191_10).trans rfl
theorem f_191_11 : fetch 191 11 = some (11, .iconst (-1), 1, [], (-1)) := (fm_191 11).trans rfl
theorem u_191_11 {S : Scr} {d : Nat} {a0 a1 a2 a3 a4 a5 : AV} {st : List AV} {sh : Shp} {I : IM} {R : RM} : ev S d 191 11 [a0, a1, a2, a3, a4, a5] st (sh, I, R) = ev S d 191 12 [a0, a1, a2, a3, a4, a5] (.inl (-1) :: st) (sh, I, R) := (ev_eq f_191_11).trans rfl
theorem f_191_12 : fetch 191 12 = some (12, .ixor, 1, [], 0) := (fm_191 12).trans rfl
theorem u_191_12 {S : Scr} {d : Nat} {a0 a1 a2 a3 a4 a5 : AV} {st : List AV} {sh : Shp} {I : IM} {R : RM} {x y : Int} : ev S d 191 12 [a0, a1, a2, a3, a4, a5] (.inl y :: .inl x :: st) (sh, I, R) = ev S d 191 13 [a0, a1, a2, a3, a4, a5] (.inl (b32 (fun x y => x ^^^ y) x y) :: st) (sh, I, R) := (ev_eq f_191_12).trans rfl
theorem f_191_13 : fetch 191 13 = some (13, .iand, 1, [], 0) := (fm_191 13).trans rfl
theorem u_191_13 {S : Scr} {d : Nat} {a0 a1 a2 a3 a4 a5 : AV} {st : List AV} {sh : Shp} {I : IM} {R : RM} {x y : Int} : ev S d 191 13 [a0, a1, a2, a3, a4, a5] (.inl y :: .inl x :: st) (sh, I, R) = ev S d 191 14 [a0, a1, a2, a3, a4, a5] (.inl (b32 (fun x y => x &&& y) x y) :: st) (sh, I, R) := (ev_eq f_191_13).trans rfl
theorem f_191_14 : fetch 191 14 = some (14, .istore 4, 2, [4], 0) := (fm_191 14).trans rfl
theorem u_191_14 {S : Scr} {d : Nat} {a0 a1 a2 a3 a4 a5 : AV} {st : List AV} {sh : Shp} {I : IM} {R : RM} {x : Int} : ev S d 191 14 [a0, a1, a2, a3, a4, a5] (.inl x :: st) (sh, I, R) = ev S d 191 16 [a0, a1, a2, a3, .inl x, a5] st (sh, I, R) := (ev_eq f_191_14).trans rfl
theorem f_191_16 : fetch 191 16 = some (16, .iload_n 2, 1, [2], 0) := (fm_191 16).trans rfl
theorem u_191_16 {S : Scr} {d : Nat} {a0 a1 a3 a4 a5 : AV} {st : List AV} {sh : Shp} {I : IM} {R : RM} {x : Int} : ev S d 191 16 [a0, a1, .inl x, a3, a4, a5] st (sh, I, R) = ev S d 191 17 [a0, a1, .inl x, a3, a4, a5] (.inl x :: st) (sh, I, R) := (ev_eq f_191_16).trans rfl
theorem f_191_17 : fetch 191 17 = some (17, .istore_n 3, 1, [3], 0) := (fm_191 17).trans rfl
theorem u_191_17 {S : Scr} {d : Nat} {a0 a1 a2 a3 a4 a5 : AV} {st : List AV} {sh : Shp} {I : IM} {R : RM} {x : Int} : ev S d 191 17 [a0, a1, a2, a3, a4, a5] (.inl x :: st) (sh, I, R) = ev S d 191 18 [a0, a1, a2, .inl x, a4, a5] st (sh, I, R) := (ev_eq f_191_17).trans rfl
theorem f_191_18 : fetch 191 18 = some (18, .iconst 0, 1, [], 0) := (fm_191 18).trans rfl
theorem u_191_18 {S : Scr} {d : Nat} {a0 a1 a2 a3 a4 a5 : AV} {st : List AV} {sh : Shp} {I : IM} {R : RM} : ev S d 191 18 [a0, a1, a2, a3, a4, a5] st (sh, I, R) = ev S d 191 19 [a0, a1, a2, a3, a4, a5] (.inl 0 :: st) (sh, I, R) := (ev_eq f_191_18).trans rfl
theorem f_191_19 : fetch 191 19 = some (19, .istore 5, 2, [5], 0) := (fm_191 19).trans rfl
theorem u_191_19 {S : Scr} {d : Nat} {a0 a1 a2 a3 a4 a5 : AV} {st : List AV} {sh : Shp} {I : IM} {R : RM} {x : Int} : ev S d 191 19 [a0, a1, a2, a3, a4, a5] (.inl x :: st) (sh, I, R) = ev S d 191 21 [a0, a1, a2, a3, a4, .inl x] st (sh, I, R) := (ev_eq f_191_19).trans rfl
theorem f_191_21 : fetch 191 21 = some (21, .iload 5, 2, [5], 0) := (fm_191 21).trans rfl
theorem u_191_21 {S : Scr} {d : Nat} {a0 a1 a2 a3 a4 : AV} {st : List AV} {sh : Shp} {I : IM} {R : RM} {x : Int} : ev S d 191 21 [a0, a1, a2, a3, a4, .inl x] st (sh, I, R) = ev S d 191 23 [a0, a1, a2, a3, a4, .inl x] (.inl x :: st) (sh, I, R) := (ev_eq f_191_21).trans rfl
theorem f_191_23 : fetch 191 23 = some (23, .bipush 30, 2, [], 30) := (fm_191 23).trans rfl
theorem u_191_23 {S : Scr} {d : Nat} {a0 a1 a2 a3 a4 a5 : AV} {st : List AV} {sh : Shp} {I : IM} {R : RM} : ev S d 191 23 [a0, a1, a2, a3, a4, a5] st (sh, I, R) = ev S d 191 25 [a0, a1, a2, a3, a4, a5] (.inl 30 :: st) (sh, I, R) := (ev_eq f_191_23).trans rfl
theorem f_191_25 : fetch 191 25 = some (25, .if_icmp .ge 33, 3, [58], 0) := (fm_191 25).trans rfl
theorem u_191_25 {S : Scr} {d : Nat} {a0 a1 a2 a3 a4 a5 : AV} {st : List AV} {sh : Shp} {I : IM} {R : RM} {x y : Int} : ev S d 191 25 [a0, a1, a2, a3, a4, a5] (.inl y :: .inl x :: st) (sh, I, R) = if y ≤ x then ev S d 191 58 [a0, a1, a2, a3, a4, a5] st (sh, I, R) else ev S d 191 28 [a0, a1, a2, a3, a4, a5] st (sh, I, R) := (ev_eq f_191_25).trans fin_icmp_ge
theorem f_191_28 : fetch 191 28 = some (28, .iload_n 2, 1, [2], 0) := (fm_191 28).trans rfl
theorem u_191_28 {S : Scr} {d : Nat} {a0 a1 a3 a4 a5 : AV} {st : List AV} {sh : Shp} {I : IM} {R : RM} {x : Int} : ev S d 191 28 [a0, a1, .inl x, a3, a4, a5] st (sh, I, R) = ev S d 191 29 [a0, a1, .inl x, a3, a4, a5] (.inl x :: st) (sh, I, R) := (ev_eq f_191_28).trans rfl
theorem f_191_29 : fetch 191 29 = some (29, .iload 4, 2, [4], 0) := (fm_191 29).trans rfl
theorem u_191_29 {S : Scr} {d : Nat} {a0 a1 a2 a3 a5 : AV} {st : List AV} {sh : Shp} {I : IM} {R : RM} {x : Int} : ev S d 191 29 [a0, a1, a2, a3, .inl x, a5] st (sh, I, R) = ev S d 191 31 [a0, a1, a2, a3, .inl x, a5] (.inl x :: st) (sh, I, R) := (ev_eq f_191_29).trans rfl
theorem f_191_31 : fetch 191 31 = some (31, .iload 5, 2, [5], 0) := (fm_191 31).trans rfl
theorem u_191_31 {S : Scr} {d : Nat} {a0 a1 a2 a3 a4 : AV} {st : List AV} {sh : Shp} {I : IM} {R : RM} {x : Int} : ev S d 191 31 [a0, a1, a2, a3, a4, .inl x] st (sh, I, R) = ev S d 191 33 [a0, a1, a2, a3, a4, .inl x] (.inl x :: st) (sh, I, R) := (ev_eq f_191_31).trans rfl
theorem f_191_33 : fetch 191 33 = some (33, .ishr, 1, [], 0) := (fm_191 33).trans rfl
theorem u_191_33 {S : Scr} {d : Nat} {a0 a1 a2 a3 a4 a5 : AV} {st : List AV} {sh : Shp} {I : IM} {R : RM} {x y : Int} : ev S d 191 33 [a0, a1, a2, a3, a4, a5] (.inl y :: .inl x :: st) (sh, I, R) = ev S d 191 34 [a0, a1, a2, a3, a4, a5] (.inl (b32 (fun x y => x >>> (y &&& 31)) x y) :: st) (sh, I, R) := (ev_eq f_191_33).trans rfl
theorem f_191_34 : fetch 191 34 = some (34, .iconst 1, 1, [], 1) := (fm_191 34).trans rfl
theorem u_191_34 {S : Scr} {d : Nat} {a0 a1 a2 a3 a4 a5 : AV} {st : List AV} {sh : Shp} {I : IM} {R : RM} : ev S d 191 34 [a0, a1, a2, a3, a4, a5] st (sh, I, R) = ev S d 191 35 [a0, a1, a2, a3, a4, a5] (.inl 1 :: st) (sh, I, R) := (ev_eq f_191_34).trans rfl
theorem f_191_35 : fetch 191 35 = some (35, .iand, 1, [], 0) := (fm_191 35).trans rfl
theorem u_191_35 {S : Scr} {d : Nat} {a0 a1 a2 a3 a4 a5 : AV} {st : List AV} {sh : Shp} {I : IM} {R : RM} {x y : Int} : ev S d 191 35 [a0, a1, a2, a3, a4, a5] (.inl y :: .inl x :: st) (sh, I, R) = ev S d 191 36 [a0, a1, a2, a3, a4, a5] (.inl (b32 (fun x y => x &&& y) x y) :: st) (sh, I, R) := (ev_eq f_191_35).trans rfl
theorem f_191_36 : fetch 191 36 = some (36, .iconst 1, 1, [], 1) := (fm_191 36).trans rfl
theorem u_191_36 {S : Scr} {d : Nat} {a0 a1 a2 a3 a4 a5 : AV} {st : List AV} {sh : Shp} {I : IM} {R : RM} : ev S d 191 36 [a0, a1, a2, a3, a4, a5] st (sh, I, R) = ev S d 191 37 [a0, a1, a2, a3, a4, a5] (.inl 1 :: st) (sh, I, R) := (ev_eq f_191_36).trans rfl
theorem f_191_37 : fetch 191 37 = some (37, .if_icmp .ne 12, 3, [49], 0) := (fm_191 37).trans rfl
theorem u_191_37 {S : Scr} {d : Nat} {a0 a1 a2 a3 a4 a5 : AV} {st : List AV} {sh : Shp} {I : IM} {R : RM} {x y : Int} : ev S d 191 37 [a0, a1, a2, a3, a4, a5] (.inl y :: .inl x :: st) (sh, I, R) = if ¬ x = y then ev S d 191 49 [a0, a1, a2, a3, a4, a5] st (sh, I, R) else ev S d 191 40 [a0, a1, a2, a3, a4, a5] st (sh, I, R) := (ev_eq f_191_37).trans fin_icmp_ne
theorem f_191_40 : fetch 191 40 = some (40, .aload_n 0, 1, [0], 0) := (fm_191 40).trans rfl
theorem u_191_40 {S : Scr} {d : Nat} {a1 a2 a3 a4 a5 : AV} {st : List AV} {sh : Shp} {I : IM} {R : RM} {x : Nat} : ev S d 191 40 [.inr (.inl x), a1, a2, a3, a4, a5] st (sh, I, R) = ev S d 191 41 [.inr (.inl x), a1, a2, a3, a4, a5] (.inr (.inl x) :: st) (sh, I, R) := (ev_eq f_191_40).trans rfl
theorem f_191_41 : fetch 191 41 = some (41, .iload 5, 2, [5], 0) := (fm_191 41).trans rfl
theorem u_191_41 {S : Scr} {d : Nat} {a0 a1 a2 a3 a4 : AV} {st : List AV} {sh : Shp} {I : IM} {R : RM} {x : Int} : ev S d 191 41 [a0, a1, a2, a3, a4, .inl x] st (sh, I, R) = ev S d 191 43 [a0, a1, a2, a3, a4, .inl x] (.inl x :: st) (sh, I, R) := (ev_eq f_191_41).trans rfl
theorem f_191_43 : fetch 191 43 = some (43, .invokevirtual 222, 3, [190, 1, 165], 0) := (fm_191 43).trans rfl
theorem u_191_43 {S : Scr} {d : Nat} {a0 a1 a2 a3 a4 a5 : AV} {st : List AV} {sh : Shp} {I : IM} {R : RM} {x0 : Int} {k : Nat} (h : tg sh k = 9) (hr : st.length ≤ 8) : ev S d 191 43 [a0, a1, a2, a3, a4, a5] (.inl x0 :: .inr (.inl k) :: st) (sh, I, R) = bnd (cl d 190 [.inr (.inl k), .inl x0] (sh, I, R)) (fun v M => ev S d 191 46 [a0, a1, a2, a3, a4, a5] (psh v st) M) := (ev_eq f_191_43).trans (congrArg (fin S d 191) (if_pos ⟨h, rfl, hr⟩))
theorem f_191_46 : fetch 191 46 = some (46, .goto 4, 3, [50], 0) := (fm_191 46).trans rfl
theorem u_191_46 {S : Scr} {d : Nat} {a0 a1 a2 a3 a4 a5 : AV} {st : List AV} {sh : Shp} {I : IM} {R : RM} : ev S d 191 46 [a0, a1, a2, a3, a4, a5] st (sh, I, R) = ev S d 191 50 [a0, a1, a2, a3, a4, a5] st (sh, I, R) := (ev_eq f_191_46).trans rfl
theorem f_191_49 : fetch 191 49 = some (49, .iconst 0, 1, [], 0) := (fm_191 49).trans rfl
theorem u_191_49 {S : Scr} {d : Nat} {a0 a1 a2 a3 a4 a5 : AV} {st : List AV} {sh : Shp} {I : IM} {R : RM} : ev S d 191 49 [a0, a1, a2, a3, a4, a5] st (sh, I, R) = ev S d 191 50 [a0, a1, a2, a3, a4, a5] (.inl 0 :: st) (sh, I, R) := (ev_eq f_191_49).trans rfl
theorem f_191_50 : fetch 191 50 = some (50, .ior, 1, [], 0) := (fm_191 50).trans rfl
theorem u_191_50 {S : Scr} {d : Nat} {a0 a1 a2 a3 a4 a5 : AV} {st : List AV} {sh : Shp} {I : IM} {R : RM} {x y : Int} : ev S d 191 50 [a0, a1, a2, a3, a4, a5] (.inl y :: .inl x :: st) (sh, I, R) = ev S d 191 51 [a0, a1, a2, a3, a4, a5] (.inl (b32 (fun x y => x ||| y) x y) :: st) (sh, I, R) := (ev_eq f_191_50).trans rfl
theorem f_191_51 : fetch 191 51 = some (51, .istore_n 2, 1, [2], 0) := (fm_191 51).trans rfl
theorem u_191_51 {S : Scr} {d : Nat} {a0 a1 a2 a3 a4 a5 : AV} {st : List AV} {sh : Shp} {I : IM} {R : RM} {x : Int} : ev S d 191 51 [a0, a1, a2, a3, a4, a5] (.inl x :: st) (sh, I, R) = ev S d 191 52 [a0, a1, .inl x, a3, a4, a5] st (sh, I, R) := (ev_eq f_191_51).trans rfl
theorem f_191_52 : fetch 191 52 = some (52, .iinc 5 1, 3, [5], 1) := (fm_191 52).trans rfl
theorem u_191_52 {S : Scr} {d : Nat} {a0 a1 a2 a3 a4 : AV} {st : List AV} {sh : Shp} {I : IM} {R : RM} {x : Int} : ev S d 191 52 [a0, a1, a2, a3, a4, .inl x] st (sh, I, R) = ev S d 191 55 [a0, a1, a2, a3, a4, .inl (wr (x + 1))] st (sh, I, R) := (ev_eq f_191_52).trans rfl
theorem f_191_55 : fetch 191 55 = some (55, .goto (-34), 3, [21], 0) := (fm_191 55).trans rfl
theorem u_191_55 {S : Scr} {d : Nat} {a0 a1 a2 a3 a4 a5 : AV} {st : List AV} {sh : Shp} {I : IM} {R : RM} : ev S d 191 55 [a0, a1, a2, a3, a4, a5] st (sh, I, R) = ev S d 191 21 [a0, a1, a2, a3, a4, a5] st (sh, I, R) := (ev_eq f_191_55).trans rfl
theorem f_191_58 : fetch 191 58 = some (58, .goto (-54), 3, [4], 0) := (fm_191 58).trans rfl
theorem u_191_58 {S : Scr} {d : Nat} {a0 a1 a2 a3 a4 a5 : AV} {st : List AV} {sh : Shp} {I : IM} {R : RM} : ev S d 191 58 [a0, a1, a2, a3, a4, a5] st (sh, I, R) = ev S d 191 4 [a0, a1, a2, a3, a4, a5] st (sh, I, R) := (ev_eq f_191_58).trans rfl
theorem f_191_61 : fetch 191 61 = some (61, .iload_n 2, 1, [2], 0) := (fm_191 61).trans rfl
theorem u_191_61 {S : Scr} {d : Nat} {a0 a1 a3 a4 a5 : AV} {st : List AV} {sh : Shp} {I : IM} {R : RM} {x : Int} : ev S d 191 61 [a0, a1, .inl x, a3, a4, a5] st (sh, I, R) = ev S d 191 62 [a0, a1, .inl x, a3, a4, a5] (.inl x :: st) (sh, I, R) := (ev_eq f_191_61).trans rfl
theorem f_191_62 : fetch 191 62 = some (62, .ireturn, 1, [0], 0) := (fm_191 62).trans rfl
theorem u_191_62 {S : Scr} {d : Nat} {a0 a1 a2 a3 a4 a5 : AV} {sh : Shp} {I : IM} {R : RM} {x : Int} : ev S d 191 62 [a0, a1, a2, a3, a4, a5] [.inl x] (sh, I, R) = some (some (.inl x), (sh, I, R)) := (ev_eq f_191_62).trans fin_iret0
theorem c_192 {d : Nat} {a0 a1 : AV} {M : Mem} : cl (d + 1) 192 [a0, a1] M = ev S0 d 192 0 [a0, a1, .inr (.inr 1), .inr (.inr 1), .inr (.inr 1), .inr (.inr 1), .inr (.inr 1)] [] M := (cl_eq (as := [a0, a1]) (show 2 ≤ maxOf 192 by decide +kernel)).trans rfl
theorem mt_192 : MT[192]? = some m_192 := rfl
theorem fm_192 (pc : Nat) : fetch 192 pc = lk m_192.2.2.2.2.2 pc := by
  unfold fetch
  rw [mt_192]
theorem f_192_0 : fetch 192 0 = some (0, .iconst 0, 1, [], 0) := (fm_192 0).trans rfl
theorem u_192_0 {S : Scr} {d : Nat} {a0 a1 a2 a3 a4 a5 a6 : AV} {st : List AV} {sh : Shp} {I : IM} {R : RM} : ev S d 192 0 [a0, a1, a2, a3, a4, a5, a6] st (sh, I, R) = ev S d 192 1 [a0, a1, a2, a3, a4, a5, a6] (.inl 0 :: st) (sh, I, R) := (ev_eq f_192_0).trans rfl
theorem f_192_1 : fetch 192 1 = some (1, .istore_n 2, 1, [2], 0) := (fm_192 1).trans rfl
theorem u_192_1 {S : Scr} {d : Nat} {a0 a1 a2 a3 a4 a5 a6 : AV} {st : List AV} {sh : Shp} {I : IM} {R : RM} {x : Int} : ev S d 192 1 [a0, a1, a2, a3, a4, a5, a6] (.inl x :: st) (sh, I, R) = ev S d 192 2 [a0, a1, .inl x, a3, a4, a5, a6] st (sh, I, R) := (ev_eq f_192_1).trans rfl
theorem f_192_2 : fetch 192 2 = some (2, .iconst 0, 1, [], 0) := (fm_192 2).trans rfl
theorem u_192_2 {S : Scr} {d : Nat} {a0 a1 a2 a3 a4 a5 a6 : AV} {st : List AV} {sh : Shp} {I : IM} {R : RM} : ev S d 192 2 [a0, a1, a2, a3, a4, a5, a6] st (sh, I, R) = ev S d 192 3 [a0, a1, a2, a3, a4, a5, a6] (.inl 0 :: st) (sh, I, R) := (ev_eq f_192_2).trans rfl
theorem f_192_3 : fetch 192 3 = some (3, .istore_n 3, 1, [3], 0) := (fm_192 3).trans rfl
theorem u_192_3 {S : Scr} {d : Nat} {a0 a1 a2 a3 a4 a5 a6 : AV} {st : List AV} {sh : Shp} {I : IM} {R : RM} {x : Int} : ev S d 192 3 [a0, a1, a2, a3, a4, a5, a6] (.inl x :: st) (sh, I, R) = ev S d 192 4 [a0, a1, a2, .inl x, a4, a5, a6] st (sh, I, R) := (ev_eq f_192_3).trans rfl
theorem f_192_4 : fetch 192 4 = some (4, .iconst 0, 1, [], 0) := (fm_192 4).trans rfl
theorem u_192_4 {S : Scr} {d : Nat} {a0 a1 a2 a3 a4 a5 a6 : AV} {st : List AV} {sh : Shp} {I : IM} {R : RM} : ev S d 192 4 [a0, a1, a2, a3, a4, a5, a6] st (sh, I, R) = ev S d 192 5 [a0, a1, a2, a3, a4, a5, a6] (.inl 0 :: st) (sh, I, R) := (ev_eq f_192_4).trans rfl
theorem f_192_5 : fetch 192 5 = some (5, .istore 4, 2, [4], 0) := (fm_192 5).trans rfl
theorem u_192_5 {S : Scr} {d : Nat} {a0 a1 a2 a3 a4 a5 a6 : AV} {st : List AV} {sh : Shp} {I : IM} {R : RM} {x : Int} : ev S d 192 5 [a0, a1, a2, a3, a4, a5, a6] (.inl x :: st) (sh, I, R) = ev S d 192 7 [a0, a1, a2, a3, .inl x, a5, a6] st (sh, I, R) := (ev_eq f_192_5).trans rfl
theorem f_192_7 : fetch 192 7 = some (7, .iload 4, 2, [4], 0) := (fm_192 7).trans rfl
theorem u_192_7 {S : Scr} {d : Nat} {a0 a1 a2 a3 a5 a6 : AV} {st : List AV} {sh : Shp} {I : IM} {R : RM} {x : Int} : ev S d 192 7 [a0, a1, a2, a3, .inl x, a5, a6] st (sh, I, R) = ev S d 192 9 [a0, a1, a2, a3, .inl x, a5, a6] (.inl x :: st) (sh, I, R) := (ev_eq f_192_7).trans rfl
theorem f_192_9 : fetch 192 9 = some (9, .bipush 30, 2, [], 30) := (fm_192 9).trans rfl
theorem u_192_9 {S : Scr} {d : Nat} {a0 a1 a2 a3 a4 a5 a6 : AV} {st : List AV} {sh : Shp} {I : IM} {R : RM} : ev S d 192 9 [a0, a1, a2, a3, a4, a5, a6] st (sh, I, R) = ev S d 192 11 [a0, a1, a2, a3, a4, a5, a6] (.inl 30 :: st) (sh, I, R) := (ev_eq f_192_9).trans rfl
theorem f_192_11 : fetch 192 11 = some (11, .if_icmp .ge 82, 3, [93], 0) := (fm_192 11).trans rfl
theorem u_192_11 {S : Scr} {d : Nat} {a0 a1 a2 a3 a4 a5 a6 : AV} {st : List AV} {sh : Shp} {I : IM} {R : RM} {x y : Int} : ev S d 192 11 [a0, a1, a2, a3, a4, a5, a6] (.inl y :: .inl x :: st) (sh, I, R) = if y ≤ x then ev S d 192 93 [a0, a1, a2, a3, a4, a5, a6] st (sh, I, R) else ev S d 192 14 [a0, a1, a2, a3, a4, a5, a6] st (sh, I, R) := (ev_eq f_192_11).trans fin_icmp_ge
theorem f_192_14 : fetch 192 14 = some (14, .iconst 0, 1, [], 0) := (fm_192 14).trans rfl
theorem u_192_14 {S : Scr} {d : Nat} {a0 a1 a2 a3 a4 a5 a6 : AV} {st : List AV} {sh : Shp} {I : IM} {R : RM} : ev S d 192 14 [a0, a1, a2, a3, a4, a5, a6] st (sh, I, R) = ev S d 192 15 [a0, a1, a2, a3, a4, a5, a6] (.inl 0 :: st) (sh, I, R) := (ev_eq f_192_14).trans rfl
theorem f_192_15 : fetch 192 15 = some (15, .istore 5, 2, [5], 0) := (fm_192 15).trans rfl
theorem u_192_15 {S : Scr} {d : Nat} {a0 a1 a2 a3 a4 a5 a6 : AV} {st : List AV} {sh : Shp} {I : IM} {R : RM} {x : Int} : ev S d 192 15 [a0, a1, a2, a3, a4, a5, a6] (.inl x :: st) (sh, I, R) = ev S d 192 17 [a0, a1, a2, a3, a4, .inl x, a6] st (sh, I, R) := (ev_eq f_192_15).trans rfl
theorem f_192_17 : fetch 192 17 = some (17, .iload_n 1, 1, [1], 0) := (fm_192 17).trans rfl
theorem u_192_17 {S : Scr} {d : Nat} {a0 a2 a3 a4 a5 a6 : AV} {st : List AV} {sh : Shp} {I : IM} {R : RM} {x : Int} : ev S d 192 17 [a0, .inl x, a2, a3, a4, a5, a6] st (sh, I, R) = ev S d 192 18 [a0, .inl x, a2, a3, a4, a5, a6] (.inl x :: st) (sh, I, R) := (ev_eq f_192_17).trans rfl
theorem f_192_18 : fetch 192 18 = some (18, .iload 4, 2, [4], 0) := (fm_192 18).trans rfl
theorem u_192_18 {S : Scr} {d : Nat} {a0 a1 a2 a3 a5 a6 : AV} {st : List AV} {sh : Shp} {I : IM} {R : RM} {x : Int} : ev S d 192 18 [a0, a1, a2, a3, .inl x, a5, a6] st (sh, I, R) = ev S d 192 20 [a0, a1, a2, a3, .inl x, a5, a6] (.inl x :: st) (sh, I, R) := (ev_eq f_192_18).trans rfl
theorem f_192_20 : fetch 192 20 = some (20, .ishr, 1, [], 0) := (fm_192 20).trans rfl
theorem u_192_20 {S : Scr} {d : Nat} {a0 a1 a2 a3 a4 a5 a6 : AV} {st : List AV} {sh : Shp} {I : IM} {R : RM} {x y : Int} : ev S d 192 20 [a0, a1, a2, a3, a4, a5, a6] (.inl y :: .inl x :: st) (sh, I, R) = ev S d 192 21 [a0, a1, a2, a3, a4, a5, a6] (.inl (b32 (fun x y => x >>> (y &&& 31)) x y) :: st) (sh, I, R) := (ev_eq f_192_20).trans rfl
theorem f_192_21 : fetch 192 21 = some (21, .iconst 1, 1, [], 1) := (fm_192 21).trans rfl
theorem u_192_21 {S : Scr} {d : Nat} {a0 a1 a2 a3 a4 a5 a6 : AV} {st : List AV} {sh : Shp} {I : IM} {R : RM} : ev S d 192 21 [a0, a1, a2, a3, a4, a5, a6] st (sh, I, R) = ev S d 192 22 [a0, a1, a2, a3, a4, a5, a6] (.inl 1 :: st) (sh, I, R) := (ev_eq f_192_21).trans rfl
theorem f_192_22 : fetch 192 22 = some (22, .iand, 1, [], 0) := (fm_192 22).trans rfl
theorem u_192_22 {S : Scr} {d : Nat} {a0 a1 a2 a3 a4 a5 a6 : AV} {st : List AV} {sh : Shp} {I : IM} {R : RM} {x y : Int} : ev S d 192 22 [a0, a1, a2, a3, a4, a5, a6] (.inl y :: .inl x :: st) (sh, I, R) = ev S d 192 23 [a0, a1, a2, a3, a4, a5, a6] (.inl (b32 (fun x y => x &&& y) x y) :: st) (sh, I, R) := (ev_eq f_192_22).trans rfl
theorem f_192_23 : fetch 192 23 = some (23, .iconst 1, 1, [], 1) := (fm_192 23).trans rfl
theorem u_192_23 {S : Scr} {d : Nat} {a0 a1 a2 a3 a4 a5 a6 : AV} {st : List AV} {sh : Shp} {I : IM} {R : RM} : ev S d 192 23 [a0, a1, a2, a3, a4, a5, a6] st (sh, I, R) = ev S d 192 24 [a0, a1, a2, a3, a4, a5, a6] (.inl 1 :: st) (sh, I, R) := (ev_eq f_192_23).trans rfl
theorem f_192_24 : fetch 192 24 = some (24, .if_icmp .ne 63, 3, [87], 0) := (fm_192 24).trans rfl
theorem u_192_24 {S : Scr} {d : Nat} {a0 a1 a2 a3 a4 a5 a6 : AV} {st : List AV} {sh : Shp} {I : IM} {R : RM} {x y : Int} : ev S d 192 24 [a0, a1, a2, a3, a4, a5, a6] (.inl y :: .inl x :: st) (sh, I, R) = if ¬ x = y then ev S d 192 87 [a0, a1, a2, a3, a4, a5, a6] st (sh, I, R) else ev S d 192 27 [a0, a1, a2, a3, a4, a5, a6] st (sh, I, R) := (ev_eq f_192_24).trans fin_icmp_ne
theorem f_192_27 : fetch 192 27 = some (27, .iload 5, 2, [5], 0) := (fm_192 27).trans rfl
theorem u_192_27 {S : Scr} {d : Nat} {a0 a1 a2 a3 a4 a6 : AV} {st : List AV} {sh : Shp} {I : IM} {R : RM} {x : Int} : ev S d 192 27 [a0, a1, a2, a3, a4, .inl x, a6] st (sh, I, R) = ev S d 192 29 [a0, a1, a2, a3, a4, .inl x, a6] (.inl x :: st) (sh, I, R) := (ev_eq f_192_27).trans rfl
theorem f_192_29 : fetch 192 29 = some (29, .aload_n 0, 1, [0], 0) := (fm_192 29).trans rfl
theorem u_192_29 {S : Scr} {d : Nat} {a1 a2 a3 a4 a5 a6 : AV} {st : List AV} {sh : Shp} {I : IM} {R : RM} {x : Nat} : ev S d 192 29 [.inr (.inl x), a1, a2, a3, a4, a5, a6] st (sh, I, R) = ev S d 192 30 [.inr (.inl x), a1, a2, a3, a4, a5, a6] (.inr (.inl x) :: st) (sh, I, R) := (ev_eq f_192_29).trans rfl
theorem f_192_30 : fetch 192 30 = some (30, .getfield 9, 3, [9, 0, 1, 79], 0) := (fm_192 30).trans rfl
theorem u_192_30 {S : Scr} {d : Nat} {a0 a1 a2 a3 a4 a5 a6 : AV} {st : List AV} {sh : Shp} {I : IM} {R : RM} {k : Nat} (h : tg sh k = 9) : ev S d 192 30 [a0, a1, a2, a3, a4, a5, a6] (.inr (.inl k) :: st) (sh, I, R) = ev S d 192 33 [a0, a1, a2, a3, a4, a5, a6] (rv (R k 0) :: st) (sh, I, R) := (ev_eq f_192_30).trans (congrArg (fin S d 192) (if_pos h))
theorem f_192_33 : fetch 192 33 = some (33, .bipush 60, 2, [], 60) := (fm_192 33).trans rfl
theorem u_192_33 {S : Scr} {d : Nat} {a0 a1 a2 a3 a4 a5 a6 : AV} {st : List AV} {sh : Shp} {I : IM} {R : RM} : ev S d 192 33 [a0, a1, a2, a3, a4, a5, a6] st (sh, I, R) = ev S d 192 35 [a0, a1, a2, a3, a4, a5, a6] (.inl 60 :: st) (sh, I, R) := (ev_eq f_192_33).trans rfl
theorem f_192_35 : fetch 192 35 = some (35, .iload 4, 2, [4], 0) := (fm_192 35).trans rfl
theorem u_192_35 {S : Scr} {d : Nat} {a0 a1 a2 a3 a5 a6 : AV} {st : List AV} {sh : Shp} {I : IM} {R : RM} {x : Int} : ev S d 192 35 [a0, a1, a2, a3, .inl x, a5, a6] st (sh, I, R) = ev S d 192 37 [a0, a1, a2, a3, .inl x, a5, a6] (.inl x :: st) (sh, I, R) := (ev_eq f_192_35).trans rfl
theorem f_192_37 : fetch 192 37 = some (37, .iadd, 1, [], 0) := (fm_192 37).trans rfl
theorem u_192_37 {S : Scr} {d : Nat} {a0 a1 a2 a3 a4 a5 a6 : AV} {st : List AV} {sh : Shp} {I : IM} {R : RM} {x y : Int} : ev S d 192 37 [a0, a1, a2, a3, a4, a5, a6] (.inl y :: .inl x :: st) (sh, I, R) = ev S d 192 38 [a0, a1, a2, a3, a4, a5, a6] (.inl (wr (x + y)) :: st) (sh, I, R) := (ev_eq f_192_37).trans rfl
theorem f_192_38 : fetch 192 38 = some (38, .iaload, 1, [], 0) := (fm_192 38).trans rfl
theorem u_192_38 {S : Scr} {d : Nat} {a0 a1 a2 a3 a4 a5 a6 : AV} {st : List AV} {sh : Shp} {I : IM} {R : RM} {k : Nat} {i : Int} (h : tg sh k = 100) (h0 : 0 ≤ i) (h1 : i < ln sh k) : ev S d 192 38 [a0, a1, a2, a3, a4, a5, a6] (.inl i :: .inr (.inl k) :: st) (sh, I, R) = ev S d 192 39 [a0, a1, a2, a3, a4, a5, a6] (.inl (I k i) :: st) (sh, I, R) := (ev_eq f_192_38).trans (congrArg (fin S d 192) (if_pos ⟨h, h0, h1⟩))
theorem f_192_39 : fetch 192 39 = some (39, .if_icmp .ge 48, 3, [87], 0) := (fm_192 39).trans rfl
theorem u_192_39 {S : Scr} {d : Nat} {a0 a1 a2 a3 a4 a5 a6 : AV} {st : List AV} {sh : Shp} {I : IM} {R : RM} {x y : Int} : ev S d 192 39 [a0, a1, a2, a3, a4, a5, a6] (.inl y :: .inl x :: st) (sh, I, R) = if y ≤ x then ev S d 192 87 [a0, a1, a2, a3, a4, a5, a6] st (sh, I, R) else ev S d 192 42 [a0, a1, a2, a3, a4, a5, a6] st (sh, I, R) := (ev_eq f_192_39).trans fin_icmp_ge
theorem f_192_42 : fetch 192 42 = some (42, .aload_n 0, 1, [0], 0) := (fm_192 42).trans rfl
theorem u_192_42 {S : Scr} {d : Nat} {a1 a2 a3 a4 a5 a6 : AV} {st : List AV} {sh : Shp} {I : IM} {R : RM} {x : Nat} : ev S d 192 42 [.inr (.inl x), a1, a2, a3, a4, a5, a6] st (sh, I, R) = ev S d 192 43 [.inr (.inl x), a1, a2, a3, a4, a5, a6] (.inr (.inl x) :: st) (sh, I, R) := (ev_eq f_192_42).trans rfl
theorem f_192_43 : fetch 192 43 = some (43, .iload 4, 2, [4], 0) := (fm_192 43).trans rfl
theorem u_192_43 {S : Scr} {d : Nat} {a0 a1 a2 a3 a5 a6 : AV} {st : List AV} {sh : Shp} {I : IM} {R : RM} {x : Int} : ev S d 192 43 [a0, a1, a2, a3, .inl x, a5, a6] st (sh, I, R) = ev S d 192 45 [a0, a1, a2, a3, .inl x, a5, a6] (.inl x :: st) (sh, I, R) := (ev_eq f_192_43).trans rfl
theorem f_192_45 : fetch 192 45 = some (45, .iload 5, 2, [5], 0) := (fm_192 45).trans rfl
theorem u_192_45 {S : Scr} {d : Nat} {a0 a1 a2 a3 a4 a6 : AV} {st : List AV} {sh : Shp} {I : IM} {R : RM} {x : Int} : ev S d 192 45 [a0, a1, a2, a3, a4, .inl x, a6] st (sh, I, R) = ev S d 192 47 [a0, a1, a2, a3, a4, .inl x, a6] (.inl x :: st) (sh, I, R) := (ev_eq f_192_45).trans rfl
theorem f_192_47 : fetch 192 47 = some (47, .invokevirtual 128, 3, [135, 2, 143], 0) := (fm_192 47).trans rfl
theorem u_192_47 {S : Scr} {d : Nat} {a0 a1 a2 a3 a4 a5 a6 : AV} {st : List AV} {sh : Shp} {I : IM} {R : RM} {x0 : Int} {x1 : Int} {k : Nat} (h : tg sh k = 9) (hr : st.length ≤ 8) : ev S d 192 47 [a0, a1, a2, a3, a4, a5, a6] (.inl x1 :: .inl x0 :: .inr (.inl k) :: st) (sh, I, R) = bnd (cl d 135 [.inr (.inl k), .inl x0, .inl x1] (sh, I, R)) (fun v M => ev S d 192 50 [a0, a1, a2, a3, a4, a5, a6] (psh v st) M) := (ev_eq f_192_47).trans (congrArg (fin S d 192) (if_pos ⟨h, rfl, hr⟩))
theorem f_192_50 : fetch 192 50 = some (50, .ifCond .ge 7, 3, [57], 0) := (fm_192 50).trans rfl
theorem u_192_50 {S : Scr} {d : Nat} {a0 a1 a2 a3 a4 a5 a6 : AV} {st : List AV} {sh : Shp} {I : IM} {R : RM} {x : Int} : ev S d 192 50 [a0, a1, a2, a3, a4, a5, a6] (.inl x :: st) (sh, I, R) = if 0 ≤ x then ev S d 192 57 [a0, a1, a2, a3, a4, a5, a6] st (sh, I, R) else ev S d 192 53 [a0, a1, a2, a3, a4, a5, a6] st (sh, I, R) := (ev_eq f_192_50).trans fin_if_ge
theorem f_192_53 : fetch 192 53 = some (53, .iconst 0, 1, [], 0) := (fm_192 53).trans rfl
theorem u_192_53 {S : Scr} {d : Nat} {a0 a1 a2 a3 a4 a5 a6 : AV} {st : List AV} {sh : Shp} {I : IM} {R : RM} : ev S d 192 53 [a0, a1, a2, a3, a4, a5, a6] st (sh, I, R) = ev S d 192 54 [a0, a1, a2, a3, a4, a5, a6] (.inl 0 :: st) (sh, I, R) := (ev_eq f_192_53).trans rfl
theorem f_192_54 : fetch 192 54 = some (54, .goto 13, 3, [67], 0) := (fm_192 54).trans rfl
theorem u_192_54 {S : Scr} {d : Nat} {a0 a1 a2 a3 a4 a5 a6 : AV} {st : List AV} {sh : Shp} {I : IM} {R : RM} : ev S d 192 54 [a0, a1, a2, a3, a4, a5, a6] st (sh, I, R) = ev S d 192 67 [a0, a1, a2, a3, a4, a5, a6] st (sh, I, R) := (ev_eq f_192_54).trans rfl
theorem f_192_57 : fetch 192 57 = some (57, .iconst 1, 1, [], 1) := (fm_192 57).trans rfl
theorem u_192_57 {S : Scr} {d : Nat} {a0 a1 a2 a3 a4 a5 a6 : AV} {st : List AV} {sh : Shp} {I : IM} {R : RM} : ev S d 192 57 [a0, a1, a2, a3, a4, a5, a6] st (sh, I, R) = ev S d 192 58 [a0, a1, a2, a3, a4, a5, a6] (.inl 1 :: st) (sh, I, R) := (ev_eq f_192_57).trans rfl
theorem f_192_58 : fetch 192 58 = some (58, .aload_n 0, 1, [0], 0) := (fm_192 58).trans rfl
theorem u_192_58 {S : Scr} {d : Nat} {a1 a2 a3 a4 a5 a6 : AV} {st : List AV} {sh : Shp} {I : IM} {R : RM} {x : Nat} : ev S d 192 58 [.inr (.inl x), a1, a2, a3, a4, a5, a6] st (sh, I, R) = ev S d 192 59 [.inr (.inl x), a1, a2, a3, a4, a5, a6] (.inr (.inl x) :: st) (sh, I, R) := (ev_eq f_192_58).trans rfl
theorem f_192_59 : fetch 192 59 = some (59, .iload 4, 2, [4], 0) := (fm_192 59).trans rfl
theorem u_192_59 {S : Scr} {d : Nat} {a0 a1 a2 a3 a5 a6 : AV} {st : List AV} {sh : Shp} {I : IM} {R : RM} {x : Int} : ev S d 192 59 [a0, a1, a2, a3, .inl x, a5, a6] st (sh, I, R) = ev S d 192 61 [a0, a1, a2, a3, .inl x, a5, a6] (.inl x :: st) (sh, I, R) := (ev_eq f_192_59).trans rfl
theorem f_192_61 : fetch 192 61 = some (61, .iload 5, 2, [5], 0) := (fm_192 61).trans rfl
theorem u_192_61 {S : Scr} {d : Nat} {a0 a1 a2 a3 a4 a6 : AV} {st : List AV} {sh : Shp} {I : IM} {R : RM} {x : Int} : ev S d 192 61 [a0, a1, a2, a3, a4, .inl x, a6] st (sh, I, R) = ev S d 192 63 [a0, a1, a2, a3, a4, .inl x, a6] (.inl x :: st) (sh, I, R) := (ev_eq f_192_61).trans rfl
theorem f_192_63 : fetch 192 63 = some (63, .invokevirtual 128, 3, [135, 2, 143], 0) := (fm_192 63).trans rfl
theorem u_192_63 {S : Scr} {d : Nat} {a0 a1 a2 a3 a4 a5 a6 : AV} {st : List AV} {sh : Shp} {I : IM} {R : RM} {x0 : Int} {x1 : Int} {k : Nat} (h : tg sh k = 9) (hr : st.length ≤ 8) : ev S d 192 63 [a0, a1, a2, a3, a4, a5, a6] (.inl x1 :: .inl x0 :: .inr (.inl k) :: st) (sh, I, R) = bnd (cl d 135 [.inr (.inl k), .inl x0, .inl x1] (sh, I, R)) (fun v M => ev S d 192 66 [a0, a1, a2, a3, a4, a5, a6] (psh v st) M) := (ev_eq f_192_63).trans (congrArg (fin S d 192) (if_pos ⟨h, rfl, hr⟩))
theorem f_192_66 : fetch 192 66 = some (66, .ishl, 1, [], 0) := (fm_192 66).trans rfl
theorem u_192_66 {S : Scr} {d : Nat} {a0 a1 a2 a3 a4 a5 a6 : AV} {st : List AV} {sh : Shp} {I : IM} {R : RM} {x y : Int} : ev S d 192 66 [a0, a1, a2, a3, a4, a5, a6] (.inl y :: .inl x :: st) (sh, I, R) = ev S d 192 67 [a0, a1, a2, a3, a4, a5, a6] (.inl (b32 (fun x y => x <<< (y &&& 31)) x y) :: st) (sh, I, R) := (ev_eq f_192_66).trans rfl
theorem f_192_67 : fetch 192 67 = some (67, .istore 6, 2, [6], 0) := (fm_192 67).trans rfl
theorem u_192_67 {S : Scr} {d : Nat} {a0 a1 a2 a3 a4 a5 a6 : AV} {st : List AV} {sh : Shp} {I : IM} {R : RM} {x : Int} : ev S d 192 67 [a0, a1, a2, a3, a4, a5, a6] (.inl x :: st) (sh, I, R) = ev S d 192 69 [a0, a1, a2, a3, a4, a5, .inl x] st (sh, I, R) := (ev_eq f_192_67).trans rfl
theorem f_192_69 : fetch 192 69 = some (69, .iload_n 3, 1, [3], 0) := (fm_192 69).trans rfl
theorem u_192_69 {S : Scr} {d : Nat} {a0 a1 a2 a4 a5 a6 : AV} {st : List AV} {sh : Shp} {I : IM} {R : RM} {x : Int} : ev S d 192 69 [a0, a1, a2, .inl x, a4, a5, a6] st (sh, I, R) = ev S d 192 70 [a0, a1, a2, .inl x, a4, a5, a6] (.inl x :: st) (sh, I, R) := (ev_eq f_192_69).trans rfl
theorem f_192_70 : fetch 192 70 = some (70, .iload_n 2, 1, [2], 0) := (fm_192 70).trans rfl
theorem u_192_70 {S : Scr} {d : Nat} {a0 a1 a3 a4 a5 a6 : AV} {st : List AV} {sh : Shp} {I : IM} {R : RM} {x : Int} : ev S d 192 70 [a0, a1, .inl x, a3, a4, a5, a6] st (sh, I, R) = ev S d 192 71 [a0, a1, .inl x, a3, a4, a5, a6] (.inl x :: st) (sh, I, R) := (ev_eq f_192_70).trans rfl
theorem f_192_71 : fetch 192 71 = some (71, .iload 6, 2, [6], 0) := (fm_192 71).trans rfl
theorem u_192_71 {S : Scr} {d : Nat} {a0 a1 a2 a3 a4 a5 : AV} {st : List AV} {sh : Shp} {I : IM} {R : RM} {x : Int} : ev S d 192 71 [a0, a1, a2, a3, a4, a5, .inl x] st (sh, I, R) = ev S d 192 73 [a0, a1, a2, a3, a4, a5, .inl x] (.inl x :: st) (sh, I, R) := (ev_eq f_192_71).trans rfl
theorem f_192_73 : fetch 192 73 = some (73, .iand, 1, [], 0) := (fm_192 73).trans rfl
theorem u_192_73 {S : Scr} {d : Nat} {a0 a1 a2 a3 a4 a5 a6 : AV} {st : List AV} {sh : Shp} {I : IM} {R : RM} {x y : Int} : ev S d 192 73 [a0, a1, a2, a3, a4, a5, a6] (.inl y :: .inl x :: st) (sh, I, R) = ev S d 192 74 [a0, a1, a2, a3, a4, a5, a6] (.inl (b32 (fun x y => x &&& y) x y) :: st) (sh, I, R) := (ev_eq f_192_73).trans rfl
theorem f_192_74 : fetch 192 74 = some (74, .ior, 1, [], 0) := (fm_192 74).trans rfl
theorem u_192_74 {S : Scr} {d : Nat} {a0 a1 a2 a3 a4 a5 a6 : AV} {st : List AV} {sh : Shp} {I : IM} {R : RM} {x y : Int} : ev S d 192 74 [a0, a1, a2, a3, a4, a5, a6] (.inl y :: .inl x :: st) (sh, I, R) = ev S d 192 75 [a0, a1, a2, a3, a4, a5, a6] (.inl (b32 (fun x y => x ||| y) x y) :: st) (sh, I, R) := (ev_eq f_192_74).trans rfl
theorem f_192_75 : fetch 192 75 = some (75, .istore_n 3, 1, [3], 0) := (fm_192 75).trans rfl
theorem u_192_75 {S : Scr} {d : Nat} {a0 a1 a2 a3 a4 a5 a6 : AV} {st : List AV} {sh : Shp} {I : IM} {R : RM} {x : Int} : ev S d 192 75 [a0, a1, a2, a3, a4, a5, a6] (.inl x :: st) (sh, I, R) = ev S d 192 76 [a0, a1, a2, .inl x, a4, a5, a6] st (sh, I, R) := (ev_eq f_192_75).trans rfl
theorem f_192_76 : fetch 192 76 = some (76, .iload_n 2, 1, [2], 0) := (fm_192 76).trans rfl
theorem u_192_76 {S : Scr} {d : Nat} {a0 a1 a3 a4 a5 a6 : AV} {st : List AV} {sh : Shp} {I : IM} {R : RM} {x : Int} : ev S d 192 76 [a0, a1, .inl x, a3, a4, a5, a6] st (sh, I, R) = ev S d 192 77 [a0, a1, .inl x, a3, a4, a5, a6] (.inl x :: st) (sh, I, R) := (ev_eq f_192_76).trans rfl
theorem f_192_77 : fetch 192 77 = some (77, .iload 6, 2, [6], 0) := (fm_192 77).trans rfl
theorem u_192_77 {S : Scr} {d : Nat} {a0 a1 a2 a3 a4 a5 : AV} {st : List AV} {sh : Shp} {I : IM} {R : RM} {x : Int} : ev S d 192 77 [a0, a1, a2, a3, a4, a5, .inl x] st (sh, I, R) = ev S d 192 79 [a0, a1, a2, a3, a4, a5, .inl x] (.inl x :: st) (sh, I, R) := (ev_eq f_192_77).trans rfl
theorem f_192_79 : fetch 192 79 = some (79, .ior, 1, [], 0) := (fm_192 79).trans rfl
theorem u_192_79 {S : Scr} {d : Nat} {a0 a1 a2 a3 a4 a5 a6 : AV} {st : List AV} {sh : Shp} {I : IM} {R : RM} {x y : Int} : ev S d 192 79 [a0, a1, a2, a3, a4, a5, a6] (.inl y :: .inl x :: st) (sh, I, R) = ev S d 192 80 [a0, a1, a2, a3, a4, a5, a6] (.inl (b32 (fun x y => x ||| y) x y) :: st) (sh, I, R) := (ev_eq f_192_79).trans rfl
theorem f_192_80 : fetch 192 80 = some (80, .istore_n 2, 1, [2], 0) := (fm_192 80).trans rfl
theorem u_192_80 {S : Scr} {d : Nat} {a0 a1 a2 a3 a4 a5 a6 : AV} {st : List AV} {sh : Shp} {I : IM} {R : RM} {x : Int} : ev S d 192 80 [a0, a1, a2, a3, a4, a5, a6] (.inl x :: st) (sh, I, R) = ev S d 192 81 [a0, a1, .inl x, a3, a4, a5, a6] st (sh, I, R) := (ev_eq f_192_80).trans rfl
theorem f_192_81 : fetch 192 81 = some (81, .iinc 5 1, 3, [5], 1) := (fm_192 81).trans rfl
theorem u_192_81 {S : Scr} {d : Nat} {a0 a1 a2 a3 a4 a6 : AV} {st : List AV} {sh : Shp} {I : IM} {R : RM} {x : Int} : ev S d 192 81 [a0, a1, a2, a3, a4, .inl x, a6] st (sh, I, R) = ev S d 192 84 [a0, a1, a2, a3, a4, .inl (wr (x + 1)), a6] st (sh, I, R) := (ev_eq f_192_81).trans rfl
theorem f_192_84 : fetch 192 84 = some (84, .goto (-67), 3, [17], 0) := (fm_192 84).trans rfl
theorem u_192_84 {S : Scr} {d : Nat} {a0 a1 a2 a3 a4 a5 a6 : AV} {st : List AV} {sh : Shp} {I : IM} {R : RM} : ev S d 192 84 [a0, a1, a2, a3, a4, a5, a6] st (sh, I, R) = ev S d 192 17 [a0, a1, a2, a3, a4, a5, a6] st (sh, I, R) := (ev_eq f_192_84).trans rfl
theorem f_192_87 : fetch 192 87 = some (87, .iinc 4 1, 3, [4], 1) := (fm_192 87).trans rfl
theorem u_192_87 {S : Scr} {d : Nat} {a0 a1 a2 a3 a5 a6 : AV} {st : List AV} {sh : Shp} {I : IM} {R : RM} {x : Int} : ev S d 192 87 [a0, a1, a2, a3, .inl x, a5, a6] st (sh, I, R) = ev S d 192 90 [a0, a1, a2, a3, .inl (wr (x + 1)), a5, a6] st (sh, I, R) := (ev_eq f_192_87).trans rfl
theorem f_192_90 : fetch 192 90 = some (90, .goto (-83), 3, [7], 0) := (fm_192 90).trans rfl
theorem u_192_90 {S : Scr} {d : Nat} {a0 a1 a2 a3 a4 a5 a6 : AV} {st : List AV} {sh : Shp} {I : IM} {R : RM} : ev S d 192 90 [a0, a1, a2, a3, a4, a5, a6] st (sh, I, R) = ev S d 192 7 [a0, a1, a2, a3, a4, a5, a6] st (sh, I, R) := (ev_eq f_192_90).trans rfl
theorem f_192_93 : fetch 192 93 = some (93, .iload_n 3, 1, [3], 0) := (fm_192 93).trans rfl
theorem u_192_93 {S : Scr} {d : Nat} {a0 a1 a2 a4 a5 a6 : AV} {st : List AV} {sh : Shp} {I : IM} {R : RM} {x : Int} : ev S d 192 93 [a0, a1, a2, .inl x, a4, a5, a6] st (sh, I, R) = ev S d 192 94 [a0, a1, a2, .inl x, a4, a5, a6] (.inl x :: st) (sh, I, R) := (ev_eq f_192_93).trans rfl
theorem f_192_94 : fetch 192 94 = some (94, .invokestatic 225, 3, [208, 1, 166], 0) := (fm_192 94).trans rfl
theorem u_192_94 {S : Scr} {d : Nat} {a0 a1 a2 a3 a4 a5 a6 : AV} {st : List AV} {sh : Shp} {I : IM} {R : RM} {x0 : Int} (hr : st.length ≤ 8) : ev S d 192 94 [a0, a1, a2, a3, a4, a5, a6] (.inl x0 :: st) (sh, I, R) = bnd (cl d 208 [.inl x0] (sh, I, R)) (fun v M => ev S d 192 97 [a0, a1, a2, a3, a4, a5, a6] (psh v st) M) := (ev_eq f_192_94).trans (congrArg (fin S d 192) (if_pos ⟨rfl, hr⟩))
theorem f_192_97 : fetch 192 97 = some (97, .ireturn, 1, [0], 0) := (fm_192 97).trans rfl
theorem u_192_97 {S : Scr} {d : Nat} {a0 a1 a2 a3 a4 a5 a6 : AV} {sh : Shp} {I : IM} {R : RM} {x : Int} : ev S d 192 97 [a0, a1, a2, a3, a4, a5, a6] [.inl x] (sh, I, R) = some (some (.inl x), (sh, I, R)) := (ev_eq f_192_97).trans fin_iret0
theorem c_193 {d : Nat} {a0 a1 : AV} {M : Mem} : cl (d + 1) 193 [a0, a1] M = ev S0 d 193 0 [a0, a1, .inr (.inr 1), .inr (.inr 1), .inr (.inr 1), .inr (.inr 1)] [] M := (cl_eq (as := [a0, a1]) (show 2 ≤ maxOf 193 by decide +kernel)).trans rfl
theorem mt_193 : MT[193]? = some m_193 := rfl
theorem fm_193 (pc : Nat) : fetch 193 pc = lk m_193.2.2.2.2.2 pc := by
  unfold fetch
  rw [mt_193]
theorem f_193_0 : fetch 193 0 = some (0, .iload_n 1, 1, [1], 0) := (fm_193 0).trans rfl
theorem u_193_0 {S : Scr} {d : Nat} {a0 a2 a3 a4 a5 : AV} {st : List AV} {sh : Shp} {I : IM} {R : RM} {x : Int} : ev S d 193 0 [a0, .inl x, a2, a3, a4, a5] st (sh, I, R) = ev S d 193 1 [a0, .inl x, a2, a3, a4, a5] (.inl x :: st) (sh, I, R) := (ev_eq f_193_0).trans rfl
theorem f_193_1 : fetch 193 1 = some (1, .istore_n 2, 1, [2], 0) := (fm_193 1).trans rfl
theorem u_193_1 {S : Scr} {d : Nat} {a0 a1 a2 a3 a4 a5 : AV} {st : List AV} {sh : Shp} {I : IM} {R : RM} {x : Int} : ev S d 193 1 [a0, a1, a2, a3, a4, a5] (.inl x :: st) (sh, I, R) = ev S d 193 2 [a0, a1, .inl x, a3, a4, a5] st (sh, I, R) := (ev_eq f_193_1).trans rfl
theorem f_193_2 : fetch 193 2 = some (2, .iconst 0, 1, [], 0) := (fm_193 2).trans rfl
theorem u_193_2 {S : Scr} {d : Nat} {a0 a1 a2 a3 a4 a5 : AV} {st : List AV} {sh : Shp} {I : IM} {R : RM} : ev S d 193 2 [a0, a1, a2, a3, a4, a5] st (sh, I, R) = ev S d 193 3 [a0, a1, a2, a3, a4, a5] (.inl 0 :: st) (sh, I, R) := (ev_eq f_193_2).trans rfl
theorem f_193_3 : fetch 193 3 = some (3, .istore_n 3, 1, [3], 0) := (fm_193 3).trans rfl
theorem u_193_3 {S : Scr} {d : Nat} {a0 a1 a2 a3 a4 a5 : AV} {st : List AV} {sh : Shp} {I : IM} {R : RM} {x : Int} : ev S d 193 3 [a0, a1, a2, a3, a4, a5] (.inl x :: st) (sh, I, R) = ev S d 193 4 [a0, a1, a2, .inl x, a4, a5] st (sh, I, R) := (ev_eq f_193_3).trans rfl
theorem f_193_4 : fetch 193 4 = some (4, .iload_n 2, 1, [2], 0) := (fm_193 4).trans rfl
theorem u_193_4 {S : Scr} {d : Nat} {a0 a1 a3 a4 a5 : AV} {st : List AV} {sh : Shp} {I : IM} {R : RM} {x : Int} : ev S d 193 4 [a0, a1, .inl x, a3, a4, a5] st (sh, I, R) = ev S d 193 5 [a0, a1, .inl x, a3, a4, a5] (.inl x :: st) (sh, I, R) := (ev_eq f_193_4).trans rfl
theorem f_193_5 : fetch 193 5 = some (5, .ifCond .eq 74, 3, [79], 0) := (fm_193 5).trans rfl
theorem u_193_5 {S : Scr} {d : Nat} {a0 a1 a2 a3 a4 a5 : AV} {st : List AV} {sh : Shp} {I : IM} {R : RM} {x : Int} : ev S d 193 5 [a0, a1, a2, a3, a4, a5] (.inl x :: st) (sh, I, R) = if x = 0 then ev S d 193 79 [a0, a1, a2, a3, a4, a5] st (sh, I, R) else ev S d 193 8 [a0, a1, a2, a3, a4, a5] st (sh, I, R) := (ev_eq f_193_5).trans fin_if_eq
theorem f_193_8 : fetch 193 8 = some (8, .iconst 0, 1, [], 0) := (fm_193 8).trans rfl
theorem u_193_8 {S : Scr} {d : Nat} {a0 a1 a2 a3 a4 a5 : AV} {st : List AV} {sh : Shp} {I : IM} {R : RM} : ev S d 193 8 [a0, a1, a2, a3, a4, a5] st (sh, I, R) = ev S d 193 9 [a0, a1, a2, a3, a4, a5] (.inl 0 :: st) (sh, I, R) := (ev_eq f_193_8).trans rfl
theorem f_193_9 : fetch 193 9 = some (9, .istore 4, 2, [4], 0) := (fm_193 9).trans rfl
theorem u_193_9 {S : Scr} {d : Nat} {a0 a1 a2 a3 a4 a5 : AV} {st : List AV} {sh : Shp} {I : IM} {R : RM} {x : Int} : ev S d 193 9 [a0, a1, a2, a3, a4, a5] (.inl x :: st) (sh, I, R) = ev S d 193 11 [a0, a1, a2, a3, .inl x, a5] st (sh, I, R) := (ev_eq f_193_9).trans rfl
theorem f_193_11 : fetch 193 11 = some (11, .iconst 0, 1, [], 0) := (fm_193 11).trans rfl
theorem u_193_11 {S : Scr} {d : Nat} {a0 a1 a2 a3 a4 a5 : AV} {st : List AV} {sh : Shp} {I : IM} {R : RM} : ev S d 193 11 [a0, a1, a2, a3, a4, a5] st (sh, I, R) = ev S d 193 12 [a0, a1, a2, a3, a4, a5] (.inl 0 :: st) (sh, I, R) := (ev_eq f_193_11).trans rfl
theorem f_193_12 : fetch 193 12 = some (12, .istore 5, 2, [5], 0) := (fm_193 12).trans rfl
theorem u_193_12 {S : Scr} {d : Nat} {a0 a1 a2 a3 a4 a5 : AV} {st : List AV} {sh : Shp} {I : IM} {R : RM} {x : Int} : ev S d 193 12 [a0, a1, a2, a3, a4, a5] (.inl x :: st) (sh, I, R) = ev S d 193 14 [a0, a1, a2, a3, a4, .inl x] st (sh, I, R) := (ev_eq f_193_12).trans rfl
theorem f_193_14 : fetch 193 14 = some (14, .iload 5, 2, [5], 0) := (fm_193 14).trans rfl
theorem u_193_14 {S : Scr} {d : Nat} {a0 a1 a2 a3 a4 : AV} {st : List AV} {sh : Shp} {I : IM} {R : RM} {x : Int} : ev S d 193 14 [a0, a1, a2, a3, a4, .inl x] st (sh, I, R) = ev S d 193 16 [a0, a1, a2, a3, a4, .inl x] (.inl x :: st) (sh, I, R) := (ev_eq f_193_14).trans rfl
theorem f_193_16 : fetch 193 16 = some (16, .bipush 30, 2, [], 30) := (fm_193 16).trans rfl
theorem u_193_16 {S : Scr} {d : Nat} {a0 a1 a2 a3 a4 a5 : AV} {st : List AV} {sh : Shp} {I : IM} {R : RM} : ev S d 193 16 [a0, a1, a2, a3, a4, a5] st (sh, I, R) = ev S d 193 18 [a0, a1, a2, a3, a4, a5] (.inl 30 :: st) (sh, I, R) := (ev_eq f_193_16).trans rfl
theorem f_193_18 : fetch 193 18 = some (18, .if_icmp .ge 43, 3, [61], 0) := (fm_193 18).trans rfl
theorem u_193_18 {S : Scr} {d : Nat} {a0 a1 a2 a3 a4 a5 : AV} {st : List AV} {sh : Shp} {I : IM} {R : RM} {x y : Int} : ev S d 193 18 [a0, a1, a2, a3, a4, a5] (.inl y :: .inl x :: st) (sh, I, R) = if y ≤ x then ev S d 193 61 [a0, a1, a2, a3, a4, a5] st (sh, I, R) else ev S d 193 21 [a0, a1, a2, a3, a4, a5] st (sh, I, R) := (ev_eq f_193_18).trans fin_icmp_ge
theorem f_193_21 : fetch 193 21 = some (21, .iload 4, 2, [4], 0) := (fm_193 21).trans rfl
theorem u_193_21 {S : Scr} {d : Nat} {a0 a1 a2 a3 a5 : AV} {st : List AV} {sh : Shp} {I : IM} {R : RM} {x : Int} : ev S d 193 21 [a0, a1, a2, a3, .inl x, a5] st (sh, I, R) = ev S d 193 23 [a0, a1, a2, a3, .inl x, a5] (.inl x :: st) (sh, I, R) := (ev_eq f_193_21).trans rfl
theorem f_193_23 : fetch 193 23 = some (23, .iload_n 2, 1, [2], 0) := (fm_193 23).trans rfl
theorem u_193_23 {S : Scr} {d : Nat} {a0 a1 a3 a4 a5 : AV} {st : List AV} {sh : Shp} {I : IM} {R : RM} {x : Int} : ev S d 193 23 [a0, a1, .inl x, a3, a4, a5] st (sh, I, R) = ev S d 193 24 [a0, a1, .inl x, a3, a4, a5] (.inl x :: st) (sh, I, R) := (ev_eq f_193_23).trans rfl
theorem f_193_24 : fetch 193 24 = some (24, .iload 5, 2, [5], 0) := (fm_193 24).trans rfl
theorem u_193_24 {S : Scr} {d : Nat} {a0 a1 a2 a3 a4 : AV} {st : List AV} {sh : Shp} {I : IM} {R : RM} {x : Int} : ev S d 193 24 [a0, a1, a2, a3, a4, .inl x] st (sh, I, R) = ev S d 193 26 [a0, a1, a2, a3, a4, .inl x] (.inl x :: st) (sh, I, R) := (ev_eq f_193_24).trans rfl
theorem f_193_26 : fetch 193 26 = some (26, .ishr, 1, [], 0) := (fm_193 26).trans rfl
theorem u_193_26 {S : Scr} {d : Nat} {a0 a1 a2 a3 a4 a5 : AV} {st : List AV} {sh : Shp} {I : IM} {R : RM} {x y : Int} : ev S d 193 26 [a0, a1, a2, a3, a4, a5] (.inl y :: .inl x :: st) (sh, I, R) = ev S d 193 27 [a0, a1, a2, a3, a4, a5] (.inl (b32 (fun x y => x >>> (y &&& 31)) x y) :: st) (sh, I, R) := (ev_eq f_193_26).trans rfl
theorem f_193_27 : fetch 193 27 = some (27, .iconst 1, 1, [], 1) := (fm_193 27).trans rfl
theorem u_193_27 {S : Scr} {d : Nat} {a0 a1 a2 a3 a4 a5 : AV} {st : List AV} {sh : Shp} {I : IM} {R : RM} : ev S d 193 27 [a0, a1, a2, a3, a4, a5] st (sh, I, R) = ev S d 193 28 [a0, a1, a2, a3, a4, a5] (.inl 1 :: st) (sh, I, R) := (ev_eq f_193_27).trans rfl
theorem f_193_28 : fetch 193 28 = some (28, .iand, 1, [], 0) := (fm_193 28).trans rfl
theorem u_193_28 {S : Scr} {d : Nat} {a0 a1 a2 a3 a4 a5 : AV} {st : List AV} {sh : Shp} {I : IM} {R : RM} {x y : Int} : ev S d 193 28 [a0, a1, a2, a3, a4, a5] (.inl y :: .inl x :: st) (sh, I, R) = ev S d 193 29 [a0, a1, a2, a3, a4, a5] (.inl (b32 (fun x y => x &&& y) x y) :: st) (sh, I, R) := (ev_eq f_193_28).trans rfl
theorem f_193_29 : fetch 193 29 = some (29, .iconst 1, 1, [], 1) := (fm_193 29).trans rfl
theorem u_193_29 {S : Scr} {d : Nat} {a0 a1 a2 a3 a4 a5 : AV} {st : List AV} {sh : Shp} {I : IM} {R : RM} : ev S d 193 29 [a0, a1, a2, a3, a4, a5] st (sh, I, R) = ev S d 193 30 [a0, a1, a2, a3, a4, a5] (.inl 1 :: st) (sh, I, R) := (ev_eq f_193_29).trans rfl
theorem f_193_30 : fetch 193 30 = some (30, .if_icmp .ne 21, 3, [51], 0) := (fm_193 30).trans rfl
theorem u_193_30 {S : Scr} {d : Nat} {a0 a1 a2 a3 a4 a5 : AV} {st : List AV} {sh : Shp} {I : IM} {R : RM} {x y : Int} : ev S d 193 30 [a0, a1, a2, a3, a4, a5] (.inl y :: .inl x :: st) (sh, I, R) = if ¬ x = y then ev S d 193 51 [a0, a1, a2, a3, a4, a5] st (sh, I, R) else ev S d 193 33 [a0, a1, a2, a3, a4, a5] st (sh, I, R) := (ev_eq f_193_30).trans fin_icmp_ne
theorem f_193_33 : fetch 193 33 = some (33, .aload_n 0, 1, [0], 0) := (fm_193 33).trans rfl
theorem u_193_33 {S : Scr} {d : Nat} {a1 a2 a3 a4 a5 : AV} {st : List AV} {sh : Shp} {I : IM} {R : RM} {x : Nat} : ev S d 193 33 [.inr (.inl x), a1, a2, a3, a4, a5] st (sh, I, R) = ev S d 193 34 [.inr (.inl x), a1, a2, a3, a4, a5] (.inr (.inl x) :: st) (sh, I, R) := (ev_eq f_193_33).trans rfl
theorem f_193_34 : fetch 193 34 = some (34, .iload 5, 2, [5], 0) := (fm_193 34).trans rfl
theorem u_193_34 {S : Scr} {d : Nat} {a0 a1 a2 a3 a4 : AV} {st : List AV} {sh : Shp} {I : IM} {R : RM} {x : Int} : ev S d 193 34 [a0, a1, a2, a3, a4, .inl x] st (sh, I, R) = ev S d 193 36 [a0, a1, a2, a3, a4, .inl x] (.inl x :: st) (sh, I, R) := (ev_eq f_193_34).trans rfl
theorem f_193_36 : fetch 193 36 = some (36, .invokevirtual 222, 3, [190, 1, 165], 0) := (fm_193 36).trans rfl
theorem u_193_36 {S : Scr} {d : Nat} {a0 a1 a2 a3 a4 a5 : AV} {st : List AV} {sh : Shp} {I : IM} {R : RM} {x0 : Int} {k : Nat} (h : tg sh k = 9) (hr : st.length ≤ 8) : ev S d 193 36 [a0, a1, a2, a3, a4, a5] (.inl x0 :: .inr (.inl k) :: st) (sh, I, R) = bnd (cl d 190 [.inr (.inl k), .inl x0] (sh, I, R)) (fun v M => ev S d 193 39 [a0, a1, a2, a3, a4, a5] (psh v st) M) := (ev_eq f_193_36).trans (congrArg (fin S d 193) (if_pos ⟨h, rfl, hr⟩))
theorem f_193_39 : fetch 193 39 = some (39, .iload_n 2, 1, [2], 0) := (fm_193 39).trans rfl
theorem u_193_39 {S : Scr} {d : Nat} {a0 a1 a3 a4 a5 : AV} {st : List AV} {sh : Shp} {I : IM} {R : RM} {x : Int} : ev S d 193 39 [a0, a1, .inl x, a3, a4, a5] st (sh, I, R) = ev S d 193 40 [a0, a1, .inl x, a3, a4, a5] (.inl x :: st) (sh, I, R) := (ev_eq f_193_39).trans rfl
theorem f_193_40 : fetch 193 40 = some (40, .iand, 1, [], 0) := (fm_193 40).trans rfl
theorem u_193_40 {S : Scr} {d : Nat} {a0 a1 a2 a3 a4 a5 : AV} {st : List AV} {sh : Shp} {I : IM} {R : RM} {x y : Int} : ev S d 193 40 [a0, a1, a2, a3, a4, a5] (.inl y :: .inl x :: st) (sh, I, R) = ev S d 193 41 [a0, a1, a2, a3, a4, a5] (.inl (b32 (fun x y => x &&& y) x y) :: st) (sh, I, R) := (ev_eq f_193_40).trans rfl
theorem f_193_41 : fetch 193 41 = some (41, .ifCond .eq 10, 3, [51], 0) := (fm_193 41).trans rfl
theorem u_193_41 {S : Scr} {d : Nat} {a0 a1 a2 a3 a4 a5 : AV} {st : List AV} {sh : Shp} {I : IM} {R : RM} {x : Int} : ev S d 193 41 [a0, a1, a2, a3, a4, a5] (.inl x :: st) (sh, I, R) = if x = 0 then ev S d 193 51 [a0, a1, a2, a3, a4, a5] st (sh, I, R) else ev S d 193 44 [a0, a1, a2, a3, a4, a5] st (sh, I, R) := (ev_eq f_193_41).trans fin_if_eq
theorem f_193_44 : fetch 193 44 = some (44, .iconst 1, 1, [], 1) := (fm_193 44).trans rfl
theorem u_193_44 {S : Scr} {d : Nat} {a0 a1 a2 a3 a4 a5 : AV} {st : List AV} {sh : Shp} {I : IM} {R : RM} : ev S d 193 44 [a0, a1, a2, a3, a4, a5] st (sh, I, R) = ev S d 193 45 [a0, a1, a2, a3, a4, a5] (.inl 1 :: st) (sh, I, R) := (ev_eq f_193_44).trans rfl
theorem f_193_45 : fetch 193 45 = some (45, .iload 5, 2, [5], 0) := (fm_193 45).trans rfl
theorem u_193_45 {S : Scr} {d : Nat} {a0 a1 a2 a3 a4 : AV} {st : List AV} {sh : Shp} {I : IM} {R : RM} {x : Int} : ev S d 193 45 [a0, a1, a2, a3, a4, .inl x] st (sh, I, R) = ev S d 193 47 [a0, a1, a2, a3, a4, .inl x] (.inl x :: st) (sh, I, R) := (ev_eq f_193_45).trans rfl
theorem f_193_47 : fetch 193 47 = some (47, .ishl, 1, [], 0) := (fm_193 47).trans rfl
theorem u_193_47 {S : Scr} {d : Nat} {a0 a1 a2 a3 a4 a5 : AV} {st : List AV} {sh : Shp} {I : IM} {R : RM} {x y : Int} : ev S d 193 47 [a0, a1, a2, a3, a4, a5] (.inl y :: .inl x :: st) (sh, I, R) = ev S d 193 48 [a0, a1, a2, a3, a4, a5] (.inl (b32 (fun x y => x <<< (y &&& 31)) x y) :: st) (sh, I, R) := (ev_eq f_193_47).trans rfl
theorem f_193_48 : fetch 193 48 = some (48, .goto 4, 3, [52], 0) := (fm_193 48).trans rfl
theorem u_193_48 {S : Scr} {d : Nat} {a0 a1 a2 a3 a4 a5 : AV} {st : List AV} {sh : Shp} {I : IM} {R : RM} : ev S d 193 48 [a0, a1, a2, a3, a4, a5] st (sh, I, R) = ev S d 193 52 [a0, a1, a2, a3, a4, a5] st (sh, I, R) := (ev_eq f_193_48).trans rfl
theorem f_193_51 : fetch 193 51 = some (51, .iconst 0, 1, [], 0) := (fm_193 51).trans rfl
theorem u_193_51 {S : Scr} {d : Nat} {a0 a1 a2 a3 a4 a5 : AV} {st : List AV} {sh : Shp} {I : IM} {R : RM} : ev S d 193 51 [a0, a1, a2, a3, a4, a5] st (sh, I, R) = ev S d 193 52 [a0, a1, a2, a3, a4, a5] (.inl 0 :: st) (sh, I, R) := (ev_eq f_193_51).trans rfl
theorem f_193_52 : fetch 193 52 = some (52, .ior, 1, [], 0) := (fm_193 52).trans rfl
theorem u_193_52 {S : Scr} {d : Nat} {a0 a1 a2 a3 a4 a5 : AV} {st : List AV} {sh : Shp} {I : IM} {R : RM} {x y : Int} : ev S d 193 52 [a0, a1, a2, a3, a4, a5] (.inl y :: .inl x :: st) (sh, I, R) = ev S d 193 53 [a0, a1, a2, a3, a4, a5] (.inl (b32 (fun x y => x ||| y) x y) :: st) (sh, I, R) := (ev_eq f_193_52).trans rfl
theorem f_193_53 : fetch 193 53 = some (53, .istore 4, 2, [4], 0) := (fm_193 53).trans rfl
theorem u_193_53 {S : Scr} {d : Nat} {a0 a1 a2 a3 a4 a5 : AV} {st : List AV} {sh : Shp} {I : IM} {R : RM} {x : Int} : ev S d 193 53 [a0, a1, a2, a3, a4, a5] (.inl x :: st) (sh, I, R) = ev S d 193 55 [a0, a1, a2, a3, .inl x, a5] st (sh, I, R) := (ev_eq f_193_53).trans rfl
theorem f_193_55 : fetch 193 55 = some (55, .iinc 5 1, 3, [5], 1) := (fm_193 55).trans rfl
theorem u_193_55 {S : Scr} {d : Nat} {a0 a1 a2 a3 a4 : AV} {st : List AV} {sh : Shp} {I : IM} {R : RM} {x : Int} : ev S d 193 55 [a0, a1, a2, a3, a4, .inl x] st (sh, I, R) = ev S d 193 58 [a0, a1, a2, a3, a4, .inl (wr (x + 1))] st (sh, I, R) := (ev_eq f_193_55).trans rfl
theorem f_193_58 : fetch 193 58 = some (58, .goto (-44), 3, [14], 0) := (fm_193 58).trans rfl
theorem u_193_58 {S : Scr} {d : Nat} {a0 a1 a2 a3 a4 a5 : AV} {st : List AV} {sh : Shp} {I : IM} {R : RM} : ev S d 193 58 [a0, a1, a2, a3, a4, a5] st (sh, I, R) = ev S d 193 14 [a0, a1, a2, a3, a4, a5] st (sh, I, R) := (ev_eq f_193_58).trans rfl
theorem f_193_61 : fetch 193 61 = some (61, .iload 4, 2, [4], 0) := (fm_193 61).trans rfl
theorem u_193_61 {S : Scr} {d : Nat} {a0 a1 a2 a3 a5 : AV} {st : List AV} {sh : Shp} {I : IM} {R : RM} {x : Int} : ev S d 193 61 [a0, a1, a2, a3, .inl x, a5] st (sh, I, R) = ev S d 193 63 [a0, a1, a2, a3, .inl x, a5] (.inl x :: st) (sh, I, R) := (ev_eq f_193_61).trans rfl
theorem f_193_63 : fetch 193 63 = some (63, .iload_n 2, 1, [2], 0) := (fm_193 63).trans rfl
theorem u_193_63 {S : Scr} {d : Nat} {a0 a1 a3 a4 a5 : AV} {st : List AV} {sh : Shp} {I : IM} {R : RM} {x : Int} : ev S d 193 63 [a0, a1, .inl x, a3, a4, a5] st (sh, I, R) = ev S d 193 64 [a0, a1, .inl x, a3, a4, a5] (.inl x :: st) (sh, I, R) := (ev_eq f_193_63).trans rfl
theorem f_193_64 : fetch 193 64 = some (64, .if_icmp .ne 6, 3, [70], 0) := (fm_193 64).trans rfl
theorem u_193_64 {S : Scr} {d : Nat} {a0 a1 a2 a3 a4 a5 : AV} {st : List AV} {sh : Shp} {I : IM} {R : RM} {x y : Int} : ev S d 193 64 [a0, a1, a2, a3, a4, a5] (.inl y :: .inl x :: st) (sh, I, R) = if ¬ x = y then ev S d 193 70 [a0, a1, a2, a3, a4, a5] st (sh, I, R) else ev S d 193 67 [a0, a1, a2, a3, a4, a5] st (sh, I, R) := (ev_eq f_193_64).trans fin_icmp_ne
theorem f_193_67 : fetch 193 67 = some (67, .bipush (-2), 2, [], (-2)) := (fm_193 67).trans rfl
theorem u_193_67 {S : Scr} {d : Nat} {a0 a1 a2 a3 a4 a5 : AV} {st : List AV} {sh : Shp} {I : IM} {R : RM} : ev S d 193 67 [a0, a1, a2, a3, a4, a5] st (sh, I, R) = ev S d 193 69 [a0, a1, a2, a3, a4, a5] (.inl (-2) :: st) (sh, I, R) := (ev_eq f_193_67).trans rfl
theorem f_193_69 : fetch 193 69 = some (69, .ireturn, 1, [0], 0) := (fm_193 69).trans rfl
theorem u_193_69 {S : Scr} {d : Nat} {a0 a1 a2 a3 a4 a5 : AV} {sh : Shp} {I : IM} {R : RM} {x : Int} : ev S d 193 69 [a0, a1, a2, a3, a4, a5] [.inl x] (sh, I, R) = some (some (.inl x), (sh, I, R)) := (ev_eq f_193_69).trans fin_iret0
theorem f_193_70 : fetch 193 70 = some (70, .iload 4, 2, [4], 0) := (fm_193 70).trans rfl
theorem u_193_70 {S : Scr} {d : Nat} {a0 a1 a2 a3 a5 : AV} {st : List AV} {sh : Shp} {I : IM} {R : RM} {x : Int} : ev S d 193 70 [a0, a1, a2, a3, .inl x, a5] st (sh, I, R) = ev S d 193 72 [a0, a1, a2, a3, .inl x, a5] (.inl x :: st) (sh, I, R) := (ev_eq f_193_70).trans rfl
theorem f_193_72 : fetch 193 72 = some (72, .istore_n 2, 1, [2], 0) := (fm_193 72).trans rfl
theorem u_193_72 {S : Scr} {d : Nat} {a0 a1 a2 a3 a4 a5 : AV} {st : List AV} {sh : Shp} {I : IM} {R : RM} {x : Int} : ev S d 193 72 [a0, a1, a2, a3, a4, a5] (.inl x :: st) (sh, I, R) = ev S d 193 73 [a0, a1, .inl x, a3, a4, a5] st (sh, I, R) := (ev_eq f_193_72).trans rfl
theorem f_193_73 : fetch 193 73 = some (73, .iinc 3 1, 3, [3], 1) := (fm_193 73).trans rfl
theorem u_193_73 {S : Scr} {d : Nat} {a0 a1 a2 a4 a5 : AV} {st : List AV} {sh : Shp} {I : IM} {R : RM} {x : Int} : ev S d 193 73 [a0, a1, a2, .inl x, a4, a5] st (sh, I, R) = ev S d 193 76 [a0, a1, a2, .inl (wr (x + 1)), a4, a5] st (sh, I, R) := (ev_eq f_193_73).trans rfl
theorem f_193_76 : fetch 193 76 = some (76, .goto (-72), 3, [4], 0) := (fm_193 76).trans rfl
theorem u_193_76 {S : Scr} {d : Nat} {a0 a1 a2 a3 a4 a5 : AV} {st : List AV} {sh : Shp} {I : IM} {R : RM} : ev S d 193 76 [a0, a1, a2, a3, a4, a5] st (sh, I, R) = ev S d 193 4 [a0, a1, a2, a3, a4, a5] st (sh, I, R) := (ev_eq f_193_76).trans rfl
theorem f_193_79 : fetch 193 79 = some (79, .iload_n 3, 1, [3], 0) := (fm_193 79).trans rfl
theorem u_193_79 {S : Scr} {d : Nat} {a0 a1 a2 a4 a5 : AV} {st : List AV} {sh : Shp} {I : IM} {R : RM} {x : Int} : ev S d 193 79 [a0, a1, a2, .inl x, a4, a5] st (sh, I, R) = ev S d 193 80 [a0, a1, a2, .inl x, a4, a5] (.inl x :: st) (sh, I, R) := (ev_eq f_193_79).trans rfl
theorem f_193_80 : fetch 193 80 = some (80, .ireturn, 1, [0], 0) := (fm_193 80).trans rfl
theorem u_193_80 {S : Scr} {d : Nat} {a0 a1 a2 a3 a4 a5 : AV} {sh : Shp} {I : IM} {R : RM} {x : Int} : ev S d 193 80 [a0, a1, a2, a3, a4, a5] [.inl x] (sh, I, R) = some (some (.inl x), (sh, I, R)) := (ev_eq f_193_80).trans fin_iret0
theorem c_194 {d : Nat} {a0 a1 a2 : AV} {M : Mem} : cl (d + 1) 194 [a0, a1, a2] M = ev S0 d 194 0 [a0, a1, a2, .inr (.inr 1)] [] M := (cl_eq (as := [a0, a1, a2]) (show 3 ≤ maxOf 194 by decide +kernel)).trans rfl
theorem mt_194 : MT[194]? = some m_194 := rfl
theorem fm_194 (pc : Nat) : fetch 194 pc = lk m_194.2.2.2.2.2 pc := by
  unfold fetch
  rw [mt_194]
theorem f_194_0 : fetch 194 0 = some (0, .aload_n 0, 1, [0], 0) := (fm_194 0).trans rfl
theorem u_194_0 {S : Scr} {d : Nat} {a1 a2 a3 : AV} {st : List AV} {sh : Shp} {I : IM} {R : RM} {x : Nat} : ev S d 194 0 [.inr (.inl x), a1, a2, a3] st (sh, I, R) = ev S d 194 1 [.inr (.inl x), a1, a2, a3] (.inr (.inl x) :: st) (sh, I, R) := (ev_eq f_194_0).trans rfl
theorem f_194_1 : fetch 194 1 = some (1, .iload_n 1, 1, [1], 0) := (fm_194 1).trans rfl
theorem u_194_1 {S : Scr} {d : Nat} {a0 a2 a3 : AV} {st : List AV} {sh : Shp} {I : IM} {R : RM} {x : Int} : ev S d 194 1 [a0, .inl x, a2, a3] st (sh, I, R) = ev S d 194 2 [a0, .inl x, a2, a3] (.inl x :: st) (sh, I, R) := (ev_eq f_194_1).trans rfl
theorem f_194_2 : fetch 194 2 = some (2, .invokevirtual 68, 3, [133, 1, 126], 0) := (fm_194 2).trans rfl
theorem u_194_2 {S : Scr} {d : Nat} {a0 a1 a2 a3 : AV} {st : List AV} {sh : Shp} {I : IM} {R : RM} {x0 : Int} {k : Nat} (h : tg sh k = 9) (hr : st.length ≤ 8) : ev S d 194 2 [a0, a1, a2, a3] (.inl x0 :: .inr (.inl k) :: st) (sh, I, R) = bnd (cl d 133 [.inr (.inl k), .inl x0] (sh, I, R)) (fun v M => ev S d 194 5 [a0, a1, a2, a3] (psh v st) M) := (ev_eq f_194_2).trans (congrArg (fin S d 194) (if_pos ⟨h, rfl, hr⟩))
theorem f_194_5 : fetch 194 5 = some (5, .ifCond .eq 12, 3, [17], 0) := (fm_194 5).trans rfl
theorem u_194_5 {S : Scr} {d : Nat} {a0 a1 a2 a3 : AV} {st : List AV} {sh : Shp} {I : IM} {R : RM} {x : Int} : ev S d 194 5 [a0, a1, a2, a3] (.inl x :: st) (sh, I, R) = if x = 0 then ev S d 194 17 [a0, a1, a2, a3] st (sh, I, R) else ev S d 194 8 [a0, a1, a2, a3] st (sh, I, R) := (ev_eq f_194_5).trans fin_if_eq
theorem f_194_8 : fetch 194 8 = some (8, .iload_n 2, 1, [2], 0) := (fm_194 8).trans rfl
theorem u_194_8 {S : Scr} {d : Nat} {a0 a1 a3 : AV} {st : List AV} {sh : Shp} {I : IM} {R : RM} {x : Int} : ev S d 194 8 [a0, a1, .inl x, a3] st (sh, I, R) = ev S d 194 9 [a0, a1, .inl x, a3] (.inl x :: st) (sh, I, R) := (ev_eq f_194_8).trans rfl
theorem f_194_9 : fetch 194 9 = some (9, .iconst 0, 1, [], 0) := (fm_194 9).trans rfl
theorem u_194_9 {S : Scr} {d : Nat} {a0 a1 a2 a3 : AV} {st : List AV} {sh : Shp} {I : IM} {R : RM} : ev S d 194 9 [a0, a1, a2, a3] st (sh, I, R) = ev S d 194 10 [a0, a1, a2, a3] (.inl 0 :: st) (sh, I, R) := (ev_eq f_194_9).trans rfl
theorem f_194_10 : fetch 194 10 = some (10, .iconst 4, 1, [], 4) := (fm_194 10).trans rfl
theorem u_194_10 {S : Scr} {d : Nat} {a0 a1 a2 a3 : AV} {st : List AV} {sh : Shp} {I : IM} {R : RM} : ev S d 194 10 [a0, a1, a2, a3] st (sh, I, R) = ev S d 194 11 [a0, a1, a2, a3] (.inl 4 :: st) (sh, I, R) := (ev_eq f_194_10).trans rfl
theorem f_194_11 : fetch 194 11 = some (11, .invokestatic 64, 3, [129, 3, 125], 0) := (fm_194 11).trans rfl
theorem u_194_11 {S : Scr} {d : Nat} {a0 a1 a2 a3 : AV} {st : List AV} {sh : Shp} {I : IM} {R : RM} {x0 : Int} {x1 : Int} {x2 : Int} (hr : st.length ≤ 8) : ev S d 194 11 [a0, a1, a2, a3] (.inl x2 :: .inl x1 :: .inl x0 :: st) (sh, I, R) = bnd (cl d 129 [.inl x0, .inl x1, .inl x2] (sh, I, R)) (fun v M => ev S d 194 14 [a0, a1, a2, a3] (psh v st) M) := (ev_eq f_194_11).trans (congrArg (fin S d 194) (if_pos ⟨rfl, hr⟩))
theorem f_194_14 : fetch 194 14 = some (14, .ifCond .ne 5, 3, [19], 0) := (fm_194 14).trans rfl
theorem u_194_14 {S : Scr} {d : Nat} {a0 a1 a2 a3 : AV} {st : List AV} {sh : Shp} {I : IM} {R : RM} {x : Int} : ev S d 194 14 [a0, a1, a2, a3] (.inl x :: st) (sh, I, R) = if ¬ x = 0 then ev S d 194 19 [a0, a1, a2, a3] st (sh, I, R) else ev S d 194 17 [a0, a1, a2, a3] st (sh, I, R) := (ev_eq f_194_14).trans fin_if_ne
theorem f_194_17 : fetch 194 17 = some (17, .iconst (-1), 1, [], (-1)) := (fm_194 17).trans rfl
theorem u_194_17 {S : Scr} {d : Nat} {a0 a1 a2 a3 : AV} {st : List AV} {sh : Shp} {I : IM} {R : RM} : ev S d 194 17 [a0, a1, a2, a3] st (sh, I, R) = ev S d 194 18 [a0, a1, a2, a3] (.inl (-1) :: st) (sh, I, R) := (ev_eq f_194_17).trans rfl
theorem f_194_18 : fetch 194 18 = some (18, .ireturn, 1, [0], 0) := (fm_194 18).trans rfl
theorem u_194_18 {S : Scr} {d : Nat} {a0 a1 a2 a3 : AV} {sh : Shp} {I : IM} {R : RM} {x : Int} : ev S d 194 18 [a0, a1, a2, a3] [.inl x] (sh, I, R) = some (some (.inl x), (sh, I, R)) := (ev_eq f_194_18).trans fin_iret0
theorem f_194_19 : fetch 194 19 = some (19, .aload_n 0, 1, [0], 0) := (fm_194 19).trans rfl
theorem u_194_19 {S : Scr} {d : Nat} {a1 a2 a3 : AV} {st : List AV} {sh : Shp} {I : IM} {R : RM} {x : Nat} : ev S d 194 19 [.inr (.inl x), a1, a2, a3] st (sh, I, R) = ev S d 194 20 [.inr (.inl x), a1, a2, a3] (.inr (.inl x) :: st) (sh, I, R) := (ev_eq f_194_19).trans rfl
theorem f_194_20 : fetch 194 20 = some (20, .iconst 1, 1, [], 1) := (fm_194 20).trans rfl
theorem u_194_20 {S : Scr} {d : Nat} {a0 a1 a2 a3 : AV} {st : List AV} {sh : Shp} {I : IM} {R : RM} : ev S d 194 20 [a0, a1, a2, a3] st (sh, I, R) = ev S d 194 21 [a0, a1, a2, a3] (.inl 1 :: st) (sh, I, R) := (ev_eq f_194_20).trans rfl
theorem f_194_21 : fetch 194 21 = some (21, .iload_n 1, 1, [1], 0) := (fm_194 21).trans rfl
theorem u_194_21 {S : Scr} {d : Nat} {a0 a2 a3 : AV} {st : List AV} {sh : Shp} {I : IM} {R : RM} {x : Int} : ev S d 194 21 [a0, .inl x, a2, a3] st (sh, I, R) = ev S d 194 22 [a0, .inl x, a2, a3] (.inl x :: st) (sh, I, R) := (ev_eq f_194_21).trans rfl
theorem f_194_22 : fetch 194 22 = some (22, .ishl, 1, [], 0) := (fm_194 22).trans rfl
theorem u_194_22 {S : Scr} {d : Nat} {a0 a1 a2 a3 : AV} {st : List AV} {sh : Shp} {I : IM} {R : RM} {x y : Int} : ev S d 194 22 [a0, a1, a2, a3] (.inl y :: .inl x :: st) (sh, I, R) = ev S d 194 23 [a0, a1, a2, a3] (.inl (b32 (fun x y => x <<< (y &&& 31)) x y) :: st) (sh, I, R) := (ev_eq f_194_22).trans rfl
theorem f_194_23 : fetch 194 23 = some (23, .invokevirtual 150, 3, [191, 1, 149], 0) := (fm_194 23).trans rfl
theorem u_194_23 {S : Scr} {d : Nat} {a0 a1 a2 a3 : AV} {st : List AV} {sh : Shp} {I : IM} {R : RM} {x0 : Int} {k : Nat} (h : tg sh k = 9) (hr : st.length ≤ 8) : ev S d 194 23 [a0, a1, a2, a3] (.inl x0 :: .inr (.inl k) :: st) (sh, I, R) = bnd (cl d 191 [.inr (.inl k), .inl x0] (sh, I, R)) (fun v M => ev S d 194 26 [a0, a1, a2, a3] (psh v st) M) := (ev_eq f_194_23).trans (congrArg (fin S d 194) (if_pos ⟨h, rfl, hr⟩))
theorem f_194_26 : fetch 194 26 = some (26, .istore_n 3, 1, [3], 0) := (fm_194 26).trans rfl
theorem u_194_26 {S : Scr} {d : Nat} {a0 a1 a2 a3 : AV} {st : List AV} {sh : Shp} {I : IM} {R : RM} {x : Int} : ev S d 194 26 [a0, a1, a2, a3] (.inl x :: st) (sh, I, R) = ev S d 194 27 [a0, a1, a2, .inl x] st (sh, I, R) := (ev_eq f_194_26).trans rfl
theorem f_194_27 : fetch 194 27 = some (27, .iload_n 2, 1, [2], 0) := (fm_194 27).trans rfl
theorem u_194_27 {S : Scr} {d : Nat} {a0 a1 a3 : AV} {st : List AV} {sh : Shp} {I : IM} {R : RM} {x : Int} : ev S d 194 27 [a0, a1, .inl x, a3] st (sh, I, R) = ev S d 194 28 [a0, a1, .inl x, a3] (.inl x :: st) (sh, I, R) := (ev_eq f_194_27).trans rfl
theorem f_194_28 : fetch 194 28 = some (28, .tableswitch 65 0 3 #[32, 37, 43, 59], 32, [93, 0, 60, 1, 65, 2, 71, 3, 87], 0) := (fm_194 28).trans rfl
theorem u_194_28 {S : Scr} {d : Nat} {a0 a1 a2 a3 : AV} {st : List AV} {sh : Shp} {I : IM} {R : RM} {x : Int} : ev S d 194 28 [a0, a1, a2, a3] (.inl x :: st) (sh, I, R) = if x = 0 then ev S d 194 60 [a0, a1, a2, a3] st (sh, I, R) else if x = 1 then ev S d 194 65 [a0, a1, a2, a3] st (sh, I, R) else if x = 2 then ev S d 194 71 [a0, a1, a2, a3] st (sh, I, R) else if x = 3 then ev S d 194 87 [a0, a1, a2, a3] st (sh, I, R) else ev S d 194 93 [a0, a1, a2, a3] st (sh, I, R) := by
  rw [ev_eq f_194_28]
  show ev S d 194 (swt 93 x [0, 60, 1, 65, 2, 71, 3, 87]) _ _ _ = _
  rw [ev_sw, ev_sw, ev_sw, ev_sw, ev_sw0]
  rfl
theorem f_194_60 : fetch 194 60 = some (60, .iload_n 3, 1, [3], 0) := (fm_194 60).trans rfl
theorem u_194_60 {S : Scr} {d : Nat} {a0 a1 a2 : AV} {st : List AV} {sh : Shp} {I : IM} {R : RM} {x : Int} : ev S d 194 60 [a0, a1, a2, .inl x] st (sh, I, R) = ev S d 194 61 [a0, a1, a2, .inl x] (.inl x :: st) (sh, I, R) := (ev_eq f_194_60).trans rfl
theorem f_194_61 : fetch 194 61 = some (61, .invokestatic 225, 3, [208, 1, 166], 0) := (fm_194 61).trans rfl
theorem u_194_61 {S : Scr} {d : Nat} {a0 a1 a2 a3 : AV} {st : List AV} {sh : Shp} {I : IM} {R : RM} {x0 : Int} (hr : st.length ≤ 8) : ev S d 194 61 [a0, a1, a2, a3] (.inl x0 :: st) (sh, I, R) = bnd (cl d 208 [.inl x0] (sh, I, R)) (fun v M => ev S d 194 64 [a0, a1, a2, a3] (psh v st) M) := (ev_eq f_194_61).trans (congrArg (fin S d 194) (if_pos ⟨rfl, hr⟩))
theorem f_194_64 : fetch 194 64 = some (64, .ireturn, 1, [0], 0) := (fm_194 64).trans rfl
theorem u_194_64 {S : Scr} {d : Nat} {a0 a1 a2 a3 : AV} {sh : Shp} {I : IM} {R : RM} {x : Int} : ev S d 194 64 [a0, a1, a2, a3] [.inl x] (sh, I, R) = some (some (.inl x), (sh, I, R)) := (ev_eq f_194_64).trans fin_iret0
theorem f_194_65 : fetch 194 65 = some (65, .aload_n 0, 1, [0], 0) := (fm_194 65).trans rfl
theorem u_194_65 {S : Scr} {d : Nat} {a1 a2 a3 : AV} {st : List AV} {sh : Shp} {I : IM} {R : RM} {x : Nat} : ev S d 194 65 [.inr (.inl x), a1, a2, a3] st (sh, I, R) = ev S d 194 66 [.inr (.inl x), a1, a2, a3] (.inr (.inl x) :: st) (sh, I, R) := (ev_eq f_194_65).trans rfl
theorem f_194_66 : fetch 194 66 = some (66, .iload_n 3, 1, [3], 0) := (fm_194 66).trans rfl
theorem u_194_66 {S : Scr} {d : Nat} {a0 a1 a2 : AV} {st : List AV} {sh : Shp} {I : IM} {R : RM} {x : Int} : ev S d 194 66 [a0, a1, a2, .inl x] st (sh, I, R) = ev S d 194 67 [a0, a1, a2, .inl x] (.inl x :: st) (sh, I, R) := (ev_eq f_194_66).trans rfl
theorem f_194_67 : fetch 194 67 = some (67, .invokevirtual 230, 3, [192, 1, 167], 0) := (fm_194 67).trans rfl
theorem u_194_67 {S : Scr} {d : Nat} {a0 a1 a2 a3 : AV} {st : List AV} {sh : Shp} {I : IM} {R : RM} {x0 : Int} {k : Nat} (h : tg sh k = 9) (hr : st.length ≤ 8) : ev S d 194 67 [a0, a1, a2, a3] (.inl x0 :: .inr (.inl k) :: st) (sh, I, R) = bnd (cl d 192 [.inr (.inl k), .inl x0] (sh, I, R)) (fun v M => ev S d 194 70 [a0, a1, a2, a3] (psh v st) M) := (ev_eq f_194_67).trans (congrArg (fin S d 194) (if_pos ⟨h, rfl, hr⟩))
theorem f_194_70 : fetch 194 70 = some (70, .ireturn, 1, [0], 0) := (fm_194 70).trans rfl
theorem u_194_70 {S : Scr} {d : Nat} {a0 a1 a2 a3 : AV} {sh : Shp} {I : IM} {R : RM} {x : Int} : ev S d 194 70 [a0, a1, a2, a3] [.inl x] (sh, I, R) = some (some (.inl x), (sh, I, R)) := (ev_eq f_194_70).trans fin_iret0
theorem f_194_71 : fetch 194 71 = some (71, .aload_n 0, 1, [0], 0) := (fm_194 71).trans rfl
theorem u_194_71 {S : Scr} {d : Nat} {a1 a2 a3 : AV} {st : List AV} {sh : Shp} {I : IM} {R : RM} {x : Nat} : ev S d 194 71 [.inr (.inl x), a1, a2, a3] st (sh, I, R) = ev S d 194 72 [.inr (.inl x), a1, a2, a3] (.inr (.inl x) :: st) (sh, I, R) := (ev_eq f_194_71).trans rfl
theorem f_194_72 : fetch 194 72 = some (72, .iload_n 3, 1, [3], 0) := (fm_194 72).trans rfl
theorem u_194_72 {S : Scr} {d : Nat} {a0 a1 a2 : AV} {st : List AV} {sh : Shp} {I : IM} {R : RM} {x : Int} : ev S d 194 72 [a0, a1, a2, .inl x] st (sh, I, R) = ev S d 194 73 [a0, a1, a2, .inl x] (.inl x :: st) (sh, I, R) := (ev_eq f_194_72).trans rfl
theorem f_194_73 : fetch 194 73 = some (73, .invokevirtual 233, 3, [193, 1, 168], 0) := (fm_194 73).trans rfl
theorem u_194_73 {S : Scr} {d : Nat} {a0 a1 a2 a3 : AV} {st : List AV} {sh : Shp} {I : IM} {R : RM} {x0 : Int} {k : Nat} (h : tg sh k = 9) (hr : st.length ≤ 8) : ev S d 194 73 [a0, a1, a2, a3] (.inl x0 :: .inr (.inl k) :: st) (sh, I, R) = bnd (cl d 193 [.inr (.inl k), .inl x0] (sh, I, R)) (fun v M => ev S d 194 76 [a0, a1, a2, a3] (psh v st) M) := (ev_eq f_194_73).trans (congrArg (fin S d 194) (if_pos ⟨h, rfl, hr⟩))
theorem f_194_76 : fetch 194 76 = some (76, .bipush (-2), 2, [], (-2)) := (fm_194 76).trans rfl
theorem u_194_76 {S : Scr} {d : Nat} {a0 a1 a2 a3 : AV} {st : List AV} {sh : Shp} {I : IM} {R : RM} : ev S d 194 76 [a0, a1, a2, a3] st (sh, I, R) = ev S d 194 78 [a0, a1, a2, a3] (.inl (-2) :: st) (sh, I, R) := (ev_eq f_194_76).trans rfl
theorem f_194_78 : fetch 194 78 = some (78, .if_icmp .ne 7, 3, [85], 0) := (fm_194 78).trans rfl
theorem u_194_78 {S : Scr} {d : Nat} {a0 a1 a2 a3 : AV} {st : List AV} {sh : Shp} {I : IM} {R : RM} {x y : Int} : ev S d 194 78 [a0, a1, a2, a3] (.inl y :: .inl x :: st) (sh, I, R) = if ¬ x = y then ev S d 194 85 [a0, a1, a2, a3] st (sh, I, R) else ev S d 194 81 [a0, a1, a2, a3] st (sh, I, R) := (ev_eq f_194_78).trans fin_icmp_ne
theorem f_194_81 : fetch 194 81 = some (81, .iconst 1, 1, [], 1) := (fm_194 81).trans rfl
theorem u_194_81 {S : Scr} {d : Nat} {a0 a1 a2 a3 : AV} {st : List AV} {sh : Shp} {I : IM} {R : RM} : ev S d 194 81 [a0, a1, a2, a3] st (sh, I, R) = ev S d 194 82 [a0, a1, a2, a3] (.inl 1 :: st) (sh, I, R) := (ev_eq f_194_81).trans rfl
theorem f_194_82 : fetch 194 82 = some (82, .goto 4, 3, [86], 0) := (fm_194 82).trans rfl
theorem u_194_82 {S : Scr} {d : Nat} {a0 a1 a2 a3 : AV} {st : List AV} {sh : Shp} {I : IM} {R : RM} : ev S d 194 82 [a0, a1, a2, a3] st (sh, I, R) = ev S d 194 86 [a0, a1, a2, a3] st (sh, I, R) := (ev_eq f_194_82).trans rfl
theorem f_194_85 : fetch 194 85 = some (85, .iconst 0, 1, [], 0) := (fm_194 85).trans rfl
theorem u_194_85 {S : Scr} {d : Nat} {a0 a1 a2 a3 : AV} {st : List AV} {sh : Shp} {I : IM} {R : RM} : ev S d 194 85 [a0, a1, a2, a3] st (sh, I, R) = ev S d 194 86 [a0, a1, a2, a3] (.inl 0 :: st) (sh, I, R) := (ev_eq f_194_85).trans rfl
theorem f_194_86 : fetch 194 86 = some (86, .ireturn, 1, [0], 0) := (fm_194 86).trans rfl
theorem u_194_86 {S : Scr} {d : Nat} {a0 a1 a2 a3 : AV} {sh : Shp} {I : IM} {R : RM} {x : Int} : ev S d 194 86 [a0, a1, a2, a3] [.inl x] (sh, I, R) = some (some (.inl x), (sh, I, R)) := (ev_eq f_194_86).trans fin_iret0
theorem f_194_87 : fetch 194 87 = some (87, .aload_n 0, 1, [0], 0) := (fm_194 87).trans rfl
theorem u_194_87 {S : Scr} {d : Nat} {a1 a2 a3 : AV} {st : List AV} {sh : Shp} {I : IM} {R : RM} {x : Nat} : ev S d 194 87 [.inr (.inl x), a1, a2, a3] st (sh, I, R) = ev S d 194 88 [.inr (.inl x), a1, a2, a3] (.inr (.inl x) :: st) (sh, I, R) := (ev_eq f_194_87).trans rfl
theorem f_194_88 : fetch 194 88 = some (88, .iload_n 3, 1, [3], 0) := (fm_194 88).trans rfl
theorem u_194_88 {S : Scr} {d : Nat} {a0 a1 a2 : AV} {st : List AV} {sh : Shp} {I : IM} {R : RM} {x : Int} : ev S d 194 88 [a0, a1, a2, .inl x] st (sh, I, R) = ev S d 194 89 [a0, a1, a2, .inl x] (.inl x :: st) (sh, I, R) := (ev_eq f_194_88).trans rfl
theorem f_194_89 : fetch 194 89 = some (89, .invokevirtual 233, 3, [193, 1, 168], 0) := (fm_194 89).trans rfl
theorem u_194_89 {S : Scr} {d : Nat} {a0 a1 a2 a3 : AV} {st : List AV} {sh : Shp} {I : IM} {R : RM} {x0 : Int} {k : Nat} (h : tg sh k = 9) (hr : st.length ≤ 8) : ev S d 194 89 [a0, a1, a2, a3] (.inl x0 :: .inr (.inl k) :: st) (sh, I, R) = bnd (cl d 193 [.inr (.inl k), .inl x0] (sh, I, R)) (fun v M => ev S d 194 92 [a0, a1, a2, a3] (psh v st) M) := (ev_eq f_194_89).trans (congrArg (fin S d 194) (if_pos ⟨h, rfl, hr⟩))
theorem f_194_92 : fetch 194 92 = some (92, .ireturn, 1, [0], 0) := (fm_194 92).trans rfl
theorem u_194_92 {S : Scr} {d : Nat} {a0 a1 a2 a3 : AV} {sh : Shp} {I : IM} {R : RM} {x : Int} : ev S d 194 92 [a0, a1, a2, a3] [.inl x] (sh, I, R) = some (some (.inl x), (sh, I, R)) := (ev_eq f_194_92).trans fin_iret0
theorem f_194_93 : fetch 194 93 = some (93, .aload_n 0, 1, [0], 0) := (fm_194 93).trans rfl
theorem u_194_93 {S : Scr} {d : Nat} {a1 a2 a3 : AV} {st : List AV} {sh : Shp} {I : IM} {R : RM} {x : Nat} : ev S d 194 93 [.inr (.inl x), a1, a2, a3] st (sh, I, R) = ev S d 194 94 [.inr (.inl x), a1, a2, a3] (.inr (.inl x) :: st) (sh, I, R) := (ev_eq f_194_93).trans rfl
theorem f_194_94 : fetch 194 94 = some (94, .iload_n 1, 1, [1], 0) := (fm_194 94).trans rfl
theorem u_194_94 {S : Scr} {d : Nat} {a0 a2 a3 : AV} {st : List AV} {sh : Shp} {I : IM} {R : RM} {x : Int} : ev S d 194 94 [a0, .inl x, a2, a3] st (sh, I, R) = ev S d 194 95 [a0, .inl x, a2, a3] (.inl x :: st) (sh, I, R) := (ev_eq f_194_94).trans rfl
theorem f_194_95 : fetch 194 95 = some (95, .invokevirtual 173, 3, [176, 1, 154], 0) := (fm_194 95).trans rfl
theorem u_194_95 {S : Scr} {d : Nat} {a0 a1 a2 a3 : AV} {st : List AV} {sh : Shp} {I : IM} {R : RM} {x0 : Int} {k : Nat} (h : tg sh k = 9) (hr : st.length ≤ 8) : ev S d 194 95 [a0, a1, a2, a3] (.inl x0 :: .inr (.inl k) :: st) (sh, I, R) = bnd (cl d 176 [.inr (.inl k), .inl x0] (sh, I, R)) (fun v M => ev S d 194 98 [a0, a1, a2, a3] (psh v st) M) := (ev_eq f_194_95).trans (congrArg (fin S d 194) (if_pos ⟨h, rfl, hr⟩))
theorem f_194_98 : fetch 194 98 = some (98, .ifCond .eq 10, 3, [108], 0) := (fm_194 98).trans rfl
theorem u_194_98 {S : Scr} {d : Nat} {a0 a1 a2 a3 : AV} {st : List AV} {sh : Shp} {I : IM} {R : RM} {x : Int} : ev S d 194 98 [a0, a1, a2, a3] (.inl x :: st) (sh, I, R) = if x = 0 then ev S d 194 108 [a0, a1, a2, a3] st (sh, I, R) else ev S d 194 101 [a0, a1, a2, a3] st (sh, I, R) := (ev_eq f_194_98).trans fin_if_eq
theorem f_194_101 : fetch 194 101 = some (101, .aload_n 0, 1, [0], 0) := (fm_194 101).trans rfl
theorem u_194_101 {S : Scr} {d : Nat} {a1 a2 a3 : AV} {st : List AV} {sh : Shp} {I : IM} {R : RM} {x : Nat} : ev S d 194 101 [.inr (.inl x), a1, a2, a3] st (sh, I, R) = ev S d 194 102 [.inr (.inl x), a1, a2, a3] (.inr (.inl x) :: st) (sh, I, R) := (ev_eq f_194_101).trans rfl
theorem f_194_102 : fetch 194 102 = some (102, .getfield 156, 3, [9, 12, 0, 98], 0) := (fm_194 102).trans rfl
theorem u_194_102 {S : Scr} {d : Nat} {a0 a1 a2 a3 : AV} {st : List AV} {sh : Shp} {I : IM} {R : RM} {k : Nat} (h : tg sh k = 9) : ev S d 194 102 [a0, a1, a2, a3] (.inr (.inl k) :: st) (sh, I, R) = ev S d 194 105 [a0, a1, a2, a3] (.inl (I k 12) :: st) (sh, I, R) := (ev_eq f_194_102).trans (congrArg (fin S d 194) (if_pos h))
theorem f_194_105 : fetch 194 105 = some (105, .goto 5, 3, [110], 0) := (fm_194 105).trans rfl
theorem u_194_105 {S : Scr} {d : Nat} {a0 a1 a2 a3 : AV} {st : List AV} {sh : Shp} {I : IM} {R : RM} : ev S d 194 105 [a0, a1, a2, a3] st (sh, I, R) = ev S d 194 110 [a0, a1, a2, a3] st (sh, I, R) := (ev_eq f_194_105).trans rfl
theorem f_194_108 : fetch 194 108 = some (108, .bipush (-3), 2, [], (-3)) := (fm_194 108).trans rfl
theorem u_194_108 {S : Scr} {d : Nat} {a0 a1 a2 a3 : AV} {st : List AV} {sh : Shp} {I : IM} {R : RM} : ev S d 194 108 [a0, a1, a2, a3] st (sh, I, R) = ev S d 194 110 [a0, a1, a2, a3] (.inl (-3) :: st) (sh, I, R) := (ev_eq f_194_108).trans rfl
theorem f_194_110 : fetch 194 110 = some (110, .ireturn, 1, [0], 0) := (fm_194 110).trans rfl
theorem u_194_110 {S : Scr} {d : Nat} {a0 a1 a2 a3 : AV} {sh : Shp} {I : IM} {R : RM} {x : Int} : ev S d 194 110 [a0, a1, a2, a3] [.inl x] (sh, I, R) = some (some (.inl x), (sh, I, R)) := (ev_eq f_194_110).trans fin_iret0
theorem c_195 {d : Nat} {a0 a1 a2 : AV} {M : Mem} : cl (d + 1) 195 [a0, a1, a2] M = ev S0 d 195 0 [a0, a1, a2] [] M := (cl_eq (as := [a0, a1, a2]) (show 3 ≤ maxOf 195 by decide +kernel)).trans rfl
theorem mt_195 : MT[195]? = some m_195 := rfl
theorem fm_195 (pc : Nat) : fetch 195 pc = lk m_195.2.2.2.2.2 pc := by
  unfold fetch
  rw [mt_195]
theorem f_195_0 : fetch 195 0 = some (0, .aload_n 0, 1, [0], 0) := (fm_195 0).trans rfl
theorem u_195_0 {S : Scr} {d : Nat} {a1 a2 : AV} {st : List AV} {sh : Shp} {I : IM} {R : RM} {x : Nat} : ev S d 195 0 [.inr (.inl x), a1, a2] st (sh, I, R) = ev S d 195 1 [.inr (.inl x), a1, a2] (.inr (.inl x) :: st) (sh, I, R) := (ev_eq f_195_0).trans rfl
theorem f_195_1 : fetch 195 1 = some (1, .iload_n 1, 1, [1], 0) := (fm_195 1).trans rfl
theorem u_195_1 {S : Scr} {d : Nat} {a0 a2 : AV} {st : List AV} {sh : Shp} {I : IM} {R : RM} {x : Int} : ev S d 195 1 [a0, .inl x, a2] st (sh, I, R) = ev S d 195 2 [a0, .inl x, a2] (.inl x :: st) (sh, I, R) := (ev_eq f_195_1).trans rfl
theorem f_195_2 : fetch 195 2 = some (2, .invokevirtual 68, 3, [133, 1, 126], 0) := (fm_195 2).trans rfl
theorem u_195_2 {S : Scr} {d : Nat} {a0 a1 a2 : AV} {st : List AV} {sh : Shp} {I : IM} {R : RM} {x0 : Int} {k : Nat} (h : tg sh k = 9) (hr : st.length ≤ 8) : ev S d 195 2 [a0, a1, a2] (.inl x0 :: .inr (.inl k) :: st) (sh, I, R) = bnd (cl d 133 [.inr (.inl k), .inl x0] (sh, I, R)) (fun v M => ev S d 195 5 [a0, a1, a2] (psh v st) M) := (ev_eq f_195_2).trans (congrArg (fin S d 195) (if_pos ⟨h, rfl, hr⟩))
theorem f_195_5 : fetch 195 5 = some (5, .ifCond .eq 11, 3, [16], 0) := (fm_195 5).trans rfl
theorem u_195_5 {S : Scr} {d : Nat} {a0 a1 a2 : AV} {st : List AV} {sh : Shp} {I : IM} {R : RM} {x : Int} : ev S d 195 5 [a0, a1, a2] (.inl x :: st) (sh, I, R) = if x = 0 then ev S d 195 16 [a0, a1, a2] st (sh, I, R) else ev S d 195 8 [a0, a1, a2] st (sh, I, R) := (ev_eq f_195_5).trans fin_if_eq
theorem f_195_8 : fetch 195 8 = some (8, .aload_n 0, 1, [0], 0) := (fm_195 8).trans rfl
theorem u_195_8 {S : Scr} {d : Nat} {a1 a2 : AV} {st : List AV} {sh : Shp} {I : IM} {R : RM} {x : Nat} : ev S d 195 8 [.inr (.inl x), a1, a2] st (sh, I, R) = ev S d 195 9 [.inr (.inl x), a1, a2] (.inr (.inl x) :: st) (sh, I, R) := (ev_eq f_195_8).trans rfl
theorem f_195_9 : fetch 195 9 = some (9, .iload_n 2, 1, [2], 0) := (fm_195 9).trans rfl
theorem u_195_9 {S : Scr} {d : Nat} {a0 a1 : AV} {st : List AV} {sh : Shp} {I : IM} {R : RM} {x : Int} : ev S d 195 9 [a0, a1, .inl x] st (sh, I, R) = ev S d 195 10 [a0, a1, .inl x] (.inl x :: st) (sh, I, R) := (ev_eq f_195_9).trans rfl
theorem f_195_10 : fetch 195 10 = some (10, .invokevirtual 68, 3, [133, 1, 126], 0) := (fm_195 10).trans rfl
theorem u_195_10 {S : Scr} {d : Nat} {a0 a1 a2 : AV} {st : List AV} {sh : Shp} {I : IM} {R : RM} {x0 : Int} {k : Nat} (h : tg sh k = 9) (hr : st.length ≤ 8) : ev S d 195 10 [a0, a1, a2] (.inl x0 :: .inr (.inl k) :: st) (sh, I, R) = bnd (cl d 133 [.inr (.inl k), .inl x0] (sh, I, R)) (fun v M => ev S d 195 13 [a0, a1, a2] (psh v st) M) := (ev_eq f_195_10).trans (congrArg (fin S d 195) (if_pos ⟨h, rfl, hr⟩))
theorem f_195_13 : fetch 195 13 = some (13, .ifCond .ne 5, 3, [18], 0) := (fm_195 13).trans rfl
theorem u_195_13 {S : Scr} {d : Nat} {a0 a1 a2 : AV} {st : List AV} {sh : Shp} {I : IM} {R : RM} {x : Int} : ev S d 195 13 [a0, a1, a2] (.inl x :: st) (sh, I, R) = if ¬ x = 0 then ev S d 195 18 [a0, a1, a2] st (sh, I, R) else ev S d 195 16 [a0, a1, a2] st (sh, I, R) := (ev_eq f_195_13).trans fin_if_ne
theorem f_195_16 : fetch 195 16 = some (16, .iconst (-1), 1, [], (-1)) := (fm_195 16).trans rfl
theorem u_195_16 {S : Scr} {d : Nat} {a0 a1 a2 : AV} {st : List AV} {sh : Shp} {I : IM} {R : RM} : ev S d 195 16 [a0, a1, a2] st (sh, I, R) = ev S d 195 17 [a0, a1, a2] (.inl (-1) :: st) (sh, I, R) := (ev_eq f_195_16).trans rfl
theorem f_195_17 : fetch 195 17 = some (17, .ireturn, 1, [0], 0) := (fm_195 17).trans rfl
theorem u_195_17 {S : Scr} {d : Nat} {a0 a1 a2 : AV} {sh : Shp} {I : IM} {R : RM} {x : Int} : ev S d 195 17 [a0, a1, a2] [.inl x] (sh, I, R) = some (some (.inl x), (sh, I, R)) := (ev_eq f_195_17).trans fin_iret0
theorem f_195_18 : fetch 195 18 = some (18, .aload_n 0, 1, [0], 0) := (fm_195 18).trans rfl
theorem u_195_18 {S : Scr} {d : Nat} {a1 a2 : AV} {st : List AV} {sh : Shp} {I : IM} {R : RM} {x : Nat} : ev S d 195 18 [.inr (.inl x), a1, a2] st (sh, I, R) = ev S d 195 19 [.inr (.inl x), a1, a2] (.inr (.inl x) :: st) (sh, I, R) := (ev_eq f_195_18).trans rfl
theorem f_195_19 : fetch 195 19 = some (19, .iconst 1, 1, [], 1) := (fm_195 19).trans rfl
theorem u_195_19 {S : Scr} {d : Nat} {a0 a1 a2 : AV} {st : List AV} {sh : Shp} {I : IM} {R : RM} : ev S d 195 19 [a0, a1, a2] st (sh, I, R) = ev S d 195 20 [a0, a1, a2] (.inl 1 :: st) (sh, I, R) := (ev_eq f_195_19).trans rfl
theorem f_195_20 : fetch 195 20 = some (20, .iload_n 2, 1, [2], 0) := (fm_195 20).trans rfl
theorem u_195_20 {S : Scr} {d : Nat} {a0 a1 : AV} {st : List AV} {sh : Shp} {I : IM} {R : RM} {x : Int} : ev S d 195 20 [a0, a1, .inl x] st (sh, I, R) = ev S d 195 21 [a0, a1, .inl x] (.inl x :: st) (sh, I, R) := (ev_eq f_195_20).trans rfl
theorem f_195_21 : fetch 195 21 = some (21, .ishl, 1, [], 0) := (fm_195 21).trans rfl
theorem u_195_21 {S : Scr} {d : Nat} {a0 a1 a2 : AV} {st : List AV} {sh : Shp} {I : IM} {R : RM} {x y : Int} : ev S d 195 21 [a0, a1, a2] (.inl y :: .inl x :: st) (sh, I, R) = ev S d 195 22 [a0, a1, a2] (.inl (b32 (fun x y => x <<< (y &&& 31)) x y) :: st) (sh, I, R) := (ev_eq f_195_21).trans rfl
theorem f_195_22 : fetch 195 22 = some (22, .invokevirtual 150, 3, [191, 1, 149], 0) := (fm_195 22).trans rfl
theorem u_195_22 {S : Scr} {d : Nat} {a0 a1 a2 : AV} {st : List AV} {sh : Shp} {I : IM} {R : RM} {x0 : Int} {k : Nat} (h : tg sh k = 9) (hr : st.length ≤ 8) : ev S d 195 22 [a0, a1, a2] (.inl x0 :: .inr (.inl k) :: st) (sh, I, R) = bnd (cl d 191 [.inr (.inl k), .inl x0] (sh, I, R)) (fun v M => ev S d 195 25 [a0, a1, a2] (psh v st) M) := (ev_eq f_195_22).trans (congrArg (fin S d 195) (if_pos ⟨h, rfl, hr⟩))
theorem f_195_25 : fetch 195 25 = some (25, .iload_n 1, 1, [1], 0) := (fm_195 25).trans rfl
theorem u_195_25 {S : Scr} {d : Nat} {a0 a2 : AV} {st : List AV} {sh : Shp} {I : IM} {R : RM} {x : Int} : ev S d 195 25 [a0, .inl x, a2] st (sh, I, R) = ev S d 195 26 [a0, .inl x, a2] (.inl x :: st) (sh, I, R) := (ev_eq f_195_25).trans rfl
theorem f_195_26 : fetch 195 26 = some (26, .ishr, 1, [], 0) := (fm_195 26).trans rfl
theorem u_195_26 {S : Scr} {d : Nat} {a0 a1 a2 : AV} {st : List AV} {sh : Shp} {I : IM} {R : RM} {x y : Int} : ev S d 195 26 [a0, a1, a2] (.inl y :: .inl x :: st) (sh, I, R) = ev S d 195 27 [a0, a1, a2] (.inl (b32 (fun x y => x >>> (y &&& 31)) x y) :: st) (sh, I, R) := (ev_eq f_195_26).trans rfl
theorem f_195_27 : fetch 195 27 = some (27, .iconst 1, 1, [], 1) := (fm_195 27).trans rfl
theorem u_195_27 {S : Scr} {d : Nat} {a0 a1 a2 : AV} {st : List AV} {sh : Shp} {I : IM} {R : RM} : ev S d 195 27 [a0, a1, a2] st (sh, I, R) = ev S d 195 28 [a0, a1, a2] (.inl 1 :: st) (sh, I, R) := (ev_eq f_195_27).trans rfl
theorem f_195_28 : fetch 195 28 = some (28, .iand, 1, [], 0) := (fm_195 28).trans rfl
theorem u_195_28 {S : Scr} {d : Nat} {a0 a1 a2 : AV} {st : List AV} {sh : Shp} {I : IM} {R : RM} {x y : Int} : ev S d 195 28 [a0, a1, a2] (.inl y :: .inl x :: st) (sh, I, R) = ev S d 195 29 [a0, a1, a2] (.inl (b32 (fun x y => x &&& y) x y) :: st) (sh, I, R) := (ev_eq f_195_28).trans rfl
theorem f_195_29 : fetch 195 29 = some (29, .ireturn, 1, [0], 0) := (fm_195 29).trans rfl
theorem u_195_29 {S : Scr} {d : Nat} {a0 a1 a2 : AV} {sh : Shp} {I : IM} {R : RM} {x : Int} : ev S d 195 29 [a0, a1, a2] [.inl x] (sh, I, R) = some (some (.inl x), (sh, I, R)) := (ev_eq f_195_29).trans fin_iret0
theorem c_196 {d : Nat} {a0 a1 a2 : AV} {M : Mem} : cl (d + 1) 196 [a0, a1, a2] M = ev S0 d 196 0 [a0, a1, a2] [] M := (cl_eq (as := [a0, a1, a2]) (show 3 ≤ maxOf 196 by decide +kernel)).trans rfl
theorem mt_196 : MT[196]? = some m_196 := rfl
theorem fm_196 (pc : Nat) : fetch 196 pc = lk m_196.2.2.2.2.2 pc := by
  unfold fetch
  rw [mt_196]
theorem f_196_0 : fetch 196 0 = some (0, .iload_n 1, 1, [1], 0) := (fm_196 0).trans rfl
theorem u_196_0 {S : Scr} {d : Nat} {a0 a2 : AV} {st : List AV} {sh : Shp} {I : IM} {R : RM} {x : Int} : ev S d 196 0 [a0, .inl x, a2] st (sh, I, R) = ev S d 196 1 [a0, .inl x, a2] (.inl x :: st) (sh, I, R) := (ev_eq f_196_0).trans rfl
theorem f_196_1 : fetch 196 1 = some (1, .ifCond .lt 7, 3, [8], 0) := (fm_196 1).trans rfl
theorem u_196_1 {S : Scr} {d : Nat} {a0 a1 a2 : AV} {st : List AV} {sh : Shp} {I : IM} {R : RM} {x : Int} : ev S d 196 1 [a0, a1, a2] (.inl x :: st) (sh, I, R) = if x < 0 then ev S d 196 8 [a0, a1, a2] st (sh, I, R) else ev S d 196 4 [a0, a1, a2] st (sh, I, R) := (ev_eq f_196_1).trans fin_if_lt
theorem f_196_4 : fetch 196 4 = some (4, .iload_n 2, 1, [2], 0) := (fm_196 4).trans rfl
theorem u_196_4 {S : Scr} {d : Nat} {a0 a1 : AV} {st : List AV} {sh : Shp} {I : IM} {R : RM} {x : Int} : ev S d 196 4 [a0, a1, .inl x] st (sh, I, R) = ev S d 196 5 [a0, a1, .inl x] (.inl x :: st) (sh, I, R) := (ev_eq f_196_4).trans rfl
theorem f_196_5 : fetch 196 5 = some (5, .ifCond .ge 17, 3, [22], 0) := (fm_196 5).trans rfl
theorem u_196_5 {S : Scr} {d : Nat} {a0 a1 a2 : AV} {st : List AV} {sh : Shp} {I : IM} {R : RM} {x : Int} : ev S d 196 5 [a0, a1, a2] (.inl x :: st) (sh, I, R) = if 0 ≤ x then ev S d 196 22 [a0, a1, a2] st (sh, I, R) else ev S d 196 8 [a0, a1, a2] st (sh, I, R) := (ev_eq f_196_5).trans fin_if_ge
theorem f_196_8 : fetch 196 8 = some (8, .iload_n 1, 1, [1], 0) := (fm_196 8).trans rfl
theorem u_196_8 {S : Scr} {d : Nat} {a0 a2 : AV} {st : List AV} {sh : Shp} {I : IM} {R : RM} {x : Int} : ev S d 196 8 [a0, .inl x, a2] st (sh, I, R) = ev S d 196 9 [a0, .inl x, a2] (.inl x :: st) (sh, I, R) := (ev_eq f_196_8).trans rfl
theorem f_196_9 : fetch 196 9 = some (9, .ifCond .ge 11, 3, [20], 0) := (fm_196 9).trans rfl
theorem u_196_9 {S : Scr} {d : Nat} {a0 a1 a2 : AV} {st : List AV} {sh : Shp} {I : IM} {R : RM} {x : Int} : ev S d 196 9 [a0, a1, a2] (.inl x :: st) (sh, I, R) = if 0 ≤ x then ev S d 196 20 [a0, a1, a2] st (sh, I, R) else ev S d 196 12 [a0, a1, a2] st (sh, I, R) := (ev_eq f_196_9).trans fin_if_ge
theorem f_196_12 : fetch 196 12 = some (12, .iload_n 2, 1, [2], 0) := (fm_196 12).trans rfl
theorem u_196_12 {S : Scr} {d : Nat} {a0 a1 : AV} {st : List AV} {sh : Shp} {I : IM} {R : RM} {x : Int} : ev S d 196 12 [a0, a1, .inl x] st (sh, I, R) = ev S d 196 13 [a0, a1, .inl x] (.inl x :: st) (sh, I, R) := (ev_eq f_196_12).trans rfl
theorem f_196_13 : fetch 196 13 = some (13, .ifCond .ge 7, 3, [20], 0) := (fm_196 13).trans rfl
theorem u_196_13 {S : Scr} {d : Nat} {a0 a1 a2 : AV} {st : List AV} {sh : Shp} {I : IM} {R : RM} {x : Int} : ev S d 196 13 [a0, a1, a2] (.inl x :: st) (sh, I, R) = if 0 ≤ x then ev S d 196 20 [a0, a1, a2] st (sh, I, R) else ev S d 196 16 [a0, a1, a2] st (sh, I, R) := (ev_eq f_196_13).trans fin_if_ge
theorem f_196_16 : fetch 196 16 = some (16, .iconst 1, 1, [], 1) := (fm_196 16).trans rfl
theorem u_196_16 {S : Scr} {d : Nat} {a0 a1 a2 : AV} {st : List AV} {sh : Shp} {I : IM} {R : RM} : ev S d 196 16 [a0, a1, a2] st (sh, I, R) = ev S d 196 17 [a0, a1, a2] (.inl 1 :: st) (sh, I, R) := (ev_eq f_196_16).trans rfl
theorem f_196_17 : fetch 196 17 = some (17, .goto 4, 3, [21], 0) := (fm_196 17).trans rfl
theorem u_196_17 {S : Scr} {d : Nat} {a0 a1 a2 : AV} {st : List AV} {sh : Shp} {I : IM} {R : RM} : ev S d 196 17 [a0, a1, a2] st (sh, I, R) = ev S d 196 21 [a0, a1, a2] st (sh, I, R) := (ev_eq f_196_17).trans rfl
theorem f_196_20 : fetch 196 20 = some (20, .iconst 0, 1, [], 0) := (fm_196 20).trans rfl
theorem u_196_20 {S : Scr} {d : Nat} {a0 a1 a2 : AV} {st : List AV} {sh : Shp} {I : IM} {R : RM} : ev S d 196 20 [a0, a1, a2] st (sh, I, R) = ev S d 196 21 [a0, a1, a2] (.inl 0 :: st) (sh, I, R) := (ev_eq f_196_20).trans rfl
theorem f_196_21 : fetch 196 21 = some (21, .ireturn, 1, [1], 0) := (fm_196 21).trans rfl
theorem u_196_21 {S : Scr} {d : Nat} {a0 a1 a2 : AV} {sh : Shp} {I : IM} {R : RM} {x : Int} (h : x = 0 ∨ x = 1) : ev S d 196 21 [a0, a1, a2] [.inl x] (sh, I, R) = some (some (.inl x), (sh, I, R)) := (ev_eq f_196_21).trans (fin_iret1 h)
theorem f_196_22 : fetch 196 22 = some (22, .aload_n 0, 1, [0], 0) := (fm_196 22).trans rfl
theorem u_196_22 {S : Scr} {d : Nat} {a1 a2 : AV} {st : List AV} {sh : Shp} {I : IM} {R : RM} {x : Nat} : ev S d 196 22 [.inr (.inl x), a1, a2] st (sh, I, R) = ev S d 196 23 [.inr (.inl x), a1, a2] (.inr (.inl x) :: st) (sh, I, R) := (ev_eq f_196_22).trans rfl
theorem f_196_23 : fetch 196 23 = some (23, .getfield 55, 3, [9, 23, 1, 94], 0) := (fm_196 23).trans rfl
theorem u_196_23 {S : Scr} {d : Nat} {a0 a1 a2 : AV} {st : List AV} {sh : Shp} {I : IM} {R : RM} {k : Nat} (h : tg sh k = 9) : ev S d 196 23 [a0, a1, a2] (.inr (.inl k) :: st) (sh, I, R) = ev S d 196 26 [a0, a1, a2] (rv (R k 23) :: st) (sh, I, R) := (ev_eq f_196_23).trans (congrArg (fin S d 196) (if_pos h))
theorem f_196_26 : fetch 196 26 = some (26, .iload_n 1, 1, [1], 0) := (fm_196 26).trans rfl
theorem u_196_26 {S : Scr} {d : Nat} {a0 a2 : AV} {st : List AV} {sh : Shp} {I : IM} {R : RM} {x : Int} : ev S d 196 26 [a0, .inl x, a2] st (sh, I, R) = ev S d 196 27 [a0, .inl x, a2] (.inl x :: st) (sh, I, R) := (ev_eq f_196_26).trans rfl
theorem f_196_27 : fetch 196 27 = some (27, .iaload, 1, [], 0) := (fm_196 27).trans rfl
theorem u_196_27 {S : Scr} {d : Nat} {a0 a1 a2 : AV} {st : List AV} {sh : Shp} {I : IM} {R : RM} {k : Nat} {i : Int} (h : tg sh k = 100) (h0 : 0 ≤ i) (h1 : i < ln sh k) : ev S d 196 27 [a0, a1, a2] (.inl i :: .inr (.inl k) :: st) (sh, I, R) = ev S d 196 28 [a0, a1, a2] (.inl (I k i) :: st) (sh, I, R) := (ev_eq f_196_27).trans (congrArg (fin S d 196) (if_pos ⟨h, h0, h1⟩))
theorem f_196_28 : fetch 196 28 = some (28, .ifCond .ge 46, 3, [74], 0) := (fm_196 28).trans rfl
theorem u_196_28 {S : Scr} {d : Nat} {a0 a1 a2 : AV} {st : List AV} {sh : Shp} {I : IM} {R : RM} {x : Int} : ev S d 196 28 [a0, a1, a2] (.inl x :: st) (sh, I, R) = if 0 ≤ x then ev S d 196 74 [a0, a1, a2] st (sh, I, R) else ev S d 196 31 [a0, a1, a2] st (sh, I, R) := (ev_eq f_196_28).trans fin_if_ge
theorem f_196_31 : fetch 196 31 = some (31, .aload_n 0, 1, [0], 0) := (fm_196 31).trans rfl
theorem u_196_31 {S : Scr} {d : Nat} {a1 a2 : AV} {st : List AV} {sh : Shp} {I : IM} {R : RM} {x : Nat} : ev S d 196 31 [.inr (.inl x), a1, a2] st (sh, I, R) = ev S d 196 32 [.inr (.inl x), a1, a2] (.inr (.inl x) :: st) (sh, I, R) := (ev_eq f_196_31).trans rfl
theorem f_196_32 : fetch 196 32 = some (32, .getfield 58, 3, [9, 24, 1, 95], 0) := (fm_196 32).trans rfl
theorem u_196_32 {S : Scr} {d : Nat} {a0 a1 a2 : AV} {st : List AV} {sh : Shp} {I : IM} {R : RM} {k : Nat} (h : tg sh k = 9) : ev S d 196 32 [a0, a1, a2] (.inr (.inl k) :: st) (sh, I, R) = ev S d 196 35 [a0, a1, a2] (rv (R k 24) :: st) (sh, I, R) := (ev_eq f_196_32).trans (congrArg (fin S d 196) (if_pos h))
theorem f_196_35 : fetch 196 35 = some (35, .iload_n 2, 1, [2], 0) := (fm_196 35).trans rfl
theorem u_196_35 {S : Scr} {d : Nat} {a0 a1 : AV} {st : List AV} {sh : Shp} {I : IM} {R : RM} {x : Int} : ev S d 196 35 [a0, a1, .inl x] st (sh, I, R) = ev S d 196 36 [a0, a1, .inl x] (.inl x :: st) (sh, I, R) := (ev_eq f_196_35).trans rfl
theorem f_196_36 : fetch 196 36 = some (36, .iaload, 1, [], 0) := (fm_196 36).trans rfl
theorem u_196_36 {S : Scr} {d : Nat} {a0 a1 a2 : AV} {st : List AV} {sh : Shp} {I : IM} {R : RM} {k : Nat} {i : Int} (h : tg sh k = 100) (h0 : 0 ≤ i) (h1 : i < ln sh k) : ev S d 196 36 [a0, a1, a2] (.inl i :: .inr (.inl k) :: st) (sh, I, R) = ev S d 196 37 [a0, a1, a2] (.inl (I k i) :: st) (sh, I, R) := (ev_eq f_196_36).trans (congrArg (fin S d 196) (if_pos ⟨h, h0, h1⟩))
theorem f_196_37 : fetch 196 37 = some (37, .ifCond .ge 37, 3, [74], 0) := (fm_196 37).trans rfl
theorem u_196_37 {S : Scr} {d : Nat} {a0 a1 a2 : AV} {st : List AV} {sh : Shp} {I : IM} {R : RM} {x : Int} : ev S d 196 37 [a0, a1, a2] (.inl x :: st) (sh, I, R) = if 0 ≤ x then ev S d 196 74 [a0, a1, a2] st (sh, I, R) else ev S d 196 40 [a0, a1, a2] st (sh, I, R) := (ev_eq f_196_37).trans fin_if_ge
theorem f_196_40 : fetch 196 40 = some (40, .aload_n 0, 1, [0], 0) := (fm_196 40).trans rfl
theorem u_196_40 {S : Scr} {d : Nat} {a1 a2 : AV} {st : List AV} {sh : Shp} {I : IM} {R : RM} {x : Nat} : ev S d 196 40 [.inr (.inl x), a1, a2] st (sh, I, R) = ev S d 196 41 [.inr (.inl x), a1, a2] (.inr (.inl x) :: st) (sh, I, R) := (ev_eq f_196_40).trans rfl
theorem f_196_41 : fetch 196 41 = some (41, .getfield 55, 3, [9, 23, 1, 94], 0) := (fm_196 41).trans rfl
theorem u_196_41 {S : Scr} {d : Nat} {a0 a1 a2 : AV} {st : List AV} {sh : Shp} {I : IM} {R : RM} {k : Nat} (h : tg sh k = 9) : ev S d 196 41 [a0, a1, a2] (.inr (.inl k) :: st) (sh, I, R) = ev S d 196 44 [a0, a1, a2] (rv (R k 23) :: st) (sh, I, R) := (ev_eq f_196_41).trans (congrArg (fin S d 196) (if_pos h))
theorem f_196_44 : fetch 196 44 = some (44, .iload_n 1, 1, [1], 0) := (fm_196 44).trans rfl
theorem u_196_44 {S : Scr} {d : Nat} {a0 a2 : AV} {st : List AV} {sh : Shp} {I : IM} {R : RM} {x : Int} : ev S d 196 44 [a0, .inl x, a2] st (sh, I, R) = ev S d 196 45 [a0, .inl x, a2] (.inl x :: st) (sh, I, R) := (ev_eq f_196_44).trans rfl
theorem f_196_45 : fetch 196 45 = some (45, .iload_n 2, 1, [2], 0) := (fm_196 45).trans rfl
theorem u_196_45 {S : Scr} {d : Nat} {a0 a1 : AV} {st : List AV} {sh : Shp} {I : IM} {R : RM} {x : Int} : ev S d 196 45 [a0, a1, .inl x] st (sh, I, R) = ev S d 196 46 [a0, a1, .inl x] (.inl x :: st) (sh, I, R) := (ev_eq f_196_45).trans rfl
theorem f_196_46 : fetch 196 46 = some (46, .iastore, 1, [], 0) := (fm_196 46).trans rfl
theorem u_196_46 {S : Scr} {d : Nat} {a0 a1 a2 : AV} {st : List AV} {sh : Shp} {I : IM} {R : RM} {k : Nat} {i x : Int} (h : tg sh k = 100) (h0 : 0 ≤ i) (h1 : i < ln sh k) : ev S d 196 46 [a0, a1, a2] (.inl x :: .inl i :: .inr (.inl k) :: st) (sh, I, R) = ev S d 196 47 [a0, a1, a2] st (sh, up I k i x, R) := (ev_eq f_196_46).trans (congrArg (fin S d 196) (if_pos ⟨h, h0, h1⟩))
theorem f_196_47 : fetch 196 47 = some (47, .aload_n 0, 1, [0], 0) := (fm_196 47).trans rfl
theorem u_196_47 {S : Scr} {d : Nat} {a1 a2 : AV} {st : List AV} {sh : Shp} {I : IM} {R : RM} {x : Nat} : ev S d 196 47 [.inr (.inl x), a1, a2] st (sh, I, R) = ev S d 196 48 [.inr (.inl x), a1, a2] (.inr (.inl x) :: st) (sh, I, R) := (ev_eq f_196_47).trans rfl
theorem f_196_48 : fetch 196 48 = some (48, .getfield 58, 3, [9, 24, 1, 95], 0) := (fm_196 48).trans rfl
theorem u_196_48 {S : Scr} {d : Nat} {a0 a1 a2 : AV} {st : List AV} {sh : Shp} {I : IM} {R : RM} {k : Nat} (h : tg sh k = 9) : ev S d 196 48 [a0, a1, a2] (.inr (.inl k) :: st) (sh, I, R) = ev S d 196 51 [a0, a1, a2] (rv (R k 24) :: st) (sh, I, R) := (ev_eq f_196_48).trans (congrArg (fin S d 196) (if_pos h))
theorem f_196_51 : fetch 196 51 = some (51, .iload_n 2, 1, [2], 0) := (fm_196 51).trans rfl
theorem u_196_51 {S : Scr} {d : Nat} {a0 a1 : AV} {st : List AV} {sh : Shp} {I : IM} {R : RM} {x : Int} : ev S d 196 51 [a0, a1, .inl x] st (sh, I, R) = ev S d 196 52 [a0, a1, .inl x] (.inl x :: st) (sh, I, R) := (ev_eq f_196_51).trans rfl
theorem f_196_52 : fetch 196 52 = some (52, .iload_n 1, 1, [1], 0) := (fm_196 52).trans rfl
theorem u_196_52 {S : Scr} {d : Nat} {a0 a2 : AV} {st : List AV} {sh : Shp} {I : IM} {R : RM} {x : Int} : ev S d 196 52 [a0, .inl x, a2] st (sh, I, R) = ev S d 196 53 [a0, .inl x, a2] (.inl x :: st) (sh, I, R) := (ev_eq f_196_52).trans rfl
theorem f_196_53 : fetch 196 53 = some (53, .iastore, 1, [], 0) := (fm_196 53).trans rfl
theorem u_196_53 {S : Scr} {d : Nat} {a0 a1 a2 : AV} {st : List AV} {sh : Shp} {I : IM} {R : RM} {k : Nat} {i x : Int} (h : tg sh k = 100) (h0 : 0 ≤ i) (h1 : i < ln sh k) : ev S d 196 53 [a0, a1, a2] (.inl x :: .inl i :: .inr (.inl k) :: st) (sh, I, R) = ev S d 196 54 [a0, a1, a2] st (sh, up I k i x, R) := (ev_eq f_196_53).trans (congrArg (fin S d 196) (if_pos ⟨h, h0, h1⟩))
theorem f_196_54 : fetch 196 54 = some (54, .aload_n 0, 1, [0], 0) := (fm_196 54).trans rfl
theorem u_196_54 {S : Scr} {d : Nat} {a1 a2 : AV} {st : List AV} {sh : Shp} {I : IM} {R : RM} {x : Nat} : ev S d 196 54 [.inr (.inl x), a1, a2] st (sh, I, R) = ev S d 196 55 [.inr (.inl x), a1, a2] (.inr (.inl x) :: st) (sh, I, R) := (ev_eq f_196_54).trans rfl
theorem f_196_55 : fetch 196 55 = some (55, .getfield 61, 3, [9, 25, 1, 96], 0) := (fm_196 55).trans rfl
theorem u_196_55 {S : Scr} {d : Nat} {a0 a1 a2 : AV} {st : List AV} {sh : Shp} {I : IM} {R : RM} {k : Nat} (h : tg sh k = 9) : ev S d 196 55 [a0, a1, a2] (.inr (.inl k) :: st) (sh, I, R) = ev S d 196 58 [a0, a1, a2] (rv (R k 25) :: st) (sh, I, R) := (ev_eq f_196_55).trans (congrArg (fin S d 196) (if_pos h))
theorem f_196_58 : fetch 196 58 = some (58, .aload_n 0, 1, [0], 0) := (fm_196 58).trans rfl
theorem u_196_58 {S : Scr} {d : Nat} {a1 a2 : AV} {st : List AV} {sh : Shp} {I : IM} {R : RM} {x : Nat} : ev S d 196 58 [.inr (.inl x), a1, a2] st (sh, I, R) = ev S d 196 59 [.inr (.inl x), a1, a2] (.inr (.inl x) :: st) (sh, I, R) := (ev_eq f_196_58).trans rfl
theorem f_196_59 : fetch 196 59 = some (59, .getfield 236, 3, [9, 26, 0, 104], 0) := (fm_196 59).trans rfl
theorem u_196_59 {S : Scr} {d : Nat} {a0 a1 a2 : AV} {st : List AV} {sh : Shp} {I : IM} {R : RM} {k : Nat} (h : tg sh k = 9) : ev S d 196 59 [a0, a1, a2] (.inr (.inl k) :: st) (sh, I, R) = ev S d 196 62 [a0, a1, a2] (.inl (I k 26) :: st) (sh, I, R) := (ev_eq f_196_59).trans (congrArg (fin S d 196) (if_pos h))
theorem f_196_62 : fetch 196 62 = some (62, .iload_n 1, 1, [1], 0) := (fm_196 62).trans rfl
theorem u_196_62 {S : Scr} {d : Nat} {a0 a2 : AV} {st : List AV} {sh : Shp} {I : IM} {R : RM} {x : Int} : ev S d 196 62 [a0, .inl x, a2] st (sh, I, R) = ev S d 196 63 [a0, .inl x, a2] (.inl x :: st) (sh, I, R) := (ev_eq f_196_62).trans rfl
theorem f_196_63 : fetch 196 63 = some (63, .iastore, 1, [], 0) := (fm_196 63).trans rfl
theorem u_196_63 {S : Scr} {d : Nat} {a0 a1 a2 : AV} {st : List AV} {sh : Shp} {I : IM} {R : RM} {k : Nat} {i x : Int} (h : tg sh k = 100) (h0 : 0 ≤ i) (h1 : i < ln sh k) : ev S d 196 63 [a0, a1, a2] (.inl x :: .inl i :: .inr (.inl k) :: st) (sh, I, R) = ev S d 196 64 [a0, a1, a2] st (sh, up I k i x, R) := (ev_eq f_196_63).trans (congrArg (fin S d 196) (if_pos ⟨h, h0, h1⟩))
theorem f_196_64 : fetch 196 64 = some (64, .aload_n 0, 1, [0], 0) := (fm_196 64).trans rfl
theorem u_196_64 {S : Scr} {d : Nat} {a1 a2 : AV} {st : List AV} {sh : Shp} {I : IM} {R : RM} {x : Nat} : ev S d 196 64 [.inr (.inl x), a1, a2] st (sh, I, R) = ev S d 196 65 [.inr (.inl x), a1, a2] (.inr (.inl x) :: st) (sh, I, R) := (ev_eq f_196_64).trans rfl
theorem f_196_65 : fetch 196 65 = some (65, .dup, 1, [], 0) := (fm_196 65).trans rfl
theorem u_196_65 {S : Scr} {d : Nat} {a0 a1 a2 : AV} {st : List AV} {sh : Shp} {I : IM} {R : RM} {x : AV} : ev S d 196 65 [a0, a1, a2] (x :: st) (sh, I, R) = ev S d 196 66 [a0, a1, a2] (x :: x :: st) (sh, I, R) := (ev_eq f_196_65).trans rfl
theorem f_196_66 : fetch 196 66 = some (66, .getfield 236, 3, [9, 26, 0, 104], 0) := (fm_196 66).trans rfl
theorem u_196_66 {S : Scr} {d : Nat} {a0 a1 a2 : AV} {st : List AV} {sh : Shp} {I : IM} {R : RM} {k : Nat} (h : tg sh k = 9) : ev S d 196 66 [a0, a1, a2] (.inr (.inl k) :: st) (sh, I, R) = ev S d 196 69 [a0, a1, a2] (.inl (I k 26) :: st) (sh, I, R) := (ev_eq f_196_66).trans (congrArg (fin S d 196) (if_pos h))
theorem f_196_69 : fetch 196 69 = some (69, .iconst 1, 1, [], 1) := (fm_196 69).trans rfl
theorem u_196_69 {S : Scr} {d : Nat} {a0 a1 a2 : AV} {st : List AV} {sh : Shp} {I : IM} {R : RM} : ev S d 196 69 [a0, a1, a2] st (sh, I, R) = ev S d 196 70 [a0, a1, a2] (.inl 1 :: st) (sh, I, R) := (ev_eq f_196_69).trans rfl
theorem f_196_70 : fetch 196 70 = some (70, .iadd, 1, [], 0) := (fm_196 70).trans rfl
theorem u_196_70 {S : Scr} {d : Nat} {a0 a1 a2 : AV} {st : List AV} {sh : Shp} {I : IM} {R : RM} {x y : Int} : ev S d 196 70 [a0, a1, a2] (.inl y :: .inl x :: st) (sh, I, R) = ev S d 196 71 [a0, a1, a2] (.inl (wr (x + y)) :: st) (sh, I, R) := (ev_eq f_196_70).trans rfl
theorem f_196_71 : fetch 196 71 = some (71, .putfield 236, 3, [9, 26, 0, 104], 0) := (fm_196 71).trans rfl
theorem u_196_71 {S : Scr} {d : Nat} {a0 a1 a2 : AV} {st : List AV} {sh : Shp} {I : IM} {R : RM} {k : Nat} {x : Int} (h : tg sh k = 9) : ev S d 196 71 [a0, a1, a2] (.inl x :: .inr (.inl k) :: st) (sh, I, R) = ev S d 196 74 [a0, a1, a2] st (sh, up I k 26 x, R) := (ev_eq f_196_71).trans (congrArg (fin S d 196) (if_pos h))
theorem f_196_74 : fetch 196 74 = some (74, .aload_n 0, 1, [0], 0) := (fm_196 74).trans rfl
theorem u_196_74 {S : Scr} {d : Nat} {a1 a2 : AV} {st : List AV} {sh : Shp} {I : IM} {R : RM} {x : Nat} : ev S d 196 74 [.inr (.inl x), a1, a2] st (sh, I, R) = ev S d 196 75 [.inr (.inl x), a1, a2] (.inr (.inl x) :: st) (sh, I, R) := (ev_eq f_196_74).trans rfl
theorem f_196_75 : fetch 196 75 = some (75, .getfield 55, 3, [9, 23, 1, 94], 0) := (fm_196 75).trans rfl
theorem u_196_75 {S : Scr} {d : Nat} {a0 a1 a2 : AV} {st : List AV} {sh : Shp} {I : IM} {R : RM} {k : Nat} (h : tg sh k = 9) : ev S d 196 75 [a0, a1, a2] (.inr (.inl k) :: st) (sh, I, R) = ev S d 196 78 [a0, a1, a2] (rv (R k 23) :: st) (sh, I, R) := (ev_eq f_196_75).trans (congrArg (fin S d 196) (if_pos h))
theorem f_196_78 : fetch 196 78 = some (78, .iload_n 1, 1, [1], 0) := (fm_196 78).trans rfl
theorem u_196_78 {S : Scr} {d : Nat} {a0 a2 : AV} {st : List AV} {sh : Shp} {I : IM} {R : RM} {x : Int} : ev S d 196 78 [a0, .inl x, a2] st (sh, I, R) = ev S d 196 79 [a0, .inl x, a2] (.inl x :: st) (sh, I, R) := (ev_eq f_196_78).trans rfl
theorem f_196_79 : fetch 196 79 = some (79, .iaload, 1, [], 0) := (fm_196 79).trans rfl
theorem u_196_79 {S : Scr} {d : Nat} {a0 a1 a2 : AV} {st : List AV} {sh : Shp} {I : IM} {R : RM} {k : Nat} {i : Int} (h : tg sh k = 100) (h0 : 0 ≤ i) (h1 : i < ln sh k) : ev S d 196 79 [a0, a1, a2] (.inl i :: .inr (.inl k) :: st) (sh, I, R) = ev S d 196 80 [a0, a1, a2] (.inl (I k i) :: st) (sh, I, R) := (ev_eq f_196_79).trans (congrArg (fin S d 196) (if_pos ⟨h, h0, h1⟩))
theorem f_196_80 : fetch 196 80 = some (80, .iload_n 2, 1, [2], 0) := (fm_196 80).trans rfl
theorem u_196_80 {S : Scr} {d : Nat} {a0 a1 : AV} {st : List AV} {sh : Shp} {I : IM} {R : RM} {x : Int} : ev S d 196 80 [a0, a1, .inl x] st (sh, I, R) = ev S d 196 81 [a0, a1, .inl x] (.inl x :: st) (sh, I, R) := (ev_eq f_196_80).trans rfl
theorem f_196_81 : fetch 196 81 = some (81, .if_icmp .ne 17, 3, [98], 0) := (fm_196 81).trans rfl
theorem u_196_81 {S : Scr} {d : Nat} {a0 a1 a2 : AV} {st : List AV} {sh : Shp} {I : IM} {R : RM} {x y : Int} : ev S d 196 81 [a0, a1, a2] (.inl y :: .inl x :: st) (sh, I, R) = if ¬ x = y then ev S d 196 98 [a0, a1, a2] st (sh, I, R) else ev S d 196 84 [a0, a1, a2] st (sh, I, R) := (ev_eq f_196_81).trans fin_icmp_ne
theorem f_196_84 : fetch 196 84 = some (84, .aload_n 0, 1, [0], 0) := (fm_196 84).trans rfl
theorem u_196_84 {S : Scr} {d : Nat} {a1 a2 : AV} {st : List AV} {sh : Shp} {I : IM} {R : RM} {x : Nat} : ev S d 196 84 [.inr (.inl x), a1, a2] st (sh, I, R) = ev S d 196 85 [.inr (.inl x), a1, a2] (.inr (.inl x) :: st) (sh, I, R) := (ev_eq f_196_84).trans rfl
theorem f_196_85 : fetch 196 85 = some (85, .getfield 58, 3, [9, 24, 1, 95], 0) := (fm_196 85).trans rfl
theorem u_196_85 {S : Scr} {d : Nat} {a0 a1 a2 : AV} {st : List AV} {sh : Shp} {I : IM} {R : RM} {k : Nat} (h : tg sh k = 9) : ev S d 196 85 [a0, a1, a2] (.inr (.inl k) :: st) (sh, I, R) = ev S d 196 88 [a0, a1, a2] (rv (R k 24) :: st) (sh, I, R) := (ev_eq f_196_85).trans (congrArg (fin S d 196) (if_pos h))
theorem f_196_88 : fetch 196 88 = some (88, .iload_n 2, 1, [2], 0) := (fm_196 88).trans rfl
theorem u_196_88 {S : Scr} {d : Nat} {a0 a1 : AV} {st : List AV} {sh : Shp} {I : IM} {R : RM} {x : Int} : ev S d 196 88 [a0, a1, .inl x] st (sh, I, R) = ev S d 196 89 [a0, a1, .inl x] (.inl x :: st) (sh, I, R) := (ev_eq f_196_88).trans rfl
theorem f_196_89 : fetch 196 89 = some (89, .iaload, 1, [], 0) := (fm_196 89).trans rfl
theorem u_196_89 {S : Scr} {d : Nat} {a0 a1 a2 : AV} {st : List AV} {sh : Shp} {I : IM} {R : RM} {k : Nat} {i : Int} (h : tg sh k = 100) (h0 : 0 ≤ i) (h1 : i < ln sh k) : ev S d 196 89 [a0, a1, a2] (.inl i :: .inr (.inl k) :: st) (sh, I, R) = ev S d 196 90 [a0, a1, a2] (.inl (I k i) :: st) (sh, I, R) := (ev_eq f_196_89).trans (congrArg (fin S d 196) (if_pos ⟨h, h0, h1⟩))
theorem f_196_90 : fetch 196 90 = some (90, .iload_n 1, 1, [1], 0) := (fm_196 90).trans rfl
theorem u_196_90 {S : Scr} {d : Nat} {a0 a2 : AV} {st : List AV} {sh : Shp} {I : IM} {R : RM} {x : Int} : ev S d 196 90 [a0, .inl x, a2] st (sh, I, R) = ev S d 196 91 [a0, .inl x, a2] (.inl x :: st) (sh, I, R) := (ev_eq f_196_90).trans rfl
theorem f_196_91 : fetch 196 91 = some (91, .if_icmp .ne 7, 3, [98], 0) := (fm_196 91).trans rfl
theorem u_196_91 {S : Scr} {d : Nat} {a0 a1 a2 : AV} {st : List AV} {sh : Shp} {I : IM} {R : RM} {x y : Int} : ev S d 196 91 [a0, a1, a2] (.inl y :: .inl x :: st) (sh, I, R) = if ¬ x = y then ev S d 196 98 [a0, a1, a2] st (sh, I, R) else ev S d 196 94 [a0, a1, a2] st (sh, I, R) := (ev_eq f_196_91).trans fin_icmp_ne
theorem f_196_94 : fetch 196 94 = some (94, .iconst 1, 1, [], 1) := (fm_196 94).trans rfl
theorem u_196_94 {S : Scr} {d : Nat} {a0 a1 a2 : AV} {st : List AV} {sh : Shp} {I : IM} {R : RM} : ev S d 196 94 [a0, a1, a2] st (sh, I, R) = ev S d 196 95 [a0, a1, a2] (.inl 1 :: st) (sh, I, R) := (ev_eq f_196_94).trans rfl
theorem f_196_95 : fetch 196 95 = some (95, .goto 4, 3, [99], 0) := (fm_196 95).trans rfl
theorem u_196_95 {S : Scr} {d : Nat} {a0 a1 a2 : AV} {st : List AV} {sh : Shp} {I : IM} {R : RM} : ev S d 196 95 [a0, a1, a2] st (sh, I, R) = ev S d 196 99 [a0, a1, a2] st (sh, I, R) := (ev_eq f_196_95).trans rfl
theorem f_196_98 : fetch 196 98 = some (98, .iconst 0, 1, [], 0) := (fm_196 98).trans rfl
theorem u_196_98 {S : Scr} {d : Nat} {a0 a1 a2 : AV} {st : List AV} {sh : Shp} {I : IM} {R : RM} : ev S d 196 98 [a0, a1, a2] st (sh, I, R) = ev S d 196 99 [a0, a1, a2] (.inl 0 :: st) (sh, I, R) := (ev_eq f_196_98).trans rfl
theorem f_196_99 : fetch 196 99 = some (99, .ireturn, 1, [1], 0) := (fm_196 99).trans rfl
theorem u_196_99 {S : Scr} {d : Nat} {a0 a1 a2 : AV} {sh : Shp} {I : IM} {R : RM} {x : Int} (h : x = 0 ∨ x = 1) : ev S d 196 99 [a0, a1, a2] [.inl x] (sh, I, R) = some (some (.inl x), (sh, I, R)) := (ev_eq f_196_99).trans (fin_iret1 h)
theorem c_197 {d : Nat} {a0 a1 a2 : AV} {M : Mem} : cl (d + 1) 197 [a0, a1, a2] M = ev S0 d 197 0 [a0, a1, a2, .inr (.inr 1)] [] M := (cl_eq (as := [a0, a1, a2]) (show 3 ≤ maxOf 197 by decide +kernel)).trans rfl
theorem mt_197 : MT[197]? = some m_197 := rfl
theorem fm_197 (pc : Nat) : fetch 197 pc = lk m_197.2.2.2.2.2 pc := by
  unfold fetch
  rw [mt_197]
theorem f_197_0 : fetch 197 0 = some (0, .aload_n 0, 1, [0], 0) := (fm_197 0).trans rfl
theorem u_197_0 {S : Scr} {d : Nat} {a1 a2 a3 : AV} {st : List AV} {sh : Shp} {I : IM} {R : RM} {x : Nat} : ev S d 197 0 [.inr (.inl x), a1, a2, a3] st (sh, I, R) = ev S d 197 1 [.inr (.inl x), a1, a2, a3] (.inr (.inl x) :: st) (sh, I, R) := (ev_eq f_197_0).trans rfl
theorem f_197_1 : fetch 197 1 = some (1, .getfield 9, 3, [9, 0, 1, 79], 0) := (fm_197 1).trans rfl
theorem u_197_1 {S : Scr} {d : Nat} {a0 a1 a2 a3 : AV} {st : List AV} {sh : Shp} {I : IM} {R : RM} {k : Nat} (h : tg sh k = 9) : ev S d 197 1 [a0, a1, a2, a3] (.inr (.inl k) :: st) (sh, I, R) = ev S d 197 4 [a0, a1, a2, a3] (rv (R k 0) :: st) (sh, I, R) := (ev_eq f_197_1).trans (congrArg (fin S d 197) (if_pos h))
theorem f_197_4 : fetch 197 4 = some (4, .iconst 0, 1, [], 0) := (fm_197 4).trans rfl
theorem u_197_4 {S : Scr} {d : Nat} {a0 a1 a2 a3 : AV} {st : List AV} {sh : Shp} {I : IM} {R : RM} : ev S d 197 4 [a0, a1, a2, a3] st (sh, I, R) = ev S d 197 5 [a0, a1, a2, a3] (.inl 0 :: st) (sh, I, R) := (ev_eq f_197_4).trans rfl
theorem f_197_5 : fetch 197 5 = some (5, .iload_n 1, 1, [1], 0) := (fm_197 5).trans rfl
theorem u_197_5 {S : Scr} {d : Nat} {a0 a2 a3 : AV} {st : List AV} {sh : Shp} {I : IM} {R : RM} {x : Int} : ev S d 197 5 [a0, .inl x, a2, a3] st (sh, I, R) = ev S d 197 6 [a0, .inl x, a2, a3] (.inl x :: st) (sh, I, R) := (ev_eq f_197_5).trans rfl
theorem f_197_6 : fetch 197 6 = some (6, .iadd, 1, [], 0) := (fm_197 6).trans rfl
theorem u_197_6 {S : Scr} {d : Nat} {a0 a1 a2 a3 : AV} {st : List AV} {sh : Shp} {I : IM} {R : RM} {x y : Int} : ev S d 197 6 [a0, a1, a2, a3] (.inl y :: .inl x :: st) (sh, I, R) = ev S d 197 7 [a0, a1, a2, a3] (.inl (wr (x + y)) :: st) (sh, I, R) := (ev_eq f_197_6).trans rfl
theorem f_197_7 : fetch 197 7 = some (7, .iaload, 1, [], 0) := (fm_197 7).trans rfl
theorem u_197_7 {S : Scr} {d : Nat} {a0 a1 a2 a3 : AV} {st : List AV} {sh : Shp} {I : IM} {R : RM} {k : Nat} {i : Int} (h : tg sh k = 100) (h0 : 0 ≤ i) (h1 : i < ln sh k) : ev S d 197 7 [a0, a1, a2, a3] (.inl i :: .inr (.inl k) :: st) (sh, I, R) = ev S d 197 8 [a0, a1, a2, a3] (.inl (I k i) :: st) (sh, I, R) := (ev_eq f_197_7).trans (congrArg (fin S d 197) (if_pos ⟨h, h0, h1⟩))
theorem f_197_8 : fetch 197 8 = some (8, .aload_n 0, 1, [0], 0) := (fm_197 8).trans rfl
theorem u_197_8 {S : Scr} {d : Nat} {a1 a2 a3 : AV} {st : List AV} {sh : Shp} {I : IM} {R : RM} {x : Nat} : ev S d 197 8 [.inr (.inl x), a1, a2, a3] st (sh, I, R) = ev S d 197 9 [.inr (.inl x), a1, a2, a3] (.inr (.inl x) :: st) (sh, I, R) := (ev_eq f_197_8).trans rfl
theorem f_197_9 : fetch 197 9 = some (9, .getfield 9, 3, [9, 0, 1, 79], 0) := (fm_197 9).trans rfl
theorem u_197_9 {S : Scr} {d : Nat} {a0 a1 a2 a3 : AV} {st : List AV} {sh : Shp} {I : IM} {R : RM} {k : Nat} (h : tg sh k = 9) : ev S d 197 9 [a0, a1, a2, a3] (.inr (.inl k) :: st) (sh, I, R) = ev S d 197 12 [a0, a1, a2, a3] (rv (R k 0) :: st) (sh, I, R) := (ev_eq f_197_9).trans (congrArg (fin S d 197) (if_pos h))
theorem f_197_12 : fetch 197 12 = some (12, .iconst 0, 1, [], 0) := (fm_197 12).trans rfl
theorem u_197_12 {S : Scr} {d : Nat} {a0 a1 a2 a3 : AV} {st : List AV} {sh : Shp} {I : IM} {R : RM} : ev S d 197 12 [a0, a1, a2, a3] st (sh, I, R) = ev S d 197 13 [a0, a1, a2, a3] (.inl 0 :: st) (sh, I, R) := (ev_eq f_197_12).trans rfl
theorem f_197_13 : fetch 197 13 = some (13, .iload_n 2, 1, [2], 0) := (fm_197 13).trans rfl
theorem u_197_13 {S : Scr} {d : Nat} {a0 a1 a3 : AV} {st : List AV} {sh : Shp} {I : IM} {R : RM} {x : Int} : ev S d 197 13 [a0, a1, .inl x, a3] st (sh, I, R) = ev S d 197 14 [a0, a1, .inl x, a3] (.inl x :: st) (sh, I, R) := (ev_eq f_197_13).trans rfl
theorem f_197_14 : fetch 197 14 = some (14, .iadd, 1, [], 0) := (fm_197 14).trans rfl
theorem u_197_14 {S : Scr} {d : Nat} {a0 a1 a2 a3 : AV} {st : List AV} {sh : Shp} {I : IM} {R : RM} {x y : Int} : ev S d 197 14 [a0, a1, a2, a3] (.inl y :: .inl x :: st) (sh, I, R) = ev S d 197 15 [a0, a1, a2, a3] (.inl (wr (x + y)) :: st) (sh, I, R) := (ev_eq f_197_14).trans rfl
theorem f_197_15 : fetch 197 15 = some (15, .iaload, 1, [], 0) := (fm_197 15).trans rfl
theorem u_197_15 {S : Scr} {d : Nat} {a0 a1 a2 a3 : AV} {st : List AV} {sh : Shp} {I : IM} {R : RM} {k : Nat} {i : Int} (h : tg sh k = 100) (h0 : 0 ≤ i) (h1 : i < ln sh k) : ev S d 197 15 [a0, a1, a2, a3] (.inl i :: .inr (.inl k) :: st) (sh, I, R) = ev S d 197 16 [a0, a1, a2, a3] (.inl (I k i) :: st) (sh, I, R) := (ev_eq f_197_15).trans (congrArg (fin S d 197) (if_pos ⟨h, h0, h1⟩))
theorem f_197_16 : fetch 197 16 = some (16, .if_icmp .ne 66, 3, [82], 0) := (fm_197 16).trans rfl
theorem u_197_16 {S : Scr} {d : Nat} {a0 a1 a2 a3 : AV} {st : List AV} {sh : Shp} {I : IM} {R : RM} {x y : Int} : ev S d 197 16 [a0, a1, a2, a3] (.inl y :: .inl x :: st) (sh, I, R) = if ¬ x = y then ev S d 197 82 [a0, a1, a2, a3] st (sh, I, R) else ev S d 197 19 [a0, a1, a2, a3] st (sh, I, R) := (ev_eq f_197_16).trans fin_icmp_ne
theorem f_197_19 : fetch 197 19 = some (19, .aload_n 0, 1, [0], 0) := (fm_197 19).trans rfl
theorem u_197_19 {S : Scr} {d : Nat} {a1 a2 a3 : AV} {st : List AV} {sh : Shp} {I : IM} {R : RM} {x : Nat} : ev S d 197 19 [.inr (.inl x), a1, a2, a3] st (sh, I, R) = ev S d 197 20 [.inr (.inl x), a1, a2, a3] (.inr (.inl x) :: st) (sh, I, R) := (ev_eq f_197_19).trans rfl
theorem f_197_20 : fetch 197 20 = some (20, .getfield 9, 3, [9, 0, 1, 79], 0) := (fm_197 20).trans rfl
theorem u_197_20 {S : Scr} {d : Nat} {a0 a1 a2 a3 : AV} {st : List AV} {sh : Shp} {I : IM} {R : RM} {k : Nat} (h : tg sh k = 9) : ev S d 197 20 [a0, a1, a2, a3] (.inr (.inl k) :: st) (sh, I, R) = ev S d 197 23 [a0, a1, a2, a3] (rv (R k 0) :: st) (sh, I, R) := (ev_eq f_197_20).trans (congrArg (fin S d 197) (if_pos h))
theorem f_197_23 : fetch 197 23 = some (23, .bipush 30, 2, [], 30) := (fm_197 23).trans rfl
theorem u_197_23 {S : Scr} {d : Nat} {a0 a1 a2 a3 : AV} {st : List AV} {sh : Shp} {I : IM} {R : RM} : ev S d 197 23 [a0, a1, a2, a3] st (sh, I, R) = ev S d 197 25 [a0, a1, a2, a3] (.inl 30 :: st) (sh, I, R) := (ev_eq f_197_23).trans rfl
theorem f_197_25 : fetch 197 25 = some (25, .iload_n 1, 1, [1], 0) := (fm_197 25).trans rfl
theorem u_197_25 {S : Scr} {d : Nat} {a0 a2 a3 : AV} {st : List AV} {sh : Shp} {I : IM} {R : RM} {x : Int} : ev S d 197 25 [a0, .inl x, a2, a3] st (sh, I, R) = ev S d 197 26 [a0, .inl x, a2, a3] (.inl x :: st) (sh, I, R) := (ev_eq f_197_25).trans rfl
theorem f_197_26 : fetch 197 26 = some (26, .iadd, 1, [], 0) := (fm_197 26).trans rfl
theorem u_197_26 {S : Scr} {d : Nat} {a0 a1 a2 a3 : AV} {st : List AV} {sh : Shp} {I : IM} {R : RM} {x y : Int} : ev S d 197 26 [a0, a1, a2, a3] (.inl y :: .inl x :: st) (sh, I, R) = ev S d 197 27 [a0, a1, a2, a3] (.inl (wr (x + y)) :: st) (sh, I, R) := (ev_eq f_197_26).trans rfl
theorem f_197_27 : fetch 197 27 = some (27, .iaload, 1, [], 0) := (fm_197 27).trans rfl
theorem u_197_27 {S : Scr} {d : Nat} {a0 a1 a2 a3 : AV} {st : List AV} {sh : Shp} {I : IM} {R : RM} {k : Nat} {i : Int} (h : tg sh k = 100) (h0 : 0 ≤ i) (h1 : i < ln sh k) : ev S d 197 27 [a0, a1, a2, a3] (.inl i :: .inr (.inl k) :: st) (sh, I, R) = ev S d 197 28 [a0, a1, a2, a3] (.inl (I k i) :: st) (sh, I, R) := (ev_eq f_197_27).trans (congrArg (fin S d 197) (if_pos ⟨h, h0, h1⟩))
theorem f_197_28 : fetch 197 28 = some (28, .aload_n 0, 1, [0], 0) := (fm_197 28).trans rfl
theorem u_197_28 {S : Scr} {d : Nat} {a1 a2 a3 : AV} {st : List AV} {sh : Shp} {I : IM} {R : RM} {x : Nat} : ev S d 197 28 [.inr (.inl x), a1, a2, a3] st (sh, I, R) = ev S d 197 29 [.inr (.inl x), a1, a2, a3] (.inr (.inl x) :: st) (sh, I, R) := (ev_eq f_197_28).trans rfl
theorem f_197_29 : fetch 197 29 = some (29, .getfield 9, 3, [9, 0, 1, 79], 0) := (fm_197 29).trans rfl
theorem u_197_29 {S : Scr} {d : Nat} {a0 a1 a2 a3 : AV} {st : List AV} {sh : Shp} {I : IM} {R : RM} {k : Nat} (h : tg sh k = 9) : ev S d 197 29 [a0, a1, a2, a3] (.inr (.inl k) :: st) (sh, I, R) = ev S d 197 32 [a0, a1, a2, a3] (rv (R k 0) :: st) (sh, I, R) := (ev_eq f_197_29).trans (congrArg (fin S d 197) (if_pos h))
theorem f_197_32 : fetch 197 32 = some (32, .bipush 30, 2, [], 30) := (fm_197 32).trans rfl
theorem u_197_32 {S : Scr} {d : Nat} {a0 a1 a2 a3 : AV} {st : List AV} {sh : Shp} {I : IM} {R : RM} : ev S d 197 32 [a0, a1, a2, a3] st (sh, I, R) = ev S d 197 34 [a0, a1, a2, a3] (.inl 30 :: st) (sh, I, R) := (ev_eq f_197_32).trans rfl
theorem f_197_34 : fetch 197 34 = some (34, .iload_n 2, 1, [2], 0) := (fm_197 34).trans rfl
theorem u_197_34 {S : Scr} {d : Nat} {a0 a1 a3 : AV} {st : List AV} {sh : Shp} {I : IM} {R : RM} {x : Int} : ev S d 197 34 [a0, a1, .inl x, a3] st (sh, I, R) = ev S d 197 35 [a0, a1, .inl x, a3] (.inl x :: st) (sh, I, R) := (ev_eq f_197_34).trans rfl
theorem f_197_35 : fetch 197 35 = some (35, .iadd, 1, [], 0) := (fm_197 35).trans rfl
theorem u_197_35 {S : Scr} {d : Nat} {a0 a1 a2 a3 : AV} {st : List AV} {sh : Shp} {I : IM} {R : RM} {x y : Int} : ev S d 197 35 [a0, a1, a2, a3] (.inl y :: .inl x :: st) (sh, I, R) = ev S d 197 36 [a0, a1, a2, a3] (.inl (wr (x + y)) :: st) (sh, I, R) := (ev_eq f_197_35).trans rfl
theorem f_197_36 : fetch 197 36 = some (36, .iaload, 1, [], 0) := (fm_197 36).trans rfl
theorem u_197_36 {S : Scr} {d : Nat} {a0 a1 a2 a3 : AV} {st : List AV} {sh : Shp} {I : IM} {R : RM} {k : Nat} {i : Int} (h : tg sh k = 100) (h0 : 0 ≤ i) (h1 : i < ln sh k) : ev S d 197 36 [a0, a1, a2, a3] (.inl i :: .inr (.inl k) :: st) (sh, I, R) = ev S d 197 37 [a0, a1, a2, a3] (.inl (I k i) :: st) (sh, I, R) := (ev_eq f_197_36).trans (congrArg (fin S d 197) (if_pos ⟨h, h0, h1⟩))
theorem f_197_37 : fetch 197 37 = some (37, .if_icmp .ne 45, 3, [82], 0) := (fm_197 37).trans rfl
theorem u_197_37 {S : Scr} {d : Nat} {a0 a1 a2 a3 : AV} {st : List AV} {sh : Shp} {I : IM} {R : RM} {x y : Int} : ev S d 197 37 [a0, a1, a2, a3] (.inl y :: .inl x :: st) (sh, I, R) = if ¬ x = y then ev S d 197 82 [a0, a1, a2, a3] st (sh, I, R) else ev S d 197 40 [a0, a1, a2, a3] st (sh, I, R) := (ev_eq f_197_37).trans fin_icmp_ne
theorem f_197_40 : fetch 197 40 = some (40, .aload_n 0, 1, [0], 0) := (fm_197 40).trans rfl
theorem u_197_40 {S : Scr} {d : Nat} {a1 a2 a3 : AV} {st : List AV} {sh : Shp} {I : IM} {R : RM} {x : Nat} : ev S d 197 40 [.inr (.inl x), a1, a2, a3] st (sh, I, R) = ev S d 197 41 [.inr (.inl x), a1, a2, a3] (.inr (.inl x) :: st) (sh, I, R) := (ev_eq f_197_40).trans rfl
theorem f_197_41 : fetch 197 41 = some (41, .getfield 9, 3, [9, 0, 1, 79], 0) := (fm_197 41).trans rfl
theorem u_197_41 {S : Scr} {d : Nat} {a0 a1 a2 a3 : AV} {st : List AV} {sh : Shp} {I : IM} {R : RM} {k : Nat} (h : tg sh k = 9) : ev S d 197 41 [a0, a1, a2, a3] (.inr (.inl k) :: st) (sh, I, R) = ev S d 197 44 [a0, a1, a2, a3] (rv (R k 0) :: st) (sh, I, R) := (ev_eq f_197_41).trans (congrArg (fin S d 197) (if_pos h))
theorem f_197_44 : fetch 197 44 = some (44, .bipush 60, 2, [], 60) := (fm_197 44).trans rfl
theorem u_197_44 {S : Scr} {d : Nat} {a0 a1 a2 a3 : AV} {st : List AV} {sh : Shp} {I : IM} {R : RM} : ev S d 197 44 [a0, a1, a2, a3] st (sh, I, R) = ev S d 197 46 [a0, a1, a2, a3] (.inl 60 :: st) (sh, I, R) := (ev_eq f_197_44).trans rfl
theorem f_197_46 : fetch 197 46 = some (46, .iload_n 1, 1, [1], 0) := (fm_197 46).trans rfl
theorem u_197_46 {S : Scr} {d : Nat} {a0 a2 a3 : AV} {st : List AV} {sh : Shp} {I : IM} {R : RM} {x : Int} : ev S d 197 46 [a0, .inl x, a2, a3] st (sh, I, R) = ev S d 197 47 [a0, .inl x, a2, a3] (.inl x :: st) (sh, I, R) := (ev_eq f_197_46).trans rfl
theorem f_197_47 : fetch 197 47 = some (47, .iadd, 1, [], 0) := (fm_197 47).trans rfl
theorem u_197_47 {S : Scr} {d : Nat} {a0 a1 a2 a3 : AV} {st : List AV} {sh : Shp} {I : IM} {R : RM} {x y : Int} : ev S d 197 47 [a0, a1, a2, a3] (.inl y :: .inl x :: st) (sh, I, R) = ev S d 197 48 [a0, a1, a2, a3] (.inl (wr (x + y)) :: st) (sh, I, R) := (ev_eq f_197_47).trans rfl
theorem f_197_48 : fetch 197 48 = some (48, .iaload, 1, [], 0) := (fm_197 48).trans rfl
theorem u_197_48 {S : Scr} {d : Nat} {a0 a1 a2 a3 : AV} {st : List AV} {sh : Shp} {I : IM} {R : RM} {k : Nat} {i : Int} (h : tg sh k = 100) (h0 : 0 ≤ i) (h1 : i < ln sh k) : ev S d 197 48 [a0, a1, a2, a3] (.inl i :: .inr (.inl k) :: st) (sh, I, R) = ev S d 197 49 [a0, a1, a2, a3] (.inl (I k i) :: st) (sh, I, R) := (ev_eq f_197_48).trans (congrArg (fin S d 197) (if_pos ⟨h, h0, h1⟩))
theorem f_197_49 : fetch 197 49 = some (49, .aload_n 0, 1, [0], 0) := (fm_197 49).trans rfl
theorem u_197_49 {S : Scr} {d : Nat} {a1 a2 a3 : AV} {st : List AV} {sh : Shp} {I : IM} {R : RM} {x : Nat} : ev S d 197 49 [.inr (.inl x), a1, a2, a3] st (sh, I, R) = ev S d 197 50 [.inr (.inl x), a1, a2, a3] (.inr (.inl x) :: st) (sh, I, R) := (ev_eq f_197_49).trans rfl
theorem f_197_50 : fetch 197 50 = some (50, .getfield 9, 3, [9, 0, 1, 79], 0) := (fm_197 50).trans rfl
theorem u_197_50 {S : Scr} {d : Nat} {a0 a1 a2 a3 : AV} {st : List AV} {sh : Shp} {I : IM} {R : RM} {k : Nat} (h : tg sh k = 9) : ev S d 197 50 [a0, a1, a2, a3] (.inr (.inl k) :: st) (sh, I, R) = ev S d 197 53 [a0, a1, a2, a3] (rv (R k 0) :: st) (sh, I, R) := (ev_eq f_197_50).trans (congrArg (fin S d 197) (if_pos h))
theorem f_197_53 : fetch 197 53 = some (53, .bipush 60, 2, [], 60) := (fm_197 53).trans rfl
theorem u_197_53 {S : Scr} {d : Nat} {a0 a1 a2 a3 : AV} {st : List AV} {sh : Shp} {I : IM} {R : RM} : ev S d 197 53 [a0, a1, a2, a3] st (sh, I, R) = ev S d 197 55 [a0, a1, a2, a3] (.inl 60 :: st) (sh, I, R) := (ev_eq f_197_53).trans rfl
theorem f_197_55 : fetch 197 55 = some (55, .iload_n 2, 1, [2], 0) := (fm_197 55).trans rfl
theorem u_197_55 {S : Scr} {d : Nat} {a0 a1 a3 : AV} {st : List AV} {sh : Shp} {I : IM} {R : RM} {x : Int} : ev S d 197 55 [a0, a1, .inl x, a3] st (sh, I, R) = ev S d 197 56 [a0, a1, .inl x, a3] (.inl x :: st) (sh, I, R) := (ev_eq f_197_55).trans rfl
theorem f_197_56 : fetch 197 56 = some (56, .iadd, 1, [], 0) := (fm_197 56).trans rfl
theorem u_197_56 {S : Scr} {d : Nat} {a0 a1 a2 a3 : AV} {st : List AV} {sh : Shp} {I : IM} {R : RM} {x y : Int} : ev S d 197 56 [a0, a1, a2, a3] (.inl y :: .inl x :: st) (sh, I, R) = ev S d 197 57 [a0, a1, a2, a3] (.inl (wr (x + y)) :: st) (sh, I, R) := (ev_eq f_197_56).trans rfl
theorem f_197_57 : fetch 197 57 = some (57, .iaload, 1, [], 0) := (fm_197 57).trans rfl
theorem u_197_57 {S : Scr} {d : Nat} {a0 a1 a2 a3 : AV} {st : List AV} {sh : Shp} {I : IM} {R : RM} {k : Nat} {i : Int} (h : tg sh k = 100) (h0 : 0 ≤ i) (h1 : i < ln sh k) : ev S d 197 57 [a0, a1, a2, a3] (.inl i :: .inr (.inl k) :: st) (sh, I, R) = ev S d 197 58 [a0, a1, a2, a3] (.inl (I k i) :: st) (sh, I, R) := (ev_eq f_197_57).trans (congrArg (fin S d 197) (if_pos ⟨h, h0, h1⟩))
theorem f_197_58 : fetch 197 58 = some (58, .if_icmp .ne 24, 3, [82], 0) := (fm_197 58).trans rfl
theorem u_197_58 {S : Scr} {d : Nat} {a0 a1 a2 a3 : AV} {st : List AV} {sh : Shp} {I : IM} {R : RM} {x y : Int} : ev S d 197 58 [a0, a1, a2, a3] (.inl y :: .inl x :: st) (sh, I, R) = if ¬ x = y then ev S d 197 82 [a0, a1, a2, a3] st (sh, I, R) else ev S d 197 61 [a0, a1, a2, a3] st (sh, I, R) := (ev_eq f_197_58).trans fin_icmp_ne
theorem f_197_61 : fetch 197 61 = some (61, .aload_n 0, 1, [0], 0) := (fm_197 61).trans rfl
theorem u_197_61 {S : Scr} {d : Nat} {a1 a2 a3 : AV} {st : List AV} {sh : Shp} {I : IM} {R : RM} {x : Nat} : ev S d 197 61 [.inr (.inl x), a1, a2, a3] st (sh, I, R) = ev S d 197 62 [.inr (.inl x), a1, a2, a3] (.inr (.inl x) :: st) (sh, I, R) := (ev_eq f_197_61).trans rfl
theorem f_197_62 : fetch 197 62 = some (62, .getfield 9, 3, [9, 0, 1, 79], 0) := (fm_197 62).trans rfl
theorem u_197_62 {S : Scr} {d : Nat} {a0 a1 a2 a3 : AV} {st : List AV} {sh : Shp} {I : IM} {R : RM} {k : Nat} (h : tg sh k = 9) : ev S d 197 62 [a0, a1, a2, a3] (.inr (.inl k) :: st) (sh, I, R) = ev S d 197 65 [a0, a1, a2, a3] (rv (R k 0) :: st) (sh, I, R) := (ev_eq f_197_62).trans (congrArg (fin S d 197) (if_pos h))
theorem f_197_65 : fetch 197 65 = some (65, .bipush 90, 2, [], 90) := (fm_197 65).trans rfl
theorem u_197_65 {S : Scr} {d : Nat} {a0 a1 a2 a3 : AV} {st : List AV} {sh : Shp} {I : IM} {R : RM} : ev S d 197 65 [a0, a1, a2, a3] st (sh, I, R) = ev S d 197 67 [a0, a1, a2, a3] (.inl 90 :: st) (sh, I, R) := (ev_eq f_197_65).trans rfl
theorem f_197_67 : fetch 197 67 = some (67, .iload_n 1, 1, [1], 0) := (fm_197 67).trans rfl
theorem u_197_67 {S : Scr} {d : Nat} {a0 a2 a3 : AV} {st : List AV} {sh : Shp} {I : IM} {R : RM} {x : Int} : ev S d 197 67 [a0, .inl x, a2, a3] st (sh, I, R) = ev S d 197 68 [a0, .inl x, a2, a3] (.inl x :: st) (sh, I, R) := (ev_eq f_197_67).trans rfl
theorem f_197_68 : fetch 197 68 = some (68, .iadd, 1, [], 0) := (fm_197 68).trans rfl
theorem u_197_68 {S : Scr} {d : Nat} {a0 a1 a2 a3 : AV} {st : List AV} {sh : Shp} {I : IM} {R : RM} {x y : Int} : ev S d 197 68 [a0, a1, a2, a3] (.inl y :: .inl x :: st) (sh, I, R) = ev S d 197 69 [a0, a1, a2, a3] (.inl (wr (x + y)) :: st) (sh, I, R) := (ev_eq f_197_68).trans rfl
theorem f_197_69 : fetch 197 69 = some (69, .iaload, 1, [], 0) := (fm_197 69).trans rfl
theorem u_197_69 {S : Scr} {d : Nat} {a0 a1 a2 a3 : AV} {st : List AV} {sh : Shp} {I : IM} {R : RM} {k : Nat} {i : Int} (h : tg sh k = 100) (h0 : 0 ≤ i) (h1 : i < ln sh k) : ev S d 197 69 [a0, a1, a2, a3] (.inl i :: .inr (.inl k) :: st) (sh, I, R) = ev S d 197 70 [a0, a1, a2, a3] (.inl (I k i) :: st) (sh, I, R) := (ev_eq f_197_69).trans (congrArg (fin S d 197) (if_pos ⟨h, h0, h1⟩))
theorem f_197_70 : fetch 197 70 = some (70, .aload_n 0, 1, [0], 0) := (fm_197 70).trans rfl
theorem u_197_70 {S : Scr} {d : Nat} {a1 a2 a3 : AV} {st : List AV} {sh : Shp} {I : IM} {R : RM} {x : Nat} : ev S d 197 70 [.inr (.inl x), a1, a2, a3] st (sh, I, R) = ev S d 197 71 [.inr (.inl x), a1, a2, a3] (.inr (.inl x) :: st) (sh, I, R) := (ev_eq f_197_70).trans rfl
theorem f_197_71 : fetch 197 71 = some (71, .getfield 9, 3, [9, 0, 1, 79], 0) := (fm_197 71).trans rfl
theorem u_197_71 {S : Scr} {d : Nat} {a0 a1 a2 a3 : AV} {st : List AV} {sh : Shp} {I : IM} {R : RM} {k : Nat} (h : tg sh k = 9) : ev S d 197 71 [a0, a1, a2, a3] (.inr (.inl k) :: st) (sh, I, R) = ev S d 197 74 [a0, a1, a2, a3] (rv (R k 0) :: st) (sh, I, R) := (ev_eq f_197_71).trans (congrArg (fin S d 197) (if_pos h))
theorem f_197_74 : fetch 197 74 = some (74, .bipush 90, 2, [], 90) := (fm_197 74).trans rfl
theorem u_197_74 {S : Scr} {d : Nat} {a0 a1 a2 a3 : AV} {st : List AV} {sh : Shp} {I : IM} {R : RM} : ev S d 197 74 [a0, a1, a2, a3] st (sh, I, R) = ev S d 197 76 [a0, a1, a2, a3] (.inl 90 :: st) (sh, I, R) := (ev_eq f_197_74).trans rfl
theorem f_197_76 : fetch 197 76 = some (76, .iload_n 2, 1, [2], 0) := (fm_197 76).trans rfl
theorem u_197_76 {S : Scr} {d : Nat} {a0 a1 a3 : AV} {st : List AV} {sh : Shp} {I : IM} {R : RM} {x : Int} : ev S d 197 76 [a0, a1, .inl x, a3] st (sh, I, R) = ev S d 197 77 [a0, a1, .inl x, a3] (.inl x :: st) (sh, I, R) := (ev_eq f_197_76).trans rfl
theorem f_197_77 : fetch 197 77 = some (77, .iadd, 1, [], 0) := (fm_197 77).trans rfl
theorem u_197_77 {S : Scr} {d : Nat} {a0 a1 a2 a3 : AV} {st : List AV} {sh : Shp} {I : IM} {R : RM} {x y : Int} : ev S d 197 77 [a0, a1, a2, a3] (.inl y :: .inl x :: st) (sh, I, R) = ev S d 197 78 [a0, a1, a2, a3] (.inl (wr (x + y)) :: st) (sh, I, R) := (ev_eq f_197_77).trans rfl
theorem f_197_78 : fetch 197 78 = some (78, .iaload, 1, [], 0) := (fm_197 78).trans rfl
theorem u_197_78 {S : Scr} {d : Nat} {a0 a1 a2 a3 : AV} {st : List AV} {sh : Shp} {I : IM} {R : RM} {k : Nat} {i : Int} (h : tg sh k = 100) (h0 : 0 ≤ i) (h1 : i < ln sh k) : ev S d 197 78 [a0, a1, a2, a3] (.inl i :: .inr (.inl k) :: st) (sh, I, R) = ev S d 197 79 [a0, a1, a2, a3] (.inl (I k i) :: st) (sh, I, R) := (ev_eq f_197_78).trans (congrArg (fin S d 197) (if_pos ⟨h, h0, h1⟩))
theorem f_197_79 : fetch 197 79 = some (79, .if_icmp .eq 5, 3, [84], 0) := (fm_197 79).trans rfl
theorem u_197_79 {S : Scr} {d : Nat} {a0 a1 a2 a3 : AV} {st : List AV} {sh : Shp} {I : IM} {R : RM} {x y : Int} : ev S d 197 79 [a0, a1, a2, a3] (.inl y :: .inl x :: st) (sh, I, R) = if x = y then ev S d 197 84 [a0, a1, a2, a3] st (sh, I, R) else ev S d 197 82 [a0, a1, a2, a3] st (sh, I, R) := (ev_eq f_197_79).trans fin_icmp_eq
theorem f_197_82 : fetch 197 82 = some (82, .iconst 0, 1, [], 0) := (fm_197 82).trans rfl
theorem u_197_82 {S : Scr} {d : Nat} {a0 a1 a2 a3 : AV} {st : List AV} {sh : Shp} {I : IM} {R : RM} : ev S d 197 82 [a0, a1, a2, a3] st (sh, I, R) = ev S d 197 83 [a0, a1, a2, a3] (.inl 0 :: st) (sh, I, R) := (ev_eq f_197_82).trans rfl
theorem f_197_83 : fetch 197 83 = some (83, .ireturn, 1, [1], 0) := (fm_197 83).trans rfl
theorem u_197_83 {S : Scr} {d : Nat} {a0 a1 a2 a3 : AV} {sh : Shp} {I : IM} {R : RM} {x : Int} (h : x = 0 ∨ x = 1) : ev S d 197 83 [a0, a1, a2, a3] [.inl x] (sh, I, R) = some (some (.inl x), (sh, I, R)) := (ev_eq f_197_83).trans (fin_iret1 h)
theorem f_197_84 : fetch 197 84 = some (84, .iconst 0, 1, [], 0) := (fm_197 84).trans rfl
theorem u_197_84 {S : Scr} {d : Nat} {a0 a1 a2 a3 : AV} {st : List AV} {sh : Shp} {I : IM} {R : RM} : ev S d 197 84 [a0, a1, a2, a3] st (sh, I, R) = ev S d 197 85 [a0, a1, a2, a3] (.inl 0 :: st) (sh, I, R) := (ev_eq f_197_84).trans rfl
theorem f_197_85 : fetch 197 85 = some (85, .istore_n 3, 1, [3], 0) := (fm_197 85).trans rfl
theorem u_197_85 {S : Scr} {d : Nat} {a0 a1 a2 a3 : AV} {st : List AV} {sh : Shp} {I : IM} {R : RM} {x : Int} : ev S d 197 85 [a0, a1, a2, a3] (.inl x :: st) (sh, I, R) = ev S d 197 86 [a0, a1, a2, .inl x] st (sh, I, R) := (ev_eq f_197_85).trans rfl
theorem f_197_86 : fetch 197 86 = some (86, .iload_n 3, 1, [3], 0) := (fm_197 86).trans rfl
theorem u_197_86 {S : Scr} {d : Nat} {a0 a1 a2 : AV} {st : List AV} {sh : Shp} {I : IM} {R : RM} {x : Int} : ev S d 197 86 [a0, a1, a2, .inl x] st (sh, I, R) = ev S d 197 87 [a0, a1, a2, .inl x] (.inl x :: st) (sh, I, R) := (ev_eq f_197_86).trans rfl
theorem f_197_87 : fetch 197 87 = some (87, .aload_n 0, 1, [0], 0) := (fm_197 87).trans rfl
theorem u_197_87 {S : Scr} {d : Nat} {a1 a2 a3 : AV} {st : List AV} {sh : Shp} {I : IM} {R : RM} {x : Nat} : ev S d 197 87 [.inr (.inl x), a1, a2, a3] st (sh, I, R) = ev S d 197 88 [.inr (.inl x), a1, a2, a3] (.inr (.inl x) :: st) (sh, I, R) := (ev_eq f_197_87).trans rfl
theorem f_197_88 : fetch 197 88 = some (88, .getfield 9, 3, [9, 0, 1, 79], 0) := (fm_197 88).trans rfl
theorem u_197_88 {S : Scr} {d : Nat} {a0 a1 a2 a3 : AV} {st : List AV} {sh : Shp} {I : IM} {R : RM} {k : Nat} (h : tg sh k = 9) : ev S d 197 88 [a0, a1, a2, a3] (.inr (.inl k) :: st) (sh, I, R) = ev S d 197 91 [a0, a1, a2, a3] (rv (R k 0) :: st) (sh, I, R) := (ev_eq f_197_88).trans (congrArg (fin S d 197) (if_pos h))
theorem f_197_91 : fetch 197 91 = some (91, .bipush 90, 2, [], 90) := (fm_197 91).trans rfl
theorem u_197_91 {S : Scr} {d : Nat} {a0 a1 a2 a3 : AV} {st : List AV} {sh : Shp} {I : IM} {R : RM} : ev S d 197 91 [a0, a1, a2, a3] st (sh, I, R) = ev S d 197 93 [a0, a1, a2, a3] (.inl 90 :: st) (sh, I, R) := (ev_eq f_197_91).trans rfl
theorem f_197_93 : fetch 197 93 = some (93, .iload_n 1, 1, [1], 0) := (fm_197 93).trans rfl
theorem u_197_93 {S : Scr} {d : Nat} {a0 a2 a3 : AV} {st : List AV} {sh : Shp} {I : IM} {R : RM} {x : Int} : ev S d 197 93 [a0, .inl x, a2, a3] st (sh, I, R) = ev S d 197 94 [a0, .inl x, a2, a3] (.inl x :: st) (sh, I, R) := (ev_eq f_197_93).trans rfl
theorem f_197_94 : fetch 197 94 = some (94, .iadd, 1, [], 0) := (fm_197 94).trans rfl
theorem u_197_94 {S : Scr} {d : Nat} {a0 a1 a2 a3 : AV} {st : List AV} {sh : Shp} {I : IM} {R : RM} {x y : Int} : ev S d 197 94 [a0, a1, a2, a3] (.inl y :: .inl x :: st) (sh, I, R) = ev S d 197 95 [a0, a1, a2, a3] (.inl (wr (x + y)) :: st) (sh, I, R) := (ev_eq f_197_94).trans rfl
theorem f_197_95 : fetch 197 95 = some (95, .iaload, 1, [], 0) := (fm_197 95).trans rfl
theorem u_197_95 {S : Scr} {d : Nat} {a0 a1 a2 a3 : AV} {st : List AV} {sh : Shp} {I : IM} {R : RM} {k : Nat} {i : Int} (h : tg sh k = 100) (h0 : 0 ≤ i) (h1 : i < ln sh k) : ev S d 197 95 [a0, a1, a2, a3] (.inl i :: .inr (.inl k) :: st) (sh, I, R) = ev S d 197 96 [a0, a1, a2, a3] (.inl (I k i) :: st) (sh, I, R) := (ev_eq f_197_95).trans (congrArg (fin S d 197) (if_pos ⟨h, h0, h1⟩))
theorem f_197_96 : fetch 197 96 = some (96, .if_icmp .ge 75, 3, [171], 0) := (fm_197 96).trans rfl
theorem u_197_96 {S : Scr} {d : Nat} {a0 a1 a2 a3 : AV} {st : List AV} {sh : Shp} {I : IM} {R : RM} {x y : Int} : ev S d 197 96 [a0, a1, a2, a3] (.inl y :: .inl x :: st) (sh, I, R) = if y ≤ x then ev S d 197 171 [a0, a1, a2, a3] st (sh, I, R) else ev S d 197 99 [a0, a1, a2, a3] st (sh, I, R) := (ev_eq f_197_96).trans fin_icmp_ge
theorem f_197_99 : fetch 197 99 = some (99, .aload_n 0, 1, [0], 0) := (fm_197 99).trans rfl
theorem u_197_99 {S : Scr} {d : Nat} {a1 a2 a3 : AV} {st : List AV} {sh : Shp} {I : IM} {R : RM} {x : Nat} : ev S d 197 99 [.inr (.inl x), a1, a2, a3] st (sh, I, R) = ev S d 197 100 [.inr (.inl x), a1, a2, a3] (.inr (.inl x) :: st) (sh, I, R) := (ev_eq f_197_99).trans rfl
theorem f_197_100 : fetch 197 100 = some (100, .getfield 9, 3, [9, 0, 1, 79], 0) := (fm_197 100).trans rfl
theorem u_197_100 {S : Scr} {d : Nat} {a0 a1 a2 a3 : AV} {st : List AV} {sh : Shp} {I : IM} {R : RM} {k : Nat} (h : tg sh k = 9) : ev S d 197 100 [a0, a1, a2, a3] (.inr (.inl k) :: st) (sh, I, R) = ev S d 197 103 [a0, a1, a2, a3] (rv (R k 0) :: st) (sh, I, R) := (ev_eq f_197_100).trans (congrArg (fin S d 197) (if_pos h))
theorem f_197_103 : fetch 197 103 = some (103, .bipush 120, 2, [], 120) := (fm_197 103).trans rfl
theorem u_197_103 {S : Scr} {d : Nat} {a0 a1 a2 a3 : AV} {st : List AV} {sh : Shp} {I : IM} {R : RM} : ev S d 197 103 [a0, a1, a2, a3] st (sh, I, R) = ev S d 197 105 [a0, a1, a2, a3] (.inl 120 :: st) (sh, I, R) := (ev_eq f_197_103).trans rfl
theorem f_197_105 : fetch 197 105 = some (105, .bipush 6, 2, [], 6) := (fm_197 105).trans rfl
theorem u_197_105 {S : Scr} {d : Nat} {a0 a1 a2 a3 : AV} {st : List AV} {sh : Shp} {I : IM} {R : RM} : ev S d 197 105 [a0, a1, a2, a3] st (sh, I, R) = ev S d 197 107 [a0, a1, a2, a3] (.inl 6 :: st) (sh, I, R) := (ev_eq f_197_105).trans rfl
theorem f_197_107 : fetch 197 107 = some (107, .iload_n 1, 1, [1], 0) := (fm_197 107).trans rfl
theorem u_197_107 {S : Scr} {d : Nat} {a0 a2 a3 : AV} {st : List AV} {sh : Shp} {I : IM} {R : RM} {x : Int} : ev S d 197 107 [a0, .inl x, a2, a3] st (sh, I, R) = ev S d 197 108 [a0, .inl x, a2, a3] (.inl x :: st) (sh, I, R) := (ev_eq f_197_107).trans rfl
theorem f_197_108 : fetch 197 108 = some (108, .imul, 1, [], 0) := (fm_197 108).trans rfl
theorem u_197_108 {S : Scr} {d : Nat} {a0 a1 a2 a3 : AV} {st : List AV} {sh : Shp} {I : IM} {R : RM} {x y : Int} : ev S d 197 108 [a0, a1, a2, a3] (.inl y :: .inl x :: st) (sh, I, R) = ev S d 197 109 [a0, a1, a2, a3] (.inl (wr (x * y)) :: st) (sh, I, R) := (ev_eq f_197_108).trans rfl
theorem f_197_109 : fetch 197 109 = some (109, .iadd, 1, [], 0) := (fm_197 109).trans rfl
theorem u_197_109 {S : Scr} {d : Nat} {a0 a1 a2 a3 : AV} {st : List AV} {sh : Shp} {I : IM} {R : RM} {x y : Int} : ev S d 197 109 [a0, a1, a2, a3] (.inl y :: .inl x :: st) (sh, I, R) = ev S d 197 110 [a0, a1, a2, a3] (.inl (wr (x + y)) :: st) (sh, I, R) := (ev_eq f_197_109).trans rfl
theorem f_197_110 : fetch 197 110 = some (110, .iload_n 3, 1, [3], 0) := (fm_197 110).trans rfl
theorem u_197_110 {S : Scr} {d : Nat} {a0 a1 a2 : AV} {st : List AV} {sh : Shp} {I : IM} {R : RM} {x : Int} : ev S d 197 110 [a0, a1, a2, .inl x] st (sh, I, R) = ev S d 197 111 [a0, a1, a2, .inl x] (.inl x :: st) (sh, I, R) := (ev_eq f_197_110).trans rfl
theorem f_197_111 : fetch 197 111 = some (111, .iadd, 1, [], 0) := (fm_197 111).trans rfl
theorem u_197_111 {S : Scr} {d : Nat} {a0 a1 a2 a3 : AV} {st : List AV} {sh : Shp} {I : IM} {R : RM} {x y : Int} : ev S d 197 111 [a0, a1, a2, a3] (.inl y :: .inl x :: st) (sh, I, R) = ev S d 197 112 [a0, a1, a2, a3] (.inl (wr (x + y)) :: st) (sh, I, R) := (ev_eq f_197_111).trans rfl
theorem f_197_112 : fetch 197 112 = some (112, .iaload, 1, [], 0) := (fm_197 112).trans rfl
theorem u_197_112 {S : Scr} {d : Nat} {a0 a1 a2 a3 : AV} {st : List AV} {sh : Shp} {I : IM} {R : RM} {k : Nat} {i : Int} (h : tg sh k = 100) (h0 : 0 ≤ i) (h1 : i < ln sh k) : ev S d 197 112 [a0, a1, a2, a3] (.inl i :: .inr (.inl k) :: st) (sh, I, R) = ev S d 197 113 [a0, a1, a2, a3] (.inl (I k i) :: st) (sh, I, R) := (ev_eq f_197_112).trans (congrArg (fin S d 197) (if_pos ⟨h, h0, h1⟩))
theorem f_197_113 : fetch 197 113 = some (113, .aload_n 0, 1, [0], 0) := (fm_197 113).trans rfl
theorem u_197_113 {S : Scr} {d : Nat} {a1 a2 a3 : AV} {st : List AV} {sh : Shp} {I : IM} {R : RM} {x : Nat} : ev S d 197 113 [.inr (.inl x), a1, a2, a3] st (sh, I, R) = ev S d 197 114 [.inr (.inl x), a1, a2, a3] (.inr (.inl x) :: st) (sh, I, R) := (ev_eq f_197_113).trans rfl
theorem f_197_114 : fetch 197 114 = some (114, .getfield 9, 3, [9, 0, 1, 79], 0) := (fm_197 114).trans rfl
theorem u_197_114 {S : Scr} {d : Nat} {a0 a1 a2 a3 : AV} {st : List AV} {sh : Shp} {I : IM} {R : RM} {k : Nat} (h : tg sh k = 9) : ev S d 197 114 [a0, a1, a2, a3] (.inr (.inl k) :: st) (sh, I, R) = ev S d 197 117 [a0, a1, a2, a3] (rv (R k 0) :: st) (sh, I, R) := (ev_eq f_197_114).trans (congrArg (fin S d 197) (if_pos h))
theorem f_197_117 : fetch 197 117 = some (117, .bipush 120, 2, [], 120) := (fm_197 117).trans rfl
theorem u_197_117 {S : Scr} {d : Nat} {a0 a1 a2 a3 : AV} {st : List AV} {sh : Shp} {I : IM} {R : RM} : ev S d 197 117 [a0, a1, a2, a3] st (sh, I, R) = ev S d 197 119 [a0, a1, a2, a3] (.inl 120 :: st) (sh, I, R) := (ev_eq f_197_117).trans rfl
theorem f_197_119 : fetch 197 119 = some (119, .bipush 6, 2, [], 6) := (fm_197 119).trans rfl
theorem u_197_119 {S : Scr} {d : Nat} {a0 a1 a2 a3 : AV} {st : List AV} {sh : Shp} {I : IM} {R : RM} : ev S d 197 119 [a0, a1, a2, a3] st (sh, I, R) = ev S d 197 121 [a0, a1, a2, a3] (.inl 6 :: st) (sh, I, R) := (ev_eq f_197_119).trans rfl
theorem f_197_121 : fetch 197 121 = some (121, .iload_n 2, 1, [2], 0) := (fm_197 121).trans rfl
theorem u_197_121 {S : Scr} {d : Nat} {a0 a1 a3 : AV} {st : List AV} {sh : Shp} {I : IM} {R : RM} {x : Int} : ev S d 197 121 [a0, a1, .inl x, a3] st (sh, I, R) = ev S d 197 122 [a0, a1, .inl x, a3] (.inl x :: st) (sh, I, R) := (ev_eq f_197_121).trans rfl
theorem f_197_122 : fetch 197 122 = some (122, .imul, 1, [], 0) := (fm_197 122).trans rfl
theorem u_197_122 {S : Scr} {d : Nat} {a0 a1 a2 a3 : AV} {st : List AV} {sh : Shp} {I : IM} {R : RM} {x y : Int} : ev S d 197 122 [a0, a1, a2, a3] (.inl y :: .inl x :: st) (sh, I, R) = ev S d 197 123 [a0, a1, a2, a3] (.inl (wr (x * y)) :: st) (sh, I, R) := (ev_eq f_197_122).trans rfl
theorem f_197_123 : fetch 197 123 = some (123, .iadd, 1, [], 0) := (fm_197 123).trans rfl
theorem u_197_123 {S : Scr} {d : Nat} {a0 a1 a2 a3 : AV} {st : List AV} {sh : Shp} {I : IM} {R : RM} {x y : Int} : ev S d 197 123 [a0, a1, a2, a3] (.inl y :: .inl x :: st) (sh, I, R) = ev S d 197 124 [a0, a1, a2, a3] (.inl (wr (x + y)) :: st) (sh, I, R) := (ev_eq f_197_123).trans rfl
theorem f_197_124 : fetch 197 124 = some (124, .iload_n 3, 1, [3], 0) := (fm_197 124).trans rfl
theorem u_197_124 {S : Scr} {d : Nat} {a0 a1 a2 : AV} {st : List AV} {sh : Shp} {I : IM} {R : RM} {x : Int} : ev S d 197 124 [a0, a1, a2, .inl x] st (sh, I, R) = ev S d 197 125 [a0, a1, a2, .inl x] (.inl x :: st) (sh, I, R) := (ev_eq f_197_124).trans rfl
theorem f_197_125 : fetch 197 125 = some (125, .iadd, 1, [], 0) := (fm_197 125).trans rfl
theorem u_197_125 {S : Scr} {d : Nat} {a0 a1 a2 a3 : AV} {st : List AV} {sh : Shp} {I : IM} {R : RM} {x y : Int} : ev S d 197 125 [a0, a1, a2, a3] (.inl y :: .inl x :: st) (sh, I, R) = ev S d 197 126 [a0, a1, a2, a3] (.inl (wr (x + y)) :: st) (sh, I, R) := (ev_eq f_197_125).trans rfl
theorem f_197_126 : fetch 197 126 = some (126, .iaload, 1, [], 0) := (fm_197 126).trans rfl
theorem u_197_126 {S : Scr} {d : Nat} {a0 a1 a2 a3 : AV} {st : List AV} {sh : Shp} {I : IM} {R : RM} {k : Nat} {i : Int} (h : tg sh k = 100) (h0 : 0 ≤ i) (h1 : i < ln sh k) : ev S d 197 126 [a0, a1, a2, a3] (.inl i :: .inr (.inl k) :: st) (sh, I, R) = ev S d 197 127 [a0, a1, a2, a3] (.inl (I k i) :: st) (sh, I, R) := (ev_eq f_197_126).trans (congrArg (fin S d 197) (if_pos ⟨h, h0, h1⟩))
theorem f_197_127 : fetch 197 127 = some (127, .if_icmp .ne 36, 3, [163], 0) := (fm_197 127).trans rfl
theorem u_197_127 {S : Scr} {d : Nat} {a0 a1 a2 a3 : AV} {st : List AV} {sh : Shp} {I : IM} {R : RM} {x y : Int} : ev S d 197 127 [a0, a1, a2, a3] (.inl y :: .inl x :: st) (sh, I, R) = if ¬ x = y then ev S d 197 163 [a0, a1, a2, a3] st (sh, I, R) else ev S d 197 130 [a0, a1, a2, a3] st (sh, I, R) := (ev_eq f_197_127).trans fin_icmp_ne
theorem f_197_130 : fetch 197 130 = some (130, .aload_n 0, 1, [0], 0) := (fm_197 130).trans rfl
theorem u_197_130 {S : Scr} {d : Nat} {a1 a2 a3 : AV} {st : List AV} {sh : Shp} {I : IM} {R : RM} {x : Nat} : ev S d 197 130 [.inr (.inl x), a1, a2, a3] st (sh, I, R) = ev S d 197 131 [.inr (.inl x), a1, a2, a3] (.inr (.inl x) :: st) (sh, I, R) := (ev_eq f_197_130).trans rfl
theorem f_197_131 : fetch 197 131 = some (131, .getfield 9, 3, [9, 0, 1, 79], 0) := (fm_197 131).trans rfl
theorem u_197_131 {S : Scr} {d : Nat} {a0 a1 a2 a3 : AV} {st : List AV} {sh : Shp} {I : IM} {R : RM} {k : Nat} (h : tg sh k = 9) : ev S d 197 131 [a0, a1, a2, a3] (.inr (.inl k) :: st) (sh, I, R) = ev S d 197 134 [a0, a1, a2, a3] (rv (R k 0) :: st) (sh, I, R) := (ev_eq f_197_131).trans (congrArg (fin S d 197) (if_pos h))
theorem f_197_134 : fetch 197 134 = some (134, .sipush 300, 3, [], 300) := (fm_197 134).trans rfl
theorem u_197_134 {S : Scr} {d : Nat} {a0 a1 a2 a3 : AV} {st : List AV} {sh : Shp} {I : IM} {R : RM} : ev S d 197 134 [a0, a1, a2, a3] st (sh, I, R) = ev S d 197 137 [a0, a1, a2, a3] (.inl 300 :: st) (sh, I, R) := (ev_eq f_197_134).trans rfl
theorem f_197_137 : fetch 197 137 = some (137, .bipush 6, 2, [], 6) := (fm_197 137).trans rfl
theorem u_197_137 {S : Scr} {d : Nat} {a0 a1 a2 a3 : AV} {st : List AV} {sh : Shp} {I : IM} {R : RM} : ev S d 197 137 [a0, a1, a2, a3] st (sh, I, R) = ev S d 197 139 [a0, a1, a2, a3] (.inl 6 :: st) (sh, I, R) := (ev_eq f_197_137).trans rfl
theorem f_197_139 : fetch 197 139 = some (139, .iload_n 1, 1, [1], 0) := (fm_197 139).trans rfl
theorem u_197_139 {S : Scr} {d : Nat} {a0 a2 a3 : AV} {st : List AV} {sh : Shp} {I : IM} {R : RM} {x : Int} : ev S d 197 139 [a0, .inl x, a2, a3] st (sh, I, R) = ev S d 197 140 [a0, .inl x, a2, a3] (.inl x :: st) (sh, I, R) := (ev_eq f_197_139).trans rfl
theorem f_197_140 : fetch 197 140 = some (140, .imul, 1, [], 0) := (fm_197 140).trans rfl
theorem u_197_140 {S : Scr} {d : Nat} {a0 a1 a2 a3 : AV} {st : List AV} {sh : Shp} {I : IM} {R : RM} {x y : Int} : ev S d 197 140 [a0, a1, a2, a3] (.inl y :: .inl x :: st) (sh, I, R) = ev S d 197 141 [a0, a1, a2, a3] (.inl (wr (x * y)) :: st) (sh, I, R) := (ev_eq f_197_140).trans rfl
theorem f_197_141 : fetch 197 141 = some (141, .iadd, 1, [], 0) := (fm_197 141).trans rfl
theorem u_197_141 {S : Scr} {d : Nat} {a0 a1 a2 a3 : AV} {st : List AV} {sh : Shp} {I : IM} {R : RM} {x y : Int} : ev S d 197 141 [a0, a1, a2, a3] (.inl y :: .inl x :: st) (sh, I, R) = ev S d 197 142 [a0, a1, a2, a3] (.inl (wr (x + y)) :: st) (sh, I, R) := (ev_eq f_197_141).trans rfl
theorem f_197_142 : fetch 197 142 = some (142, .iload_n 3, 1, [3], 0) := (fm_197 142).trans rfl
theorem u_197_142 {S : Scr} {d : Nat} {a0 a1 a2 : AV} {st : List AV} {sh : Shp} {I : IM} {R : RM} {x : Int} : ev S d 197 142 [a0, a1, a2, .inl x] st (sh, I, R) = ev S d 197 143 [a0, a1, a2, .inl x] (.inl x :: st) (sh, I, R) := (ev_eq f_197_142).trans rfl
theorem f_197_143 : fetch 197 143 = some (143, .iadd, 1, [], 0) := (fm_197 143).trans rfl
theorem u_197_143 {S : Scr} {d : Nat} {a0 a1 a2 a3 : AV} {st : List AV} {sh : Shp} {I : IM} {R : RM} {x y : Int} : ev S d 197 143 [a0, a1, a2, a3] (.inl y :: .inl x :: st) (sh, I, R) = ev S d 197 144 [a0, a1, a2, a3] (.inl (wr (x + y)) :: st) (sh, I, R) := (ev_eq f_197_143).trans rfl
theorem f_197_144 : fetch 197 144 = some (144, .iaload, 1, [], 0) := (fm_197 144).trans rfl
theorem u_197_144 {S : Scr} {d : Nat} {a0 a1 a2 a3 : AV} {st : List AV} {sh : Shp} {I : IM} {R : RM} {k : Nat} {i : Int} (h : tg sh k = 100) (h0 : 0 ≤ i) (h1 : i < ln sh k) : ev S d 197 144 [a0, a1, a2, a3] (.inl i :: .inr (.inl k) :: st) (sh, I, R) = ev S d 197 145 [a0, a1, a2, a3] (.inl (I k i) :: st) (sh, I, R) := (ev_eq f_197_144).trans (congrArg (fin S d 197) (if_pos ⟨h, h0, h1⟩))
theorem f_197_145 : fetch 197 145 = some (145, .aload_n 0, 1, [0], 0) := (fm_197 145).trans rfl
theorem u_197_145 {S : Scr} {d : Nat} {a1 a2 a3 : AV} {st : List AV} {sh : Shp} {I : IM} {R : RM} {x : Nat} : ev S d 197 145 [.inr (.inl x), a1, a2, a3] st (sh, I, R) = ev S d 197 146 [.inr (.inl x), a1, a2, a3] (.inr (.inl x) :: st) (sh, I, R) := (ev_eq f_197_145).trans rfl
theorem f_197_146 : fetch 197 146 = some (146, .getfield 9, 3, [9, 0, 1, 79], 0) := (fm_197 146).trans rfl
theorem u_197_146 {S : Scr} {d : Nat} {a0 a1 a2 a3 : AV} {st : List AV} {sh : Shp} {I : IM} {R : RM} {k : Nat} (h : tg sh k = 9) : ev S d 197 146 [a0, a1, a2, a3] (.inr (.inl k) :: st) (sh, I, R) = ev S d 197 149 [a0, a1, a2, a3] (rv (R k 0) :: st) (sh, I, R) := (ev_eq f_197_146).trans (congrArg (fin S d 197) (if_pos h))
theorem f_197_149 : fetch 197 149 = some (149, .sipush 300, 3, [], 300) := (fm_197 149).trans rfl
theorem u_197_149 {S : Scr} {d : Nat} {a0 a1 a2 a3 : AV} {st : List AV} {sh : Shp} {I : IM} {R : RM} : ev S d 197 149 [a0, a1, a2, a3] st (sh, I, R) = ev S d 197 152 [a0, a1, a2, a3] (.inl 300 :: st) (sh, I, R) := (ev_eq f_197_149).trans rfl
theorem f_197_152 : fetch 197 152 = some (152, .bipush 6, 2, [], 6) := (fm_197 152).trans rfl
theorem u_197_152 {S : Scr} {d : Nat} {a0 a1 a2 a3 : AV} {st : List AV} {sh : Shp} {I : IM} {R : RM} : ev S d 197 152 [a0, a1, a2, a3] st (sh, I, R) = ev S d 197 154 [a0, a1, a2, a3] (.inl 6 :: st) (sh, I, R) := (ev_eq f_197_152).trans rfl
theorem f_197_154 : fetch 197 154 = some (154, .iload_n 2, 1, [2], 0) := (fm_197 154).trans rfl
theorem u_197_154 {S : Scr} {d : Nat} {a0 a1 a3 : AV} {st : List AV} {sh : Shp} {I : IM} {R : RM} {x : Int} : ev S d 197 154 [a0, a1, .inl x, a3] st (sh, I, R) = ev S d 197 155 [a0, a1, .inl x, a3] (.inl x :: st) (sh, I, R) := (ev_eq f_197_154).trans rfl
theorem f_197_155 : fetch 197 155 = some (155, .imul, 1, [], 0) := (fm_197 155).trans rfl
theorem u_197_155 {S : Scr} {d : Nat} {a0 a1 a2 a3 : AV} {st : List AV} {sh : Shp} {I : IM} {R : RM} {x y : Int} : ev S d 197 155 [a0, a1, a2, a3] (.inl y :: .inl x :: st) (sh, I, R) = ev S d 197 156 [a0, a1, a2, a3] (.inl (wr (x * y)) :: st) (sh, I, R) := (ev_eq f_197_155).trans rfl
theorem f_197_156 : fetch 197 156 = some (156, .iadd, 1, [], 0) := (fm_197 156).trans rfl
theorem u_197_156 {S : Scr} {d : Nat} {a0 a1 a2 a3 : AV} {st : List AV} {sh : Shp} {I : IM} {R : RM} {x y : Int} : ev S d 197 156 [a0, a1, a2, a3] (.inl y :: .inl x :: st) (sh, I, R) = ev S d 197 157 [a0, a1, a2, a3] (.inl (wr (x + y)) :: st) (sh, I, R) := (ev_eq f_197_156).trans rfl
theorem f_197_157 : fetch 197 157 = some (157, .iload_n 3, 1, [3], 0) := (fm_197 157).trans rfl
theorem u_197_157 {S : Scr} {d : Nat} {a0 a1 a2 : AV} {st : List AV} {sh : Shp} {I : IM} {R : RM} {x : Int} : ev S d 197 157 [a0, a1, a2, .inl x] st (sh, I, R) = ev S d 197 158 [a0, a1, a2, .inl x] (.inl x :: st) (sh, I, R) := (ev_eq f_197_157).trans rfl
theorem f_197_158 : fetch 197 158 = some (158, .iadd, 1, [], 0) := (fm_197 158).trans rfl
theorem u_197_158 {S : Scr} {d : Nat} {a0 a1 a2 a3 : AV} {st : List AV} {sh : Shp} {I : IM} {R : RM} {x y : Int} : ev S d 197 158 [a0, a1, a2, a3] (.inl y :: .inl x :: st) (sh, I, R) = ev S d 197 159 [a0, a1, a2, a3] (.inl (wr (x + y)) :: st) (sh, I, R) := (ev_eq f_197_158).trans rfl
theorem f_197_159 : fetch 197 159 = some (159, .iaload, 1, [], 0) := (fm_197 159).trans rfl
theorem u_197_159 {S : Scr} {d : Nat} {a0 a1 a2 a3 : AV} {st : List AV} {sh : Shp} {I : IM} {R : RM} {k : Nat} {i : Int} (h : tg sh k = 100) (h0 : 0 ≤ i) (h1 : i < ln sh k) : ev S d 197 159 [a0, a1, a2, a3] (.inl i :: .inr (.inl k) :: st) (sh, I, R) = ev S d 197 160 [a0, a1, a2, a3] (.inl (I k i) :: st) (sh, I, R) := (ev_eq f_197_159).trans (congrArg (fin S d 197) (if_pos ⟨h, h0, h1⟩))
theorem f_197_160 : fetch 197 160 = some (160, .if_icmp .eq 5, 3, [165], 0) := (fm_197 160).trans rfl
theorem u_197_160 {S : Scr} {d : Nat} {a0 a1 a2 a3 : AV} {st : List AV} {sh : Shp} {I : IM} {R : RM} {x y : Int} : ev S d 197 160 [a0, a1, a2, a3] (.inl y :: .inl x :: st) (sh, I, R) = if x = y then ev S d 197 165 [a0, a1, a2, a3] st (sh, I, R) else ev S d 197 163 [a0, a1, a2, a3] st (sh, I, R) := (ev_eq f_197_160).trans fin_icmp_eq
theorem f_197_163 : fetch 197 163 = some (163, .iconst 0, 1, [], 0) := (fm_197 163).trans rfl
theorem u_197_163 {S : Scr} {d : Nat} {a0 a1 a2 a3 : AV} {st : List AV} {sh : Shp} {I : IM} {R : RM} : ev S d 197 163 [a0, a1, a2, a3] st (sh, I, R) = ev S d 197 164 [a0, a1, a2, a3] (.inl 0 :: st) (sh, I, R) := (ev_eq f_197_163).trans rfl
theorem f_197_164 : fetch 197 164 = some (164, .ireturn, 1, [1], 0) := (fm_197 164).trans rfl
theorem u_197_164 {S : Scr} {d : Nat} {a0 a1 a2 a3 : AV} {sh : Shp} {I : IM} {R : RM} {x : Int} (h : x = 0 ∨ x = 1) : ev S d 197 164 [a0, a1, a2, a3] [.inl x] (sh, I, R) = some (some (.inl x), (sh, I, R)) := (ev_eq f_197_164).trans (fin_iret1 h)
theorem f_197_165 : fetch 197 165 = some (165, .iinc 3 1, 3, [3], 1) := (fm_197 165).trans rfl
theorem u_197_165 {S : Scr} {d : Nat} {a0 a1 a2 : AV} {st : List AV} {sh : Shp} {I : IM} {R : RM} {x : Int} : ev S d 197 165 [a0, a1, a2, .inl x] st (sh, I, R) = ev S d 197 168 [a0, a1, a2, .inl (wr (x + 1))] st (sh, I, R) := (ev_eq f_197_165).trans rfl
theorem f_197_168 : fetch 197 168 = some (168, .goto (-82), 3, [86], 0) := (fm_197 168).trans rfl
theorem u_197_168 {S : Scr} {d : Nat} {a0 a1 a2 a3 : AV} {st : List AV} {sh : Shp} {I : IM} {R : RM} : ev S d 197 168 [a0, a1, a2, a3] st (sh, I, R) = ev S d 197 86 [a0, a1, a2, a3] st (sh, I, R) := (ev_eq f_197_168).trans rfl
theorem f_197_171 : fetch 197 171 = some (171, .iconst 0, 1, [], 0) := (fm_197 171).trans rfl
theorem u_197_171 {S : Scr} {d : Nat} {a0 a1 a2 a3 : AV} {st : List AV} {sh : Shp} {I : IM} {R : RM} : ev S d 197 171 [a0, a1, a2, a3] st (sh, I, R) = ev S d 197 172 [a0, a1, a2, a3] (.inl 0 :: st) (sh, I, R) := (ev_eq f_197_171).trans rfl
theorem f_197_172 : fetch 197 172 = some (172, .istore_n 3, 1, [3], 0) := (fm_197 172).trans rfl
theorem u_197_172 {S : Scr} {d : Nat} {a0 a1 a2 a3 : AV} {st : List AV} {sh : Shp} {I : IM} {R : RM} {x : Int} : ev S d 197 172 [a0, a1, a2, a3] (.inl x :: st) (sh, I, R) = ev S d 197 173 [a0, a1, a2, .inl x] st (sh, I, R) := (ev_eq f_197_172).trans rfl
theorem f_197_173 : fetch 197 173 = some (173, .iload_n 3, 1, [3], 0) := (fm_197 173).trans rfl
theorem u_197_173 {S : Scr} {d : Nat} {a0 a1 a2 : AV} {st : List AV} {sh : Shp} {I : IM} {R : RM} {x : Int} : ev S d 197 173 [a0, a1, a2, .inl x] st (sh, I, R) = ev S d 197 174 [a0, a1, a2, .inl x] (.inl x :: st) (sh, I, R) := (ev_eq f_197_173).trans rfl
theorem f_197_174 : fetch 197 174 = some (174, .aload_n 0, 1, [0], 0) := (fm_197 174).trans rfl
theorem u_197_174 {S : Scr} {d : Nat} {a1 a2 a3 : AV} {st : List AV} {sh : Shp} {I : IM} {R : RM} {x : Nat} : ev S d 197 174 [.inr (.inl x), a1, a2, a3] st (sh, I, R) = ev S d 197 175 [.inr (.inl x), a1, a2, a3] (.inr (.inl x) :: st) (sh, I, R) := (ev_eq f_197_174).trans rfl
theorem f_197_175 : fetch 197 175 = some (175, .getfield 9, 3, [9, 0, 1, 79], 0) := (fm_197 175).trans rfl
theorem u_197_175 {S : Scr} {d : Nat} {a0 a1 a2 a3 : AV} {st : List AV} {sh : Shp} {I : IM} {R : RM} {k : Nat} (h : tg sh k = 9) : ev S d 197 175 [a0, a1, a2, a3] (.inr (.inl k) :: st) (sh, I, R) = ev S d 197 178 [a0, a1, a2, a3] (rv (R k 0) :: st) (sh, I, R) := (ev_eq f_197_175).trans (congrArg (fin S d 197) (if_pos h))
theorem f_197_178 : fetch 197 178 = some (178, .bipush 60, 2, [], 60) := (fm_197 178).trans rfl
theorem u_197_178 {S : Scr} {d : Nat} {a0 a1 a2 a3 : AV} {st : List AV} {sh : Shp} {I : IM} {R : RM} : ev S d 197 178 [a0, a1, a2, a3] st (sh, I, R) = ev S d 197 180 [a0, a1, a2, a3] (.inl 60 :: st) (sh, I, R) := (ev_eq f_197_178).trans rfl
theorem f_197_180 : fetch 197 180 = some (180, .iload_n 1, 1, [1], 0) := (fm_197 180).trans rfl
theorem u_197_180 {S : Scr} {d : Nat} {a0 a2 a3 : AV} {st : List AV} {sh : Shp} {I : IM} {R : RM} {x : Int} : ev S d 197 180 [a0, .inl x, a2, a3] st (sh, I, R) = ev S d 197 181 [a0, .inl x, a2, a3] (.inl x :: st) (sh, I, R) := (ev_eq f_197_180).trans rfl
theorem f_197_181 : fetch 197 181 = some (181, .iadd, 1, [], 0) := (fm_197 181).trans rfl
theorem u_197_181 {S : Scr} {d : Nat} {a0 a1 a2 a3 : AV} {st : List AV} {sh : Shp} {I : IM} {R : RM} {x y : Int} : ev S d 197 181 [a0, a1, a2, a3] (.inl y :: .inl x :: st) (sh, I, R) = ev S d 197 182 [a0, a1, a2, a3] (.inl (wr (x + y)) :: st) (sh, I, R) := (ev_eq f_197_181).trans rfl
theorem f_197_182 : fetch 197 182 = some (182, .iaload, 1, [], 0) := (fm_197 182).trans rfl
theorem u_197_182 {S : Scr} {d : Nat} {a0 a1 a2 a3 : AV} {st : List AV} {sh : Shp} {I : IM} {R : RM} {k : Nat} {i : Int} (h : tg sh k = 100) (h0 : 0 ≤ i) (h1 : i < ln sh k) : ev S d 197 182 [a0, a1, a2, a3] (.inl i :: .inr (.inl k) :: st) (sh, I, R) = ev S d 197 183 [a0, a1, a2, a3] (.inl (I k i) :: st) (sh, I, R) := (ev_eq f_197_182).trans (congrArg (fin S d 197) (if_pos ⟨h, h0, h1⟩))
theorem f_197_183 : fetch 197 183 = some (183, .if_icmp .ge 30, 3, [213], 0) := (fm_197 183).trans rfl
theorem u_197_183 {S : Scr} {d : Nat} {a0 a1 a2 a3 : AV} {st : List AV} {sh : Shp} {I : IM} {R : RM} {x y : Int} : ev S d 197 183 [a0, a1, a2, a3] (.inl y :: .inl x :: st) (sh, I, R) = if y ≤ x then ev S d 197 213 [a0, a1, a2, a3] st (sh, I, R) else ev S d 197 186 [a0, a1, a2, a3] st (sh, I, R) := (ev_eq f_197_183).trans fin_icmp_ge
theorem f_197_186 : fetch 197 186 = some (186, .aload_n 0, 1, [0], 0) := (fm_197 186).trans rfl
theorem u_197_186 {S : Scr} {d : Nat} {a1 a2 a3 : AV} {st : List AV} {sh : Shp} {I : IM} {R : RM} {x : Nat} : ev S d 197 186 [.inr (.inl x), a1, a2, a3] st (sh, I, R) = ev S d 197 187 [.inr (.inl x), a1, a2, a3] (.inr (.inl x) :: st) (sh, I, R) := (ev_eq f_197_186).trans rfl
theorem f_197_187 : fetch 197 187 = some (187, .aload_n 0, 1, [0], 0) := (fm_197 187).trans rfl
theorem u_197_187 {S : Scr} {d : Nat} {a1 a2 a3 : AV} {st : List AV} {sh : Shp} {I : IM} {R : RM} {x : Nat} : ev S d 197 187 [.inr (.inl x), a1, a2, a3] st (sh, I, R) = ev S d 197 188 [.inr (.inl x), a1, a2, a3] (.inr (.inl x) :: st) (sh, I, R) := (ev_eq f_197_187).trans rfl
theorem f_197_188 : fetch 197 188 = some (188, .iload_n 1, 1, [1], 0) := (fm_197 188).trans rfl
theorem u_197_188 {S : Scr} {d : Nat} {a0 a2 a3 : AV} {st : List AV} {sh : Shp} {I : IM} {R : RM} {x : Int} : ev S d 197 188 [a0, .inl x, a2, a3] st (sh, I, R) = ev S d 197 189 [a0, .inl x, a2, a3] (.inl x :: st) (sh, I, R) := (ev_eq f_197_188).trans rfl
theorem f_197_189 : fetch 197 189 = some (189, .iload_n 3, 1, [3], 0) := (fm_197 189).trans rfl
theorem u_197_189 {S : Scr} {d : Nat} {a0 a1 a2 : AV} {st : List AV} {sh : Shp} {I : IM} {R : RM} {x : Int} : ev S d 197 189 [a0, a1, a2, .inl x] st (sh, I, R) = ev S d 197 190 [a0, a1, a2, .inl x] (.inl x :: st) (sh, I, R) := (ev_eq f_197_189).trans rfl
theorem f_197_190 : fetch 197 190 = some (190, .invokevirtual 128, 3, [135, 2, 143], 0) := (fm_197 190).trans rfl
theorem u_197_190 {S : Scr} {d : Nat} {a0 a1 a2 a3 : AV} {st : List AV} {sh : Shp} {I : IM} {R : RM} {x0 : Int} {x1 : Int} {k : Nat} (h : tg sh k = 9) (hr : st.length ≤ 8) : ev S d 197 190 [a0, a1, a2, a3] (.inl x1 :: .inl x0 :: .inr (.inl k) :: st) (sh, I, R) = bnd (cl d 135 [.inr (.inl k), .inl x0, .inl x1] (sh, I, R)) (fun v M => ev S d 197 193 [a0, a1, a2, a3] (psh v st) M) := (ev_eq f_197_190).trans (congrArg (fin S d 197) (if_pos ⟨h, rfl, hr⟩))
theorem f_197_193 : fetch 197 193 = some (193, .aload_n 0, 1, [0], 0) := (fm_197 193).trans rfl
theorem u_197_193 {S : Scr} {d : Nat} {a1 a2 a3 : AV} {st : List AV} {sh : Shp} {I : IM} {R : RM} {x : Nat} : ev S d 197 193 [.inr (.inl x), a1, a2, a3] st (sh, I, R) = ev S d 197 194 [.inr (.inl x), a1, a2, a3] (.inr (.inl x) :: st) (sh, I, R) := (ev_eq f_197_193).trans rfl
theorem f_197_194 : fetch 197 194 = some (194, .iload_n 2, 1, [2], 0) := (fm_197 194).trans rfl
theorem u_197_194 {S : Scr} {d : Nat} {a0 a1 a3 : AV} {st : List AV} {sh : Shp} {I : IM} {R : RM} {x : Int} : ev S d 197 194 [a0, a1, .inl x, a3] st (sh, I, R) = ev S d 197 195 [a0, a1, .inl x, a3] (.inl x :: st) (sh, I, R) := (ev_eq f_197_194).trans rfl
theorem f_197_195 : fetch 197 195 = some (195, .iload_n 3, 1, [3], 0) := (fm_197 195).trans rfl
theorem u_197_195 {S : Scr} {d : Nat} {a0 a1 a2 : AV} {st : List AV} {sh : Shp} {I : IM} {R : RM} {x : Int} : ev S d 197 195 [a0, a1, a2, .inl x] st (sh, I, R) = ev S d 197 196 [a0, a1, a2, .inl x] (.inl x :: st) (sh, I, R) := (ev_eq f_197_195).trans rfl
theorem f_197_196 : fetch 197 196 = some (196, .invokevirtual 128, 3, [135, 2, 143], 0) := (fm_197 196).trans rfl
theorem u_197_196 {S : Scr} {d : Nat} {a0 a1 a2 a3 : AV} {st : List AV} {sh : Shp} {I : IM} {R : RM} {x0 : Int} {x1 : Int} {k : Nat} (h : tg sh k = 9) (hr : st.length ≤ 8) : ev S d 197 196 [a0, a1, a2, a3] (.inl x1 :: .inl x0 :: .inr (.inl k) :: st) (sh, I, R) = bnd (cl d 135 [.inr (.inl k), .inl x0, .inl x1] (sh, I, R)) (fun v M => ev S d 197 199 [a0, a1, a2, a3] (psh v st) M) := (ev_eq f_197_196).trans (congrArg (fin S d 197) (if_pos ⟨h, rfl, hr⟩))
theorem f_197_199 : fetch 197 199 = some (199, .invokevirtual 239, 3, [196, 2, 169], 0) := (fm_197 199).trans rfl
theorem u_197_199 {S : Scr} {d : Nat} {a0 a1 a2 a3 : AV} {st : List AV} {sh : Shp} {I : IM} {R : RM} {x0 : Int} {x1 : Int} {k : Nat} (h : tg sh k = 9) (hr : st.length ≤ 8) : ev S d 197 199 [a0, a1, a2, a3] (.inl x1 :: .inl x0 :: .inr (.inl k) :: st) (sh, I, R) = bnd (cl d 196 [.inr (.inl k), .inl x0, .inl x1] (sh, I, R)) (fun v M => ev S d 197 202 [a0, a1, a2, a3] (psh v st) M) := (ev_eq f_197_199).trans (congrArg (fin S d 197) (if_pos ⟨h, rfl, hr⟩))
theorem f_197_202 : fetch 197 202 = some (202, .ifCond .ne 5, 3, [207], 0) := (fm_197 202).trans rfl
theorem u_197_202 {S : Scr} {d : Nat} {a0 a1 a2 a3 : AV} {st : List AV} {sh : Shp} {I : IM} {R : RM} {x : Int} : ev S d 197 202 [a0, a1, a2, a3] (.inl x :: st) (sh, I, R) = if ¬ x = 0 then ev S d 197 207 [a0, a1, a2, a3] st (sh, I, R) else ev S d 197 205 [a0, a1, a2, a3] st (sh, I, R) := (ev_eq f_197_202).trans fin_if_ne
theorem f_197_205 : fetch 197 205 = some (205, .iconst 0, 1, [], 0) := (fm_197 205).trans rfl
theorem u_197_205 {S : Scr} {d : Nat} {a0 a1 a2 a3 : AV} {st : List AV} {sh : Shp} {I : IM} {R : RM} : ev S d 197 205 [a0, a1, a2, a3] st (sh, I, R) = ev S d 197 206 [a0, a1, a2, a3] (.inl 0 :: st) (sh, I, R) := (ev_eq f_197_205).trans rfl
theorem f_197_206 : fetch 197 206 = some (206, .ireturn, 1, [1], 0) := (fm_197 206).trans rfl
theorem u_197_206 {S : Scr} {d : Nat} {a0 a1 a2 a3 : AV} {sh : Shp} {I : IM} {R : RM} {x : Int} (h : x = 0 ∨ x = 1) : ev S d 197 206 [a0, a1, a2, a3] [.inl x] (sh, I, R) = some (some (.inl x), (sh, I, R)) := (ev_eq f_197_206).trans (fin_iret1 h)
theorem f_197_207 : fetch 197 207 = some (207, .iinc 3 1, 3, [3], 1) := (fm_197 207).trans rfl
theorem u_197_207 {S : Scr} {d : Nat} {a0 a1 a2 : AV} {st : List AV} {sh : Shp} {I : IM} {R : RM} {x : Int} : ev S d 197 207 [a0, a1, a2, .inl x] st (sh, I, R) = ev S d 197 210 [a0, a1, a2, .inl (wr (x + 1))] st (sh, I, R) := (ev_eq f_197_207).trans rfl
theorem f_197_210 : fetch 197 210 = some (210, .goto (-37), 3, [173], 0) := (fm_197 210).trans rfl
theorem u_197_210 {S : Scr} {d : Nat} {a0 a1 a2 a3 : AV} {st : List AV} {sh : Shp} {I : IM} {R : RM} : ev S d 197 210 [a0, a1, a2, a3] st (sh, I, R) = ev S d 197 173 [a0, a1, a2, a3] st (sh, I, R) := (ev_eq f_197_210).trans rfl
theorem f_197_213 : fetch 197 213 = some (213, .iconst 1, 1, [], 1) := (fm_197 213).trans rfl
theorem u_197_213 {S : Scr} {d : Nat} {a0 a1 a2 a3 : AV} {st : List AV} {sh : Shp} {I : IM} {R : RM} : ev S d 197 213 [a0, a1, a2, a3] st (sh, I, R) = ev S d 197 214 [a0, a1, a2, a3] (.inl 1 :: st) (sh, I, R) := (ev_eq f_197_213).trans rfl
theorem f_197_214 : fetch 197 214 = some (214, .ireturn, 1, [1], 0) := (fm_197 214).trans rfl
theorem u_197_214 {S : Scr} {d : Nat} {a0 a1 a2 a3 : AV} {sh : Shp} {I : IM} {R : RM} {x : Int} (h : x = 0 ∨ x = 1) : ev S d 197 214 [a0, a1, a2, a3] [.inl x] (sh, I, R) = some (some (.inl x), (sh, I, R)) := (ev_eq f_197_214).trans (fin_iret1 h)
theorem c_198 {d : Nat} {a0 a1 a2 : AV} {M : Mem} : cl (d + 1) 198 [a0, a1, a2] M = ev S0 d 198 0 [a0, a1, a2, .inr (.inr 1), .inr (.inr 1)] [] M := (cl_eq (as := [a0, a1, a2]) (show 3 ≤ maxOf 198 by decide +kernel)).trans rfl
theorem mt_198 : MT[198]? = some m_198 := rfl
theorem fm_198 (pc : Nat) : fetch 198 pc = lk m_198.2.2.2.2.2 pc := by
  unfold fetch
  rw [mt_198]
theorem f_198_0 : fetch 198 0 = some (0, .aload_n 0, 1, [0], 0) := (fm_198 0).trans rfl
theorem u_198_0 {S : Scr} {d : Nat} {a1 a2 a3 a4 : AV} {st : List AV} {sh : Shp} {I : IM} {R : RM} {x : Nat} : ev S d 198 0 [.inr (.inl x), a1, a2, a3, a4] st (sh, I, R) = ev S d 198 1 [.inr (.inl x), a1, a2, a3, a4] (.inr (.inl x) :: st) (sh, I, R) := (ev_eq f_198_0).trans rfl
theorem f_198_1 : fetch 198 1 = some (1, .iload_n 1, 1, [1], 0) := (fm_198 1).trans rfl
theorem u_198_1 {S : Scr} {d : Nat} {a0 a2 a3 a4 : AV} {st : List AV} {sh : Shp} {I : IM} {R : RM} {x : Int} : ev S d 198 1 [a0, .inl x, a2, a3, a4] st (sh, I, R) = ev S d 198 2 [a0, .inl x, a2, a3, a4] (.inl x :: st) (sh, I, R) := (ev_eq f_198_1).trans rfl
theorem f_198_2 : fetch 198 2 = some (2, .invokevirtual 68, 3, [133, 1, 126], 0) := (fm_198 2).trans rfl
theorem u_198_2 {S : Scr} {d : Nat} {a0 a1 a2 a3 a4 : AV} {st : List AV} {sh : Shp} {I : IM} {R : RM} {x0 : Int} {k : Nat} (h : tg sh k = 9) (hr : st.length ≤ 8) : ev S d 198 2 [a0, a1, a2, a3, a4] (.inl x0 :: .inr (.inl k) :: st) (sh, I, R) = bnd (cl d 133 [.inr (.inl k), .inl x0] (sh, I, R)) (fun v M => ev S d 198 5 [a0, a1, a2, a3, a4] (psh v st) M) := (ev_eq f_198_2).trans (congrArg (fin S d 198) (if_pos ⟨h, rfl, hr⟩))
theorem f_198_5 : fetch 198 5 = some (5, .ifCond .eq 11, 3, [16], 0) := (fm_198 5).trans rfl
theorem u_198_5 {S : Scr} {d : Nat} {a0 a1 a2 a3 a4 : AV} {st : List AV} {sh : Shp} {I : IM} {R : RM} {x : Int} : ev S d 198 5 [a0, a1, a2, a3, a4] (.inl x :: st) (sh, I, R) = if x = 0 then ev S d 198 16 [a0, a1, a2, a3, a4] st (sh, I, R) else ev S d 198 8 [a0, a1, a2, a3, a4] st (sh, I, R) := (ev_eq f_198_5).trans fin_if_eq
theorem f_198_8 : fetch 198 8 = some (8, .aload_n 0, 1, [0], 0) := (fm_198 8).trans rfl
theorem u_198_8 {S : Scr} {d : Nat} {a1 a2 a3 a4 : AV} {st : List AV} {sh : Shp} {I : IM} {R : RM} {x : Nat} : ev S d 198 8 [.inr (.inl x), a1, a2, a3, a4] st (sh, I, R) = ev S d 198 9 [.inr (.inl x), a1, a2, a3, a4] (.inr (.inl x) :: st) (sh, I, R) := (ev_eq f_198_8).trans rfl
theorem f_198_9 : fetch 198 9 = some (9, .iload_n 2, 1, [2], 0) := (fm_198 9).trans rfl
theorem u_198_9 {S : Scr} {d : Nat} {a0 a1 a3 a4 : AV} {st : List AV} {sh : Shp} {I : IM} {R : RM} {x : Int} : ev S d 198 9 [a0, a1, .inl x, a3, a4] st (sh, I, R) = ev S d 198 10 [a0, a1, .inl x, a3, a4] (.inl x :: st) (sh, I, R) := (ev_eq f_198_9).trans rfl
theorem f_198_10 : fetch 198 10 = some (10, .invokevirtual 68, 3, [133, 1, 126], 0) := (fm_198 10).trans rfl
theorem u_198_10 {S : Scr} {d : Nat} {a0 a1 a2 a3 a4 : AV} {st : List AV} {sh : Shp} {I : IM} {R : RM} {x0 : Int} {k : Nat} (h : tg sh k = 9) (hr : st.length ≤ 8) : ev S d 198 10 [a0, a1, a2, a3, a4] (.inl x0 :: .inr (.inl k) :: st) (sh, I, R) = bnd (cl d 133 [.inr (.inl k), .inl x0] (sh, I, R)) (fun v M => ev S d 198 13 [a0, a1, a2, a3, a4] (psh v st) M) := (ev_eq f_198_10).trans (congrArg (fin S d 198) (if_pos ⟨h, rfl, hr⟩))
theorem f_198_13 : fetch 198 13 = some (13, .ifCond .ne 5, 3, [18], 0) := (fm_198 13).trans rfl
theorem u_198_13 {S : Scr} {d : Nat} {a0 a1 a2 a3 a4 : AV} {st : List AV} {sh : Shp} {I : IM} {R : RM} {x : Int} : ev S d 198 13 [a0, a1, a2, a3, a4] (.inl x :: st) (sh, I, R) = if ¬ x = 0 then ev S d 198 18 [a0, a1, a2, a3, a4] st (sh, I, R) else ev S d 198 16 [a0, a1, a2, a3, a4] st (sh, I, R) := (ev_eq f_198_13).trans fin_if_ne
theorem f_198_16 : fetch 198 16 = some (16, .iconst (-1), 1, [], (-1)) := (fm_198 16).trans rfl
theorem u_198_16 {S : Scr} {d : Nat} {a0 a1 a2 a3 a4 : AV} {st : List AV} {sh : Shp} {I : IM} {R : RM} : ev S d 198 16 [a0, a1, a2, a3, a4] st (sh, I, R) = ev S d 198 17 [a0, a1, a2, a3, a4] (.inl (-1) :: st) (sh, I, R) := (ev_eq f_198_16).trans rfl
theorem f_198_17 : fetch 198 17 = some (17, .ireturn, 1, [0], 0) := (fm_198 17).trans rfl
theorem u_198_17 {S : Scr} {d : Nat} {a0 a1 a2 a3 a4 : AV} {sh : Shp} {I : IM} {R : RM} {x : Int} : ev S d 198 17 [a0, a1, a2, a3, a4] [.inl x] (sh, I, R) = some (some (.inl x), (sh, I, R)) := (ev_eq f_198_17).trans fin_iret0
theorem f_198_18 : fetch 198 18 = some (18, .iconst 0, 1, [], 0) := (fm_198 18).trans rfl
theorem u_198_18 {S : Scr} {d : Nat} {a0 a1 a2 a3 a4 : AV} {st : List AV} {sh : Shp} {I : IM} {R : RM} : ev S d 198 18 [a0, a1, a2, a3, a4] st (sh, I, R) = ev S d 198 19 [a0, a1, a2, a3, a4] (.inl 0 :: st) (sh, I, R) := (ev_eq f_198_18).trans rfl
theorem f_198_19 : fetch 198 19 = some (19, .istore_n 3, 1, [3], 0) := (fm_198 19).trans rfl
theorem u_198_19 {S : Scr} {d : Nat} {a0 a1 a2 a3 a4 : AV} {st : List AV} {sh : Shp} {I : IM} {R : RM} {x : Int} : ev S d 198 19 [a0, a1, a2, a3, a4] (.inl x :: st) (sh, I, R) = ev S d 198 20 [a0, a1, a2, .inl x, a4] st (sh, I, R) := (ev_eq f_198_19).trans rfl
theorem f_198_20 : fetch 198 20 = some (20, .iload_n 3, 1, [3], 0) := (fm_198 20).trans rfl
theorem u_198_20 {S : Scr} {d : Nat} {a0 a1 a2 a4 : AV} {st : List AV} {sh : Shp} {I : IM} {R : RM} {x : Int} : ev S d 198 20 [a0, a1, a2, .inl x, a4] st (sh, I, R) = ev S d 198 21 [a0, a1, a2, .inl x, a4] (.inl x :: st) (sh, I, R) := (ev_eq f_198_20).trans rfl
theorem f_198_21 : fetch 198 21 = some (21, .bipush 30, 2, [], 30) := (fm_198 21).trans rfl
theorem u_198_21 {S : Scr} {d : Nat} {a0 a1 a2 a3 a4 : AV} {st : List AV} {sh : Shp} {I : IM} {R : RM} : ev S d 198 21 [a0, a1, a2, a3, a4] st (sh, I, R) = ev S d 198 23 [a0, a1, a2, a3, a4] (.inl 30 :: st) (sh, I, R) := (ev_eq f_198_21).trans rfl
theorem f_198_23 : fetch 198 23 = some (23, .if_icmp .ge 23, 3, [46], 0) := (fm_198 23).trans rfl
theorem u_198_23 {S : Scr} {d : Nat} {a0 a1 a2 a3 a4 : AV} {st : List AV} {sh : Shp} {I : IM} {R : RM} {x y : Int} : ev S d 198 23 [a0, a1, a2, a3, a4] (.inl y :: .inl x :: st) (sh, I, R) = if y ≤ x then ev S d 198 46 [a0, a1, a2, a3, a4] st (sh, I, R) else ev S d 198 26 [a0, a1, a2, a3, a4] st (sh, I, R) := (ev_eq f_198_23).trans fin_icmp_ge
theorem f_198_26 : fetch 198 26 = some (26, .aload_n 0, 1, [0], 0) := (fm_198 26).trans rfl
theorem u_198_26 {S : Scr} {d : Nat} {a1 a2 a3 a4 : AV} {st : List AV} {sh : Shp} {I : IM} {R : RM} {x : Nat} : ev S d 198 26 [.inr (.inl x), a1, a2, a3, a4] st (sh, I, R) = ev S d 198 27 [.inr (.inl x), a1, a2, a3, a4] (.inr (.inl x) :: st) (sh, I, R) := (ev_eq f_198_26).trans rfl
theorem f_198_27 : fetch 198 27 = some (27, .getfield 55, 3, [9, 23, 1, 94], 0) := (fm_198 27).trans rfl
theorem u_198_27 {S : Scr} {d : Nat} {a0 a1 a2 a3 a4 : AV} {st : List AV} {sh : Shp} {I : IM} {R : RM} {k : Nat} (h : tg sh k = 9) : ev S d 198 27 [a0, a1, a2, a3, a4] (.inr (.inl k) :: st) (sh, I, R) = ev S d 198 30 [a0, a1, a2, a3, a4] (rv (R k 23) :: st) (sh, I, R) := (ev_eq f_198_27).trans (congrArg (fin S d 198) (if_pos h))
theorem f_198_30 : fetch 198 30 = some (30, .iload_n 3, 1, [3], 0) := (fm_198 30).trans rfl
theorem u_198_30 {S : Scr} {d : Nat} {a0 a1 a2 a4 : AV} {st : List AV} {sh : Shp} {I : IM} {R : RM} {x : Int} : ev S d 198 30 [a0, a1, a2, .inl x, a4] st (sh, I, R) = ev S d 198 31 [a0, a1, a2, .inl x, a4] (.inl x :: st) (sh, I, R) := (ev_eq f_198_30).trans rfl
theorem f_198_31 : fetch 198 31 = some (31, .iconst (-1), 1, [], (-1)) := (fm_198 31).trans rfl
theorem u_198_31 {S : Scr} {d : Nat} {a0 a1 a2 a3 a4 : AV} {st : List AV} {sh : Shp} {I : IM} {R : RM} : ev S d 198 31 [a0, a1, a2, a3, a4] st (sh, I, R) = ev S d 198 32 [a0, a1, a2, a3, a4] (.inl (-1) :: st) (sh, I, R) := (ev_eq f_198_31).trans rfl
theorem f_198_32 : fetch 198 32 = some (32, .iastore, 1, [], 0) := (fm_198 32).trans rfl
theorem u_198_32 {S : Scr} {d : Nat} {a0 a1 a2 a3 a4 : AV} {st : List AV} {sh : Shp} {I : IM} {R : RM} {k : Nat} {i x : Int} (h : tg sh k = 100) (h0 : 0 ≤ i) (h1 : i < ln sh k) : ev S d 198 32 [a0, a1, a2, a3, a4] (.inl x :: .inl i :: .inr (.inl k) :: st) (sh, I, R) = ev S d 198 33 [a0, a1, a2, a3, a4] st (sh, up I k i x, R) := (ev_eq f_198_32).trans (congrArg (fin S d 198) (if_pos ⟨h, h0, h1⟩))
theorem f_198_33 : fetch 198 33 = some (33, .aload_n 0, 1, [0], 0) := (fm_198 33).trans rfl
theorem u_198_33 {S : Scr} {d : Nat} {a1 a2 a3 a4 : AV} {st : List AV} {sh : Shp} {I : IM} {R : RM} {x : Nat} : ev S d 198 33 [.inr (.inl x), a1, a2, a3, a4] st (sh, I, R) = ev S d 198 34 [.inr (.inl x), a1, a2, a3, a4] (.inr (.inl x) :: st) (sh, I, R) := (ev_eq f_198_33).trans rfl
theorem f_198_34 : fetch 198 34 = some (34, .getfield 58, 3, [9, 24, 1, 95], 0) := (fm_198 34).trans rfl
theorem u_198_34 {S : Scr} {d : Nat} {a0 a1 a2 a3 a4 : AV} {st : List AV} {sh : Shp} {I : IM} {R : RM} {k : Nat} (h : tg sh k = 9) : ev S d 198 34 [a0, a1, a2, a3, a4] (.inr (.inl k) :: st) (sh, I, R) = ev S d 198 37 [a0, a1, a2, a3, a4] (rv (R k 24) :: st) (sh, I, R) := (ev_eq f_198_34).trans (congrArg (fin S d 198) (if_pos h))
theorem f_198_37 : fetch 198 37 = some (37, .iload_n 3, 1, [3], 0) := (fm_198 37).trans rfl
theorem u_198_37 {S : Scr} {d : Nat} {a0 a1 a2 a4 : AV} {st : List AV} {sh : Shp} {I : IM} {R : RM} {x : Int} : ev S d 198 37 [a0, a1, a2, .inl x, a4] st (sh, I, R) = ev S d 198 38 [a0, a1, a2, .inl x, a4] (.inl x :: st) (sh, I, R) := (ev_eq f_198_37).trans rfl
theorem f_198_38 : fetch 198 38 = some (38, .iconst (-1), 1, [], (-1)) := (fm_198 38).trans rfl
theorem u_198_38 {S : Scr} {d : Nat} {a0 a1 a2 a3 a4 : AV} {st : List AV} {sh : Shp} {I : IM} {R : RM} : ev S d 198 38 [a0, a1, a2, a3, a4] st (sh, I, R) = ev S d 198 39 [a0, a1, a2, a3, a4] (.inl (-1) :: st) (sh, I, R) := (ev_eq f_198_38).trans rfl
theorem f_198_39 : fetch 198 39 = some (39, .iastore, 1, [], 0) := (fm_198 39).trans rfl
theorem u_198_39 {S : Scr} {d : Nat} {a0 a1 a2 a3 a4 : AV} {st : List AV} {sh : Shp} {I : IM} {R : RM} {k : Nat} {i x : Int} (h : tg sh k = 100) (h0 : 0 ≤ i) (h1 : i < ln sh k) : ev S d 198 39 [a0, a1, a2, a3, a4] (.inl x :: .inl i :: .inr (.inl k) :: st) (sh, I, R) = ev S d 198 40 [a0, a1, a2, a3, a4] st (sh, up I k i x, R) := (ev_eq f_198_39).trans (congrArg (fin S d 198) (if_pos ⟨h, h0, h1⟩))
theorem f_198_40 : fetch 198 40 = some (40, .iinc 3 1, 3, [3], 1) := (fm_198 40).trans rfl
theorem u_198_40 {S : Scr} {d : Nat} {a0 a1 a2 a4 : AV} {st : List AV} {sh : Shp} {I : IM} {R : RM} {x : Int} : ev S d 198 40 [a0, a1, a2, .inl x, a4] st (sh, I, R) = ev S d 198 43 [a0, a1, a2, .inl (wr (x + 1)), a4] st (sh, I, R) := (ev_eq f_198_40).trans rfl
theorem f_198_43 : fetch 198 43 = some (43, .goto (-23), 3, [20], 0) := (fm_198 43).trans rfl
theorem u_198_43 {S : Scr} {d : Nat} {a0 a1 a2 a3 a4 : AV} {st : List AV} {sh : Shp} {I : IM} {R : RM} : ev S d 198 43 [a0, a1, a2, a3, a4] st (sh, I, R) = ev S d 198 20 [a0, a1, a2, a3, a4] st (sh, I, R) := (ev_eq f_198_43).trans rfl
theorem f_198_46 : fetch 198 46 = some (46, .aload_n 0, 1, [0], 0) := (fm_198 46).trans rfl
theorem u_198_46 {S : Scr} {d : Nat} {a1 a2 a3 a4 : AV} {st : List AV} {sh : Shp} {I : IM} {R : RM} {x : Nat} : ev S d 198 46 [.inr (.inl x), a1, a2, a3, a4] st (sh, I, R) = ev S d 198 47 [.inr (.inl x), a1, a2, a3, a4] (.inr (.inl x) :: st) (sh, I, R) := (ev_eq f_198_46).trans rfl
theorem f_198_47 : fetch 198 47 = some (47, .iconst 0, 1, [], 0) := (fm_198 47).trans rfl
theorem u_198_47 {S : Scr} {d : Nat} {a0 a1 a2 a3 a4 : AV} {st : List AV} {sh : Shp} {I : IM} {R : RM} : ev S d 198 47 [a0, a1, a2, a3, a4] st (sh, I, R) = ev S d 198 48 [a0, a1, a2, a3, a4] (.inl 0 :: st) (sh, I, R) := (ev_eq f_198_47).trans rfl
theorem f_198_48 : fetch 198 48 = some (48, .putfield 236, 3, [9, 26, 0, 104], 0) := (fm_198 48).trans rfl
theorem u_198_48 {S : Scr} {d : Nat} {a0 a1 a2 a3 a4 : AV} {st : List AV} {sh : Shp} {I : IM} {R : RM} {k : Nat} {x : Int} (h : tg sh k = 9) : ev S d 198 48 [a0, a1, a2, a3, a4] (.inl x :: .inr (.inl k) :: st) (sh, I, R) = ev S d 198 51 [a0, a1, a2, a3, a4] st (sh, up I k 26 x, R) := (ev_eq f_198_48).trans (congrArg (fin S d 198) (if_pos h))
theorem f_198_51 : fetch 198 51 = some (51, .aload_n 0, 1, [0], 0) := (fm_198 51).trans rfl
theorem u_198_51 {S : Scr} {d : Nat} {a1 a2 a3 a4 : AV} {st : List AV} {sh : Shp} {I : IM} {R : RM} {x : Nat} : ev S d 198 51 [.inr (.inl x), a1, a2, a3, a4] st (sh, I, R) = ev S d 198 52 [.inr (.inl x), a1, a2, a3, a4] (.inr (.inl x) :: st) (sh, I, R) := (ev_eq f_198_51).trans rfl
theorem f_198_52 : fetch 198 52 = some (52, .iload_n 1, 1, [1], 0) := (fm_198 52).trans rfl
theorem u_198_52 {S : Scr} {d : Nat} {a0 a2 a3 a4 : AV} {st : List AV} {sh : Shp} {I : IM} {R : RM} {x : Int} : ev S d 198 52 [a0, .inl x, a2, a3, a4] st (sh, I, R) = ev S d 198 53 [a0, .inl x, a2, a3, a4] (.inl x :: st) (sh, I, R) := (ev_eq f_198_52).trans rfl
theorem f_198_53 : fetch 198 53 = some (53, .iload_n 2, 1, [2], 0) := (fm_198 53).trans rfl
theorem u_198_53 {S : Scr} {d : Nat} {a0 a1 a3 a4 : AV} {st : List AV} {sh : Shp} {I : IM} {R : RM} {x : Int} : ev S d 198 53 [a0, a1, .inl x, a3, a4] st (sh, I, R) = ev S d 198 54 [a0, a1, .inl x, a3, a4] (.inl x :: st) (sh, I, R) := (ev_eq f_198_53).trans rfl
theorem f_198_54 : fetch 198 54 = some (54, .invokevirtual 239, 3, [196, 2, 169], 0) := (fm_198 54).trans rfl
theorem u_198_54 {S : Scr} {d : Nat} {a0 a1 a2 a3 a4 : AV} {st : List AV} {sh : Shp} {I : IM} {R : RM} {x0 : Int} {x1 : Int} {k : Nat} (h : tg sh k = 9) (hr : st.length ≤ 8) : ev S d 198 54 [a0, a1, a2, a3, a4] (.inl x1 :: .inl x0 :: .inr (.inl k) :: st) (sh, I, R) = bnd (cl d 196 [.inr (.inl k), .inl x0, .inl x1] (sh, I, R)) (fun v M => ev S d 198 57 [a0, a1, a2, a3, a4] (psh v st) M) := (ev_eq f_198_54).trans (congrArg (fin S d 198) (if_pos ⟨h, rfl, hr⟩))
theorem f_198_57 : fetch 198 57 = some (57, .istore_n 3, 1, [3], 0) := (fm_198 57).trans rfl
theorem u_198_57 {S : Scr} {d : Nat} {a0 a1 a2 a3 a4 : AV} {st : List AV} {sh : Shp} {I : IM} {R : RM} {x : Int} : ev S d 198 57 [a0, a1, a2, a3, a4] (.inl x :: st) (sh, I, R) = ev S d 198 58 [a0, a1, a2, .inl x, a4] st (sh, I, R) := (ev_eq f_198_57).trans rfl
theorem f_198_58 : fetch 198 58 = some (58, .iconst 0, 1, [], 0) := (fm_198 58).trans rfl
theorem u_198_58 {S : Scr} {d : Nat} {a0 a1 a2 a3 a4 : AV} {st : List AV} {sh : Shp} {I : IM} {R : RM} : ev S d 198 58 [a0, a1, a2, a3, a4] st (sh, I, R) = ev S d 198 59 [a0, a1, a2, a3, a4] (.inl 0 :: st) (sh, I, R) := (ev_eq f_198_58).trans rfl
theorem f_198_59 : fetch 198 59 = some (59, .istore 4, 2, [4], 0) := (fm_198 59).trans rfl
theorem u_198_59 {S : Scr} {d : Nat} {a0 a1 a2 a3 a4 : AV} {st : List AV} {sh : Shp} {I : IM} {R : RM} {x : Int} : ev S d 198 59 [a0, a1, a2, a3, a4] (.inl x :: st) (sh, I, R) = ev S d 198 61 [a0, a1, a2, a3, .inl x] st (sh, I, R) := (ev_eq f_198_59).trans rfl
theorem f_198_61 : fetch 198 61 = some (61, .iload_n 3, 1, [3], 0) := (fm_198 61).trans rfl
theorem u_198_61 {S : Scr} {d : Nat} {a0 a1 a2 a4 : AV} {st : List AV} {sh : Shp} {I : IM} {R : RM} {x : Int} : ev S d 198 61 [a0, a1, a2, .inl x, a4] st (sh, I, R) = ev S d 198 62 [a0, a1, a2, .inl x, a4] (.inl x :: st) (sh, I, R) := (ev_eq f_198_61).trans rfl
theorem f_198_62 : fetch 198 62 = some (62, .ifCond .eq 42, 3, [104], 0) := (fm_198 62).trans rfl
theorem u_198_62 {S : Scr} {d : Nat} {a0 a1 a2 a3 a4 : AV} {st : List AV} {sh : Shp} {I : IM} {R : RM} {x : Int} : ev S d 198 62 [a0, a1, a2, a3, a4] (.inl x :: st) (sh, I, R) = if x = 0 then ev S d 198 104 [a0, a1, a2, a3, a4] st (sh, I, R) else ev S d 198 65 [a0, a1, a2, a3, a4] st (sh, I, R) := (ev_eq f_198_62).trans fin_if_eq
theorem f_198_65 : fetch 198 65 = some (65, .iload 4, 2, [4], 0) := (fm_198 65).trans rfl
theorem u_198_65 {S : Scr} {d : Nat} {a0 a1 a2 a3 : AV} {st : List AV} {sh : Shp} {I : IM} {R : RM} {x : Int} : ev S d 198 65 [a0, a1, a2, a3, .inl x] st (sh, I, R) = ev S d 198 67 [a0, a1, a2, a3, .inl x] (.inl x :: st) (sh, I, R) := (ev_eq f_198_65).trans rfl
theorem f_198_67 : fetch 198 67 = some (67, .aload_n 0, 1, [0], 0) := (fm_198 67).trans rfl
theorem u_198_67 {S : Scr} {d : Nat} {a1 a2 a3 a4 : AV} {st : List AV} {sh : Shp} {I : IM} {R : RM} {x : Nat} : ev S d 198 67 [.inr (.inl x), a1, a2, a3, a4] st (sh, I, R) = ev S d 198 68 [.inr (.inl x), a1, a2, a3, a4] (.inr (.inl x) :: st) (sh, I, R) := (ev_eq f_198_67).trans rfl
theorem f_198_68 : fetch 198 68 = some (68, .getfield 236, 3, [9, 26, 0, 104], 0) := (fm_198 68).trans rfl
theorem u_198_68 {S : Scr} {d : Nat} {a0 a1 a2 a3 a4 : AV} {st : List AV} {sh : Shp} {I : IM} {R : RM} {k : Nat} (h : tg sh k = 9) : ev S d 198 68 [a0, a1, a2, a3, a4] (.inr (.inl k) :: st) (sh, I, R) = ev S d 198 71 [a0, a1, a2, a3, a4] (.inl (I k 26) :: st) (sh, I, R) := (ev_eq f_198_68).trans (congrArg (fin S d 198) (if_pos h))
theorem f_198_71 : fetch 198 71 = some (71, .if_icmp .ge 33, 3, [104], 0) := (fm_198 71).trans rfl
theorem u_198_71 {S : Scr} {d : Nat} {a0 a1 a2 a3 a4 : AV} {st : List AV} {sh : Shp} {I : IM} {R : RM} {x y : Int} : ev S d 198 71 [a0, a1, a2, a3, a4] (.inl y :: .inl x :: st) (sh, I, R) = if y ≤ x then ev S d 198 104 [a0, a1, a2, a3, a4] st (sh, I, R) else ev S d 198 74 [a0, a1, a2, a3, a4] st (sh, I, R) := (ev_eq f_198_71).trans fin_icmp_ge
theorem f_198_74 : fetch 198 74 = some (74, .aload_n 0, 1, [0], 0) := (fm_198 74).trans rfl
theorem u_198_74 {S : Scr} {d : Nat} {a1 a2 a3 a4 : AV} {st : List AV} {sh : Shp} {I : IM} {R : RM} {x : Nat} : ev S d 198 74 [.inr (.inl x), a1, a2, a3, a4] st (sh, I, R) = ev S d 198 75 [.inr (.inl x), a1, a2, a3, a4] (.inr (.inl x) :: st) (sh, I, R) := (ev_eq f_198_74).trans rfl
theorem f_198_75 : fetch 198 75 = some (75, .aload_n 0, 1, [0], 0) := (fm_198 75).trans rfl
theorem u_198_75 {S : Scr} {d : Nat} {a1 a2 a3 a4 : AV} {st : List AV} {sh : Shp} {I : IM} {R : RM} {x : Nat} : ev S d 198 75 [.inr (.inl x), a1, a2, a3, a4] st (sh, I, R) = ev S d 198 76 [.inr (.inl x), a1, a2, a3, a4] (.inr (.inl x) :: st) (sh, I, R) := (ev_eq f_198_75).trans rfl
theorem f_198_76 : fetch 198 76 = some (76, .getfield 61, 3, [9, 25, 1, 96], 0) := (fm_198 76).trans rfl
theorem u_198_76 {S : Scr} {d : Nat} {a0 a1 a2 a3 a4 : AV} {st : List AV} {sh : Shp} {I : IM} {R : RM} {k : Nat} (h : tg sh k = 9) : ev S d 198 76 [a0, a1, a2, a3, a4] (.inr (.inl k) :: st) (sh, I, R) = ev S d 198 79 [a0, a1, a2, a3, a4] (rv (R k 25) :: st) (sh, I, R) := (ev_eq f_198_76).trans (congrArg (fin S d 198) (if_pos h))
theorem f_198_79 : fetch 198 79 = some (79, .iload 4, 2, [4], 0) := (fm_198 79).trans rfl
theorem u_198_79 {S : Scr} {d : Nat} {a0 a1 a2 a3 : AV} {st : List AV} {sh : Shp} {I : IM} {R : RM} {x : Int} : ev S d 198 79 [a0, a1, a2, a3, .inl x] st (sh, I, R) = ev S d 198 81 [a0, a1, a2, a3, .inl x] (.inl x :: st) (sh, I, R) := (ev_eq f_198_79).trans rfl
theorem f_198_81 : fetch 198 81 = some (81, .iaload, 1, [], 0) := (fm_198 81).trans rfl
theorem u_198_81 {S : Scr} {d : Nat} {a0 a1 a2 a3 a4 : AV} {st : List AV} {sh : Shp} {I : IM} {R : RM} {k : Nat} {i : Int} (h : tg sh k = 100) (h0 : 0 ≤ i) (h1 : i < ln sh k) : ev S d 198 81 [a0, a1, a2, a3, a4] (.inl i :: .inr (.inl k) :: st) (sh, I, R) = ev S d 198 82 [a0, a1, a2, a3, a4] (.inl (I k i) :: st) (sh, I, R) := (ev_eq f_198_81).trans (congrArg (fin S d 198) (if_pos ⟨h, h0, h1⟩))
theorem f_198_82 : fetch 198 82 = some (82, .aload_n 0, 1, [0], 0) := (fm_198 82).trans rfl
theorem u_198_82 {S : Scr} {d : Nat} {a1 a2 a3 a4 : AV} {st : List AV} {sh : Shp} {I : IM} {R : RM} {x : Nat} : ev S d 198 82 [.inr (.inl x), a1, a2, a3, a4] st (sh, I, R) = ev S d 198 83 [.inr (.inl x), a1, a2, a3, a4] (.inr (.inl x) :: st) (sh, I, R) := (ev_eq f_198_82).trans rfl
theorem f_198_83 : fetch 198 83 = some (83, .getfield 55, 3, [9, 23, 1, 94], 0) := (fm_198 83).trans rfl
theorem u_198_83 {S : Scr} {d : Nat} {a0 a1 a2 a3 a4 : AV} {st : List AV} {sh : Shp} {I : IM} {R : RM} {k : Nat} (h : tg sh k = 9) : ev S d 198 83 [a0, a1, a2, a3, a4] (.inr (.inl k) :: st) (sh, I, R) = ev S d 198 86 [a0, a1, a2, a3, a4] (rv (R k 23) :: st) (sh, I, R) := (ev_eq f_198_83).trans (congrArg (fin S d 198) (if_pos h))
theorem f_198_86 : fetch 198 86 = some (86, .aload_n 0, 1, [0], 0) := (fm_198 86).trans rfl
theorem u_198_86 {S : Scr} {d : Nat} {a1 a2 a3 a4 : AV} {st : List AV} {sh : Shp} {I : IM} {R : RM} {x : Nat} : ev S d 198 86 [.inr (.inl x), a1, a2, a3, a4] st (sh, I, R) = ev S d 198 87 [.inr (.inl x), a1, a2, a3, a4] (.inr (.inl x) :: st) (sh, I, R) := (ev_eq f_198_86).trans rfl
theorem f_198_87 : fetch 198 87 = some (87, .getfield 61, 3, [9, 25, 1, 96], 0) := (fm_198 87).trans rfl
theorem u_198_87 {S : Scr} {d : Nat} {a0 a1 a2 a3 a4 : AV} {st : List AV} {sh : Shp} {I : IM} {R : RM} {k : Nat} (h : tg sh k = 9) : ev S d 198 87 [a0, a1, a2, a3, a4] (.inr (.inl k) :: st) (sh, I, R) = ev S d 198 90 [a0, a1, a2, a3, a4] (rv (R k 25) :: st) (sh, I, R) := (ev_eq f_198_87).trans (congrArg (fin S d 198) (if_pos h))
theorem f_198_90 : fetch 198 90 = some (90, .iload 4, 2, [4], 0) := (fm_198 90).trans rfl
theorem u_198_90 {S : Scr} {d : Nat} {a0 a1 a2 a3 : AV} {st : List AV} {sh : Shp} {I : IM} {R : RM} {x : Int} : ev S d 198 90 [a0, a1, a2, a3, .inl x] st (sh, I, R) = ev S d 198 92 [a0, a1, a2, a3, .inl x] (.inl x :: st) (sh, I, R) := (ev_eq f_198_90).trans rfl
theorem f_198_92 : fetch 198 92 = some (92, .iaload, 1, [], 0) := (fm_198 92).trans rfl
theorem u_198_92 {S : Scr} {d : Nat} {a0 a1 a2 a3 a4 : AV} {st : List AV} {sh : Shp} {I : IM} {R : RM} {k : Nat} {i : Int} (h : tg sh k = 100) (h0 : 0 ≤ i) (h1 : i < ln sh k) : ev S d 198 92 [a0, a1, a2, a3, a4] (.inl i :: .inr (.inl k) :: st) (sh, I, R) = ev S d 198 93 [a0, a1, a2, a3, a4] (.inl (I k i) :: st) (sh, I, R) := (ev_eq f_198_92).trans (congrArg (fin S d 198) (if_pos ⟨h, h0, h1⟩))
theorem f_198_93 : fetch 198 93 = some (93, .iaload, 1, [], 0) := (fm_198 93).trans rfl
theorem u_198_93 {S : Scr} {d : Nat} {a0 a1 a2 a3 a4 : AV} {st : List AV} {sh : Shp} {I : IM} {R : RM} {k : Nat} {i : Int} (h : tg sh k = 100) (h0 : 0 ≤ i) (h1 : i < ln sh k) : ev S d 198 93 [a0, a1, a2, a3, a4] (.inl i :: .inr (.inl k) :: st) (sh, I, R) = ev S d 198 94 [a0, a1, a2, a3, a4] (.inl (I k i) :: st) (sh, I, R) := (ev_eq f_198_93).trans (congrArg (fin S d 198) (if_pos ⟨h, h0, h1⟩))
theorem f_198_94 : fetch 198 94 = some (94, .invokevirtual 242, 3, [197, 2, 170], 0) := (fm_198 94).trans rfl
theorem u_198_94 {S : Scr} {d : Nat} {a0 a1 a2 a3 a4 : AV} {st : List AV} {sh : Shp} {I : IM} {R : RM} {x0 : Int} {x1 : Int} {k : Nat} (h : tg sh k = 9) (hr : st.length ≤ 8) : ev S d 198 94 [a0, a1, a2, a3, a4] (.inl x1 :: .inl x0 :: .inr (.inl k) :: st) (sh, I, R) = bnd (cl d 197 [.inr (.inl k), .inl x0, .inl x1] (sh, I, R)) (fun v M => ev S d 198 97 [a0, a1, a2, a3, a4] (psh v st) M) := (ev_eq f_198_94).trans (congrArg (fin S d 198) (if_pos ⟨h, rfl, hr⟩))
theorem f_198_97 : fetch 198 97 = some (97, .istore_n 3, 1, [3], 0) := (fm_198 97).trans rfl
theorem u_198_97 {S : Scr} {d : Nat} {a0 a1 a2 a3 a4 : AV} {st : List AV} {sh : Shp} {I : IM} {R : RM} {x : Int} : ev S d 198 97 [a0, a1, a2, a3, a4] (.inl x :: st) (sh, I, R) = ev S d 198 98 [a0, a1, a2, .inl x, a4] st (sh, I, R) := (ev_eq f_198_97).trans rfl
theorem f_198_98 : fetch 198 98 = some (98, .iinc 4 1, 3, [4], 1) := (fm_198 98).trans rfl
theorem u_198_98 {S : Scr} {d : Nat} {a0 a1 a2 a3 : AV} {st : List AV} {sh : Shp} {I : IM} {R : RM} {x : Int} : ev S d 198 98 [a0, a1, a2, a3, .inl x] st (sh, I, R) = ev S d 198 101 [a0, a1, a2, a3, .inl (wr (x + 1))] st (sh, I, R) := (ev_eq f_198_98).trans rfl
theorem f_198_101 : fetch 198 101 = some (101, .goto (-40), 3, [61], 0) := (fm_198 101).trans rfl
theorem u_198_101 {S : Scr} {d : Nat} {a0 a1 a2 a3 a4 : AV} {st : List AV} {sh : Shp} {I : IM} {R : RM} : ev S d 198 101 [a0, a1, a2, a3, a4] st (sh, I, R) = ev S d 198 61 [a0, a1, a2, a3, a4] st (sh, I, R) := (ev_eq f_198_101).trans rfl
theorem f_198_104 : fetch 198 104 = some (104, .iload_n 3, 1, [3], 0) := (fm_198 104).trans rfl
theorem u_198_104 {S : Scr} {d : Nat} {a0 a1 a2 a4 : AV} {st : List AV} {sh : Shp} {I : IM} {R : RM} {x : Int} : ev S d 198 104 [a0, a1, a2, .inl x, a4] st (sh, I, R) = ev S d 198 105 [a0, a1, a2, .inl x, a4] (.inl x :: st) (sh, I, R) := (ev_eq f_198_104).trans rfl
theorem f_198_105 : fetch 198 105 = some (105, .ifCond .eq 7, 3, [112], 0) := (fm_198 105).trans rfl
theorem u_198_105 {S : Scr} {d : Nat} {a0 a1 a2 a3 a4 : AV} {st : List AV} {sh : Shp} {I : IM} {R : RM} {x : Int} : ev S d 198 105 [a0, a1, a2, a3, a4] (.inl x :: st) (sh, I, R) = if x = 0 then ev S d 198 112 [a0, a1, a2, a3, a4] st (sh, I, R) else ev S d 198 108 [a0, a1, a2, a3, a4] st (sh, I, R) := (ev_eq f_198_105).trans fin_if_eq
theorem f_198_108 : fetch 198 108 = some (108, .iconst 1, 1, [], 1) := (fm_198 108).trans rfl
theorem u_198_108 {S : Scr} {d : Nat} {a0 a1 a2 a3 a4 : AV} {st : List AV} {sh : Shp} {I : IM} {R : RM} : ev S d 198 108 [a0, a1, a2, a3, a4] st (sh, I, R) = ev S d 198 109 [a0, a1, a2, a3, a4] (.inl 1 :: st) (sh, I, R) := (ev_eq f_198_108).trans rfl
theorem f_198_109 : fetch 198 109 = some (109, .goto 4, 3, [113], 0) := (fm_198 109).trans rfl
theorem u_198_109 {S : Scr} {d : Nat} {a0 a1 a2 a3 a4 : AV} {st : List AV} {sh : Shp} {I : IM} {R : RM} : ev S d 198 109 [a0, a1, a2, a3, a4] st (sh, I, R) = ev S d 198 113 [a0, a1, a2, a3, a4] st (sh, I, R) := (ev_eq f_198_109).trans rfl
theorem f_198_112 : fetch 198 112 = some (112, .iconst 0, 1, [], 0) := (fm_198 112).trans rfl
theorem u_198_112 {S : Scr} {d : Nat} {a0 a1 a2 a3 a4 : AV} {st : List AV} {sh : Shp} {I : IM} {R : RM} : ev S d 198 112 [a0, a1, a2, a3, a4] st (sh, I, R) = ev S d 198 113 [a0, a1, a2, a3, a4] (.inl 0 :: st) (sh, I, R) := (ev_eq f_198_112).trans rfl
theorem f_198_113 : fetch 198 113 = some (113, .ireturn, 1, [0], 0) := (fm_198 113).trans rfl
theorem u_198_113 {S : Scr} {d : Nat} {a0 a1 a2 a3 a4 : AV} {sh : Shp} {I : IM} {R : RM} {x : Int} : ev S d 198 113 [a0, a1, a2, a3, a4] [.inl x] (sh, I, R) = some (some (.inl x), (sh, I, R)) := (ev_eq f_198_113).trans fin_iret0
theorem c_199 {d : Nat} {a0 a1 a2 : AV} {M : Mem} : cl (d + 1) 199 [a0, a1, a2] M = ev S0 d 199 0 [a0, a1, a2] [] M := (cl_eq (as := [a0, a1, a2]) (show 3 ≤ maxOf 199 by decide +kernel)).trans rfl
theorem mt_199 : MT[199]? = some m_199 := rfl
theorem fm_199 (pc : Nat) : fetch 199 pc = lk m_199.2.2.2.2.2 pc := by
  unfold fetch
  rw [mt_199]
theorem f_199_0 : fetch 199 0 = some (0, .aload_n 0, 1, [0], 0) := (fm_199 0).trans rfl
theorem u_199_0 {S : Scr} {d : Nat} {a1 a2 : AV} {st : List AV} {sh : Shp} {I : IM} {R : RM} {x : Nat} : ev S d 199 0 [.inr (.inl x), a1, a2] st (sh, I, R) = ev S d 199 1 [.inr (.inl x), a1, a2] (.inr (.inl x) :: st) (sh, I, R) := (ev_eq f_199_0).trans rfl
theorem f_199_1 : fetch 199 1 = some (1, .iload_n 1, 1, [1], 0) := (fm_199 1).trans rfl
theorem u_199_1 {S : Scr} {d : Nat} {a0 a2 : AV} {st : List AV} {sh : Shp} {I : IM} {R : RM} {x : Int} : ev S d 199 1 [a0, .inl x, a2] st (sh, I, R) = ev S d 199 2 [a0, .inl x, a2] (.inl x :: st) (sh, I, R) := (ev_eq f_199_1).trans rfl
theorem f_199_2 : fetch 199 2 = some (2, .invokevirtual 68, 3, [133, 1, 126], 0) := (fm_199 2).trans rfl
theorem u_199_2 {S : Scr} {d : Nat} {a0 a1 a2 : AV} {st : List AV} {sh : Shp} {I : IM} {R : RM} {x0 : Int} {k : Nat} (h : tg sh k = 9) (hr : st.length ≤ 8) : ev S d 199 2 [a0, a1, a2] (.inl x0 :: .inr (.inl k) :: st) (sh, I, R) = bnd (cl d 133 [.inr (.inl k), .inl x0] (sh, I, R)) (fun v M => ev S d 199 5 [a0, a1, a2] (psh v st) M) := (ev_eq f_199_2).trans (congrArg (fin S d 199) (if_pos ⟨h, rfl, hr⟩))
theorem f_199_5 : fetch 199 5 = some (5, .ifCond .eq 7, 3, [12], 0) := (fm_199 5).trans rfl
theorem u_199_5 {S : Scr} {d : Nat} {a0 a1 a2 : AV} {st : List AV} {sh : Shp} {I : IM} {R : RM} {x : Int} : ev S d 199 5 [a0, a1, a2] (.inl x :: st) (sh, I, R) = if x = 0 then ev S d 199 12 [a0, a1, a2] st (sh, I, R) else ev S d 199 8 [a0, a1, a2] st (sh, I, R) := (ev_eq f_199_5).trans fin_if_eq
theorem f_199_8 : fetch 199 8 = some (8, .iload_n 2, 1, [2], 0) := (fm_199 8).trans rfl
theorem u_199_8 {S : Scr} {d : Nat} {a0 a1 : AV} {st : List AV} {sh : Shp} {I : IM} {R : RM} {x : Int} : ev S d 199 8 [a0, a1, .inl x] st (sh, I, R) = ev S d 199 9 [a0, a1, .inl x] (.inl x :: st) (sh, I, R) := (ev_eq f_199_8).trans rfl
theorem f_199_9 : fetch 199 9 = some (9, .ifCond .ge 5, 3, [14], 0) := (fm_199 9).trans rfl
theorem u_199_9 {S : Scr} {d : Nat} {a0 a1 a2 : AV} {st : List AV} {sh : Shp} {I : IM} {R : RM} {x : Int} : ev S d 199 9 [a0, a1, a2] (.inl x :: st) (sh, I, R) = if 0 ≤ x then ev S d 199 14 [a0, a1, a2] st (sh, I, R) else ev S d 199 12 [a0, a1, a2] st (sh, I, R) := (ev_eq f_199_9).trans fin_if_ge
theorem f_199_12 : fetch 199 12 = some (12, .iconst (-1), 1, [], (-1)) := (fm_199 12).trans rfl
theorem u_199_12 {S : Scr} {d : Nat} {a0 a1 a2 : AV} {st : List AV} {sh : Shp} {I : IM} {R : RM} : ev S d 199 12 [a0, a1, a2] st (sh, I, R) = ev S d 199 13 [a0, a1, a2] (.inl (-1) :: st) (sh, I, R) := (ev_eq f_199_12).trans rfl
theorem f_199_13 : fetch 199 13 = some (13, .ireturn, 1, [0], 0) := (fm_199 13).trans rfl
theorem u_199_13 {S : Scr} {d : Nat} {a0 a1 a2 : AV} {sh : Shp} {I : IM} {R : RM} {x : Int} : ev S d 199 13 [a0, a1, a2] [.inl x] (sh, I, R) = some (some (.inl x), (sh, I, R)) := (ev_eq f_199_13).trans fin_iret0
theorem f_199_14 : fetch 199 14 = some (14, .aload_n 0, 1, [0], 0) := (fm_199 14).trans rfl
theorem u_199_14 {S : Scr} {d : Nat} {a1 a2 : AV} {st : List AV} {sh : Shp} {I : IM} {R : RM} {x : Nat} : ev S d 199 14 [.inr (.inl x), a1, a2] st (sh, I, R) = ev S d 199 15 [.inr (.inl x), a1, a2] (.inr (.inl x) :: st) (sh, I, R) := (ev_eq f_199_14).trans rfl
theorem f_199_15 : fetch 199 15 = some (15, .iload_n 1, 1, [1], 0) := (fm_199 15).trans rfl
theorem u_199_15 {S : Scr} {d : Nat} {a0 a2 : AV} {st : List AV} {sh : Shp} {I : IM} {R : RM} {x : Int} : ev S d 199 15 [a0, .inl x, a2] st (sh, I, R) = ev S d 199 16 [a0, .inl x, a2] (.inl x :: st) (sh, I, R) := (ev_eq f_199_15).trans rfl
theorem f_199_16 : fetch 199 16 = some (16, .invokevirtual 173, 3, [176, 1, 154], 0) := (fm_199 16).trans rfl
theorem u_199_16 {S : Scr} {d : Nat} {a0 a1 a2 : AV} {st : List AV} {sh : Shp} {I : IM} {R : RM} {x0 : Int} {k : Nat} (h : tg sh k = 9) (hr : st.length ≤ 8) : ev S d 199 16 [a0, a1, a2] (.inl x0 :: .inr (.inl k) :: st) (sh, I, R) = bnd (cl d 176 [.inr (.inl k), .inl x0] (sh, I, R)) (fun v M => ev S d 199 19 [a0, a1, a2] (psh v st) M) := (ev_eq f_199_16).trans (congrArg (fin S d 199) (if_pos ⟨h, rfl, hr⟩))
theorem f_199_19 : fetch 199 19 = some (19, .ifCond .ne 6, 3, [25], 0) := (fm_199 19).trans rfl
theorem u_199_19 {S : Scr} {d : Nat} {a0 a1 a2 : AV} {st : List AV} {sh : Shp} {I : IM} {R : RM} {x : Int} : ev S d 199 19 [a0, a1, a2] (.inl x :: st) (sh, I, R) = if ¬ x = 0 then ev S d 199 25 [a0, a1, a2] st (sh, I, R) else ev S d 199 22 [a0, a1, a2] st (sh, I, R) := (ev_eq f_199_19).trans fin_if_ne
theorem f_199_22 : fetch 199 22 = some (22, .bipush (-3), 2, [], (-3)) := (fm_199 22).trans rfl
theorem u_199_22 {S : Scr} {d : Nat} {a0 a1 a2 : AV} {st : List AV} {sh : Shp} {I : IM} {R : RM} : ev S d 199 22 [a0, a1, a2] st (sh, I, R) = ev S d 199 24 [a0, a1, a2] (.inl (-3) :: st) (sh, I, R) := (ev_eq f_199_22).trans rfl
theorem f_199_24 : fetch 199 24 = some (24, .ireturn, 1, [0], 0) := (fm_199 24).trans rfl
theorem u_199_24 {S : Scr} {d : Nat} {a0 a1 a2 : AV} {sh : Shp} {I : IM} {R : RM} {x : Int} : ev S d 199 24 [a0, a1, a2] [.inl x] (sh, I, R) = some (some (.inl x), (sh, I, R)) := (ev_eq f_199_24).trans fin_iret0
theorem f_199_25 : fetch 199 25 = some (25, .iload_n 2, 1, [2], 0) := (fm_199 25).trans rfl
theorem u_199_25 {S : Scr} {d : Nat} {a0 a1 : AV} {st : List AV} {sh : Shp} {I : IM} {R : RM} {x : Int} : ev S d 199 25 [a0, a1, .inl x] st (sh, I, R) = ev S d 199 26 [a0, a1, .inl x] (.inl x :: st) (sh, I, R) := (ev_eq f_199_25).trans rfl
theorem f_199_26 : fetch 199 26 = some (26, .aload_n 0, 1, [0], 0) := (fm_199 26).trans rfl
theorem u_199_26 {S : Scr} {d : Nat} {a1 a2 : AV} {st : List AV} {sh : Shp} {I : IM} {R : RM} {x : Nat} : ev S d 199 26 [.inr (.inl x), a1, a2] st (sh, I, R) = ev S d 199 27 [.inr (.inl x), a1, a2] (.inr (.inl x) :: st) (sh, I, R) := (ev_eq f_199_26).trans rfl
theorem f_199_27 : fetch 199 27 = some (27, .getfield 156, 3, [9, 12, 0, 98], 0) := (fm_199 27).trans rfl
theorem u_199_27 {S : Scr} {d : Nat} {a0 a1 a2 : AV} {st : List AV} {sh : Shp} {I : IM} {R : RM} {k : Nat} (h : tg sh k = 9) : ev S d 199 27 [a0, a1, a2] (.inr (.inl k) :: st) (sh, I, R) = ev S d 199 30 [a0, a1, a2] (.inl (I k 12) :: st) (sh, I, R) := (ev_eq f_199_27).trans (congrArg (fin S d 199) (if_pos h))
theorem f_199_30 : fetch 199 30 = some (30, .if_icmp .ge 12, 3, [42], 0) := (fm_199 30).trans rfl
theorem u_199_30 {S : Scr} {d : Nat} {a0 a1 a2 : AV} {st : List AV} {sh : Shp} {I : IM} {R : RM} {x y : Int} : ev S d 199 30 [a0, a1, a2] (.inl y :: .inl x :: st) (sh, I, R) = if y ≤ x then ev S d 199 42 [a0, a1, a2] st (sh, I, R) else ev S d 199 33 [a0, a1, a2] st (sh, I, R) := (ev_eq f_199_30).trans fin_icmp_ge
theorem f_199_33 : fetch 199 33 = some (33, .aload_n 0, 1, [0], 0) := (fm_199 33).trans rfl
theorem u_199_33 {S : Scr} {d : Nat} {a1 a2 : AV} {st : List AV} {sh : Shp} {I : IM} {R : RM} {x : Nat} : ev S d 199 33 [.inr (.inl x), a1, a2] st (sh, I, R) = ev S d 199 34 [.inr (.inl x), a1, a2] (.inr (.inl x) :: st) (sh, I, R) := (ev_eq f_199_33).trans rfl
theorem f_199_34 : fetch 199 34 = some (34, .getfield 37, 3, [9, 11, 1, 88], 0) := (fm_199 34).trans rfl
theorem u_199_34 {S : Scr} {d : Nat} {a0 a1 a2 : AV} {st : List AV} {sh : Shp} {I : IM} {R : RM} {k : Nat} (h : tg sh k = 9) : ev S d 199 34 [a0, a1, a2] (.inr (.inl k) :: st) (sh, I, R) = ev S d 199 37 [a0, a1, a2] (rv (R k 11) :: st) (sh, I, R) := (ev_eq f_199_34).trans (congrArg (fin S d 199) (if_pos h))
theorem f_199_37 : fetch 199 37 = some (37, .iload_n 2, 1, [2], 0) := (fm_199 37).trans rfl
theorem u_199_37 {S : Scr} {d : Nat} {a0 a1 : AV} {st : List AV} {sh : Shp} {I : IM} {R : RM} {x : Int} : ev S d 199 37 [a0, a1, .inl x] st (sh, I, R) = ev S d 199 38 [a0, a1, .inl x] (.inl x :: st) (sh, I, R) := (ev_eq f_199_37).trans rfl
theorem f_199_38 : fetch 199 38 = some (38, .iaload, 1, [], 0) := (fm_199 38).trans rfl
theorem u_199_38 {S : Scr} {d : Nat} {a0 a1 a2 : AV} {st : List AV} {sh : Shp} {I : IM} {R : RM} {k : Nat} {i : Int} (h : tg sh k = 100) (h0 : 0 ≤ i) (h1 : i < ln sh k) : ev S d 199 38 [a0, a1, a2] (.inl i :: .inr (.inl k) :: st) (sh, I, R) = ev S d 199 39 [a0, a1, a2] (.inl (I k i) :: st) (sh, I, R) := (ev_eq f_199_38).trans (congrArg (fin S d 199) (if_pos ⟨h, h0, h1⟩))
theorem f_199_39 : fetch 199 39 = some (39, .goto 5, 3, [44], 0) := (fm_199 39).trans rfl
theorem u_199_39 {S : Scr} {d : Nat} {a0 a1 a2 : AV} {st : List AV} {sh : Shp} {I : IM} {R : RM} : ev S d 199 39 [a0, a1, a2] st (sh, I, R) = ev S d 199 44 [a0, a1, a2] st (sh, I, R) := (ev_eq f_199_39).trans rfl
theorem f_199_42 : fetch 199 42 = some (42, .bipush (-2), 2, [], (-2)) := (fm_199 42).trans rfl
theorem u_199_42 {S : Scr} {d : Nat} {a0 a1 a2 : AV} {st : List AV} {sh : Shp} {I : IM} {R : RM} : ev S d 199 42 [a0, a1, a2] st (sh, I, R) = ev S d 199 44 [a0, a1, a2] (.inl (-2) :: st) (sh, I, R) := (ev_eq f_199_42).trans rfl
theorem f_199_44 : fetch 199 44 = some (44, .ireturn, 1, [0], 0) := (fm_199 44).trans rfl
theorem u_199_44 {S : Scr} {d : Nat} {a0 a1 a2 : AV} {sh : Shp} {I : IM} {R : RM} {x : Int} : ev S d 199 44 [a0, a1, a2] [.inl x] (sh, I, R) = some (some (.inl x), (sh, I, R)) := (ev_eq f_199_44).trans fin_iret0
theorem c_200 {d : Nat} {a0 : AV} {M : Mem} : cl (d + 1) 200 [a0] M = ev S0 d 200 0 [a0] [] M := (cl_eq (as := [a0]) (show 1 ≤ maxOf 200 by decide +kernel)).trans rfl
theorem mt_200 : MT[200]? = some m_200 := rfl
theorem fm_200 (pc : Nat) : fetch 200 pc = lk m_200.2.2.2.2.2 pc := by
  unfold fetch
  rw [mt_200]
theorem f_200_0 : fetch 200 0 = some (0, .aload_n 0, 1, [0], 0) := (fm_200 0).trans rfl
theorem u_200_0 {S : Scr} {d : Nat} {st : List AV} {sh : Shp} {I : IM} {R : RM} {x : Nat} : ev S d 200 0 [.inr (.inl x)] st (sh, I, R) = ev S d 200 1 [.inr (.inl x)] (.inr (.inl x) :: st) (sh, I, R) := (ev_eq f_200_0).trans rfl
theorem f_200_1 : fetch 200 1 = some (1, .getfield 9, 3, [9, 0, 1, 79], 0) := (fm_200 1).trans rfl
theorem u_200_1 {S : Scr} {d : Nat} {a0 : AV} {st : List AV} {sh : Shp} {I : IM} {R : RM} {k : Nat} (h : tg sh k = 9) : ev S d 200 1 [a0] (.inr (.inl k) :: st) (sh, I, R) = ev S d 200 4 [a0] (rv (R k 0) :: st) (sh, I, R) := (ev_eq f_200_1).trans (congrArg (fin S d 200) (if_pos h))
theorem f_200_4 : fetch 200 4 = some (4, .aload_n 0, 1, [0], 0) := (fm_200 4).trans rfl
theorem u_200_4 {S : Scr} {d : Nat} {st : List AV} {sh : Shp} {I : IM} {R : RM} {x : Nat} : ev S d 200 4 [.inr (.inl x)] st (sh, I, R) = ev S d 200 5 [.inr (.inl x)] (.inr (.inl x) :: st) (sh, I, R) := (ev_eq f_200_4).trans rfl
theorem f_200_5 : fetch 200 5 = some (5, .getfield 16, 3, [9, 2, 1, 81], 0) := (fm_200 5).trans rfl
theorem u_200_5 {S : Scr} {d : Nat} {a0 : AV} {st : List AV} {sh : Shp} {I : IM} {R : RM} {k : Nat} (h : tg sh k = 9) : ev S d 200 5 [a0] (.inr (.inl k) :: st) (sh, I, R) = ev S d 200 8 [a0] (rv (R k 2) :: st) (sh, I, R) := (ev_eq f_200_5).trans (congrArg (fin S d 200) (if_pos h))
theorem f_200_8 : fetch 200 8 = some (8, .invokestatic 218, 3, [130, 2, 164], 0) := (fm_200 8).trans rfl
theorem u_200_8 {S : Scr} {d : Nat} {a0 : AV} {st : List AV} {sh : Shp} {I : IM} {R : RM} {x0 : Nat} {x1 : Nat} (hr : st.length ≤ 8) : ev S d 200 8 [a0] (.inr (.inl x1) :: .inr (.inl x0) :: st) (sh, I, R) = bnd (cl d 130 [.inr (.inl x0), .inr (.inl x1)] (sh, I, R)) (fun v M => ev S d 200 11 [a0] (psh v st) M) := (ev_eq f_200_8).trans (congrArg (fin S d 200) (if_pos ⟨rfl, hr⟩))
theorem u_200_8kn {S : Scr} {d : Nat} {a0 : AV} {st : List AV} {sh : Shp} {I : IM} {R : RM} {x0 : Nat} (hr : st.length ≤ 8) : ev S d 200 8 [a0] (.inr (.inr 0) :: .inr (.inl x0) :: st) (sh, I, R) = bnd (cl d 130 [.inr (.inl x0), .inr (.inr 0)] (sh, I, R)) (fun v M => ev S d 200 11 [a0] (psh v st) M) := (ev_eq f_200_8).trans (congrArg (fin S d 200) (if_pos ⟨rfl, hr⟩))
theorem u_200_8nk {S : Scr} {d : Nat} {a0 : AV} {st : List AV} {sh : Shp} {I : IM} {R : RM} {x1 : Nat} (hr : st.length ≤ 8) : ev S d 200 8 [a0] (.inr (.inl x1) :: .inr (.inr 0) :: st) (sh, I, R) = bnd (cl d 130 [.inr (.inr 0), .inr (.inl x1)] (sh, I, R)) (fun v M => ev S d 200 11 [a0] (psh v st) M) := (ev_eq f_200_8).trans (congrArg (fin S d 200) (if_pos ⟨rfl, hr⟩))
theorem u_200_8nn {S : Scr} {d : Nat} {a0 : AV} {st : List AV} {sh : Shp} {I : IM} {R : RM} (hr : st.length ≤ 8) : ev S d 200 8 [a0] (.inr (.inr 0) :: .inr (.inr 0) :: st) (sh, I, R) = bnd (cl d 130 [.inr (.inr 0), .inr (.inr 0)] (sh, I, R)) (fun v M => ev S d 200 11 [a0] (psh v st) M) := (ev_eq f_200_8).trans (congrArg (fin S d 200) (if_pos ⟨rfl, hr⟩))
theorem f_200_11 : fetch 200 11 = some (11, .aload_n 0, 1, [0], 0) := (fm_200 11).trans rfl
theorem u_200_11 {S : Scr} {d : Nat} {st : List AV} {sh : Shp} {I : IM} {R : RM} {x : Nat} : ev S d 200 11 [.inr (.inl x)] st (sh, I, R) = ev S d 200 12 [.inr (.inl x)] (.inr (.inl x) :: st) (sh, I, R) := (ev_eq f_200_11).trans rfl
theorem f_200_12 : fetch 200 12 = some (12, .iconst 1, 1, [], 1) := (fm_200 12).trans rfl
theorem u_200_12 {S : Scr} {d : Nat} {a0 : AV} {st : List AV} {sh : Shp} {I : IM} {R : RM} : ev S d 200 12 [a0] st (sh, I, R) = ev S d 200 13 [a0] (.inl 1 :: st) (sh, I, R) := (ev_eq f_200_12).trans rfl
theorem f_200_13 : fetch 200 13 = some (13, .putfield 245, 3, [9, 3, 2, 105], 0) := (fm_200 13).trans rfl
theorem u_200_13 {S : Scr} {d : Nat} {a0 : AV} {st : List AV} {sh : Shp} {I : IM} {R : RM} {k : Nat} {x : Int} (h : tg sh k = 9) (h2 : x = 0 ∨ x = 1) : ev S d 200 13 [a0] (.inl x :: .inr (.inl k) :: st) (sh, I, R) = ev S d 200 16 [a0] st (sh, up I k 3 x, R) := (ev_eq f_200_13).trans (congrArg (fin S d 200) ((if_pos h).trans ((if_neg (by decide)).trans (if_neg (fun q => q.2 h2)))))
theorem f_200_16 : fetch 200 16 = some (16, .aload_n 0, 1, [0], 0) := (fm_200 16).trans rfl
theorem u_200_16 {S : Scr} {d : Nat} {st : List AV} {sh : Shp} {I : IM} {R : RM} {x : Nat} : ev S d 200 16 [.inr (.inl x)] st (sh, I, R) = ev S d 200 17 [.inr (.inl x)] (.inr (.inl x) :: st) (sh, I, R) := (ev_eq f_200_16).trans rfl
theorem f_200_17 : fetch 200 17 = some (17, .invokevirtual 105, 3, [137, 0, 136], 0) := (fm_200 17).trans rfl
theorem u_200_17 {S : Scr} {d : Nat} {a0 : AV} {st : List AV} {sh : Shp} {I : IM} {R : RM} {k : Nat} (h : tg sh k = 9) (hr : st.length ≤ 8) : ev S d 200 17 [a0] (.inr (.inl k) :: st) (sh, I, R) = bnd (cl d 137 [.inr (.inl k)] (sh, I, R)) (fun v M => ev S d 200 20 [a0] (psh v st) M) := (ev_eq f_200_17).trans (congrArg (fin S d 200) (if_pos ⟨h, rfl, hr⟩))
theorem f_200_20 : fetch 200 20 = some (20, .ireturn, 1, [0], 0) := (fm_200 20).trans rfl
theorem u_200_20 {S : Scr} {d : Nat} {a0 : AV} {sh : Shp} {I : IM} {R : RM} {x : Int} : ev S d 200 20 [a0] [.inl x] (sh, I, R) = some (some (.inl x), (sh, I, R)) := (ev_eq f_200_20).trans fin_iret0
theorem c_201 {d : Nat} {a0 : AV} {M : Mem} : cl (d + 1) 201 [a0] M = ev S0 d 201 0 [a0, .inr (.inr 1)] [] M := (cl_eq (as := [a0]) (show 1 ≤ maxOf 201 by decide +kernel)).trans rfl
theorem mt_201 : MT[201]? = some m_201 := rfl
theorem fm_201 (pc : Nat) : fetch 201 pc = lk m_201.2.2.2.2.2 pc := by
  unfold fetch
  rw [mt_201]
theorem f_201_0 : fetch 201 0 = some (0, .aload_n 0, 1, [0], 0) := (fm_201 0).trans rfl
theorem u_201_0 {S : Scr} {d : Nat} {a1 : AV} {st : List AV} {sh : Shp} {I : IM} {R : RM} {x : Nat} : ev S d 201 0 [.inr (.inl x), a1] st (sh, I, R) = ev S d 201 1 [.inr (.inl x), a1] (.inr (.inl x) :: st) (sh, I, R) := (ev_eq f_201_0).trans rfl
theorem f_201_1 : fetch 201 1 = some (1, .getfield 245, 3, [9, 3, 2, 105], 0) := (fm_201 1).trans rfl
theorem u_201_1 {S : Scr} {d : Nat} {a0 a1 : AV} {st : List AV} {sh : Shp} {I : IM} {R : RM} {k : Nat} (h : tg sh k = 9) : ev S d 201 1 [a0, a1] (.inr (.inl k) :: st) (sh, I, R) = ev S d 201 4 [a0, a1] (.inl (I k 3) :: st) (sh, I, R) := (ev_eq f_201_1).trans (congrArg (fin S d 201) (if_pos h))
theorem f_201_4 : fetch 201 4 = some (4, .ifCond .ne 6, 3, [10], 0) := (fm_201 4).trans rfl
theorem u_201_4 {S : Scr} {d : Nat} {a0 a1 : AV} {st : List AV} {sh : Shp} {I : IM} {R : RM} {x : Int} : ev S d 201 4 [a0, a1] (.inl x :: st) (sh, I, R) = if ¬ x = 0 then ev S d 201 10 [a0, a1] st (sh, I, R) else ev S d 201 7 [a0, a1] st (sh, I, R) := (ev_eq f_201_4).trans fin_if_ne
theorem f_201_7 : fetch 201 7 = some (7, .bipush (-5), 2, [], (-5)) := (fm_201 7).trans rfl
theorem u_201_7 {S : Scr} {d : Nat} {a0 a1 : AV} {st : List AV} {sh : Shp} {I : IM} {R : RM} : ev S d 201 7 [a0, a1] st (sh, I, R) = ev S d 201 9 [a0, a1] (.inl (-5) :: st) (sh, I, R) := (ev_eq f_201_7).trans rfl
theorem f_201_9 : fetch 201 9 = some (9, .ireturn, 1, [0], 0) := (fm_201 9).trans rfl
theorem u_201_9 {S : Scr} {d : Nat} {a0 a1 : AV} {sh : Shp} {I : IM} {R : RM} {x : Int} : ev S d 201 9 [a0, a1] [.inl x] (sh, I, R) = some (some (.inl x), (sh, I, R)) := (ev_eq f_201_9).trans fin_iret0
theorem f_201_10 : fetch 201 10 = some (10, .aload_n 0, 1, [0], 0) := (fm_201 10).trans rfl
theorem u_201_10 {S : Scr} {d : Nat} {a1 : AV} {st : List AV} {sh : Shp} {I : IM} {R : RM} {x : Nat} : ev S d 201 10 [.inr (.inl x), a1] st (sh, I, R) = ev S d 201 11 [.inr (.inl x), a1] (.inr (.inl x) :: st) (sh, I, R) := (ev_eq f_201_10).trans rfl
theorem f_201_11 : fetch 201 11 = some (11, .getfield 16, 3, [9, 2, 1, 81], 0) := (fm_201 11).trans rfl
theorem u_201_11 {S : Scr} {d : Nat} {a0 a1 : AV} {st : List AV} {sh : Shp} {I : IM} {R : RM} {k : Nat} (h : tg sh k = 9) : ev S d 201 11 [a0, a1] (.inr (.inl k) :: st) (sh, I, R) = ev S d 201 14 [a0, a1] (rv (R k 2) :: st) (sh, I, R) := (ev_eq f_201_11).trans (congrArg (fin S d 201) (if_pos h))
theorem f_201_14 : fetch 201 14 = some (14, .aload_n 0, 1, [0], 0) := (fm_201 14).trans rfl
theorem u_201_14 {S : Scr} {d : Nat} {a1 : AV} {st : List AV} {sh : Shp} {I : IM} {R : RM} {x : Nat} : ev S d 201 14 [.inr (.inl x), a1] st (sh, I, R) = ev S d 201 15 [.inr (.inl x), a1] (.inr (.inl x) :: st) (sh, I, R) := (ev_eq f_201_14).trans rfl
theorem f_201_15 : fetch 201 15 = some (15, .getfield 9, 3, [9, 0, 1, 79], 0) := (fm_201 15).trans rfl
theorem u_201_15 {S : Scr} {d : Nat} {a0 a1 : AV} {st : List AV} {sh : Shp} {I : IM} {R : RM} {k : Nat} (h : tg sh k = 9) : ev S d 201 15 [a0, a1] (.inr (.inl k) :: st) (sh, I, R) = ev S d 201 18 [a0, a1] (rv (R k 0) :: st) (sh, I, R) := (ev_eq f_201_15).trans (congrArg (fin S d 201) (if_pos h))
theorem f_201_18 : fetch 201 18 = some (18, .invokestatic 218, 3, [130, 2, 164], 0) := (fm_201 18).trans rfl
theorem u_201_18 {S : Scr} {d : Nat} {a0 a1 : AV} {st : List AV} {sh : Shp} {I : IM} {R : RM} {x0 : Nat} {x1 : Nat} (hr : st.length ≤ 8) : ev S d 201 18 [a0, a1] (.inr (.inl x1) :: .inr (.inl x0) :: st) (sh, I, R) = bnd (cl d 130 [.inr (.inl x0), .inr (.inl x1)] (sh, I, R)) (fun v M => ev S d 201 21 [a0, a1] (psh v st) M) := (ev_eq f_201_18).trans (congrArg (fin S d 201) (if_pos ⟨rfl, hr⟩))
theorem u_201_18kn {S : Scr} {d : Nat} {a0 a1 : AV} {st : List AV} {sh : Shp} {I : IM} {R : RM} {x0 : Nat} (hr : st.length ≤ 8) : ev S d 201 18 [a0, a1] (.inr (.inr 0) :: .inr (.inl x0) :: st) (sh, I, R) = bnd (cl d 130 [.inr (.inl x0), .inr (.inr 0)] (sh, I, R)) (fun v M => ev S d 201 21 [a0, a1] (psh v st) M) := (ev_eq f_201_18).trans (congrArg (fin S d 201) (if_pos ⟨rfl, hr⟩))
theorem u_201_18nk {S : Scr} {d : Nat} {a0 a1 : AV} {st : List AV} {sh : Shp} {I : IM} {R : RM} {x1 : Nat} (hr : st.length ≤ 8) : ev S d 201 18 [a0, a1] (.inr (.inl x1) :: .inr (.inr 0) :: st) (sh, I, R) = bnd (cl d 130 [.inr (.inr 0), .inr (.inl x1)] (sh, I, R)) (fun v M => ev S d 201 21 [a0, a1] (psh v st) M) := (ev_eq f_201_18).trans (congrArg (fin S d 201) (if_pos ⟨rfl, hr⟩))
theorem u_201_18nn {S : Scr} {d : Nat} {a0 a1 : AV} {st : List AV} {sh : Shp} {I : IM} {R : RM} (hr : st.length ≤ 8) : ev S d 201 18 [a0, a1] (.inr (.inr 0) :: .inr (.inr 0) :: st) (sh, I, R) = bnd (cl d 130 [.inr (.inr 0), .inr (.inr 0)] (sh, I, R)) (fun v M => ev S d 201 21 [a0, a1] (psh v st) M) := (ev_eq f_201_18).trans (congrArg (fin S d 201) (if_pos ⟨rfl, hr⟩))
theorem f_201_21 : fetch 201 21 = some (21, .iconst 0, 1, [], 0) := (fm_201 21).trans rfl
theorem u_201_21 {S : Scr} {d : Nat} {a0 a1 : AV} {st : List AV} {sh : Shp} {I : IM} {R : RM} : ev S d 201 21 [a0, a1] st (sh, I, R) = ev S d 201 22 [a0, a1] (.inl 0 :: st) (sh, I, R) := (ev_eq f_201_21).trans rfl
theorem f_201_22 : fetch 201 22 = some (22, .istore_n 1, 1, [1], 0) := (fm_201 22).trans rfl
theorem u_201_22 {S : Scr} {d : Nat} {a0 a1 : AV} {st : List AV} {sh : Shp} {I : IM} {R : RM} {x : Int} : ev S d 201 22 [a0, a1] (.inl x :: st) (sh, I, R) = ev S d 201 23 [a0, .inl x] st (sh, I, R) := (ev_eq f_201_22).trans rfl
theorem f_201_23 : fetch 201 23 = some (23, .iload_n 1, 1, [1], 0) := (fm_201 23).trans rfl
theorem u_201_23 {S : Scr} {d : Nat} {a0 : AV} {st : List AV} {sh : Shp} {I : IM} {R : RM} {x : Int} : ev S d 201 23 [a0, .inl x] st (sh, I, R) = ev S d 201 24 [a0, .inl x] (.inl x :: st) (sh, I, R) := (ev_eq f_201_23).trans rfl
theorem f_201_24 : fetch 201 24 = some (24, .bipush 8, 2, [], 8) := (fm_201 24).trans rfl
theorem u_201_24 {S : Scr} {d : Nat} {a0 a1 : AV} {st : List AV} {sh : Shp} {I : IM} {R : RM} : ev S d 201 24 [a0, a1] st (sh, I, R) = ev S d 201 26 [a0, a1] (.inl 8 :: st) (sh, I, R) := (ev_eq f_201_24).trans rfl
theorem f_201_26 : fetch 201 26 = some (26, .if_icmp .ge 38, 3, [64], 0) := (fm_201 26).trans rfl
theorem u_201_26 {S : Scr} {d : Nat} {a0 a1 : AV} {st : List AV} {sh : Shp} {I : IM} {R : RM} {x y : Int} : ev S d 201 26 [a0, a1] (.inl y :: .inl x :: st) (sh, I, R) = if y ≤ x then ev S d 201 64 [a0, a1] st (sh, I, R) else ev S d 201 29 [a0, a1] st (sh, I, R) := (ev_eq f_201_26).trans fin_icmp_ge
theorem f_201_29 : fetch 201 29 = some (29, .aload_n 0, 1, [0], 0) := (fm_201 29).trans rfl
theorem u_201_29 {S : Scr} {d : Nat} {a1 : AV} {st : List AV} {sh : Shp} {I : IM} {R : RM} {x : Nat} : ev S d 201 29 [.inr (.inl x), a1] st (sh, I, R) = ev S d 201 30 [.inr (.inl x), a1] (.inr (.inl x) :: st) (sh, I, R) := (ev_eq f_201_29).trans rfl
theorem f_201_30 : fetch 201 30 = some (30, .getfield 19, 3, [9, 4, 1, 82], 0) := (fm_201 30).trans rfl
theorem u_201_30 {S : Scr} {d : Nat} {a0 a1 : AV} {st : List AV} {sh : Shp} {I : IM} {R : RM} {k : Nat} (h : tg sh k = 9) : ev S d 201 30 [a0, a1] (.inr (.inl k) :: st) (sh, I, R) = ev S d 201 33 [a0, a1] (rv (R k 4) :: st) (sh, I, R) := (ev_eq f_201_30).trans (congrArg (fin S d 201) (if_pos h))
theorem f_201_33 : fetch 201 33 = some (33, .iload_n 1, 1, [1], 0) := (fm_201 33).trans rfl
theorem u_201_33 {S : Scr} {d : Nat} {a0 : AV} {st : List AV} {sh : Shp} {I : IM} {R : RM} {x : Int} : ev S d 201 33 [a0, .inl x] st (sh, I, R) = ev S d 201 34 [a0, .inl x] (.inl x :: st) (sh, I, R) := (ev_eq f_201_33).trans rfl
theorem f_201_34 : fetch 201 34 = some (34, .aload_n 0, 1, [0], 0) := (fm_201 34).trans rfl
theorem u_201_34 {S : Scr} {d : Nat} {a1 : AV} {st : List AV} {sh : Shp} {I : IM} {R : RM} {x : Nat} : ev S d 201 34 [.inr (.inl x), a1] st (sh, I, R) = ev S d 201 35 [.inr (.inl x), a1] (.inr (.inl x) :: st) (sh, I, R) := (ev_eq f_201_34).trans rfl
theorem f_201_35 : fetch 201 35 = some (35, .aload_n 0, 1, [0], 0) := (fm_201 35).trans rfl
theorem u_201_35 {S : Scr} {d : Nat} {a1 : AV} {st : List AV} {sh : Shp} {I : IM} {R : RM} {x : Nat} : ev S d 201 35 [.inr (.inl x), a1] st (sh, I, R) = ev S d 201 36 [.inr (.inl x), a1] (.inr (.inl x) :: st) (sh, I, R) := (ev_eq f_201_35).trans rfl
theorem f_201_36 : fetch 201 36 = some (36, .getfield 19, 3, [9, 4, 1, 82], 0) := (fm_201 36).trans rfl
theorem u_201_36 {S : Scr} {d : Nat} {a0 a1 : AV} {st : List AV} {sh : Shp} {I : IM} {R : RM} {k : Nat} (h : tg sh k = 9) : ev S d 201 36 [a0, a1] (.inr (.inl k) :: st) (sh, I, R) = ev S d 201 39 [a0, a1] (rv (R k 4) :: st) (sh, I, R) := (ev_eq f_201_36).trans (congrArg (fin S d 201) (if_pos h))
theorem f_201_39 : fetch 201 39 = some (39, .iload_n 1, 1, [1], 0) := (fm_201 39).trans rfl
theorem u_201_39 {S : Scr} {d : Nat} {a0 : AV} {st : List AV} {sh : Shp} {I : IM} {R : RM} {x : Int} : ev S d 201 39 [a0, .inl x] st (sh, I, R) = ev S d 201 40 [a0, .inl x] (.inl x :: st) (sh, I, R) := (ev_eq f_201_39).trans rfl
theorem f_201_40 : fetch 201 40 = some (40, .iaload, 1, [], 0) := (fm_201 40).trans rfl
theorem u_201_40 {S : Scr} {d : Nat} {a0 a1 : AV} {st : List AV} {sh : Shp} {I : IM} {R : RM} {k : Nat} {i : Int} (h : tg sh k = 100) (h0 : 0 ≤ i) (h1 : i < ln sh k) : ev S d 201 40 [a0, a1] (.inl i :: .inr (.inl k) :: st) (sh, I, R) = ev S d 201 41 [a0, a1] (.inl (I k i) :: st) (sh, I, R) := (ev_eq f_201_40).trans (congrArg (fin S d 201) (if_pos ⟨h, h0, h1⟩))
theorem f_201_41 : fetch 201 41 = some (41, .invokevirtual 68, 3, [133, 1, 126], 0) := (fm_201 41).trans rfl
theorem u_201_41 {S : Scr} {d : Nat} {a0 a1 : AV} {st : List AV} {sh : Shp} {I : IM} {R : RM} {x0 : Int} {k : Nat} (h : tg sh k = 9) (hr : st.length ≤ 8) : ev S d 201 41 [a0, a1] (.inl x0 :: .inr (.inl k) :: st) (sh, I, R) = bnd (cl d 133 [.inr (.inl k), .inl x0] (sh, I, R)) (fun v M => ev S d 201 44 [a0, a1] (psh v st) M) := (ev_eq f_201_41).trans (congrArg (fin S d 201) (if_pos ⟨h, rfl, hr⟩))
theorem f_201_44 : fetch 201 44 = some (44, .ifCond .eq 12, 3, [56], 0) := (fm_201 44).trans rfl
theorem u_201_44 {S : Scr} {d : Nat} {a0 a1 : AV} {st : List AV} {sh : Shp} {I : IM} {R : RM} {x : Int} : ev S d 201 44 [a0, a1] (.inl x :: st) (sh, I, R) = if x = 0 then ev S d 201 56 [a0, a1] st (sh, I, R) else ev S d 201 47 [a0, a1] st (sh, I, R) := (ev_eq f_201_44).trans fin_if_eq
theorem f_201_47 : fetch 201 47 = some (47, .aload_n 0, 1, [0], 0) := (fm_201 47).trans rfl
theorem u_201_47 {S : Scr} {d : Nat} {a1 : AV} {st : List AV} {sh : Shp} {I : IM} {R : RM} {x : Nat} : ev S d 201 47 [.inr (.inl x), a1] st (sh, I, R) = ev S d 201 48 [.inr (.inl x), a1] (.inr (.inl x) :: st) (sh, I, R) := (ev_eq f_201_47).trans rfl
theorem f_201_48 : fetch 201 48 = some (48, .getfield 19, 3, [9, 4, 1, 82], 0) := (fm_201 48).trans rfl
theorem u_201_48 {S : Scr} {d : Nat} {a0 a1 : AV} {st : List AV} {sh : Shp} {I : IM} {R : RM} {k : Nat} (h : tg sh k = 9) : ev S d 201 48 [a0, a1] (.inr (.inl k) :: st) (sh, I, R) = ev S d 201 51 [a0, a1] (rv (R k 4) :: st) (sh, I, R) := (ev_eq f_201_48).trans (congrArg (fin S d 201) (if_pos h))
theorem f_201_51 : fetch 201 51 = some (51, .iload_n 1, 1, [1], 0) := (fm_201 51).trans rfl
theorem u_201_51 {S : Scr} {d : Nat} {a0 : AV} {st : List AV} {sh : Shp} {I : IM} {R : RM} {x : Int} : ev S d 201 51 [a0, .inl x] st (sh, I, R) = ev S d 201 52 [a0, .inl x] (.inl x :: st) (sh, I, R) := (ev_eq f_201_51).trans rfl
theorem f_201_52 : fetch 201 52 = some (52, .iaload, 1, [], 0) := (fm_201 52).trans rfl
theorem u_201_52 {S : Scr} {d : Nat} {a0 a1 : AV} {st : List AV} {sh : Shp} {I : IM} {R : RM} {k : Nat} {i : Int} (h : tg sh k = 100) (h0 : 0 ≤ i) (h1 : i < ln sh k) : ev S d 201 52 [a0, a1] (.inl i :: .inr (.inl k) :: st) (sh, I, R) = ev S d 201 53 [a0, a1] (.inl (I k i) :: st) (sh, I, R) := (ev_eq f_201_52).trans (congrArg (fin S d 201) (if_pos ⟨h, h0, h1⟩))
theorem f_201_53 : fetch 201 53 = some (53, .goto 4, 3, [57], 0) := (fm_201 53).trans rfl
theorem u_201_53 {S : Scr} {d : Nat} {a0 a1 : AV} {st : List AV} {sh : Shp} {I : IM} {R : RM} : ev S d 201 53 [a0, a1] st (sh, I, R) = ev S d 201 57 [a0, a1] st (sh, I, R) := (ev_eq f_201_53).trans rfl
theorem f_201_56 : fetch 201 56 = some (56, .iconst (-1), 1, [], (-1)) := (fm_201 56).trans rfl
theorem u_201_56 {S : Scr} {d : Nat} {a0 a1 : AV} {st : List AV} {sh : Shp} {I : IM} {R : RM} : ev S d 201 56 [a0, a1] st (sh, I, R) = ev S d 201 57 [a0, a1] (.inl (-1) :: st) (sh, I, R) := (ev_eq f_201_56).trans rfl
theorem f_201_57 : fetch 201 57 = some (57, .iastore, 1, [], 0) := (fm_201 57).trans rfl
theorem u_201_57 {S : Scr} {d : Nat} {a0 a1 : AV} {st : List AV} {sh : Shp} {I : IM} {R : RM} {k : Nat} {i x : Int} (h : tg sh k = 100) (h0 : 0 ≤ i) (h1 : i < ln sh k) : ev S d 201 57 [a0, a1] (.inl x :: .inl i :: .inr (.inl k) :: st) (sh, I, R) = ev S d 201 58 [a0, a1] st (sh, up I k i x, R) := (ev_eq f_201_57).trans (congrArg (fin S d 201) (if_pos ⟨h, h0, h1⟩))
theorem f_201_58 : fetch 201 58 = some (58, .iinc 1 1, 3, [1], 1) := (fm_201 58).trans rfl
theorem u_201_58 {S : Scr} {d : Nat} {a0 : AV} {st : List AV} {sh : Shp} {I : IM} {R : RM} {x : Int} : ev S d 201 58 [a0, .inl x] st (sh, I, R) = ev S d 201 61 [a0, .inl (wr (x + 1))] st (sh, I, R) := (ev_eq f_201_58).trans rfl
theorem f_201_61 : fetch 201 61 = some (61, .goto (-38), 3, [23], 0) := (fm_201 61).trans rfl
theorem u_201_61 {S : Scr} {d : Nat} {a0 a1 : AV} {st : List AV} {sh : Shp} {I : IM} {R : RM} : ev S d 201 61 [a0, a1] st (sh, I, R) = ev S d 201 23 [a0, a1] st (sh, I, R) := (ev_eq f_201_61).trans rfl
theorem f_201_64 : fetch 201 64 = some (64, .aload_n 0, 1, [0], 0) := (fm_201 64).trans rfl
theorem u_201_64 {S : Scr} {d : Nat} {a1 : AV} {st : List AV} {sh : Shp} {I : IM} {R : RM} {x : Nat} : ev S d 201 64 [.inr (.inl x), a1] st (sh, I, R) = ev S d 201 65 [.inr (.inl x), a1] (.inr (.inl x) :: st) (sh, I, R) := (ev_eq f_201_64).trans rfl
theorem f_201_65 : fetch 201 65 = some (65, .invokevirtual 105, 3, [137, 0, 136], 0) := (fm_201 65).trans rfl
theorem u_201_65 {S : Scr} {d : Nat} {a0 a1 : AV} {st : List AV} {sh : Shp} {I : IM} {R : RM} {k : Nat} (h : tg sh k = 9) (hr : st.length ≤ 8) : ev S d 201 65 [a0, a1] (.inr (.inl k) :: st) (sh, I, R) = bnd (cl d 137 [.inr (.inl k)] (sh, I, R)) (fun v M => ev S d 201 68 [a0, a1] (psh v st) M) := (ev_eq f_201_65).trans (congrArg (fin S d 201) (if_pos ⟨h, rfl, hr⟩))
theorem f_201_68 : fetch 201 68 = some (68, .ireturn, 1, [0], 0) := (fm_201 68).trans rfl
theorem u_201_68 {S : Scr} {d : Nat} {a0 a1 : AV} {sh : Shp} {I : IM} {R : RM} {x : Int} : ev S d 201 68 [a0, a1] [.inl x] (sh, I, R) = some (some (.inl x), (sh, I, R)) := (ev_eq f_201_68).trans fin_iret0
theorem c_202 {d : Nat} {a0 : AV} {M : Mem} : cl (d + 1) 202 [a0] M = ev S0 d 202 0 [a0] [] M := (cl_eq (as := [a0]) (show 1 ≤ maxOf 202 by decide +kernel)).trans rfl
theorem mt_202 : MT[202]? = some m_202 := rfl
theorem fm_202 (pc : Nat) : fetch 202 pc = lk m_202.2.2.2.2.2 pc := by
  unfold fetch
  rw [mt_202]
theorem f_202_0 : fetch 202 0 = some (0, .iload_n 0, 1, [0], 0) := (fm_202 0).trans rfl
theorem u_202_0 {S : Scr} {d : Nat} {st : List AV} {sh : Shp} {I : IM} {R : RM} {x : Int} : ev S d 202 0 [.inl x] st (sh, I, R) = ev S d 202 1 [.inl x] (.inl x :: st) (sh, I, R) := (ev_eq f_202_0).trans rfl
theorem f_202_1 : fetch 202 1 = some (1, .iconst 0, 1, [], 0) := (fm_202 1).trans rfl
theorem u_202_1 {S : Scr} {d : Nat} {a0 : AV} {st : List AV} {sh : Shp} {I : IM} {R : RM} : ev S d 202 1 [a0] st (sh, I, R) = ev S d 202 2 [a0] (.inl 0 :: st) (sh, I, R) := (ev_eq f_202_1).trans rfl
theorem f_202_2 : fetch 202 2 = some (2, .bipush 7, 2, [], 7) := (fm_202 2).trans rfl
theorem u_202_2 {S : Scr} {d : Nat} {a0 : AV} {st : List AV} {sh : Shp} {I : IM} {R : RM} : ev S d 202 2 [a0] st (sh, I, R) = ev S d 202 4 [a0] (.inl 7 :: st) (sh, I, R) := (ev_eq f_202_2).trans rfl
theorem f_202_4 : fetch 202 4 = some (4, .invokestatic 64, 3, [129, 3, 125], 0) := (fm_202 4).trans rfl
theorem u_202_4 {S : Scr} {d : Nat} {a0 : AV} {st : List AV} {sh : Shp} {I : IM} {R : RM} {x0 : Int} {x1 : Int} {x2 : Int} (hr : st.length ≤ 8) : ev S d 202 4 [a0] (.inl x2 :: .inl x1 :: .inl x0 :: st) (sh, I, R) = bnd (cl d 129 [.inl x0, .inl x1, .inl x2] (sh, I, R)) (fun v M => ev S d 202 7 [a0] (psh v st) M) := (ev_eq f_202_4).trans (congrArg (fin S d 202) (if_pos ⟨rfl, hr⟩))
theorem f_202_7 : fetch 202 7 = some (7, .ireturn, 1, [1], 0) := (fm_202 7).trans rfl
theorem u_202_7 {S : Scr} {d : Nat} {a0 : AV} {sh : Shp} {I : IM} {R : RM} {x : Int} (h : x = 0 ∨ x = 1) : ev S d 202 7 [a0] [.inl x] (sh, I, R) = some (some (.inl x), (sh, I, R)) := (ev_eq f_202_7).trans (fin_iret1 h)
theorem c_203 {d : Nat} {a0 a1 a2 : AV} {M : Mem} : cl (d + 1) 203 [a0, a1, a2] M = ev S0 d 203 0 [a0, a1, a2] [] M := (cl_eq (as := [a0, a1, a2]) (show 3 ≤ maxOf 203 by decide +kernel)).trans rfl
theorem mt_203 : MT[203]? = some m_203 := rfl
theorem fm_203 (pc : Nat) : fetch 203 pc = lk m_203.2.2.2.2.2 pc := by
  unfold fetch
  rw [mt_203]
theorem f_203_0 : fetch 203 0 = some (0, .iload_n 1, 1, [1], 0) := (fm_203 0).trans rfl
theorem u_203_0 {S : Scr} {d : Nat} {a0 a2 : AV} {st : List AV} {sh : Shp} {I : IM} {R : RM} {x : Int} : ev S d 203 0 [a0, .inl x, a2] st (sh, I, R) = ev S d 203 1 [a0, .inl x, a2] (.inl x :: st) (sh, I, R) := (ev_eq f_203_0).trans rfl
theorem f_203_1 : fetch 203 1 = some (1, .invokestatic 249, 3, [202, 1, 171], 0) := (fm_203 1).trans rfl
theorem u_203_1 {S : Scr} {d : Nat} {a0 a1 a2 : AV} {st : List AV} {sh : Shp} {I : IM} {R : RM} {x0 : Int} (hr : st.length ≤ 8) : ev S d 203 1 [a0, a1, a2] (.inl x0 :: st) (sh, I, R) = bnd (cl d 202 [.inl x0] (sh, I, R)) (fun v M => ev S d 203 4 [a0, a1, a2] (psh v st) M) := (ev_eq f_203_1).trans (congrArg (fin S d 203) (if_pos ⟨rfl, hr⟩))
theorem f_203_4 : fetch 203 4 = some (4, .ifCond .eq 11, 3, [15], 0) := (fm_203 4).trans rfl
theorem u_203_4 {S : Scr} {d : Nat} {a0 a1 a2 : AV} {st : List AV} {sh : Shp} {I : IM} {R : RM} {x : Int} : ev S d 203 4 [a0, a1, a2] (.inl x :: st) (sh, I, R) = if x = 0 then ev S d 203 15 [a0, a1, a2] st (sh, I, R) else ev S d 203 7 [a0, a1, a2] st (sh, I, R) := (ev_eq f_203_4).trans fin_if_eq
theorem f_203_7 : fetch 203 7 = some (7, .aload_n 0, 1, [0], 0) := (fm_203 7).trans rfl
theorem u_203_7 {S : Scr} {d : Nat} {a1 a2 : AV} {st : List AV} {sh : Shp} {I : IM} {R : RM} {x : Nat} : ev S d 203 7 [.inr (.inl x), a1, a2] st (sh, I, R) = ev S d 203 8 [.inr (.inl x), a1, a2] (.inr (.inl x) :: st) (sh, I, R) := (ev_eq f_203_7).trans rfl
theorem f_203_8 : fetch 203 8 = some (8, .iload_n 2, 1, [2], 0) := (fm_203 8).trans rfl
theorem u_203_8 {S : Scr} {d : Nat} {a0 a1 : AV} {st : List AV} {sh : Shp} {I : IM} {R : RM} {x : Int} : ev S d 203 8 [a0, a1, .inl x] st (sh, I, R) = ev S d 203 9 [a0, a1, .inl x] (.inl x :: st) (sh, I, R) := (ev_eq f_203_8).trans rfl
theorem f_203_9 : fetch 203 9 = some (9, .invokevirtual 122, 3, [134, 1, 141], 0) := (fm_203 9).trans rfl
theorem u_203_9 {S : Scr} {d : Nat} {a0 a1 a2 : AV} {st : List AV} {sh : Shp} {I : IM} {R : RM} {x0 : Int} {k : Nat} (h : tg sh k = 9) (hr : st.length ≤ 8) : ev S d 203 9 [a0, a1, a2] (.inl x0 :: .inr (.inl k) :: st) (sh, I, R) = bnd (cl d 134 [.inr (.inl k), .inl x0] (sh, I, R)) (fun v M => ev S d 203 12 [a0, a1, a2] (psh v st) M) := (ev_eq f_203_9).trans (congrArg (fin S d 203) (if_pos ⟨h, rfl, hr⟩))
theorem f_203_12 : fetch 203 12 = some (12, .ifCond .ne 5, 3, [17], 0) := (fm_203 12).trans rfl
theorem u_203_12 {S : Scr} {d : Nat} {a0 a1 a2 : AV} {st : List AV} {sh : Shp} {I : IM} {R : RM} {x : Int} : ev S d 203 12 [a0, a1, a2] (.inl x :: st) (sh, I, R) = if ¬ x = 0 then ev S d 203 17 [a0, a1, a2] st (sh, I, R) else ev S d 203 15 [a0, a1, a2] st (sh, I, R) := (ev_eq f_203_12).trans fin_if_ne
theorem f_203_15 : fetch 203 15 = some (15, .iconst (-1), 1, [], (-1)) := (fm_203 15).trans rfl
theorem u_203_15 {S : Scr} {d : Nat} {a0 a1 a2 : AV} {st : List AV} {sh : Shp} {I : IM} {R : RM} : ev S d 203 15 [a0, a1, a2] st (sh, I, R) = ev S d 203 16 [a0, a1, a2] (.inl (-1) :: st) (sh, I, R) := (ev_eq f_203_15).trans rfl
theorem f_203_16 : fetch 203 16 = some (16, .ireturn, 1, [0], 0) := (fm_203 16).trans rfl
theorem u_203_16 {S : Scr} {d : Nat} {a0 a1 a2 : AV} {sh : Shp} {I : IM} {R : RM} {x : Int} : ev S d 203 16 [a0, a1, a2] [.inl x] (sh, I, R) = some (some (.inl x), (sh, I, R)) := (ev_eq f_203_16).trans fin_iret0
theorem f_203_17 : fetch 203 17 = some (17, .aload_n 0, 1, [0], 0) := (fm_203 17).trans rfl
theorem u_203_17 {S : Scr} {d : Nat} {a1 a2 : AV} {st : List AV} {sh : Shp} {I : IM} {R : RM} {x : Nat} : ev S d 203 17 [.inr (.inl x), a1, a2] st (sh, I, R) = ev S d 203 18 [.inr (.inl x), a1, a2] (.inr (.inl x) :: st) (sh, I, R) := (ev_eq f_203_17).trans rfl
theorem f_203_18 : fetch 203 18 = some (18, .getfield 19, 3, [9, 4, 1, 82], 0) := (fm_203 18).trans rfl
theorem u_203_18 {S : Scr} {d : Nat} {a0 a1 a2 : AV} {st : List AV} {sh : Shp} {I : IM} {R : RM} {k : Nat} (h : tg sh k = 9) : ev S d 203 18 [a0, a1, a2] (.inr (.inl k) :: st) (sh, I, R) = ev S d 203 21 [a0, a1, a2] (rv (R k 4) :: st) (sh, I, R) := (ev_eq f_203_18).trans (congrArg (fin S d 203) (if_pos h))
theorem f_203_21 : fetch 203 21 = some (21, .iload_n 1, 1, [1], 0) := (fm_203 21).trans rfl
theorem u_203_21 {S : Scr} {d : Nat} {a0 a2 : AV} {st : List AV} {sh : Shp} {I : IM} {R : RM} {x : Int} : ev S d 203 21 [a0, .inl x, a2] st (sh, I, R) = ev S d 203 22 [a0, .inl x, a2] (.inl x :: st) (sh, I, R) := (ev_eq f_203_21).trans rfl
theorem f_203_22 : fetch 203 22 = some (22, .iload_n 2, 1, [2], 0) := (fm_203 22).trans rfl
theorem u_203_22 {S : Scr} {d : Nat} {a0 a1 : AV} {st : List AV} {sh : Shp} {I : IM} {R : RM} {x : Int} : ev S d 203 22 [a0, a1, .inl x] st (sh, I, R) = ev S d 203 23 [a0, a1, .inl x] (.inl x :: st) (sh, I, R) := (ev_eq f_203_22).trans rfl
theorem f_203_23 : fetch 203 23 = some (23, .iastore, 1, [], 0) := (fm_203 23).trans rfl
theorem u_203_23 {S : Scr} {d : Nat} {a0 a1 a2 : AV} {st : List AV} {sh : Shp} {I : IM} {R : RM} {k : Nat} {i x : Int} (h : tg sh k = 100) (h0 : 0 ≤ i) (h1 : i < ln sh k) : ev S d 203 23 [a0, a1, a2] (.inl x :: .inl i :: .inr (.inl k) :: st) (sh, I, R) = ev S d 203 24 [a0, a1, a2] st (sh, up I k i x, R) := (ev_eq f_203_23).trans (congrArg (fin S d 203) (if_pos ⟨h, h0, h1⟩))
theorem f_203_24 : fetch 203 24 = some (24, .iconst 1, 1, [], 1) := (fm_203 24).trans rfl
theorem u_203_24 {S : Scr} {d : Nat} {a0 a1 a2 : AV} {st : List AV} {sh : Shp} {I : IM} {R : RM} : ev S d 203 24 [a0, a1, a2] st (sh, I, R) = ev S d 203 25 [a0, a1, a2] (.inl 1 :: st) (sh, I, R) := (ev_eq f_203_24).trans rfl
theorem f_203_25 : fetch 203 25 = some (25, .ireturn, 1, [0], 0) := (fm_203 25).trans rfl
theorem u_203_25 {S : Scr} {d : Nat} {a0 a1 a2 : AV} {sh : Shp} {I : IM} {R : RM} {x : Int} : ev S d 203 25 [a0, a1, a2] [.inl x] (sh, I, R) = some (some (.inl x), (sh, I, R)) := (ev_eq f_203_25).trans fin_iret0
theorem c_204 {d : Nat} {a0 a1 : AV} {M : Mem} : cl (d + 1) 204 [a0, a1] M = ev S0 d 204 0 [a0, a1] [] M := (cl_eq (as := [a0, a1]) (show 2 ≤ maxOf 204 by decide +kernel)).trans rfl
theorem mt_204 : MT[204]? = some m_204 := rfl
theorem fm_204 (pc : Nat) : fetch 204 pc = lk m_204.2.2.2.2.2 pc := by
  unfold fetch
  rw [mt_204]
theorem f_204_0 : fetch 204 0 = some (0, .iload_n 1, 1, [1], 0) := (fm_204 0).trans rfl
theorem u_204_0 {S : Scr} {d : Nat} {a0 : AV} {st : List AV} {sh : Shp} {I : IM} {R : RM} {x : Int} : ev S d 204 0 [a0, .inl x] st (sh, I, R) = ev S d 204 1 [a0, .inl x] (.inl x :: st) (sh, I, R) := (ev_eq f_204_0).trans rfl
theorem f_204_1 : fetch 204 1 = some (1, .invokestatic 249, 3, [202, 1, 171], 0) := (fm_204 1).trans rfl
theorem u_204_1 {S : Scr} {d : Nat} {a0 a1 : AV} {st : List AV} {sh : Shp} {I : IM} {R : RM} {x0 : Int} (hr : st.length ≤ 8) : ev S d 204 1 [a0, a1] (.inl x0 :: st) (sh, I, R) = bnd (cl d 202 [.inl x0] (sh, I, R)) (fun v M => ev S d 204 4 [a0, a1] (psh v st) M) := (ev_eq f_204_1).trans (congrArg (fin S d 204) (if_pos ⟨rfl, hr⟩))
theorem f_204_4 : fetch 204 4 = some (4, .ifCond .eq 15, 3, [19], 0) := (fm_204 4).trans rfl
theorem u_204_4 {S : Scr} {d : Nat} {a0 a1 : AV} {st : List AV} {sh : Shp} {I : IM} {R : RM} {x : Int} : ev S d 204 4 [a0, a1] (.inl x :: st) (sh, I, R) = if x = 0 then ev S d 204 19 [a0, a1] st (sh, I, R) else ev S d 204 7 [a0, a1] st (sh, I, R) := (ev_eq f_204_4).trans fin_if_eq
theorem f_204_7 : fetch 204 7 = some (7, .aload_n 0, 1, [0], 0) := (fm_204 7).trans rfl
theorem u_204_7 {S : Scr} {d : Nat} {a1 : AV} {st : List AV} {sh : Shp} {I : IM} {R : RM} {x : Nat} : ev S d 204 7 [.inr (.inl x), a1] st (sh, I, R) = ev S d 204 8 [.inr (.inl x), a1] (.inr (.inl x) :: st) (sh, I, R) := (ev_eq f_204_7).trans rfl
theorem f_204_8 : fetch 204 8 = some (8, .getfield 19, 3, [9, 4, 1, 82], 0) := (fm_204 8).trans rfl
theorem u_204_8 {S : Scr} {d : Nat} {a0 a1 : AV} {st : List AV} {sh : Shp} {I : IM} {R : RM} {k : Nat} (h : tg sh k = 9) : ev S d 204 8 [a0, a1] (.inr (.inl k) :: st) (sh, I, R) = ev S d 204 11 [a0, a1] (rv (R k 4) :: st) (sh, I, R) := (ev_eq f_204_8).trans (congrArg (fin S d 204) (if_pos h))
theorem f_204_11 : fetch 204 11 = some (11, .iload_n 1, 1, [1], 0) := (fm_204 11).trans rfl
theorem u_204_11 {S : Scr} {d : Nat} {a0 : AV} {st : List AV} {sh : Shp} {I : IM} {R : RM} {x : Int} : ev S d 204 11 [a0, .inl x] st (sh, I, R) = ev S d 204 12 [a0, .inl x] (.inl x :: st) (sh, I, R) := (ev_eq f_204_11).trans rfl
theorem f_204_12 : fetch 204 12 = some (12, .iaload, 1, [], 0) := (fm_204 12).trans rfl
theorem u_204_12 {S : Scr} {d : Nat} {a0 a1 : AV} {st : List AV} {sh : Shp} {I : IM} {R : RM} {k : Nat} {i : Int} (h : tg sh k = 100) (h0 : 0 ≤ i) (h1 : i < ln sh k) : ev S d 204 12 [a0, a1] (.inl i :: .inr (.inl k) :: st) (sh, I, R) = ev S d 204 13 [a0, a1] (.inl (I k i) :: st) (sh, I, R) := (ev_eq f_204_12).trans (congrArg (fin S d 204) (if_pos ⟨h, h0, h1⟩))
theorem f_204_13 : fetch 204 13 = some (13, .invokestatic 131, 3, [136, 1, 144], 0) := (fm_204 13).trans rfl
theorem u_204_13 {S : Scr} {d : Nat} {a0 a1 : AV} {st : List AV} {sh : Shp} {I : IM} {R : RM} {x0 : Int} (hr : st.length ≤ 8) : ev S d 204 13 [a0, a1] (.inl x0 :: st) (sh, I, R) = bnd (cl d 136 [.inl x0] (sh, I, R)) (fun v M => ev S d 204 16 [a0, a1] (psh v st) M) := (ev_eq f_204_13).trans (congrArg (fin S d 204) (if_pos ⟨rfl, hr⟩))
theorem f_204_16 : fetch 204 16 = some (16, .goto 4, 3, [20], 0) := (fm_204 16).trans rfl
theorem u_204_16 {S : Scr} {d : Nat} {a0 a1 : AV} {st : List AV} {sh : Shp} {I : IM} {R : RM} : ev S d 204 16 [a0, a1] st (sh, I, R) = ev S d 204 20 [a0, a1] st (sh, I, R) := (ev_eq f_204_16).trans rfl
theorem f_204_19 : fetch 204 19 = some (19, .iconst (-1), 1, [], (-1)) := (fm_204 19).trans rfl
theorem u_204_19 {S : Scr} {d : Nat} {a0 a1 : AV} {st : List AV} {sh : Shp} {I : IM} {R : RM} : ev S d 204 19 [a0, a1] st (sh, I, R) = ev S d 204 20 [a0, a1] (.inl (-1) :: st) (sh, I, R) := (ev_eq f_204_19).trans rfl
theorem f_204_20 : fetch 204 20 = some (20, .ireturn, 1, [0], 0) := (fm_204 20).trans rfl
theorem u_204_20 {S : Scr} {d : Nat} {a0 a1 : AV} {sh : Shp} {I : IM} {R : RM} {x : Int} : ev S d 204 20 [a0, a1] [.inl x] (sh, I, R) = some (some (.inl x), (sh, I, R)) := (ev_eq f_204_20).trans fin_iret0
theorem c_205 {d : Nat} {a0 a1 a2 : AV} {M : Mem} : cl (d + 1) 205 [a0, a1, a2] M = ev S0 d 205 0 [a0, a1, a2, .inr (.inr 1), .inr (.inr 1)] [] M := (cl_eq (as := [a0, a1, a2]) (show 3 ≤ maxOf 205 by decide +kernel)).trans rfl
theorem mt_205 : MT[205]? = some m_205 := rfl
theorem fm_205 (pc : Nat) : fetch 205 pc = lk m_205.2.2.2.2.2 pc := by
  unfold fetch
  rw [mt_205]
theorem f_205_0 : fetch 205 0 = some (0, .iload_n 1, 1, [1], 0) := (fm_205 0).trans rfl
theorem u_205_0 {S : Scr} {d : Nat} {a0 a2 a3 a4 : AV} {st : List AV} {sh : Shp} {I : IM} {R : RM} {x : Int} : ev S d 205 0 [a0, .inl x, a2, a3, a4] st (sh, I, R) = ev S d 205 1 [a0, .inl x, a2, a3, a4] (.inl x :: st) (sh, I, R) := (ev_eq f_205_0).trans rfl
theorem f_205_1 : fetch 205 1 = some (1, .invokestatic 249, 3, [202, 1, 171], 0) := (fm_205 1).trans rfl
theorem u_205_1 {S : Scr} {d : Nat} {a0 a1 a2 a3 a4 : AV} {st : List AV} {sh : Shp} {I : IM} {R : RM} {x0 : Int} (hr : st.length ≤ 8) : ev S d 205 1 [a0, a1, a2, a3, a4] (.inl x0 :: st) (sh, I, R) = bnd (cl d 202 [.inl x0] (sh, I, R)) (fun v M => ev S d 205 4 [a0, a1, a2, a3, a4] (psh v st) M) := (ev_eq f_205_1).trans (congrArg (fin S d 205) (if_pos ⟨rfl, hr⟩))
theorem f_205_4 : fetch 205 4 = some (4, .ifCond .eq 12, 3, [16], 0) := (fm_205 4).trans rfl
theorem u_205_4 {S : Scr} {d : Nat} {a0 a1 a2 a3 a4 : AV} {st : List AV} {sh : Shp} {I : IM} {R : RM} {x : Int} : ev S d 205 4 [a0, a1, a2, a3, a4] (.inl x :: st) (sh, I, R) = if x = 0 then ev S d 205 16 [a0, a1, a2, a3, a4] st (sh, I, R) else ev S d 205 7 [a0, a1, a2, a3, a4] st (sh, I, R) := (ev_eq f_205_4).trans fin_if_eq
theorem f_205_7 : fetch 205 7 = some (7, .iload_n 2, 1, [2], 0) := (fm_205 7).trans rfl
theorem u_205_7 {S : Scr} {d : Nat} {a0 a1 a3 a4 : AV} {st : List AV} {sh : Shp} {I : IM} {R : RM} {x : Int} : ev S d 205 7 [a0, a1, .inl x, a3, a4] st (sh, I, R) = ev S d 205 8 [a0, a1, .inl x, a3, a4] (.inl x :: st) (sh, I, R) := (ev_eq f_205_7).trans rfl
theorem f_205_8 : fetch 205 8 = some (8, .iconst 0, 1, [], 0) := (fm_205 8).trans rfl
theorem u_205_8 {S : Scr} {d : Nat} {a0 a1 a2 a3 a4 : AV} {st : List AV} {sh : Shp} {I : IM} {R : RM} : ev S d 205 8 [a0, a1, a2, a3, a4] st (sh, I, R) = ev S d 205 9 [a0, a1, a2, a3, a4] (.inl 0 :: st) (sh, I, R) := (ev_eq f_205_8).trans rfl
theorem f_205_9 : fetch 205 9 = some (9, .iconst 4, 1, [], 4) := (fm_205 9).trans rfl
theorem u_205_9 {S : Scr} {d : Nat} {a0 a1 a2 a3 a4 : AV} {st : List AV} {sh : Shp} {I : IM} {R : RM} : ev S d 205 9 [a0, a1, a2, a3, a4] st (sh, I, R) = ev S d 205 10 [a0, a1, a2, a3, a4] (.inl 4 :: st) (sh, I, R) := (ev_eq f_205_9).trans rfl
theorem f_205_10 : fetch 205 10 = some (10, .invokestatic 64, 3, [129, 3, 125], 0) := (fm_205 10).trans rfl
theorem u_205_10 {S : Scr} {d : Nat} {a0 a1 a2 a3 a4 : AV} {st : List AV} {sh : Shp} {I : IM} {R : RM} {x0 : Int} {x1 : Int} {x2 : Int} (hr : st.length ≤ 8) : ev S d 205 10 [a0, a1, a2, a3, a4] (.inl x2 :: .inl x1 :: .inl x0 :: st) (sh, I, R) = bnd (cl d 129 [.inl x0, .inl x1, .inl x2] (sh, I, R)) (fun v M => ev S d 205 13 [a0, a1, a2, a3, a4] (psh v st) M) := (ev_eq f_205_10).trans (congrArg (fin S d 205) (if_pos ⟨rfl, hr⟩))
theorem f_205_13 : fetch 205 13 = some (13, .ifCond .ne 5, 3, [18], 0) := (fm_205 13).trans rfl
theorem u_205_13 {S : Scr} {d : Nat} {a0 a1 a2 a3 a4 : AV} {st : List AV} {sh : Shp} {I : IM} {R : RM} {x : Int} : ev S d 205 13 [a0, a1, a2, a3, a4] (.inl x :: st) (sh, I, R) = if ¬ x = 0 then ev S d 205 18 [a0, a1, a2, a3, a4] st (sh, I, R) else ev S d 205 16 [a0, a1, a2, a3, a4] st (sh, I, R) := (ev_eq f_205_13).trans fin_if_ne
theorem f_205_16 : fetch 205 16 = some (16, .iconst (-1), 1, [], (-1)) := (fm_205 16).trans rfl
theorem u_205_16 {S : Scr} {d : Nat} {a0 a1 a2 a3 a4 : AV} {st : List AV} {sh : Shp} {I : IM} {R : RM} : ev S d 205 16 [a0, a1, a2, a3, a4] st (sh, I, R) = ev S d 205 17 [a0, a1, a2, a3, a4] (.inl (-1) :: st) (sh, I, R) := (ev_eq f_205_16).trans rfl
theorem f_205_17 : fetch 205 17 = some (17, .ireturn, 1, [0], 0) := (fm_205 17).trans rfl
theorem u_205_17 {S : Scr} {d : Nat} {a0 a1 a2 a3 a4 : AV} {sh : Shp} {I : IM} {R : RM} {x : Int} : ev S d 205 17 [a0, a1, a2, a3, a4] [.inl x] (sh, I, R) = some (some (.inl x), (sh, I, R)) := (ev_eq f_205_17).trans fin_iret0
theorem f_205_18 : fetch 205 18 = some (18, .aload_n 0, 1, [0], 0) := (fm_205 18).trans rfl
theorem u_205_18 {S : Scr} {d : Nat} {a1 a2 a3 a4 : AV} {st : List AV} {sh : Shp} {I : IM} {R : RM} {x : Nat} : ev S d 205 18 [.inr (.inl x), a1, a2, a3, a4] st (sh, I, R) = ev S d 205 19 [.inr (.inl x), a1, a2, a3, a4] (.inr (.inl x) :: st) (sh, I, R) := (ev_eq f_205_18).trans rfl
theorem f_205_19 : fetch 205 19 = some (19, .getfield 19, 3, [9, 4, 1, 82], 0) := (fm_205 19).trans rfl
theorem u_205_19 {S : Scr} {d : Nat} {a0 a1 a2 a3 a4 : AV} {st : List AV} {sh : Shp} {I : IM} {R : RM} {k : Nat} (h : tg sh k = 9) : ev S d 205 19 [a0, a1, a2, a3, a4] (.inr (.inl k) :: st) (sh, I, R) = ev S d 205 22 [a0, a1, a2, a3, a4] (rv (R k 4) :: st) (sh, I, R) := (ev_eq f_205_19).trans (congrArg (fin S d 205) (if_pos h))
theorem f_205_22 : fetch 205 22 = some (22, .iload_n 1, 1, [1], 0) := (fm_205 22).trans rfl
theorem u_205_22 {S : Scr} {d : Nat} {a0 a2 a3 a4 : AV} {st : List AV} {sh : Shp} {I : IM} {R : RM} {x : Int} : ev S d 205 22 [a0, .inl x, a2, a3, a4] st (sh, I, R) = ev S d 205 23 [a0, .inl x, a2, a3, a4] (.inl x :: st) (sh, I, R) := (ev_eq f_205_22).trans rfl
theorem f_205_23 : fetch 205 23 = some (23, .iaload, 1, [], 0) := (fm_205 23).trans rfl
theorem u_205_23 {S : Scr} {d : Nat} {a0 a1 a2 a3 a4 : AV} {st : List AV} {sh : Shp} {I : IM} {R : RM} {k : Nat} {i : Int} (h : tg sh k = 100) (h0 : 0 ≤ i) (h1 : i < ln sh k) : ev S d 205 23 [a0, a1, a2, a3, a4] (.inl i :: .inr (.inl k) :: st) (sh, I, R) = ev S d 205 24 [a0, a1, a2, a3, a4] (.inl (I k i) :: st) (sh, I, R) := (ev_eq f_205_23).trans (congrArg (fin S d 205) (if_pos ⟨h, h0, h1⟩))
theorem f_205_24 : fetch 205 24 = some (24, .istore_n 3, 1, [3], 0) := (fm_205 24).trans rfl
theorem u_205_24 {S : Scr} {d : Nat} {a0 a1 a2 a3 a4 : AV} {st : List AV} {sh : Shp} {I : IM} {R : RM} {x : Int} : ev S d 205 24 [a0, a1, a2, a3, a4] (.inl x :: st) (sh, I, R) = ev S d 205 25 [a0, a1, a2, .inl x, a4] st (sh, I, R) := (ev_eq f_205_24).trans rfl
theorem f_205_25 : fetch 205 25 = some (25, .iload_n 3, 1, [3], 0) := (fm_205 25).trans rfl
theorem u_205_25 {S : Scr} {d : Nat} {a0 a1 a2 a4 : AV} {st : List AV} {sh : Shp} {I : IM} {R : RM} {x : Int} : ev S d 205 25 [a0, a1, a2, .inl x, a4] st (sh, I, R) = ev S d 205 26 [a0, a1, a2, .inl x, a4] (.inl x :: st) (sh, I, R) := (ev_eq f_205_25).trans rfl
theorem f_205_26 : fetch 205 26 = some (26, .ifCond .ge 6, 3, [32], 0) := (fm_205 26).trans rfl
theorem u_205_26 {S : Scr} {d : Nat} {a0 a1 a2 a3 a4 : AV} {st : List AV} {sh : Shp} {I : IM} {R : RM} {x : Int} : ev S d 205 26 [a0, a1, a2, a3, a4] (.inl x :: st) (sh, I, R) = if 0 ≤ x then ev S d 205 32 [a0, a1, a2, a3, a4] st (sh, I, R) else ev S d 205 29 [a0, a1, a2, a3, a4] st (sh, I, R) := (ev_eq f_205_26).trans fin_if_ge
theorem f_205_29 : fetch 205 29 = some (29, .bipush (-11), 2, [], (-11)) := (fm_205 29).trans rfl
theorem u_205_29 {S : Scr} {d : Nat} {a0 a1 a2 a3 a4 : AV} {st : List AV} {sh : Shp} {I : IM} {R : RM} : ev S d 205 29 [a0, a1, a2, a3, a4] st (sh, I, R) = ev S d 205 31 [a0, a1, a2, a3, a4] (.inl (-11) :: st) (sh, I, R) := (ev_eq f_205_29).trans rfl
theorem f_205_31 : fetch 205 31 = some (31, .ireturn, 1, [0], 0) := (fm_205 31).trans rfl
theorem u_205_31 {S : Scr} {d : Nat} {a0 a1 a2 a3 a4 : AV} {sh : Shp} {I : IM} {R : RM} {x : Int} : ev S d 205 31 [a0, a1, a2, a3, a4] [.inl x] (sh, I, R) = some (some (.inl x), (sh, I, R)) := (ev_eq f_205_31).trans fin_iret0
theorem f_205_32 : fetch 205 32 = some (32, .aload_n 0, 1, [0], 0) := (fm_205 32).trans rfl
theorem u_205_32 {S : Scr} {d : Nat} {a1 a2 a3 a4 : AV} {st : List AV} {sh : Shp} {I : IM} {R : RM} {x : Nat} : ev S d 205 32 [.inr (.inl x), a1, a2, a3, a4] st (sh, I, R) = ev S d 205 33 [.inr (.inl x), a1, a2, a3, a4] (.inr (.inl x) :: st) (sh, I, R) := (ev_eq f_205_32).trans rfl
theorem f_205_33 : fetch 205 33 = some (33, .getfield 9, 3, [9, 0, 1, 79], 0) := (fm_205 33).trans rfl
theorem u_205_33 {S : Scr} {d : Nat} {a0 a1 a2 a3 a4 : AV} {st : List AV} {sh : Shp} {I : IM} {R : RM} {k : Nat} (h : tg sh k = 9) : ev S d 205 33 [a0, a1, a2, a3, a4] (.inr (.inl k) :: st) (sh, I, R) = ev S d 205 36 [a0, a1, a2, a3, a4] (rv (R k 0) :: st) (sh, I, R) := (ev_eq f_205_33).trans (congrArg (fin S d 205) (if_pos h))
theorem f_205_36 : fetch 205 36 = some (36, .iconst 0, 1, [], 0) := (fm_205 36).trans rfl
theorem u_205_36 {S : Scr} {d : Nat} {a0 a1 a2 a3 a4 : AV} {st : List AV} {sh : Shp} {I : IM} {R : RM} : ev S d 205 36 [a0, a1, a2, a3, a4] st (sh, I, R) = ev S d 205 37 [a0, a1, a2, a3, a4] (.inl 0 :: st) (sh, I, R) := (ev_eq f_205_36).trans rfl
theorem f_205_37 : fetch 205 37 = some (37, .iload_n 3, 1, [3], 0) := (fm_205 37).trans rfl
theorem u_205_37 {S : Scr} {d : Nat} {a0 a1 a2 a4 : AV} {st : List AV} {sh : Shp} {I : IM} {R : RM} {x : Int} : ev S d 205 37 [a0, a1, a2, .inl x, a4] st (sh, I, R) = ev S d 205 38 [a0, a1, a2, .inl x, a4] (.inl x :: st) (sh, I, R) := (ev_eq f_205_37).trans rfl
theorem f_205_38 : fetch 205 38 = some (38, .iadd, 1, [], 0) := (fm_205 38).trans rfl
theorem u_205_38 {S : Scr} {d : Nat} {a0 a1 a2 a3 a4 : AV} {st : List AV} {sh : Shp} {I : IM} {R : RM} {x y : Int} : ev S d 205 38 [a0, a1, a2, a3, a4] (.inl y :: .inl x :: st) (sh, I, R) = ev S d 205 39 [a0, a1, a2, a3, a4] (.inl (wr (x + y)) :: st) (sh, I, R) := (ev_eq f_205_38).trans rfl
theorem f_205_39 : fetch 205 39 = some (39, .iaload, 1, [], 0) := (fm_205 39).trans rfl
theorem u_205_39 {S : Scr} {d : Nat} {a0 a1 a2 a3 a4 : AV} {st : List AV} {sh : Shp} {I : IM} {R : RM} {k : Nat} {i : Int} (h : tg sh k = 100) (h0 : 0 ≤ i) (h1 : i < ln sh k) : ev S d 205 39 [a0, a1, a2, a3, a4] (.inl i :: .inr (.inl k) :: st) (sh, I, R) = ev S d 205 40 [a0, a1, a2, a3, a4] (.inl (I k i) :: st) (sh, I, R) := (ev_eq f_205_39).trans (congrArg (fin S d 205) (if_pos ⟨h, h0, h1⟩))
theorem f_205_40 : fetch 205 40 = some (40, .istore 4, 2, [4], 0) := (fm_205 40).trans rfl
theorem u_205_40 {S : Scr} {d : Nat} {a0 a1 a2 a3 a4 : AV} {st : List AV} {sh : Shp} {I : IM} {R : RM} {x : Int} : ev S d 205 40 [a0, a1, a2, a3, a4] (.inl x :: st) (sh, I, R) = ev S d 205 42 [a0, a1, a2, a3, .inl x] st (sh, I, R) := (ev_eq f_205_40).trans rfl
theorem f_205_42 : fetch 205 42 = some (42, .iload_n 2, 1, [2], 0) := (fm_205 42).trans rfl
theorem u_205_42 {S : Scr} {d : Nat} {a0 a1 a3 a4 : AV} {st : List AV} {sh : Shp} {I : IM} {R : RM} {x : Int} : ev S d 205 42 [a0, a1, .inl x, a3, a4] st (sh, I, R) = ev S d 205 43 [a0, a1, .inl x, a3, a4] (.inl x :: st) (sh, I, R) := (ev_eq f_205_42).trans rfl
theorem f_205_43 : fetch 205 43 = some (43, .tableswitch 101 0 3 #[29, 32, 53, 80], 29, [144, 0, 72, 1, 75, 2, 96, 3, 123], 0) := (fm_205 43).trans rfl
theorem u_205_43 {S : Scr} {d : Nat} {a0 a1 a2 a3 a4 : AV} {st : List AV} {sh : Shp} {I : IM} {R : RM} {x : Int} : ev S d 205 43 [a0, a1, a2, a3, a4] (.inl x :: st) (sh, I, R) = if x = 0 then ev S d 205 72 [a0, a1, a2, a3, a4] st (sh, I, R) else if x = 1 then ev S d 205 75 [a0, a1, a2, a3, a4] st (sh, I, R) else if x = 2 then ev S d 205 96 [a0, a1, a2, a3, a4] st (sh, I, R) else if x = 3 then ev S d 205 123 [a0, a1, a2, a3, a4] st (sh, I, R) else ev S d 205 144 [a0, a1, a2, a3, a4] st (sh, I, R) := by
  rw [ev_eq f_205_43]
  show ev S d 205 (swt 144 x [0, 72, 1, 75, 2, 96, 3, 123]) _ _ _ = _
  rw [ev_sw, ev_sw, ev_sw, ev_sw, ev_sw0]
  rfl
theorem f_205_72 : fetch 205 72 = some (72, .iload 4, 2, [4], 0) := (fm_205 72).trans rfl
theorem u_205_72 {S : Scr} {d : Nat} {a0 a1 a2 a3 : AV} {st : List AV} {sh : Shp} {I : IM} {R : RM} {x : Int} : ev S d 205 72 [a0, a1, a2, a3, .inl x] st (sh, I, R) = ev S d 205 74 [a0, a1, a2, a3, .inl x] (.inl x :: st) (sh, I, R) := (ev_eq f_205_72).trans rfl
theorem f_205_74 : fetch 205 74 = some (74, .ireturn, 1, [0], 0) := (fm_205 74).trans rfl
theorem u_205_74 {S : Scr} {d : Nat} {a0 a1 a2 a3 a4 : AV} {sh : Shp} {I : IM} {R : RM} {x : Int} : ev S d 205 74 [a0, a1, a2, a3, a4] [.inl x] (sh, I, R) = some (some (.inl x), (sh, I, R)) := (ev_eq f_205_74).trans fin_iret0
theorem f_205_75 : fetch 205 75 = some (75, .iload 4, 2, [4], 0) := (fm_205 75).trans rfl
theorem u_205_75 {S : Scr} {d : Nat} {a0 a1 a2 a3 : AV} {st : List AV} {sh : Shp} {I : IM} {R : RM} {x : Int} : ev S d 205 75 [a0, a1, a2, a3, .inl x] st (sh, I, R) = ev S d 205 77 [a0, a1, a2, a3, .inl x] (.inl x :: st) (sh, I, R) := (ev_eq f_205_75).trans rfl
theorem f_205_77 : fetch 205 77 = some (77, .iconst 1, 1, [], 1) := (fm_205 77).trans rfl
theorem u_205_77 {S : Scr} {d : Nat} {a0 a1 a2 a3 a4 : AV} {st : List AV} {sh : Shp} {I : IM} {R : RM} : ev S d 205 77 [a0, a1, a2, a3, a4] st (sh, I, R) = ev S d 205 78 [a0, a1, a2, a3, a4] (.inl 1 :: st) (sh, I, R) := (ev_eq f_205_77).trans rfl
theorem f_205_78 : fetch 205 78 = some (78, .if_icmp .ne 15, 3, [93], 0) := (fm_205 78).trans rfl
theorem u_205_78 {S : Scr} {d : Nat} {a0 a1 a2 a3 a4 : AV} {st : List AV} {sh : Shp} {I : IM} {R : RM} {x y : Int} : ev S d 205 78 [a0, a1, a2, a3, a4] (.inl y :: .inl x :: st) (sh, I, R) = if ¬ x = y then ev S d 205 93 [a0, a1, a2, a3, a4] st (sh, I, R) else ev S d 205 81 [a0, a1, a2, a3, a4] st (sh, I, R) := (ev_eq f_205_78).trans fin_icmp_ne
theorem f_205_81 : fetch 205 81 = some (81, .aload_n 0, 1, [0], 0) := (fm_205 81).trans rfl
theorem u_205_81 {S : Scr} {d : Nat} {a1 a2 a3 a4 : AV} {st : List AV} {sh : Shp} {I : IM} {R : RM} {x : Nat} : ev S d 205 81 [.inr (.inl x), a1, a2, a3, a4] st (sh, I, R) = ev S d 205 82 [.inr (.inl x), a1, a2, a3, a4] (.inr (.inl x) :: st) (sh, I, R) := (ev_eq f_205_81).trans rfl
theorem f_205_82 : fetch 205 82 = some (82, .getfield 9, 3, [9, 0, 1, 79], 0) := (fm_205 82).trans rfl
theorem u_205_82 {S : Scr} {d : Nat} {a0 a1 a2 a3 a4 : AV} {st : List AV} {sh : Shp} {I : IM} {R : RM} {k : Nat} (h : tg sh k = 9) : ev S d 205 82 [a0, a1, a2, a3, a4] (.inr (.inl k) :: st) (sh, I, R) = ev S d 205 85 [a0, a1, a2, a3, a4] (rv (R k 0) :: st) (sh, I, R) := (ev_eq f_205_82).trans (congrArg (fin S d 205) (if_pos h))
theorem f_205_85 : fetch 205 85 = some (85, .bipush 90, 2, [], 90) := (fm_205 85).trans rfl
theorem u_205_85 {S : Scr} {d : Nat} {a0 a1 a2 a3 a4 : AV} {st : List AV} {sh : Shp} {I : IM} {R : RM} : ev S d 205 85 [a0, a1, a2, a3, a4] st (sh, I, R) = ev S d 205 87 [a0, a1, a2, a3, a4] (.inl 90 :: st) (sh, I, R) := (ev_eq f_205_85).trans rfl
theorem f_205_87 : fetch 205 87 = some (87, .iload_n 3, 1, [3], 0) := (fm_205 87).trans rfl
theorem u_205_87 {S : Scr} {d : Nat} {a0 a1 a2 a4 : AV} {st : List AV} {sh : Shp} {I : IM} {R : RM} {x : Int} : ev S d 205 87 [a0, a1, a2, .inl x, a4] st (sh, I, R) = ev S d 205 88 [a0, a1, a2, .inl x, a4] (.inl x :: st) (sh, I, R) := (ev_eq f_205_87).trans rfl
theorem f_205_88 : fetch 205 88 = some (88, .iadd, 1, [], 0) := (fm_205 88).trans rfl
theorem u_205_88 {S : Scr} {d : Nat} {a0 a1 a2 a3 a4 : AV} {st : List AV} {sh : Shp} {I : IM} {R : RM} {x y : Int} : ev S d 205 88 [a0, a1, a2, a3, a4] (.inl y :: .inl x :: st) (sh, I, R) = ev S d 205 89 [a0, a1, a2, a3, a4] (.inl (wr (x + y)) :: st) (sh, I, R) := (ev_eq f_205_88).trans rfl
theorem f_205_89 : fetch 205 89 = some (89, .iaload, 1, [], 0) := (fm_205 89).trans rfl
theorem u_205_89 {S : Scr} {d : Nat} {a0 a1 a2 a3 a4 : AV} {st : List AV} {sh : Shp} {I : IM} {R : RM} {k : Nat} {i : Int} (h : tg sh k = 100) (h0 : 0 ≤ i) (h1 : i < ln sh k) : ev S d 205 89 [a0, a1, a2, a3, a4] (.inl i :: .inr (.inl k) :: st) (sh, I, R) = ev S d 205 90 [a0, a1, a2, a3, a4] (.inl (I k i) :: st) (sh, I, R) := (ev_eq f_205_89).trans (congrArg (fin S d 205) (if_pos ⟨h, h0, h1⟩))
theorem f_205_90 : fetch 205 90 = some (90, .goto 5, 3, [95], 0) := (fm_205 90).trans rfl
theorem u_205_90 {S : Scr} {d : Nat} {a0 a1 a2 a3 a4 : AV} {st : List AV} {sh : Shp} {I : IM} {R : RM} : ev S d 205 90 [a0, a1, a2, a3, a4] st (sh, I, R) = ev S d 205 95 [a0, a1, a2, a3, a4] st (sh, I, R) := (ev_eq f_205_90).trans rfl
theorem f_205_93 : fetch 205 93 = some (93, .bipush (-12), 2, [], (-12)) := (fm_205 93).trans rfl
theorem u_205_93 {S : Scr} {d : Nat} {a0 a1 a2 a3 a4 : AV} {st : List AV} {sh : Shp} {I : IM} {R : RM} : ev S d 205 93 [a0, a1, a2, a3, a4] st (sh, I, R) = ev S d 205 95 [a0, a1, a2, a3, a4] (.inl (-12) :: st) (sh, I, R) := (ev_eq f_205_93).trans rfl
theorem f_205_95 : fetch 205 95 = some (95, .ireturn, 1, [0], 0) := (fm_205 95).trans rfl
theorem u_205_95 {S : Scr} {d : Nat} {a0 a1 a2 a3 a4 : AV} {sh : Shp} {I : IM} {R : RM} {x : Int} : ev S d 205 95 [a0, a1, a2, a3, a4] [.inl x] (sh, I, R) = some (some (.inl x), (sh, I, R)) := (ev_eq f_205_95).trans fin_iret0
theorem f_205_96 : fetch 205 96 = some (96, .iload 4, 2, [4], 0) := (fm_205 96).trans rfl
theorem u_205_96 {S : Scr} {d : Nat} {a0 a1 a2 a3 : AV} {st : List AV} {sh : Shp} {I : IM} {R : RM} {x : Int} : ev S d 205 96 [a0, a1, a2, a3, .inl x] st (sh, I, R) = ev S d 205 98 [a0, a1, a2, a3, .inl x] (.inl x :: st) (sh, I, R) := (ev_eq f_205_96).trans rfl
theorem f_205_98 : fetch 205 98 = some (98, .iconst 2, 1, [], 2) := (fm_205 98).trans rfl
theorem u_205_98 {S : Scr} {d : Nat} {a0 a1 a2 a3 a4 : AV} {st : List AV} {sh : Shp} {I : IM} {R : RM} : ev S d 205 98 [a0, a1, a2, a3, a4] st (sh, I, R) = ev S d 205 99 [a0, a1, a2, a3, a4] (.inl 2 :: st) (sh, I, R) := (ev_eq f_205_98).trans rfl
theorem f_205_99 : fetch 205 99 = some (99, .if_icmp .eq 9, 3, [108], 0) := (fm_205 99).trans rfl
theorem u_205_99 {S : Scr} {d : Nat} {a0 a1 a2 a3 a4 : AV} {st : List AV} {sh : Shp} {I : IM} {R : RM} {x y : Int} : ev S d 205 99 [a0, a1, a2, a3, a4] (.inl y :: .inl x :: st) (sh, I, R) = if x = y then ev S d 205 108 [a0, a1, a2, a3, a4] st (sh, I, R) else ev S d 205 102 [a0, a1, a2, a3, a4] st (sh, I, R) := (ev_eq f_205_99).trans fin_icmp_eq
theorem f_205_102 : fetch 205 102 = some (102, .iload 4, 2, [4], 0) := (fm_205 102).trans rfl
theorem u_205_102 {S : Scr} {d : Nat} {a0 a1 a2 a3 : AV} {st : List AV} {sh : Shp} {I : IM} {R : RM} {x : Int} : ev S d 205 102 [a0, a1, a2, a3, .inl x] st (sh, I, R) = ev S d 205 104 [a0, a1, a2, a3, .inl x] (.inl x :: st) (sh, I, R) := (ev_eq f_205_102).trans rfl
theorem f_205_104 : fetch 205 104 = some (104, .iconst 3, 1, [], 3) := (fm_205 104).trans rfl
theorem u_205_104 {S : Scr} {d : Nat} {a0 a1 a2 a3 a4 : AV} {st : List AV} {sh : Shp} {I : IM} {R : RM} : ev S d 205 104 [a0, a1, a2, a3, a4] st (sh, I, R) = ev S d 205 105 [a0, a1, a2, a3, a4] (.inl 3 :: st) (sh, I, R) := (ev_eq f_205_104).trans rfl
theorem f_205_105 : fetch 205 105 = some (105, .if_icmp .ne 15, 3, [120], 0) := (fm_205 105).trans rfl
theorem u_205_105 {S : Scr} {d : Nat} {a0 a1 a2 a3 a4 : AV} {st : List AV} {sh : Shp} {I : IM} {R : RM} {x y : Int} : ev S d 205 105 [a0, a1, a2, a3, a4] (.inl y :: .inl x :: st) (sh, I, R) = if ¬ x = y then ev S d 205 120 [a0, a1, a2, a3, a4] st (sh, I, R) else ev S d 205 108 [a0, a1, a2, a3, a4] st (sh, I, R) := (ev_eq f_205_105).trans fin_icmp_ne
theorem f_205_108 : fetch 205 108 = some (108, .aload_n 0, 1, [0], 0) := (fm_205 108).trans rfl
theorem u_205_108 {S : Scr} {d : Nat} {a1 a2 a3 a4 : AV} {st : List AV} {sh : Shp} {I : IM} {R : RM} {x : Nat} : ev S d 205 108 [.inr (.inl x), a1, a2, a3, a4] st (sh, I, R) = ev S d 205 109 [.inr (.inl x), a1, a2, a3, a4] (.inr (.inl x) :: st) (sh, I, R) := (ev_eq f_205_108).trans rfl
theorem f_205_109 : fetch 205 109 = some (109, .iload_n 3, 1, [3], 0) := (fm_205 109).trans rfl
theorem u_205_109 {S : Scr} {d : Nat} {a0 a1 a2 a4 : AV} {st : List AV} {sh : Shp} {I : IM} {R : RM} {x : Int} : ev S d 205 109 [a0, a1, a2, .inl x, a4] st (sh, I, R) = ev S d 205 110 [a0, a1, a2, .inl x, a4] (.inl x :: st) (sh, I, R) := (ev_eq f_205_109).trans rfl
theorem f_205_110 : fetch 205 110 = some (110, .iconst 0, 1, [], 0) := (fm_205 110).trans rfl
theorem u_205_110 {S : Scr} {d : Nat} {a0 a1 a2 a3 a4 : AV} {st : List AV} {sh : Shp} {I : IM} {R : RM} : ev S d 205 110 [a0, a1, a2, a3, a4] st (sh, I, R) = ev S d 205 111 [a0, a1, a2, a3, a4] (.inl 0 :: st) (sh, I, R) := (ev_eq f_205_110).trans rfl
theorem f_205_111 : fetch 205 111 = some (111, .invokevirtual 128, 3, [135, 2, 143], 0) := (fm_205 111).trans rfl
theorem u_205_111 {S : Scr} {d : Nat} {a0 a1 a2 a3 a4 : AV} {st : List AV} {sh : Shp} {I : IM} {R : RM} {x0 : Int} {x1 : Int} {k : Nat} (h : tg sh k = 9) (hr : st.length ≤ 8) : ev S d 205 111 [a0, a1, a2, a3, a4] (.inl x1 :: .inl x0 :: .inr (.inl k) :: st) (sh, I, R) = bnd (cl d 135 [.inr (.inl k), .inl x0, .inl x1] (sh, I, R)) (fun v M => ev S d 205 114 [a0, a1, a2, a3, a4] (psh v st) M) := (ev_eq f_205_111).trans (congrArg (fin S d 205) (if_pos ⟨h, rfl, hr⟩))
theorem f_205_114 : fetch 205 114 = some (114, .invokestatic 131, 3, [136, 1, 144], 0) := (fm_205 114).trans rfl
theorem u_205_114 {S : Scr} {d : Nat} {a0 a1 a2 a3 a4 : AV} {st : List AV} {sh : Shp} {I : IM} {R : RM} {x0 : Int} (hr : st.length ≤ 8) : ev S d 205 114 [a0, a1, a2, a3, a4] (.inl x0 :: st) (sh, I, R) = bnd (cl d 136 [.inl x0] (sh, I, R)) (fun v M => ev S d 205 117 [a0, a1, a2, a3, a4] (psh v st) M) := (ev_eq f_205_114).trans (congrArg (fin S d 205) (if_pos ⟨rfl, hr⟩))
theorem f_205_117 : fetch 205 117 = some (117, .goto 5, 3, [122], 0) := (fm_205 117).trans rfl
theorem u_205_117 {S : Scr} {d : Nat} {a0 a1 a2 a3 a4 : AV} {st : List AV} {sh : Shp} {I : IM} {R : RM} : ev S d 205 117 [a0, a1, a2, a3, a4] st (sh, I, R) = ev S d 205 122 [a0, a1, a2, a3, a4] st (sh, I, R) := (ev_eq f_205_117).trans rfl
theorem f_205_120 : fetch 205 120 = some (120, .bipush (-12), 2, [], (-12)) := (fm_205 120).trans rfl
theorem u_205_120 {S : Scr} {d : Nat} {a0 a1 a2 a3 a4 : AV} {st : List AV} {sh : Shp} {I : IM} {R : RM} : ev S d 205 120 [a0, a1, a2, a3, a4] st (sh, I, R) = ev S d 205 122 [a0, a1, a2, a3, a4] (.inl (-12) :: st) (sh, I, R) := (ev_eq f_205_120).trans rfl
theorem f_205_122 : fetch 205 122 = some (122, .ireturn, 1, [0], 0) := (fm_205 122).trans rfl
theorem u_205_122 {S : Scr} {d : Nat} {a0 a1 a2 a3 a4 : AV} {sh : Shp} {I : IM} {R : RM} {x : Int} : ev S d 205 122 [a0, a1, a2, a3, a4] [.inl x] (sh, I, R) = some (some (.inl x), (sh, I, R)) := (ev_eq f_205_122).trans fin_iret0
theorem f_205_123 : fetch 205 123 = some (123, .iload 4, 2, [4], 0) := (fm_205 123).trans rfl
theorem u_205_123 {S : Scr} {d : Nat} {a0 a1 a2 a3 : AV} {st : List AV} {sh : Shp} {I : IM} {R : RM} {x : Int} : ev S d 205 123 [a0, a1, a2, a3, .inl x] st (sh, I, R) = ev S d 205 125 [a0, a1, a2, a3, .inl x] (.inl x :: st) (sh, I, R) := (ev_eq f_205_123).trans rfl
theorem f_205_125 : fetch 205 125 = some (125, .iconst 3, 1, [], 3) := (fm_205 125).trans rfl
theorem u_205_125 {S : Scr} {d : Nat} {a0 a1 a2 a3 a4 : AV} {st : List AV} {sh : Shp} {I : IM} {R : RM} : ev S d 205 125 [a0, a1, a2, a3, a4] st (sh, I, R) = ev S d 205 126 [a0, a1, a2, a3, a4] (.inl 3 :: st) (sh, I, R) := (ev_eq f_205_125).trans rfl
theorem f_205_126 : fetch 205 126 = some (126, .if_icmp .ne 15, 3, [141], 0) := (fm_205 126).trans rfl
theorem u_205_126 {S : Scr} {d : Nat} {a0 a1 a2 a3 a4 : AV} {st : List AV} {sh : Shp} {I : IM} {R : RM} {x y : Int} : ev S d 205 126 [a0, a1, a2, a3, a4] (.inl y :: .inl x :: st) (sh, I, R) = if ¬ x = y then ev S d 205 141 [a0, a1, a2, a3, a4] st (sh, I, R) else ev S d 205 129 [a0, a1, a2, a3, a4] st (sh, I, R) := (ev_eq f_205_126).trans fin_icmp_ne
theorem f_205_129 : fetch 205 129 = some (129, .aload_n 0, 1, [0], 0) := (fm_205 129).trans rfl
theorem u_205_129 {S : Scr} {d : Nat} {a1 a2 a3 a4 : AV} {st : List AV} {sh : Shp} {I : IM} {R : RM} {x : Nat} : ev S d 205 129 [.inr (.inl x), a1, a2, a3, a4] st (sh, I, R) = ev S d 205 130 [.inr (.inl x), a1, a2, a3, a4] (.inr (.inl x) :: st) (sh, I, R) := (ev_eq f_205_129).trans rfl
theorem f_205_130 : fetch 205 130 = some (130, .iload_n 3, 1, [3], 0) := (fm_205 130).trans rfl
theorem u_205_130 {S : Scr} {d : Nat} {a0 a1 a2 a4 : AV} {st : List AV} {sh : Shp} {I : IM} {R : RM} {x : Int} : ev S d 205 130 [a0, a1, a2, .inl x, a4] st (sh, I, R) = ev S d 205 131 [a0, a1, a2, .inl x, a4] (.inl x :: st) (sh, I, R) := (ev_eq f_205_130).trans rfl
theorem f_205_131 : fetch 205 131 = some (131, .iconst 2, 1, [], 2) := (fm_205 131).trans rfl
theorem u_205_131 {S : Scr} {d : Nat} {a0 a1 a2 a3 a4 : AV} {st : List AV} {sh : Shp} {I : IM} {R : RM} : ev S d 205 131 [a0, a1, a2, a3, a4] st (sh, I, R) = ev S d 205 132 [a0, a1, a2, a3, a4] (.inl 2 :: st) (sh, I, R) := (ev_eq f_205_131).trans rfl
theorem f_205_132 : fetch 205 132 = some (132, .invokevirtual 128, 3, [135, 2, 143], 0) := (fm_205 132).trans rfl
theorem u_205_132 {S : Scr} {d : Nat} {a0 a1 a2 a3 a4 : AV} {st : List AV} {sh : Shp} {I : IM} {R : RM} {x0 : Int} {x1 : Int} {k : Nat} (h : tg sh k = 9) (hr : st.length ≤ 8) : ev S d 205 132 [a0, a1, a2, a3, a4] (.inl x1 :: .inl x0 :: .inr (.inl k) :: st) (sh, I, R) = bnd (cl d 135 [.inr (.inl k), .inl x0, .inl x1] (sh, I, R)) (fun v M => ev S d 205 135 [a0, a1, a2, a3, a4] (psh v st) M) := (ev_eq f_205_132).trans (congrArg (fin S d 205) (if_pos ⟨h, rfl, hr⟩))
theorem f_205_135 : fetch 205 135 = some (135, .invokestatic 131, 3, [136, 1, 144], 0) := (fm_205 135).trans rfl
theorem u_205_135 {S : Scr} {d : Nat} {a0 a1 a2 a3 a4 : AV} {st : List AV} {sh : Shp} {I : IM} {R : RM} {x0 : Int} (hr : st.length ≤ 8) : ev S d 205 135 [a0, a1, a2, a3, a4] (.inl x0 :: st) (sh, I, R) = bnd (cl d 136 [.inl x0] (sh, I, R)) (fun v M => ev S d 205 138 [a0, a1, a2, a3, a4] (psh v st) M) := (ev_eq f_205_135).trans (congrArg (fin S d 205) (if_pos ⟨rfl, hr⟩))
theorem f_205_138 : fetch 205 138 = some (138, .goto 5, 3, [143], 0) := (fm_205 138).trans rfl
theorem u_205_138 {S : Scr} {d : Nat} {a0 a1 a2 a3 a4 : AV} {st : List AV} {sh : Shp} {I : IM} {R : RM} : ev S d 205 138 [a0, a1, a2, a3, a4] st (sh, I, R) = ev S d 205 143 [a0, a1, a2, a3, a4] st (sh, I, R) := (ev_eq f_205_138).trans rfl
theorem f_205_141 : fetch 205 141 = some (141, .bipush (-12), 2, [], (-12)) := (fm_205 141).trans rfl
theorem u_205_141 {S : Scr} {d : Nat} {a0 a1 a2 a3 a4 : AV} {st : List AV} {sh : Shp} {I : IM} {R : RM} : ev S d 205 141 [a0, a1, a2, a3, a4] st (sh, I, R) = ev S d 205 143 [a0, a1, a2, a3, a4] (.inl (-12) :: st) (sh, I, R) := (ev_eq f_205_141).trans rfl
theorem f_205_143 : fetch 205 143 = some (143, .ireturn, 1, [0], 0) := (fm_205 143).trans rfl
theorem u_205_143 {S : Scr} {d : Nat} {a0 a1 a2 a3 a4 : AV} {sh : Shp} {I : IM} {R : RM} {x : Int} : ev S d 205 143 [a0, a1, a2, a3, a4] [.inl x] (sh, I, R) = some (some (.inl x), (sh, I, R)) := (ev_eq f_205_143).trans fin_iret0
theorem f_205_144 : fetch 205 144 = some (144, .iload 4, 2, [4], 0) := (fm_205 144).trans rfl
theorem u_205_144 {S : Scr} {d : Nat} {a0 a1 a2 a3 : AV} {st : List AV} {sh : Shp} {I : IM} {R : RM} {x : Int} : ev S d 205 144 [a0, a1, a2, a3, .inl x] st (sh, I, R) = ev S d 205 146 [a0, a1, a2, a3, .inl x] (.inl x :: st) (sh, I, R) := (ev_eq f_205_144).trans rfl
theorem f_205_146 : fetch 205 146 = some (146, .iconst 4, 1, [], 4) := (fm_205 146).trans rfl
theorem u_205_146 {S : Scr} {d : Nat} {a0 a1 a2 a3 a4 : AV} {st : List AV} {sh : Shp} {I : IM} {R : RM} : ev S d 205 146 [a0, a1, a2, a3, a4] st (sh, I, R) = ev S d 205 147 [a0, a1, a2, a3, a4] (.inl 4 :: st) (sh, I, R) := (ev_eq f_205_146).trans rfl
theorem f_205_147 : fetch 205 147 = some (147, .if_icmp .ne 28, 3, [175], 0) := (fm_205 147).trans rfl
theorem u_205_147 {S : Scr} {d : Nat} {a0 a1 a2 a3 a4 : AV} {st : List AV} {sh : Shp} {I : IM} {R : RM} {x y : Int} : ev S d 205 147 [a0, a1, a2, a3, a4] (.inl y :: .inl x :: st) (sh, I, R) = if ¬ x = y then ev S d 205 175 [a0, a1, a2, a3, a4] st (sh, I, R) else ev S d 205 150 [a0, a1, a2, a3, a4] st (sh, I, R) := (ev_eq f_205_147).trans fin_icmp_ne
theorem f_205_150 : fetch 205 150 = some (150, .bipush 10, 2, [], 10) := (fm_205 150).trans rfl
theorem u_205_150 {S : Scr} {d : Nat} {a0 a1 a2 a3 a4 : AV} {st : List AV} {sh : Shp} {I : IM} {R : RM} : ev S d 205 150 [a0, a1, a2, a3, a4] st (sh, I, R) = ev S d 205 152 [a0, a1, a2, a3, a4] (.inl 10 :: st) (sh, I, R) := (ev_eq f_205_150).trans rfl
theorem f_205_152 : fetch 205 152 = some (152, .aload_n 0, 1, [0], 0) := (fm_205 152).trans rfl
theorem u_205_152 {S : Scr} {d : Nat} {a1 a2 a3 a4 : AV} {st : List AV} {sh : Shp} {I : IM} {R : RM} {x : Nat} : ev S d 205 152 [.inr (.inl x), a1, a2, a3, a4] st (sh, I, R) = ev S d 205 153 [.inr (.inl x), a1, a2, a3, a4] (.inr (.inl x) :: st) (sh, I, R) := (ev_eq f_205_152).trans rfl
theorem f_205_153 : fetch 205 153 = some (153, .getfield 9, 3, [9, 0, 1, 79], 0) := (fm_205 153).trans rfl
theorem u_205_153 {S : Scr} {d : Nat} {a0 a1 a2 a3 a4 : AV} {st : List AV} {sh : Shp} {I : IM} {R : RM} {k : Nat} (h : tg sh k = 9) : ev S d 205 153 [a0, a1, a2, a3, a4] (.inr (.inl k) :: st) (sh, I, R) = ev S d 205 156 [a0, a1, a2, a3, a4] (rv (R k 0) :: st) (sh, I, R) := (ev_eq f_205_153).trans (congrArg (fin S d 205) (if_pos h))
theorem f_205_156 : fetch 205 156 = some (156, .bipush 30, 2, [], 30) := (fm_205 156).trans rfl
theorem u_205_156 {S : Scr} {d : Nat} {a0 a1 a2 a3 a4 : AV} {st : List AV} {sh : Shp} {I : IM} {R : RM} : ev S d 205 156 [a0, a1, a2, a3, a4] st (sh, I, R) = ev S d 205 158 [a0, a1, a2, a3, a4] (.inl 30 :: st) (sh, I, R) := (ev_eq f_205_156).trans rfl
theorem f_205_158 : fetch 205 158 = some (158, .iload_n 3, 1, [3], 0) := (fm_205 158).trans rfl
theorem u_205_158 {S : Scr} {d : Nat} {a0 a1 a2 a4 : AV} {st : List AV} {sh : Shp} {I : IM} {R : RM} {x : Int} : ev S d 205 158 [a0, a1, a2, .inl x, a4] st (sh, I, R) = ev S d 205 159 [a0, a1, a2, .inl x, a4] (.inl x :: st) (sh, I, R) := (ev_eq f_205_158).trans rfl
theorem f_205_159 : fetch 205 159 = some (159, .iadd, 1, [], 0) := (fm_205 159).trans rfl
theorem u_205_159 {S : Scr} {d : Nat} {a0 a1 a2 a3 a4 : AV} {st : List AV} {sh : Shp} {I : IM} {R : RM} {x y : Int} : ev S d 205 159 [a0, a1, a2, a3, a4] (.inl y :: .inl x :: st) (sh, I, R) = ev S d 205 160 [a0, a1, a2, a3, a4] (.inl (wr (x + y)) :: st) (sh, I, R) := (ev_eq f_205_159).trans rfl
theorem f_205_160 : fetch 205 160 = some (160, .iaload, 1, [], 0) := (fm_205 160).trans rfl
theorem u_205_160 {S : Scr} {d : Nat} {a0 a1 a2 a3 a4 : AV} {st : List AV} {sh : Shp} {I : IM} {R : RM} {k : Nat} {i : Int} (h : tg sh k = 100) (h0 : 0 ≤ i) (h1 : i < ln sh k) : ev S d 205 160 [a0, a1, a2, a3, a4] (.inl i :: .inr (.inl k) :: st) (sh, I, R) = ev S d 205 161 [a0, a1, a2, a3, a4] (.inl (I k i) :: st) (sh, I, R) := (ev_eq f_205_160).trans (congrArg (fin S d 205) (if_pos ⟨h, h0, h1⟩))
theorem f_205_161 : fetch 205 161 = some (161, .imul, 1, [], 0) := (fm_205 161).trans rfl
theorem u_205_161 {S : Scr} {d : Nat} {a0 a1 a2 a3 a4 : AV} {st : List AV} {sh : Shp} {I : IM} {R : RM} {x y : Int} : ev S d 205 161 [a0, a1, a2, a3, a4] (.inl y :: .inl x :: st) (sh, I, R) = ev S d 205 162 [a0, a1, a2, a3, a4] (.inl (wr (x * y)) :: st) (sh, I, R) := (ev_eq f_205_161).trans rfl
theorem f_205_162 : fetch 205 162 = some (162, .aload_n 0, 1, [0], 0) := (fm_205 162).trans rfl
theorem u_205_162 {S : Scr} {d : Nat} {a1 a2 a3 a4 : AV} {st : List AV} {sh : Shp} {I : IM} {R : RM} {x : Nat} : ev S d 205 162 [.inr (.inl x), a1, a2, a3, a4] st (sh, I, R) = ev S d 205 163 [.inr (.inl x), a1, a2, a3, a4] (.inr (.inl x) :: st) (sh, I, R) := (ev_eq f_205_162).trans rfl
theorem f_205_163 : fetch 205 163 = some (163, .getfield 9, 3, [9, 0, 1, 79], 0) := (fm_205 163).trans rfl
theorem u_205_163 {S : Scr} {d : Nat} {a0 a1 a2 a3 a4 : AV} {st : List AV} {sh : Shp} {I : IM} {R : RM} {k : Nat} (h : tg sh k = 9) : ev S d 205 163 [a0, a1, a2, a3, a4] (.inr (.inl k) :: st) (sh, I, R) = ev S d 205 166 [a0, a1, a2, a3, a4] (rv (R k 0) :: st) (sh, I, R) := (ev_eq f_205_163).trans (congrArg (fin S d 205) (if_pos h))
theorem f_205_166 : fetch 205 166 = some (166, .bipush 60, 2, [], 60) := (fm_205 166).trans rfl
theorem u_205_166 {S : Scr} {d : Nat} {a0 a1 a2 a3 a4 : AV} {st : List AV} {sh : Shp} {I : IM} {R : RM} : ev S d 205 166 [a0, a1, a2, a3, a4] st (sh, I, R) = ev S d 205 168 [a0, a1, a2, a3, a4] (.inl 60 :: st) (sh, I, R) := (ev_eq f_205_166).trans rfl
theorem f_205_168 : fetch 205 168 = some (168, .iload_n 3, 1, [3], 0) := (fm_205 168).trans rfl
theorem u_205_168 {S : Scr} {d : Nat} {a0 a1 a2 a4 : AV} {st : List AV} {sh : Shp} {I : IM} {R : RM} {x : Int} : ev S d 205 168 [a0, a1, a2, .inl x, a4] st (sh, I, R) = ev S d 205 169 [a0, a1, a2, .inl x, a4] (.inl x :: st) (sh, I, R) := (ev_eq f_205_168).trans rfl
theorem f_205_169 : fetch 205 169 = some (169, .iadd, 1, [], 0) := (fm_205 169).trans rfl
theorem u_205_169 {S : Scr} {d : Nat} {a0 a1 a2 a3 a4 : AV} {st : List AV} {sh : Shp} {I : IM} {R : RM} {x y : Int} : ev S d 205 169 [a0, a1, a2, a3, a4] (.inl y :: .inl x :: st) (sh, I, R) = ev S d 205 170 [a0, a1, a2, a3, a4] (.inl (wr (x + y)) :: st) (sh, I, R) := (ev_eq f_205_169).trans rfl
theorem f_205_170 : fetch 205 170 = some (170, .iaload, 1, [], 0) := (fm_205 170).trans rfl
theorem u_205_170 {S : Scr} {d : Nat} {a0 a1 a2 a3 a4 : AV} {st : List AV} {sh : Shp} {I : IM} {R : RM} {k : Nat} {i : Int} (h : tg sh k = 100) (h0 : 0 ≤ i) (h1 : i < ln sh k) : ev S d 205 170 [a0, a1, a2, a3, a4] (.inl i :: .inr (.inl k) :: st) (sh, I, R) = ev S d 205 171 [a0, a1, a2, a3, a4] (.inl (I k i) :: st) (sh, I, R) := (ev_eq f_205_170).trans (congrArg (fin S d 205) (if_pos ⟨h, h0, h1⟩))
theorem f_205_171 : fetch 205 171 = some (171, .iadd, 1, [], 0) := (fm_205 171).trans rfl
theorem u_205_171 {S : Scr} {d : Nat} {a0 a1 a2 a3 a4 : AV} {st : List AV} {sh : Shp} {I : IM} {R : RM} {x y : Int} : ev S d 205 171 [a0, a1, a2, a3, a4] (.inl y :: .inl x :: st) (sh, I, R) = ev S d 205 172 [a0, a1, a2, a3, a4] (.inl (wr (x + y)) :: st) (sh, I, R) := (ev_eq f_205_171).trans rfl
theorem f_205_172 : fetch 205 172 = some (172, .goto 5, 3, [177], 0) := (fm_205 172).trans rfl
theorem u_205_172 {S : Scr} {d : Nat} {a0 a1 a2 a3 a4 : AV} {st : List AV} {sh : Shp} {I : IM} {R : RM} : ev S d 205 172 [a0, a1, a2, a3, a4] st (sh, I, R) = ev S d 205 177 [a0, a1, a2, a3, a4] st (sh, I, R) := (ev_eq f_205_172).trans rfl
theorem f_205_175 : fetch 205 175 = some (175, .bipush (-12), 2, [], (-12)) := (fm_205 175).trans rfl
theorem u_205_175 {S : Scr} {d : Nat} {a0 a1 a2 a3 a4 : AV} {st : List AV} {sh : Shp} {I : IM} {R : RM} : ev S d 205 175 [a0, a1, a2, a3, a4] st (sh, I, R) = ev S d 205 177 [a0, a1, a2, a3, a4] (.inl (-12) :: st) (sh, I, R) := (ev_eq f_205_175).trans rfl
theorem f_205_177 : fetch 205 177 = some (177, .ireturn, 1, [0], 0) := (fm_205 177).trans rfl
theorem u_205_177 {S : Scr} {d : Nat} {a0 a1 a2 a3 a4 : AV} {sh : Shp} {I : IM} {R : RM} {x : Int} : ev S d 205 177 [a0, a1, a2, a3, a4] [.inl x] (sh, I, R) = some (some (.inl x), (sh, I, R)) := (ev_eq f_205_177).trans fin_iret0
theorem c_206 {d : Nat} {a0 a1 a2 : AV} {M : Mem} : cl (d + 1) 206 [a0, a1, a2] M = ev S0 d 206 0 [a0, a1, a2, .inr (.inr 1), .inr (.inr 1)] [] M := (cl_eq (as := [a0, a1, a2]) (show 3 ≤ maxOf 206 by decide +kernel)).trans rfl
theorem mt_206 : MT[206]? = some m_206 := rfl
theorem fm_206 (pc : Nat) : fetch 206 pc = lk m_206.2.2.2.2.2 pc := by
  unfold fetch
  rw [mt_206]
theorem f_206_0 : fetch 206 0 = some (0, .iconst 0, 1, [], 0) := (fm_206 0).trans rfl
theorem u_206_0 {S : Scr} {d : Nat} {a0 a1 a2 a3 a4 : AV} {st : List AV} {sh : Shp} {I : IM} {R : RM} : ev S d 206 0 [a0, a1, a2, a3, a4] st (sh, I, R) = ev S d 206 1 [a0, a1, a2, a3, a4] (.inl 0 :: st) (sh, I, R) := (ev_eq f_206_0).trans rfl
theorem f_206_1 : fetch 206 1 = some (1, .istore_n 3, 1, [3], 0) := (fm_206 1).trans rfl
theorem u_206_1 {S : Scr} {d : Nat} {a0 a1 a2 a3 a4 : AV} {st : List AV} {sh : Shp} {I : IM} {R : RM} {x : Int} : ev S d 206 1 [a0, a1, a2, a3, a4] (.inl x :: st) (sh, I, R) = ev S d 206 2 [a0, a1, a2, .inl x, a4] st (sh, I, R) := (ev_eq f_206_1).trans rfl
theorem f_206_2 : fetch 206 2 = some (2, .iconst 0, 1, [], 0) := (fm_206 2).trans rfl
theorem u_206_2 {S : Scr} {d : Nat} {a0 a1 a2 a3 a4 : AV} {st : List AV} {sh : Shp} {I : IM} {R : RM} : ev S d 206 2 [a0, a1, a2, a3, a4] st (sh, I, R) = ev S d 206 3 [a0, a1, a2, a3, a4] (.inl 0 :: st) (sh, I, R) := (ev_eq f_206_2).trans rfl
theorem f_206_3 : fetch 206 3 = some (3, .istore 4, 2, [4], 0) := (fm_206 3).trans rfl
theorem u_206_3 {S : Scr} {d : Nat} {a0 a1 a2 a3 a4 : AV} {st : List AV} {sh : Shp} {I : IM} {R : RM} {x : Int} : ev S d 206 3 [a0, a1, a2, a3, a4] (.inl x :: st) (sh, I, R) = ev S d 206 5 [a0, a1, a2, a3, .inl x] st (sh, I, R) := (ev_eq f_206_3).trans rfl
theorem f_206_5 : fetch 206 5 = some (5, .iload 4, 2, [4], 0) := (fm_206 5).trans rfl
theorem u_206_5 {S : Scr} {d : Nat} {a0 a1 a2 a3 : AV} {st : List AV} {sh : Shp} {I : IM} {R : RM} {x : Int} : ev S d 206 5 [a0, a1, a2, a3, .inl x] st (sh, I, R) = ev S d 206 7 [a0, a1, a2, a3, .inl x] (.inl x :: st) (sh, I, R) := (ev_eq f_206_5).trans rfl
theorem f_206_7 : fetch 206 7 = some (7, .bipush 30, 2, [], 30) := (fm_206 7).trans rfl
theorem u_206_7 {S : Scr} {d : Nat} {a0 a1 a2 a3 a4 : AV} {st : List AV} {sh : Shp} {I : IM} {R : RM} : ev S d 206 7 [a0, a1, a2, a3, a4] st (sh, I, R) = ev S d 206 9 [a0, a1, a2, a3, a4] (.inl 30 :: st) (sh, I, R) := (ev_eq f_206_7).trans rfl
theorem f_206_9 : fetch 206 9 = some (9, .if_icmp .ge 34, 3, [43], 0) := (fm_206 9).trans rfl
theorem u_206_9 {S : Scr} {d : Nat} {a0 a1 a2 a3 a4 : AV} {st : List AV} {sh : Shp} {I : IM} {R : RM} {x y : Int} : ev S d 206 9 [a0, a1, a2, a3, a4] (.inl y :: .inl x :: st) (sh, I, R) = if y ≤ x then ev S d 206 43 [a0, a1, a2, a3, a4] st (sh, I, R) else ev S d 206 12 [a0, a1, a2, a3, a4] st (sh, I, R) := (ev_eq f_206_9).trans fin_icmp_ge
theorem f_206_12 : fetch 206 12 = some (12, .iload_n 3, 1, [3], 0) := (fm_206 12).trans rfl
theorem u_206_12 {S : Scr} {d : Nat} {a0 a1 a2 a4 : AV} {st : List AV} {sh : Shp} {I : IM} {R : RM} {x : Int} : ev S d 206 12 [a0, a1, a2, .inl x, a4] st (sh, I, R) = ev S d 206 13 [a0, a1, a2, .inl x, a4] (.inl x :: st) (sh, I, R) := (ev_eq f_206_12).trans rfl
theorem f_206_13 : fetch 206 13 = some (13, .aload_n 0, 1, [0], 0) := (fm_206 13).trans rfl
theorem u_206_13 {S : Scr} {d : Nat} {a1 a2 a3 a4 : AV} {st : List AV} {sh : Shp} {I : IM} {R : RM} {x : Nat} : ev S d 206 13 [.inr (.inl x), a1, a2, a3, a4] st (sh, I, R) = ev S d 206 14 [.inr (.inl x), a1, a2, a3, a4] (.inr (.inl x) :: st) (sh, I, R) := (ev_eq f_206_13).trans rfl
theorem f_206_14 : fetch 206 14 = some (14, .getfield 9, 3, [9, 0, 1, 79], 0) := (fm_206 14).trans rfl
theorem u_206_14 {S : Scr} {d : Nat} {a0 a1 a2 a3 a4 : AV} {st : List AV} {sh : Shp} {I : IM} {R : RM} {k : Nat} (h : tg sh k = 9) : ev S d 206 14 [a0, a1, a2, a3, a4] (.inr (.inl k) :: st) (sh, I, R) = ev S d 206 17 [a0, a1, a2, a3, a4] (rv (R k 0) :: st) (sh, I, R) := (ev_eq f_206_14).trans (congrArg (fin S d 206) (if_pos h))
theorem f_206_17 : fetch 206 17 = some (17, .iconst 0, 1, [], 0) := (fm_206 17).trans rfl
theorem u_206_17 {S : Scr} {d : Nat} {a0 a1 a2 a3 a4 : AV} {st : List AV} {sh : Shp} {I : IM} {R : RM} : ev S d 206 17 [a0, a1, a2, a3, a4] st (sh, I, R) = ev S d 206 18 [a0, a1, a2, a3, a4] (.inl 0 :: st) (sh, I, R) := (ev_eq f_206_17).trans rfl
theorem f_206_18 : fetch 206 18 = some (18, .iload 4, 2, [4], 0) := (fm_206 18).trans rfl
theorem u_206_18 {S : Scr} {d : Nat} {a0 a1 a2 a3 : AV} {st : List AV} {sh : Shp} {I : IM} {R : RM} {x : Int} : ev S d 206 18 [a0, a1, a2, a3, .inl x] st (sh, I, R) = ev S d 206 20 [a0, a1, a2, a3, .inl x] (.inl x :: st) (sh, I, R) := (ev_eq f_206_18).trans rfl
theorem f_206_20 : fetch 206 20 = some (20, .iadd, 1, [], 0) := (fm_206 20).trans rfl
theorem u_206_20 {S : Scr} {d : Nat} {a0 a1 a2 a3 a4 : AV} {st : List AV} {sh : Shp} {I : IM} {R : RM} {x y : Int} : ev S d 206 20 [a0, a1, a2, a3, a4] (.inl y :: .inl x :: st) (sh, I, R) = ev S d 206 21 [a0, a1, a2, a3, a4] (.inl (wr (x + y)) :: st) (sh, I, R) := (ev_eq f_206_20).trans rfl
theorem f_206_21 : fetch 206 21 = some (21, .iaload, 1, [], 0) := (fm_206 21).trans rfl
theorem u_206_21 {S : Scr} {d : Nat} {a0 a1 a2 a3 a4 : AV} {st : List AV} {sh : Shp} {I : IM} {R : RM} {k : Nat} {i : Int} (h : tg sh k = 100) (h0 : 0 ≤ i) (h1 : i < ln sh k) : ev S d 206 21 [a0, a1, a2, a3, a4] (.inl i :: .inr (.inl k) :: st) (sh, I, R) = ev S d 206 22 [a0, a1, a2, a3, a4] (.inl (I k i) :: st) (sh, I, R) := (ev_eq f_206_21).trans (congrArg (fin S d 206) (if_pos ⟨h, h0, h1⟩))
theorem f_206_22 : fetch 206 22 = some (22, .iload_n 1, 1, [1], 0) := (fm_206 22).trans rfl
theorem u_206_22 {S : Scr} {d : Nat} {a0 a2 a3 a4 : AV} {st : List AV} {sh : Shp} {I : IM} {R : RM} {x : Int} : ev S d 206 22 [a0, .inl x, a2, a3, a4] st (sh, I, R) = ev S d 206 23 [a0, .inl x, a2, a3, a4] (.inl x :: st) (sh, I, R) := (ev_eq f_206_22).trans rfl
theorem f_206_23 : fetch 206 23 = some (23, .iload_n 2, 1, [2], 0) := (fm_206 23).trans rfl
theorem u_206_23 {S : Scr} {d : Nat} {a0 a1 a3 a4 : AV} {st : List AV} {sh : Shp} {I : IM} {R : RM} {x : Int} : ev S d 206 23 [a0, a1, .inl x, a3, a4] st (sh, I, R) = ev S d 206 24 [a0, a1, .inl x, a3, a4] (.inl x :: st) (sh, I, R) := (ev_eq f_206_23).trans rfl
theorem f_206_24 : fetch 206 24 = some (24, .invokestatic 64, 3, [129, 3, 125], 0) := (fm_206 24).trans rfl
theorem u_206_24 {S : Scr} {d : Nat} {a0 a1 a2 a3 a4 : AV} {st : List AV} {sh : Shp} {I : IM} {R : RM} {x0 : Int} {x1 : Int} {x2 : Int} (hr : st.length ≤ 8) : ev S d 206 24 [a0, a1, a2, a3, a4] (.inl x2 :: .inl x1 :: .inl x0 :: st) (sh, I, R) = bnd (cl d 129 [.inl x0, .inl x1, .inl x2] (sh, I, R)) (fun v M => ev S d 206 27 [a0, a1, a2, a3, a4] (psh v st) M) := (ev_eq f_206_24).trans (congrArg (fin S d 206) (if_pos ⟨rfl, hr⟩))
theorem f_206_27 : fetch 206 27 = some (27, .ifCond .eq 7, 3, [34], 0) := (fm_206 27).trans rfl
theorem u_206_27 {S : Scr} {d : Nat} {a0 a1 a2 a3 a4 : AV} {st : List AV} {sh : Shp} {I : IM} {R : RM} {x : Int} : ev S d 206 27 [a0, a1, a2, a3, a4] (.inl x :: st) (sh, I, R) = if x = 0 then ev S d 206 34 [a0, a1, a2, a3, a4] st (sh, I, R) else ev S d 206 30 [a0, a1, a2, a3, a4] st (sh, I, R) := (ev_eq f_206_27).trans fin_if_eq
theorem f_206_30 : fetch 206 30 = some (30, .iconst 1, 1, [], 1) := (fm_206 30).trans rfl
theorem u_206_30 {S : Scr} {d : Nat} {a0 a1 a2 a3 a4 : AV} {st : List AV} {sh : Shp} {I : IM} {R : RM} : ev S d 206 30 [a0, a1, a2, a3, a4] st (sh, I, R) = ev S d 206 31 [a0, a1, a2, a3, a4] (.inl 1 :: st) (sh, I, R) := (ev_eq f_206_30).trans rfl
theorem f_206_31 : fetch 206 31 = some (31, .goto 4, 3, [35], 0) := (fm_206 31).trans rfl
theorem u_206_31 {S : Scr} {d : Nat} {a0 a1 a2 a3 a4 : AV} {st : List AV} {sh : Shp} {I : IM} {R : RM} : ev S d 206 31 [a0, a1, a2, a3, a4] st (sh, I, R) = ev S d 206 35 [a0, a1, a2, a3, a4] st (sh, I, R) := (ev_eq f_206_31).trans rfl
theorem f_206_34 : fetch 206 34 = some (34, .iconst 0, 1, [], 0) := (fm_206 34).trans rfl
theorem u_206_34 {S : Scr} {d : Nat} {a0 a1 a2 a3 a4 : AV} {st : List AV} {sh : Shp} {I : IM} {R : RM} : ev S d 206 34 [a0, a1, a2, a3, a4] st (sh, I, R) = ev S d 206 35 [a0, a1, a2, a3, a4] (.inl 0 :: st) (sh, I, R) := (ev_eq f_206_34).trans rfl
theorem f_206_35 : fetch 206 35 = some (35, .iadd, 1, [], 0) := (fm_206 35).trans rfl
theorem u_206_35 {S : Scr} {d : Nat} {a0 a1 a2 a3 a4 : AV} {st : List AV} {sh : Shp} {I : IM} {R : RM} {x y : Int} : ev S d 206 35 [a0, a1, a2, a3, a4] (.inl y :: .inl x :: st) (sh, I, R) = ev S d 206 36 [a0, a1, a2, a3, a4] (.inl (wr (x + y)) :: st) (sh, I, R) := (ev_eq f_206_35).trans rfl
theorem f_206_36 : fetch 206 36 = some (36, .istore_n 3, 1, [3], 0) := (fm_206 36).trans rfl
theorem u_206_36 {S : Scr} {d : Nat} {a0 a1 a2 a3 a4 : AV} {st : List AV} {sh : Shp} {I : IM} {R : RM} {x : Int} : ev S d 206 36 [a0, a1, a2, a3, a4] (.inl x :: st) (sh, I, R) = ev S d 206 37 [a0, a1, a2, .inl x, a4] st (sh, I, R) := (ev_eq f_206_36).trans rfl
theorem f_206_37 : fetch 206 37 = some (37, .iinc 4 1, 3, [4], 1) := (fm_206 37).trans rfl
theorem u_206_37 {S : Scr} {d : Nat} {a0 a1 a2 a3 : AV} {st : List AV} {sh : Shp} {I : IM} {R : RM} {x : Int} : ev S d 206 37 [a0, a1, a2, a3, .inl x] st (sh, I, R) = ev S d 206 40 [a0, a1, a2, a3, .inl (wr (x + 1))] st (sh, I, R) := (ev_eq f_206_37).trans rfl
theorem f_206_40 : fetch 206 40 = some (40, .goto (-35), 3, [5], 0) := (fm_206 40).trans rfl
theorem u_206_40 {S : Scr} {d : Nat} {a0 a1 a2 a3 a4 : AV} {st : List AV} {sh : Shp} {I : IM} {R : RM} : ev S d 206 40 [a0, a1, a2, a3, a4] st (sh, I, R) = ev S d 206 5 [a0, a1, a2, a3, a4] st (sh, I, R) := (ev_eq f_206_40).trans rfl
theorem f_206_43 : fetch 206 43 = some (43, .iload_n 3, 1, [3], 0) := (fm_206 43).trans rfl
theorem u_206_43 {S : Scr} {d : Nat} {a0 a1 a2 a4 : AV} {st : List AV} {sh : Shp} {I : IM} {R : RM} {x : Int} : ev S d 206 43 [a0, a1, a2, .inl x, a4] st (sh, I, R) = ev S d 206 44 [a0, a1, a2, .inl x, a4] (.inl x :: st) (sh, I, R) := (ev_eq f_206_43).trans rfl
theorem f_206_44 : fetch 206 44 = some (44, .ireturn, 1, [0], 0) := (fm_206 44).trans rfl
theorem u_206_44 {S : Scr} {d : Nat} {a0 a1 a2 a3 a4 : AV} {sh : Shp} {I : IM} {R : RM} {x : Int} : ev S d 206 44 [a0, a1, a2, a3, a4] [.inl x] (sh, I, R) = some (some (.inl x), (sh, I, R)) := (ev_eq f_206_44).trans fin_iret0
theorem c_207 {d : Nat} {a0 a1 : AV} {M : Mem} : cl (d + 1) 207 [a0, a1] M = ev S0 d 207 0 [a0, a1, .inr (.inr 1), .inr (.inr 1), .inr (.inr 1)] [] M := (cl_eq (as := [a0, a1]) (show 2 ≤ maxOf 207 by decide +kernel)).trans rfl
theorem mt_207 : MT[207]? = some m_207 := rfl
theorem fm_207 (pc : Nat) : fetch 207 pc = lk m_207.2.2.2.2.2 pc := by
  unfold fetch
  rw [mt_207]
theorem f_207_0 : fetch 207 0 = some (0, .iconst 0, 1, [], 0) := (fm_207 0).trans rfl
theorem u_207_0 {S : Scr} {d : Nat} {a0 a1 a2 a3 a4 : AV} {st : List AV} {sh : Shp} {I : IM} {R : RM} : ev S d 207 0 [a0, a1, a2, a3, a4] st (sh, I, R) = ev S d 207 1 [a0, a1, a2, a3, a4] (.inl 0 :: st) (sh, I, R) := (ev_eq f_207_0).trans rfl
theorem f_207_1 : fetch 207 1 = some (1, .istore_n 2, 1, [2], 0) := (fm_207 1).trans rfl
theorem u_207_1 {S : Scr} {d : Nat} {a0 a1 a2 a3 a4 : AV} {st : List AV} {sh : Shp} {I : IM} {R : RM} {x : Int} : ev S d 207 1 [a0, a1, a2, a3, a4] (.inl x :: st) (sh, I, R) = ev S d 207 2 [a0, a1, .inl x, a3, a4] st (sh, I, R) := (ev_eq f_207_1).trans rfl
theorem f_207_2 : fetch 207 2 = some (2, .iload_n 1, 1, [1], 0) := (fm_207 2).trans rfl
theorem u_207_2 {S : Scr} {d : Nat} {a0 a2 a3 a4 : AV} {st : List AV} {sh : Shp} {I : IM} {R : RM} {x : Int} : ev S d 207 2 [a0, .inl x, a2, a3, a4] st (sh, I, R) = ev S d 207 3 [a0, .inl x, a2, a3, a4] (.inl x :: st) (sh, I, R) := (ev_eq f_207_2).trans rfl
theorem f_207_3 : fetch 207 3 = some (3, .tableswitch 280 0 8 #[49, 54, 61, 68, 75, 118, 186, 215, 248], 49, [283, 0, 52, 1, 57, 2, 64, 3, 71, 4, 78, 5, 121, 6, 189, 7, 218, 8, 251], 0) := (fm_207 3).trans rfl
theorem u_207_3 {S : Scr} {d : Nat} {a0 a1 a2 a3 a4 : AV} {st : List AV} {sh : Shp} {I : IM} {R : RM} {x : Int} : ev S d 207 3 [a0, a1, a2, a3, a4] (.inl x :: st) (sh, I, R) = if x = 0 then ev S d 207 52 [a0, a1, a2, a3, a4] st (sh, I, R) else if x = 1 then ev S d 207 57 [a0, a1, a2, a3, a4] st (sh, I, R) else if x = 2 then ev S d 207 64 [a0, a1, a2, a3, a4] st (sh, I, R) else if x = 3 then ev S d 207 71 [a0, a1, a2, a3, a4] st (sh, I, R) else if x = 4 then ev S d 207 78 [a0, a1, a2, a3, a4] st (sh, I, R) else if x = 5 then ev S d 207 121 [a0, a1, a2, a3, a4] st (sh, I, R) else if x = 6 then ev S d 207 189 [a0, a1, a2, a3, a4] st (sh, I, R) else if x = 7 then ev S d 207 218 [a0, a1, a2, a3, a4] st (sh, I, R) else if x = 8 then ev S d 207 251 [a0, a1, a2, a3, a4] st (sh, I, R) else ev S d 207 283 [a0, a1, a2, a3, a4] st (sh, I, R) := by
  rw [ev_eq f_207_3]
  show ev S d 207 (swt 283 x [0, 52, 1, 57, 2, 64, 3, 71, 4, 78, 5, 121, 6, 189, 7, 218, 8, 251]) _ _ _ = _
  rw [ev_sw, ev_sw, ev_sw, ev_sw, ev_sw, ev_sw, ev_sw, ev_sw, ev_sw, ev_sw0]
  rfl
theorem f_207_52 : fetch 207 52 = some (52, .aload_n 0, 1, [0], 0) := (fm_207 52).trans rfl
theorem u_207_52 {S : Scr} {d : Nat} {a1 a2 a3 a4 : AV} {st : List AV} {sh : Shp} {I : IM} {R : RM} {x : Nat} : ev S d 207 52 [.inr (.inl x), a1, a2, a3, a4] st (sh, I, R) = ev S d 207 53 [.inr (.inl x), a1, a2, a3, a4] (.inr (.inl x) :: st) (sh, I, R) := (ev_eq f_207_52).trans rfl
theorem f_207_53 : fetch 207 53 = some (53, .invokevirtual 105, 3, [137, 0, 136], 0) := (fm_207 53).trans rfl
theorem u_207_53 {S : Scr} {d : Nat} {a0 a1 a2 a3 a4 : AV} {st : List AV} {sh : Shp} {I : IM} {R : RM} {k : Nat} (h : tg sh k = 9) (hr : st.length ≤ 8) : ev S d 207 53 [a0, a1, a2, a3, a4] (.inr (.inl k) :: st) (sh, I, R) = bnd (cl d 137 [.inr (.inl k)] (sh, I, R)) (fun v M => ev S d 207 56 [a0, a1, a2, a3, a4] (psh v st) M) := (ev_eq f_207_53).trans (congrArg (fin S d 207) (if_pos ⟨h, rfl, hr⟩))
theorem f_207_56 : fetch 207 56 = some (56, .ireturn, 1, [0], 0) := (fm_207 56).trans rfl
theorem u_207_56 {S : Scr} {d : Nat} {a0 a1 a2 a3 a4 : AV} {sh : Shp} {I : IM} {R : RM} {x : Int} : ev S d 207 56 [a0, a1, a2, a3, a4] [.inl x] (sh, I, R) = some (some (.inl x), (sh, I, R)) := (ev_eq f_207_56).trans fin_iret0
theorem f_207_57 : fetch 207 57 = some (57, .aload_n 0, 1, [0], 0) := (fm_207 57).trans rfl
theorem u_207_57 {S : Scr} {d : Nat} {a1 a2 a3 a4 : AV} {st : List AV} {sh : Shp} {I : IM} {R : RM} {x : Nat} : ev S d 207 57 [.inr (.inl x), a1, a2, a3, a4] st (sh, I, R) = ev S d 207 58 [.inr (.inl x), a1, a2, a3, a4] (.inr (.inl x) :: st) (sh, I, R) := (ev_eq f_207_57).trans rfl
theorem f_207_58 : fetch 207 58 = some (58, .iconst 1, 1, [], 1) := (fm_207 58).trans rfl
theorem u_207_58 {S : Scr} {d : Nat} {a0 a1 a2 a3 a4 : AV} {st : List AV} {sh : Shp} {I : IM} {R : RM} : ev S d 207 58 [a0, a1, a2, a3, a4] st (sh, I, R) = ev S d 207 59 [a0, a1, a2, a3, a4] (.inl 1 :: st) (sh, I, R) := (ev_eq f_207_58).trans rfl
theorem f_207_59 : fetch 207 59 = some (59, .iconst 1, 1, [], 1) := (fm_207 59).trans rfl
theorem u_207_59 {S : Scr} {d : Nat} {a0 a1 a2 a3 a4 : AV} {st : List AV} {sh : Shp} {I : IM} {R : RM} : ev S d 207 59 [a0, a1, a2, a3, a4] st (sh, I, R) = ev S d 207 60 [a0, a1, a2, a3, a4] (.inl 1 :: st) (sh, I, R) := (ev_eq f_207_59).trans rfl
theorem f_207_60 : fetch 207 60 = some (60, .invokevirtual 252, 3, [206, 2, 172], 0) := (fm_207 60).trans rfl
theorem u_207_60 {S : Scr} {d : Nat} {a0 a1 a2 a3 a4 : AV} {st : List AV} {sh : Shp} {I : IM} {R : RM} {x0 : Int} {x1 : Int} {k : Nat} (h : tg sh k = 9) (hr : st.length ≤ 8) : ev S d 207 60 [a0, a1, a2, a3, a4] (.inl x1 :: .inl x0 :: .inr (.inl k) :: st) (sh, I, R) = bnd (cl d 206 [.inr (.inl k), .inl x0, .inl x1] (sh, I, R)) (fun v M => ev S d 207 63 [a0, a1, a2, a3, a4] (psh v st) M) := (ev_eq f_207_60).trans (congrArg (fin S d 207) (if_pos ⟨h, rfl, hr⟩))
theorem f_207_63 : fetch 207 63 = some (63, .ireturn, 1, [0], 0) := (fm_207 63).trans rfl
theorem u_207_63 {S : Scr} {d : Nat} {a0 a1 a2 a3 a4 : AV} {sh : Shp} {I : IM} {R : RM} {x : Int} : ev S d 207 63 [a0, a1, a2, a3, a4] [.inl x] (sh, I, R) = some (some (.inl x), (sh, I, R)) := (ev_eq f_207_63).trans fin_iret0
theorem f_207_64 : fetch 207 64 = some (64, .aload_n 0, 1, [0], 0) := (fm_207 64).trans rfl
theorem u_207_64 {S : Scr} {d : Nat} {a1 a2 a3 a4 : AV} {st : List AV} {sh : Shp} {I : IM} {R : RM} {x : Nat} : ev S d 207 64 [.inr (.inl x), a1, a2, a3, a4] st (sh, I, R) = ev S d 207 65 [.inr (.inl x), a1, a2, a3, a4] (.inr (.inl x) :: st) (sh, I, R) := (ev_eq f_207_64).trans rfl
theorem f_207_65 : fetch 207 65 = some (65, .iconst 2, 1, [], 2) := (fm_207 65).trans rfl
theorem u_207_65 {S : Scr} {d : Nat} {a0 a1 a2 a3 a4 : AV} {st : List AV} {sh : Shp} {I : IM} {R : RM} : ev S d 207 65 [a0, a1, a2, a3, a4] st (sh, I, R) = ev S d 207 66 [a0, a1, a2, a3, a4] (.inl 2 :: st) (sh, I, R) := (ev_eq f_207_65).trans rfl
theorem f_207_66 : fetch 207 66 = some (66, .iconst 3, 1, [], 3) := (fm_207 66).trans rfl
theorem u_207_66 {S : Scr} {d : Nat} {a0 a1 a2 a3 a4 : AV} {st : List AV} {sh : Shp} {I : IM} {R : RM} : ev S d 207 66 [a0, a1, a2, a3, a4] st (sh, I, R) = ev S d 207 67 [a0, a1, a2, a3, a4] (.inl 3 :: st) (sh, I, R) := (ev_eq f_207_66).trans rfl
theorem f_207_67 : fetch 207 67 = some (67, .invokevirtual 252, 3, [206, 2, 172], 0) := (fm_207 67).trans rfl
theorem u_207_67 {S : Scr} {d : Nat} {a0 a1 a2 a3 a4 : AV} {st : List AV} {sh : Shp} {I : IM} {R : RM} {x0 : Int} {x1 : Int} {k : Nat} (h : tg sh k = 9) (hr : st.length ≤ 8) : ev S d 207 67 [a0, a1, a2, a3, a4] (.inl x1 :: .inl x0 :: .inr (.inl k) :: st) (sh, I, R) = bnd (cl d 206 [.inr (.inl k), .inl x0, .inl x1] (sh, I, R)) (fun v M => ev S d 207 70 [a0, a1, a2, a3, a4] (psh v st) M) := (ev_eq f_207_67).trans (congrArg (fin S d 207) (if_pos ⟨h, rfl, hr⟩))
theorem f_207_70 : fetch 207 70 = some (70, .ireturn, 1, [0], 0) := (fm_207 70).trans rfl
theorem u_207_70 {S : Scr} {d : Nat} {a0 a1 a2 a3 a4 : AV} {sh : Shp} {I : IM} {R : RM} {x : Int} : ev S d 207 70 [a0, a1, a2, a3, a4] [.inl x] (sh, I, R) = some (some (.inl x), (sh, I, R)) := (ev_eq f_207_70).trans fin_iret0
theorem f_207_71 : fetch 207 71 = some (71, .aload_n 0, 1, [0], 0) := (fm_207 71).trans rfl
theorem u_207_71 {S : Scr} {d : Nat} {a1 a2 a3 a4 : AV} {st : List AV} {sh : Shp} {I : IM} {R : RM} {x : Nat} : ev S d 207 71 [.inr (.inl x), a1, a2, a3, a4] st (sh, I, R) = ev S d 207 72 [.inr (.inl x), a1, a2, a3, a4] (.inr (.inl x) :: st) (sh, I, R) := (ev_eq f_207_71).trans rfl
theorem f_207_72 : fetch 207 72 = some (72, .iconst 4, 1, [], 4) := (fm_207 72).trans rfl
theorem u_207_72 {S : Scr} {d : Nat} {a0 a1 a2 a3 a4 : AV} {st : List AV} {sh : Shp} {I : IM} {R : RM} : ev S d 207 72 [a0, a1, a2, a3, a4] st (sh, I, R) = ev S d 207 73 [a0, a1, a2, a3, a4] (.inl 4 :: st) (sh, I, R) := (ev_eq f_207_72).trans rfl
theorem f_207_73 : fetch 207 73 = some (73, .iconst 4, 1, [], 4) := (fm_207 73).trans rfl
theorem u_207_73 {S : Scr} {d : Nat} {a0 a1 a2 a3 a4 : AV} {st : List AV} {sh : Shp} {I : IM} {R : RM} : ev S d 207 73 [a0, a1, a2, a3, a4] st (sh, I, R) = ev S d 207 74 [a0, a1, a2, a3, a4] (.inl 4 :: st) (sh, I, R) := (ev_eq f_207_73).trans rfl
theorem f_207_74 : fetch 207 74 = some (74, .invokevirtual 252, 3, [206, 2, 172], 0) := (fm_207 74).trans rfl
theorem u_207_74 {S : Scr} {d : Nat} {a0 a1 a2 a3 a4 : AV} {st : List AV} {sh : Shp} {I : IM} {R : RM} {x0 : Int} {x1 : Int} {k : Nat} (h : tg sh k = 9) (hr : st.length ≤ 8) : ev S d 207 74 [a0, a1, a2, a3, a4] (.inl x1 :: .inl x0 :: .inr (.inl k) :: st) (sh, I, R) = bnd (cl d 206 [.inr (.inl k), .inl x0, .inl x1] (sh, I, R)) (fun v M => ev S d 207 77 [a0, a1, a2, a3, a4] (psh v st) M) := (ev_eq f_207_74).trans (congrArg (fin S d 207) (if_pos ⟨h, rfl, hr⟩))
theorem f_207_77 : fetch 207 77 = some (77, .ireturn, 1, [0], 0) := (fm_207 77).trans rfl
theorem u_207_77 {S : Scr} {d : Nat} {a0 a1 a2 a3 a4 : AV} {sh : Shp} {I : IM} {R : RM} {x : Int} : ev S d 207 77 [a0, a1, a2, a3, a4] [.inl x] (sh, I, R) = some (some (.inl x), (sh, I, R)) := (ev_eq f_207_77).trans fin_iret0
theorem f_207_78 : fetch 207 78 = some (78, .iconst 0, 1, [], 0) := (fm_207 78).trans rfl
theorem u_207_78 {S : Scr} {d : Nat} {a0 a1 a2 a3 a4 : AV} {st : List AV} {sh : Shp} {I : IM} {R : RM} : ev S d 207 78 [a0, a1, a2, a3, a4] st (sh, I, R) = ev S d 207 79 [a0, a1, a2, a3, a4] (.inl 0 :: st) (sh, I, R) := (ev_eq f_207_78).trans rfl
theorem f_207_79 : fetch 207 79 = some (79, .istore_n 3, 1, [3], 0) := (fm_207 79).trans rfl
theorem u_207_79 {S : Scr} {d : Nat} {a0 a1 a2 a3 a4 : AV} {st : List AV} {sh : Shp} {I : IM} {R : RM} {x : Int} : ev S d 207 79 [a0, a1, a2, a3, a4] (.inl x :: st) (sh, I, R) = ev S d 207 80 [a0, a1, a2, .inl x, a4] st (sh, I, R) := (ev_eq f_207_79).trans rfl
theorem f_207_80 : fetch 207 80 = some (80, .iload_n 3, 1, [3], 0) := (fm_207 80).trans rfl
theorem u_207_80 {S : Scr} {d : Nat} {a0 a1 a2 a4 : AV} {st : List AV} {sh : Shp} {I : IM} {R : RM} {x : Int} : ev S d 207 80 [a0, a1, a2, .inl x, a4] st (sh, I, R) = ev S d 207 81 [a0, a1, a2, .inl x, a4] (.inl x :: st) (sh, I, R) := (ev_eq f_207_80).trans rfl
theorem f_207_81 : fetch 207 81 = some (81, .bipush 30, 2, [], 30) := (fm_207 81).trans rfl
theorem u_207_81 {S : Scr} {d : Nat} {a0 a1 a2 a3 a4 : AV} {st : List AV} {sh : Shp} {I : IM} {R : RM} : ev S d 207 81 [a0, a1, a2, a3, a4] st (sh, I, R) = ev S d 207 83 [a0, a1, a2, a3, a4] (.inl 30 :: st) (sh, I, R) := (ev_eq f_207_81).trans rfl
theorem f_207_83 : fetch 207 83 = some (83, .if_icmp .ge 36, 3, [119], 0) := (fm_207 83).trans rfl
theorem u_207_83 {S : Scr} {d : Nat} {a0 a1 a2 a3 a4 : AV} {st : List AV} {sh : Shp} {I : IM} {R : RM} {x y : Int} : ev S d 207 83 [a0, a1, a2, a3, a4] (.inl y :: .inl x :: st) (sh, I, R) = if y ≤ x then ev S d 207 119 [a0, a1, a2, a3, a4] st (sh, I, R) else ev S d 207 86 [a0, a1, a2, a3, a4] st (sh, I, R) := (ev_eq f_207_83).trans fin_icmp_ge
theorem f_207_86 : fetch 207 86 = some (86, .iload_n 2, 1, [2], 0) := (fm_207 86).trans rfl
theorem u_207_86 {S : Scr} {d : Nat} {a0 a1 a3 a4 : AV} {st : List AV} {sh : Shp} {I : IM} {R : RM} {x : Int} : ev S d 207 86 [a0, a1, .inl x, a3, a4] st (sh, I, R) = ev S d 207 87 [a0, a1, .inl x, a3, a4] (.inl x :: st) (sh, I, R) := (ev_eq f_207_86).trans rfl
theorem f_207_87 : fetch 207 87 = some (87, .aload_n 0, 1, [0], 0) := (fm_207 87).trans rfl
theorem u_207_87 {S : Scr} {d : Nat} {a1 a2 a3 a4 : AV} {st : List AV} {sh : Shp} {I : IM} {R : RM} {x : Nat} : ev S d 207 87 [.inr (.inl x), a1, a2, a3, a4] st (sh, I, R) = ev S d 207 88 [.inr (.inl x), a1, a2, a3, a4] (.inr (.inl x) :: st) (sh, I, R) := (ev_eq f_207_87).trans rfl
theorem f_207_88 : fetch 207 88 = some (88, .getfield 9, 3, [9, 0, 1, 79], 0) := (fm_207 88).trans rfl
theorem u_207_88 {S : Scr} {d : Nat} {a0 a1 a2 a3 a4 : AV} {st : List AV} {sh : Shp} {I : IM} {R : RM} {k : Nat} (h : tg sh k = 9) : ev S d 207 88 [a0, a1, a2, a3, a4] (.inr (.inl k) :: st) (sh, I, R) = ev S d 207 91 [a0, a1, a2, a3, a4] (rv (R k 0) :: st) (sh, I, R) := (ev_eq f_207_88).trans (congrArg (fin S d 207) (if_pos h))
theorem f_207_91 : fetch 207 91 = some (91, .iconst 0, 1, [], 0) := (fm_207 91).trans rfl
theorem u_207_91 {S : Scr} {d : Nat} {a0 a1 a2 a3 a4 : AV} {st : List AV} {sh : Shp} {I : IM} {R : RM} : ev S d 207 91 [a0, a1, a2, a3, a4] st (sh, I, R) = ev S d 207 92 [a0, a1, a2, a3, a4] (.inl 0 :: st) (sh, I, R) := (ev_eq f_207_91).trans rfl
theorem f_207_92 : fetch 207 92 = some (92, .iload_n 3, 1, [3], 0) := (fm_207 92).trans rfl
theorem u_207_92 {S : Scr} {d : Nat} {a0 a1 a2 a4 : AV} {st : List AV} {sh : Shp} {I : IM} {R : RM} {x : Int} : ev S d 207 92 [a0, a1, a2, .inl x, a4] st (sh, I, R) = ev S d 207 93 [a0, a1, a2, .inl x, a4] (.inl x :: st) (sh, I, R) := (ev_eq f_207_92).trans rfl
theorem f_207_93 : fetch 207 93 = some (93, .iadd, 1, [], 0) := (fm_207 93).trans rfl
theorem u_207_93 {S : Scr} {d : Nat} {a0 a1 a2 a3 a4 : AV} {st : List AV} {sh : Shp} {I : IM} {R : RM} {x y : Int} : ev S d 207 93 [a0, a1, a2, a3, a4] (.inl y :: .inl x :: st) (sh, I, R) = ev S d 207 94 [a0, a1, a2, a3, a4] (.inl (wr (x + y)) :: st) (sh, I, R) := (ev_eq f_207_93).trans rfl
theorem f_207_94 : fetch 207 94 = some (94, .iaload, 1, [], 0) := (fm_207 94).trans rfl
theorem u_207_94 {S : Scr} {d : Nat} {a0 a1 a2 a3 a4 : AV} {st : List AV} {sh : Shp} {I : IM} {R : RM} {k : Nat} {i : Int} (h : tg sh k = 100) (h0 : 0 ≤ i) (h1 : i < ln sh k) : ev S d 207 94 [a0, a1, a2, a3, a4] (.inl i :: .inr (.inl k) :: st) (sh, I, R) = ev S d 207 95 [a0, a1, a2, a3, a4] (.inl (I k i) :: st) (sh, I, R) := (ev_eq f_207_94).trans (congrArg (fin S d 207) (if_pos ⟨h, h0, h1⟩))
theorem f_207_95 : fetch 207 95 = some (95, .ifCond .eq 15, 3, [110], 0) := (fm_207 95).trans rfl
theorem u_207_95 {S : Scr} {d : Nat} {a0 a1 a2 a3 a4 : AV} {st : List AV} {sh : Shp} {I : IM} {R : RM} {x : Int} : ev S d 207 95 [a0, a1, a2, a3, a4] (.inl x :: st) (sh, I, R) = if x = 0 then ev S d 207 110 [a0, a1, a2, a3, a4] st (sh, I, R) else ev S d 207 98 [a0, a1, a2, a3, a4] st (sh, I, R) := (ev_eq f_207_95).trans fin_if_eq
theorem f_207_98 : fetch 207 98 = some (98, .aload_n 0, 1, [0], 0) := (fm_207 98).trans rfl
theorem u_207_98 {S : Scr} {d : Nat} {a1 a2 a3 a4 : AV} {st : List AV} {sh : Shp} {I : IM} {R : RM} {x : Nat} : ev S d 207 98 [.inr (.inl x), a1, a2, a3, a4] st (sh, I, R) = ev S d 207 99 [.inr (.inl x), a1, a2, a3, a4] (.inr (.inl x) :: st) (sh, I, R) := (ev_eq f_207_98).trans rfl
theorem f_207_99 : fetch 207 99 = some (99, .getfield 9, 3, [9, 0, 1, 79], 0) := (fm_207 99).trans rfl
theorem u_207_99 {S : Scr} {d : Nat} {a0 a1 a2 a3 a4 : AV} {st : List AV} {sh : Shp} {I : IM} {R : RM} {k : Nat} (h : tg sh k = 9) : ev S d 207 99 [a0, a1, a2, a3, a4] (.inr (.inl k) :: st) (sh, I, R) = ev S d 207 102 [a0, a1, a2, a3, a4] (rv (R k 0) :: st) (sh, I, R) := (ev_eq f_207_99).trans (congrArg (fin S d 207) (if_pos h))
theorem f_207_102 : fetch 207 102 = some (102, .bipush 90, 2, [], 90) := (fm_207 102).trans rfl
theorem u_207_102 {S : Scr} {d : Nat} {a0 a1 a2 a3 a4 : AV} {st : List AV} {sh : Shp} {I : IM} {R : RM} : ev S d 207 102 [a0, a1, a2, a3, a4] st (sh, I, R) = ev S d 207 104 [a0, a1, a2, a3, a4] (.inl 90 :: st) (sh, I, R) := (ev_eq f_207_102).trans rfl
theorem f_207_104 : fetch 207 104 = some (104, .iload_n 3, 1, [3], 0) := (fm_207 104).trans rfl
theorem u_207_104 {S : Scr} {d : Nat} {a0 a1 a2 a4 : AV} {st : List AV} {sh : Shp} {I : IM} {R : RM} {x : Int} : ev S d 207 104 [a0, a1, a2, .inl x, a4] st (sh, I, R) = ev S d 207 105 [a0, a1, a2, .inl x, a4] (.inl x :: st) (sh, I, R) := (ev_eq f_207_104).trans rfl
theorem f_207_105 : fetch 207 105 = some (105, .iadd, 1, [], 0) := (fm_207 105).trans rfl
theorem u_207_105 {S : Scr} {d : Nat} {a0 a1 a2 a3 a4 : AV} {st : List AV} {sh : Shp} {I : IM} {R : RM} {x y : Int} : ev S d 207 105 [a0, a1, a2, a3, a4] (.inl y :: .inl x :: st) (sh, I, R) = ev S d 207 106 [a0, a1, a2, a3, a4] (.inl (wr (x + y)) :: st) (sh, I, R) := (ev_eq f_207_105).trans rfl
theorem f_207_106 : fetch 207 106 = some (106, .iaload, 1, [], 0) := (fm_207 106).trans rfl
theorem u_207_106 {S : Scr} {d : Nat} {a0 a1 a2 a3 a4 : AV} {st : List AV} {sh : Shp} {I : IM} {R : RM} {k : Nat} {i : Int} (h : tg sh k = 100) (h0 : 0 ≤ i) (h1 : i < ln sh k) : ev S d 207 106 [a0, a1, a2, a3, a4] (.inl i :: .inr (.inl k) :: st) (sh, I, R) = ev S d 207 107 [a0, a1, a2, a3, a4] (.inl (I k i) :: st) (sh, I, R) := (ev_eq f_207_106).trans (congrArg (fin S d 207) (if_pos ⟨h, h0, h1⟩))
theorem f_207_107 : fetch 207 107 = some (107, .goto 4, 3, [111], 0) := (fm_207 107).trans rfl
theorem u_207_107 {S : Scr} {d : Nat} {a0 a1 a2 a3 a4 : AV} {st : List AV} {sh : Shp} {I : IM} {R : RM} : ev S d 207 107 [a0, a1, a2, a3, a4] st (sh, I, R) = ev S d 207 111 [a0, a1, a2, a3, a4] st (sh, I, R) := (ev_eq f_207_107).trans rfl
theorem f_207_110 : fetch 207 110 = some (110, .iconst 0, 1, [], 0) := (fm_207 110).trans rfl
theorem u_207_110 {S : Scr} {d : Nat} {a0 a1 a2 a3 a4 : AV} {st : List AV} {sh : Shp} {I : IM} {R : RM} : ev S d 207 110 [a0, a1, a2, a3, a4] st (sh, I, R) = ev S d 207 111 [a0, a1, a2, a3, a4] (.inl 0 :: st) (sh, I, R) := (ev_eq f_207_110).trans rfl
theorem f_207_111 : fetch 207 111 = some (111, .iadd, 1, [], 0) := (fm_207 111).trans rfl
theorem u_207_111 {S : Scr} {d : Nat} {a0 a1 a2 a3 a4 : AV} {st : List AV} {sh : Shp} {I : IM} {R : RM} {x y : Int} : ev S d 207 111 [a0, a1, a2, a3, a4] (.inl y :: .inl x :: st) (sh, I, R) = ev S d 207 112 [a0, a1, a2, a3, a4] (.inl (wr (x + y)) :: st) (sh, I, R) := (ev_eq f_207_111).trans rfl
theorem f_207_112 : fetch 207 112 = some (112, .istore_n 2, 1, [2], 0) := (fm_207 112).trans rfl
theorem u_207_112 {S : Scr} {d : Nat} {a0 a1 a2 a3 a4 : AV} {st : List AV} {sh : Shp} {I : IM} {R : RM} {x : Int} : ev S d 207 112 [a0, a1, a2, a3, a4] (.inl x :: st) (sh, I, R) = ev S d 207 113 [a0, a1, .inl x, a3, a4] st (sh, I, R) := (ev_eq f_207_112).trans rfl
theorem f_207_113 : fetch 207 113 = some (113, .iinc 3 1, 3, [3], 1) := (fm_207 113).trans rfl
theorem u_207_113 {S : Scr} {d : Nat} {a0 a1 a2 a4 : AV} {st : List AV} {sh : Shp} {I : IM} {R : RM} {x : Int} : ev S d 207 113 [a0, a1, a2, .inl x, a4] st (sh, I, R) = ev S d 207 116 [a0, a1, a2, .inl (wr (x + 1)), a4] st (sh, I, R) := (ev_eq f_207_113).trans rfl
theorem f_207_116 : fetch 207 116 = some (116, .goto (-36), 3, [80], 0) := (fm_207 116).trans rfl
theorem u_207_116 {S : Scr} {d : Nat} {a0 a1 a2 a3 a4 : AV} {st : List AV} {sh : Shp} {I : IM} {R : RM} : ev S d 207 116 [a0, a1, a2, a3, a4] st (sh, I, R) = ev S d 207 80 [a0, a1, a2, a3, a4] st (sh, I, R) := (ev_eq f_207_116).trans rfl
theorem f_207_119 : fetch 207 119 = some (119, .iload_n 2, 1, [2], 0) := (fm_207 119).trans rfl
theorem u_207_119 {S : Scr} {d : Nat} {a0 a1 a3 a4 : AV} {st : List AV} {sh : Shp} {I : IM} {R : RM} {x : Int} : ev S d 207 119 [a0, a1, .inl x, a3, a4] st (sh, I, R) = ev S d 207 120 [a0, a1, .inl x, a3, a4] (.inl x :: st) (sh, I, R) := (ev_eq f_207_119).trans rfl
theorem f_207_120 : fetch 207 120 = some (120, .ireturn, 1, [0], 0) := (fm_207 120).trans rfl
theorem u_207_120 {S : Scr} {d : Nat} {a0 a1 a2 a3 a4 : AV} {sh : Shp} {I : IM} {R : RM} {x : Int} : ev S d 207 120 [a0, a1, a2, a3, a4] [.inl x] (sh, I, R) = some (some (.inl x), (sh, I, R)) := (ev_eq f_207_120).trans fin_iret0
theorem f_207_121 : fetch 207 121 = some (121, .iconst 0, 1, [], 0) := (fm_207 121).trans rfl
theorem u_207_121 {S : Scr} {d : Nat} {a0 a1 a2 a3 a4 : AV} {st : List AV} {sh : Shp} {I : IM} {R : RM} : ev S d 207 121 [a0, a1, a2, a3, a4] st (sh, I, R) = ev S d 207 122 [a0, a1, a2, a3, a4] (.inl 0 :: st) (sh, I, R) := (ev_eq f_207_121).trans rfl
theorem f_207_122 : fetch 207 122 = some (122, .istore_n 3, 1, [3], 0) := (fm_207 122).trans rfl
theorem u_207_122 {S : Scr} {d : Nat} {a0 a1 a2 a3 a4 : AV} {st : List AV} {sh : Shp} {I : IM} {R : RM} {x : Int} : ev S d 207 122 [a0, a1, a2, a3, a4] (.inl x :: st) (sh, I, R) = ev S d 207 123 [a0, a1, a2, .inl x, a4] st (sh, I, R) := (ev_eq f_207_122).trans rfl
theorem f_207_123 : fetch 207 123 = some (123, .iload_n 3, 1, [3], 0) := (fm_207 123).trans rfl
theorem u_207_123 {S : Scr} {d : Nat} {a0 a1 a2 a4 : AV} {st : List AV} {sh : Shp} {I : IM} {R : RM} {x : Int} : ev S d 207 123 [a0, a1, a2, .inl x, a4] st (sh, I, R) = ev S d 207 124 [a0, a1, a2, .inl x, a4] (.inl x :: st) (sh, I, R) := (ev_eq f_207_123).trans rfl
theorem f_207_124 : fetch 207 124 = some (124, .bipush 30, 2, [], 30) := (fm_207 124).trans rfl
theorem u_207_124 {S : Scr} {d : Nat} {a0 a1 a2 a3 a4 : AV} {st : List AV} {sh : Shp} {I : IM} {R : RM} : ev S d 207 124 [a0, a1, a2, a3, a4] st (sh, I, R) = ev S d 207 126 [a0, a1, a2, a3, a4] (.inl 30 :: st) (sh, I, R) := (ev_eq f_207_124).trans rfl
theorem f_207_126 : fetch 207 126 = some (126, .if_icmp .ge 61, 3, [187], 0) := (fm_207 126).trans rfl
theorem u_207_126 {S : Scr} {d : Nat} {a0 a1 a2 a3 a4 : AV} {st : List AV} {sh : Shp} {I : IM} {R : RM} {x y : Int} : ev S d 207 126 [a0, a1, a2, a3, a4] (.inl y :: .inl x :: st) (sh, I, R) = if y ≤ x then ev S d 207 187 [a0, a1, a2, a3, a4] st (sh, I, R) else ev S d 207 129 [a0, a1, a2, a3, a4] st (sh, I, R) := (ev_eq f_207_126).trans fin_icmp_ge
theorem f_207_129 : fetch 207 129 = some (129, .iconst 0, 1, [], 0) := (fm_207 129).trans rfl
theorem u_207_129 {S : Scr} {d : Nat} {a0 a1 a2 a3 a4 : AV} {st : List AV} {sh : Shp} {I : IM} {R : RM} : ev S d 207 129 [a0, a1, a2, a3, a4] st (sh, I, R) = ev S d 207 130 [a0, a1, a2, a3, a4] (.inl 0 :: st) (sh, I, R) := (ev_eq f_207_129).trans rfl
theorem f_207_130 : fetch 207 130 = some (130, .istore 4, 2, [4], 0) := (fm_207 130).trans rfl
theorem u_207_130 {S : Scr} {d : Nat} {a0 a1 a2 a3 a4 : AV} {st : List AV} {sh : Shp} {I : IM} {R : RM} {x : Int} : ev S d 207 130 [a0, a1, a2, a3, a4] (.inl x :: st) (sh, I, R) = ev S d 207 132 [a0, a1, a2, a3, .inl x] st (sh, I, R) := (ev_eq f_207_130).trans rfl
theorem f_207_132 : fetch 207 132 = some (132, .aload_n 0, 1, [0], 0) := (fm_207 132).trans rfl
theorem u_207_132 {S : Scr} {d : Nat} {a1 a2 a3 a4 : AV} {st : List AV} {sh : Shp} {I : IM} {R : RM} {x : Nat} : ev S d 207 132 [.inr (.inl x), a1, a2, a3, a4] st (sh, I, R) = ev S d 207 133 [.inr (.inl x), a1, a2, a3, a4] (.inr (.inl x) :: st) (sh, I, R) := (ev_eq f_207_132).trans rfl
theorem f_207_133 : fetch 207 133 = some (133, .getfield 9, 3, [9, 0, 1, 79], 0) := (fm_207 133).trans rfl
theorem u_207_133 {S : Scr} {d : Nat} {a0 a1 a2 a3 a4 : AV} {st : List AV} {sh : Shp} {I : IM} {R : RM} {k : Nat} (h : tg sh k = 9) : ev S d 207 133 [a0, a1, a2, a3, a4] (.inr (.inl k) :: st) (sh, I, R) = ev S d 207 136 [a0, a1, a2, a3, a4] (rv (R k 0) :: st) (sh, I, R) := (ev_eq f_207_133).trans (congrArg (fin S d 207) (if_pos h))
theorem f_207_136 : fetch 207 136 = some (136, .iconst 0, 1, [], 0) := (fm_207 136).trans rfl
theorem u_207_136 {S : Scr} {d : Nat} {a0 a1 a2 a3 a4 : AV} {st : List AV} {sh : Shp} {I : IM} {R : RM} : ev S d 207 136 [a0, a1, a2, a3, a4] st (sh, I, R) = ev S d 207 137 [a0, a1, a2, a3, a4] (.inl 0 :: st) (sh, I, R) := (ev_eq f_207_136).trans rfl
theorem f_207_137 : fetch 207 137 = some (137, .iload_n 3, 1, [3], 0) := (fm_207 137).trans rfl
theorem u_207_137 {S : Scr} {d : Nat} {a0 a1 a2 a4 : AV} {st : List AV} {sh : Shp} {I : IM} {R : RM} {x : Int} : ev S d 207 137 [a0, a1, a2, .inl x, a4] st (sh, I, R) = ev S d 207 138 [a0, a1, a2, .inl x, a4] (.inl x :: st) (sh, I, R) := (ev_eq f_207_137).trans rfl
theorem f_207_138 : fetch 207 138 = some (138, .iadd, 1, [], 0) := (fm_207 138).trans rfl
theorem u_207_138 {S : Scr} {d : Nat} {a0 a1 a2 a3 a4 : AV} {st : List AV} {sh : Shp} {I : IM} {R : RM} {x y : Int} : ev S d 207 138 [a0, a1, a2, a3, a4] (.inl y :: .inl x :: st) (sh, I, R) = ev S d 207 139 [a0, a1, a2, a3, a4] (.inl (wr (x + y)) :: st) (sh, I, R) := (ev_eq f_207_138).trans rfl
theorem f_207_139 : fetch 207 139 = some (139, .iaload, 1, [], 0) := (fm_207 139).trans rfl
theorem u_207_139 {S : Scr} {d : Nat} {a0 a1 a2 a3 a4 : AV} {st : List AV} {sh : Shp} {I : IM} {R : RM} {k : Nat} {i : Int} (h : tg sh k = 100) (h0 : 0 ≤ i) (h1 : i < ln sh k) : ev S d 207 139 [a0, a1, a2, a3, a4] (.inl i :: .inr (.inl k) :: st) (sh, I, R) = ev S d 207 140 [a0, a1, a2, a3, a4] (.inl (I k i) :: st) (sh, I, R) := (ev_eq f_207_139).trans (congrArg (fin S d 207) (if_pos ⟨h, h0, h1⟩))
theorem f_207_140 : fetch 207 140 = some (140, .ifCond .eq 41, 3, [181], 0) := (fm_207 140).trans rfl
theorem u_207_140 {S : Scr} {d : Nat} {a0 a1 a2 a3 a4 : AV} {st : List AV} {sh : Shp} {I : IM} {R : RM} {x : Int} : ev S d 207 140 [a0, a1, a2, a3, a4] (.inl x :: st) (sh, I, R) = if x = 0 then ev S d 207 181 [a0, a1, a2, a3, a4] st (sh, I, R) else ev S d 207 143 [a0, a1, a2, a3, a4] st (sh, I, R) := (ev_eq f_207_140).trans fin_if_eq
theorem f_207_143 : fetch 207 143 = some (143, .iload 4, 2, [4], 0) := (fm_207 143).trans rfl
theorem u_207_143 {S : Scr} {d : Nat} {a0 a1 a2 a3 : AV} {st : List AV} {sh : Shp} {I : IM} {R : RM} {x : Int} : ev S d 207 143 [a0, a1, a2, a3, .inl x] st (sh, I, R) = ev S d 207 145 [a0, a1, a2, a3, .inl x] (.inl x :: st) (sh, I, R) := (ev_eq f_207_143).trans rfl
theorem f_207_145 : fetch 207 145 = some (145, .aload_n 0, 1, [0], 0) := (fm_207 145).trans rfl
theorem u_207_145 {S : Scr} {d : Nat} {a1 a2 a3 a4 : AV} {st : List AV} {sh : Shp} {I : IM} {R : RM} {x : Nat} : ev S d 207 145 [.inr (.inl x), a1, a2, a3, a4] st (sh, I, R) = ev S d 207 146 [.inr (.inl x), a1, a2, a3, a4] (.inr (.inl x) :: st) (sh, I, R) := (ev_eq f_207_145).trans rfl
theorem f_207_146 : fetch 207 146 = some (146, .getfield 9, 3, [9, 0, 1, 79], 0) := (fm_207 146).trans rfl
theorem u_207_146 {S : Scr} {d : Nat} {a0 a1 a2 a3 a4 : AV} {st : List AV} {sh : Shp} {I : IM} {R : RM} {k : Nat} (h : tg sh k = 9) : ev S d 207 146 [a0, a1, a2, a3, a4] (.inr (.inl k) :: st) (sh, I, R) = ev S d 207 149 [a0, a1, a2, a3, a4] (rv (R k 0) :: st) (sh, I, R) := (ev_eq f_207_146).trans (congrArg (fin S d 207) (if_pos h))
theorem f_207_149 : fetch 207 149 = some (149, .bipush 60, 2, [], 60) := (fm_207 149).trans rfl
theorem u_207_149 {S : Scr} {d : Nat} {a0 a1 a2 a3 a4 : AV} {st : List AV} {sh : Shp} {I : IM} {R : RM} : ev S d 207 149 [a0, a1, a2, a3, a4] st (sh, I, R) = ev S d 207 151 [a0, a1, a2, a3, a4] (.inl 60 :: st) (sh, I, R) := (ev_eq f_207_149).trans rfl
theorem f_207_151 : fetch 207 151 = some (151, .iload_n 3, 1, [3], 0) := (fm_207 151).trans rfl
theorem u_207_151 {S : Scr} {d : Nat} {a0 a1 a2 a4 : AV} {st : List AV} {sh : Shp} {I : IM} {R : RM} {x : Int} : ev S d 207 151 [a0, a1, a2, .inl x, a4] st (sh, I, R) = ev S d 207 152 [a0, a1, a2, .inl x, a4] (.inl x :: st) (sh, I, R) := (ev_eq f_207_151).trans rfl
theorem f_207_152 : fetch 207 152 = some (152, .iadd, 1, [], 0) := (fm_207 152).trans rfl
theorem u_207_152 {S : Scr} {d : Nat} {a0 a1 a2 a3 a4 : AV} {st : List AV} {sh : Shp} {I : IM} {R : RM} {x y : Int} : ev S d 207 152 [a0, a1, a2, a3, a4] (.inl y :: .inl x :: st) (sh, I, R) = ev S d 207 153 [a0, a1, a2, a3, a4] (.inl (wr (x + y)) :: st) (sh, I, R) := (ev_eq f_207_152).trans rfl
theorem f_207_153 : fetch 207 153 = some (153, .iaload, 1, [], 0) := (fm_207 153).trans rfl
theorem u_207_153 {S : Scr} {d : Nat} {a0 a1 a2 a3 a4 : AV} {st : List AV} {sh : Shp} {I : IM} {R : RM} {k : Nat} {i : Int} (h : tg sh k = 100) (h0 : 0 ≤ i) (h1 : i < ln sh k) : ev S d 207 153 [a0, a1, a2, a3, a4] (.inl i :: .inr (.inl k) :: st) (sh, I, R) = ev S d 207 154 [a0, a1, a2, a3, a4] (.inl (I k i) :: st) (sh, I, R) := (ev_eq f_207_153).trans (congrArg (fin S d 207) (if_pos ⟨h, h0, h1⟩))
theorem f_207_154 : fetch 207 154 = some (154, .if_icmp .ge 27, 3, [181], 0) := (fm_207 154).trans rfl
theorem u_207_154 {S : Scr} {d : Nat} {a0 a1 a2 a3 a4 : AV} {st : List AV} {sh : Shp} {I : IM} {R : RM} {x y : Int} : ev S d 207 154 [a0, a1, a2, a3, a4] (.inl y :: .inl x :: st) (sh, I, R) = if y ≤ x then ev S d 207 181 [a0, a1, a2, a3, a4] st (sh, I, R) else ev S d 207 157 [a0, a1, a2, a3, a4] st (sh, I, R) := (ev_eq f_207_154).trans fin_icmp_ge
theorem f_207_157 : fetch 207 157 = some (157, .iload_n 2, 1, [2], 0) := (fm_207 157).trans rfl
theorem u_207_157 {S : Scr} {d : Nat} {a0 a1 a3 a4 : AV} {st : List AV} {sh : Shp} {I : IM} {R : RM} {x : Int} : ev S d 207 157 [a0, a1, .inl x, a3, a4] st (sh, I, R) = ev S d 207 158 [a0, a1, .inl x, a3, a4] (.inl x :: st) (sh, I, R) := (ev_eq f_207_157).trans rfl
theorem f_207_158 : fetch 207 158 = some (158, .aload_n 0, 1, [0], 0) := (fm_207 158).trans rfl
theorem u_207_158 {S : Scr} {d : Nat} {a1 a2 a3 a4 : AV} {st : List AV} {sh : Shp} {I : IM} {R : RM} {x : Nat} : ev S d 207 158 [.inr (.inl x), a1, a2, a3, a4] st (sh, I, R) = ev S d 207 159 [.inr (.inl x), a1, a2, a3, a4] (.inr (.inl x) :: st) (sh, I, R) := (ev_eq f_207_158).trans rfl
theorem f_207_159 : fetch 207 159 = some (159, .iload_n 3, 1, [3], 0) := (fm_207 159).trans rfl
theorem u_207_159 {S : Scr} {d : Nat} {a0 a1 a2 a4 : AV} {st : List AV} {sh : Shp} {I : IM} {R : RM} {x : Int} : ev S d 207 159 [a0, a1, a2, .inl x, a4] st (sh, I, R) = ev S d 207 160 [a0, a1, a2, .inl x, a4] (.inl x :: st) (sh, I, R) := (ev_eq f_207_159).trans rfl
theorem f_207_160 : fetch 207 160 = some (160, .iload 4, 2, [4], 0) := (fm_207 160).trans rfl
theorem u_207_160 {S : Scr} {d : Nat} {a0 a1 a2 a3 : AV} {st : List AV} {sh : Shp} {I : IM} {R : RM} {x : Int} : ev S d 207 160 [a0, a1, a2, a3, .inl x] st (sh, I, R) = ev S d 207 162 [a0, a1, a2, a3, .inl x] (.inl x :: st) (sh, I, R) := (ev_eq f_207_160).trans rfl
theorem f_207_162 : fetch 207 162 = some (162, .invokevirtual 128, 3, [135, 2, 143], 0) := (fm_207 162).trans rfl
theorem u_207_162 {S : Scr} {d : Nat} {a0 a1 a2 a3 a4 : AV} {st : List AV} {sh : Shp} {I : IM} {R : RM} {x0 : Int} {x1 : Int} {k : Nat} (h : tg sh k = 9) (hr : st.length ≤ 8) : ev S d 207 162 [a0, a1, a2, a3, a4] (.inl x1 :: .inl x0 :: .inr (.inl k) :: st) (sh, I, R) = bnd (cl d 135 [.inr (.inl k), .inl x0, .inl x1] (sh, I, R)) (fun v M => ev S d 207 165 [a0, a1, a2, a3, a4] (psh v st) M) := (ev_eq f_207_162).trans (congrArg (fin S d 207) (if_pos ⟨h, rfl, hr⟩))
theorem f_207_165 : fetch 207 165 = some (165, .ifCond .lt 7, 3, [172], 0) := (fm_207 165).trans rfl
theorem u_207_165 {S : Scr} {d : Nat} {a0 a1 a2 a3 a4 : AV} {st : List AV} {sh : Shp} {I : IM} {R : RM} {x : Int} : ev S d 207 165 [a0, a1, a2, a3, a4] (.inl x :: st) (sh, I, R) = if x < 0 then ev S d 207 172 [a0, a1, a2, a3, a4] st (sh, I, R) else ev S d 207 168 [a0, a1, a2, a3, a4] st (sh, I, R) := (ev_eq f_207_165).trans fin_if_lt
theorem f_207_168 : fetch 207 168 = some (168, .iconst 1, 1, [], 1) := (fm_207 168).trans rfl
theorem u_207_168 {S : Scr} {d : Nat} {a0 a1 a2 a3 a4 : AV} {st : List AV} {sh : Shp} {I : IM} {R : RM} : ev S d 207 168 [a0, a1, a2, a3, a4] st (sh, I, R) = ev S d 207 169 [a0, a1, a2, a3, a4] (.inl 1 :: st) (sh, I, R) := (ev_eq f_207_168).trans rfl
theorem f_207_169 : fetch 207 169 = some (169, .goto 4, 3, [173], 0) := (fm_207 169).trans rfl
theorem u_207_169 {S : Scr} {d : Nat} {a0 a1 a2 a3 a4 : AV} {st : List AV} {sh : Shp} {I : IM} {R : RM} : ev S d 207 169 [a0, a1, a2, a3, a4] st (sh, I, R) = ev S d 207 173 [a0, a1, a2, a3, a4] st (sh, I, R) := (ev_eq f_207_169).trans rfl
theorem f_207_172 : fetch 207 172 = some (172, .iconst 0, 1, [], 0) := (fm_207 172).trans rfl
theorem u_207_172 {S : Scr} {d : Nat} {a0 a1 a2 a3 a4 : AV} {st : List AV} {sh : Shp} {I : IM} {R : RM} : ev S d 207 172 [a0, a1, a2, a3, a4] st (sh, I, R) = ev S d 207 173 [a0, a1, a2, a3, a4] (.inl 0 :: st) (sh, I, R) := (ev_eq f_207_172).trans rfl
theorem f_207_173 : fetch 207 173 = some (173, .iadd, 1, [], 0) := (fm_207 173).trans rfl
theorem u_207_173 {S : Scr} {d : Nat} {a0 a1 a2 a3 a4 : AV} {st : List AV} {sh : Shp} {I : IM} {R : RM} {x y : Int} : ev S d 207 173 [a0, a1, a2, a3, a4] (.inl y :: .inl x :: st) (sh, I, R) = ev S d 207 174 [a0, a1, a2, a3, a4] (.inl (wr (x + y)) :: st) (sh, I, R) := (ev_eq f_207_173).trans rfl
theorem f_207_174 : fetch 207 174 = some (174, .istore_n 2, 1, [2], 0) := (fm_207 174).trans rfl
theorem u_207_174 {S : Scr} {d : Nat} {a0 a1 a2 a3 a4 : AV} {st : List AV} {sh : Shp} {I : IM} {R : RM} {x : Int} : ev S d 207 174 [a0, a1, a2, a3, a4] (.inl x :: st) (sh, I, R) = ev S d 207 175 [a0, a1, .inl x, a3, a4] st (sh, I, R) := (ev_eq f_207_174).trans rfl
theorem f_207_175 : fetch 207 175 = some (175, .iinc 4 1, 3, [4], 1) := (fm_207 175).trans rfl
theorem u_207_175 {S : Scr} {d : Nat} {a0 a1 a2 a3 : AV} {st : List AV} {sh : Shp} {I : IM} {R : RM} {x : Int} : ev S d 207 175 [a0, a1, a2, a3, .inl x] st (sh, I, R) = ev S d 207 178 [a0, a1, a2, a3, .inl (wr (x + 1))] st (sh, I, R) := (ev_eq f_207_175).trans rfl
theorem f_207_178 : fetch 207 178 = some (178, .goto (-46), 3, [132], 0) := (fm_207 178).trans rfl
theorem u_207_178 {S : Scr} {d : Nat} {a0 a1 a2 a3 a4 : AV} {st : List AV} {sh : Shp} {I : IM} {R : RM} : ev S d 207 178 [a0, a1, a2, a3, a4] st (sh, I, R) = ev S d 207 132 [a0, a1, a2, a3, a4] st (sh, I, R) := (ev_eq f_207_178).trans rfl
theorem f_207_181 : fetch 207 181 = some (181, .iinc 3 1, 3, [3], 1) := (fm_207 181).trans rfl
theorem u_207_181 {S : Scr} {d : Nat} {a0 a1 a2 a4 : AV} {st : List AV} {sh : Shp} {I : IM} {R : RM} {x : Int} : ev S d 207 181 [a0, a1, a2, .inl x, a4] st (sh, I, R) = ev S d 207 184 [a0, a1, a2, .inl (wr (x + 1)), a4] st (sh, I, R) := (ev_eq f_207_181).trans rfl
theorem f_207_184 : fetch 207 184 = some (184, .goto (-61), 3, [123], 0) := (fm_207 184).trans rfl
theorem u_207_184 {S : Scr} {d : Nat} {a0 a1 a2 a3 a4 : AV} {st : List AV} {sh : Shp} {I : IM} {R : RM} : ev S d 207 184 [a0, a1, a2, a3, a4] st (sh, I, R) = ev S d 207 123 [a0, a1, a2, a3, a4] st (sh, I, R) := (ev_eq f_207_184).trans rfl
theorem f_207_187 : fetch 207 187 = some (187, .iload_n 2, 1, [2], 0) := (fm_207 187).trans rfl
theorem u_207_187 {S : Scr} {d : Nat} {a0 a1 a3 a4 : AV} {st : List AV} {sh : Shp} {I : IM} {R : RM} {x : Int} : ev S d 207 187 [a0, a1, .inl x, a3, a4] st (sh, I, R) = ev S d 207 188 [a0, a1, .inl x, a3, a4] (.inl x :: st) (sh, I, R) := (ev_eq f_207_187).trans rfl
theorem f_207_188 : fetch 207 188 = some (188, .ireturn, 1, [0], 0) := (fm_207 188).trans rfl
theorem u_207_188 {S : Scr} {d : Nat} {a0 a1 a2 a3 a4 : AV} {sh : Shp} {I : IM} {R : RM} {x : Int} : ev S d 207 188 [a0, a1, a2, a3, a4] [.inl x] (sh, I, R) = some (some (.inl x), (sh, I, R)) := (ev_eq f_207_188).trans fin_iret0
theorem f_207_189 : fetch 207 189 = some (189, .iconst 0, 1, [], 0) := (fm_207 189).trans rfl
theorem u_207_189 {S : Scr} {d : Nat} {a0 a1 a2 a3 a4 : AV} {st : List AV} {sh : Shp} {I : IM} {R : RM} : ev S d 207 189 [a0, a1, a2, a3, a4] st (sh, I, R) = ev S d 207 190 [a0, a1, a2, a3, a4] (.inl 0 :: st) (sh, I, R) := (ev_eq f_207_189).trans rfl
theorem f_207_190 : fetch 207 190 = some (190, .istore_n 3, 1, [3], 0) := (fm_207 190).trans rfl
theorem u_207_190 {S : Scr} {d : Nat} {a0 a1 a2 a3 a4 : AV} {st : List AV} {sh : Shp} {I : IM} {R : RM} {x : Int} : ev S d 207 190 [a0, a1, a2, a3, a4] (.inl x :: st) (sh, I, R) = ev S d 207 191 [a0, a1, a2, .inl x, a4] st (sh, I, R) := (ev_eq f_207_190).trans rfl
theorem f_207_191 : fetch 207 191 = some (191, .iload_n 3, 1, [3], 0) := (fm_207 191).trans rfl
theorem u_207_191 {S : Scr} {d : Nat} {a0 a1 a2 a4 : AV} {st : List AV} {sh : Shp} {I : IM} {R : RM} {x : Int} : ev S d 207 191 [a0, a1, a2, .inl x, a4] st (sh, I, R) = ev S d 207 192 [a0, a1, a2, .inl x, a4] (.inl x :: st) (sh, I, R) := (ev_eq f_207_191).trans rfl
theorem f_207_192 : fetch 207 192 = some (192, .bipush 9, 2, [], 9) := (fm_207 192).trans rfl
theorem u_207_192 {S : Scr} {d : Nat} {a0 a1 a2 a3 a4 : AV} {st : List AV} {sh : Shp} {I : IM} {R : RM} : ev S d 207 192 [a0, a1, a2, a3, a4] st (sh, I, R) = ev S d 207 194 [a0, a1, a2, a3, a4] (.inl 9 :: st) (sh, I, R) := (ev_eq f_207_192).trans rfl
theorem f_207_194 : fetch 207 194 = some (194, .if_icmp .ge 22, 3, [216], 0) := (fm_207 194).trans rfl
theorem u_207_194 {S : Scr} {d : Nat} {a0 a1 a2 a3 a4 : AV} {st : List AV} {sh : Shp} {I : IM} {R : RM} {x y : Int} : ev S d 207 194 [a0, a1, a2, a3, a4] (.inl y :: .inl x :: st) (sh, I, R) = if y ≤ x then ev S d 207 216 [a0, a1, a2, a3, a4] st (sh, I, R) else ev S d 207 197 [a0, a1, a2, a3, a4] st (sh, I, R) := (ev_eq f_207_194).trans fin_icmp_ge
theorem f_207_197 : fetch 207 197 = some (197, .iload_n 2, 1, [2], 0) := (fm_207 197).trans rfl
theorem u_207_197 {S : Scr} {d : Nat} {a0 a1 a3 a4 : AV} {st : List AV} {sh : Shp} {I : IM} {R : RM} {x : Int} : ev S d 207 197 [a0, a1, .inl x, a3, a4] st (sh, I, R) = ev S d 207 198 [a0, a1, .inl x, a3, a4] (.inl x :: st) (sh, I, R) := (ev_eq f_207_197).trans rfl
theorem f_207_198 : fetch 207 198 = some (198, .aload_n 0, 1, [0], 0) := (fm_207 198).trans rfl
theorem u_207_198 {S : Scr} {d : Nat} {a1 a2 a3 a4 : AV} {st : List AV} {sh : Shp} {I : IM} {R : RM} {x : Nat} : ev S d 207 198 [.inr (.inl x), a1, a2, a3, a4] st (sh, I, R) = ev S d 207 199 [.inr (.inl x), a1, a2, a3, a4] (.inr (.inl x) :: st) (sh, I, R) := (ev_eq f_207_198).trans rfl
theorem f_207_199 : fetch 207 199 = some (199, .getfield 9, 3, [9, 0, 1, 79], 0) := (fm_207 199).trans rfl
theorem u_207_199 {S : Scr} {d : Nat} {a0 a1 a2 a3 a4 : AV} {st : List AV} {sh : Shp} {I : IM} {R : RM} {k : Nat} (h : tg sh k = 9) : ev S d 207 199 [a0, a1, a2, a3, a4] (.inr (.inl k) :: st) (sh, I, R) = ev S d 207 202 [a0, a1, a2, a3, a4] (rv (R k 0) :: st) (sh, I, R) := (ev_eq f_207_199).trans (congrArg (fin S d 207) (if_pos h))
theorem f_207_202 : fetch 207 202 = some (202, .sipush 660, 3, [], 660) := (fm_207 202).trans rfl
theorem u_207_202 {S : Scr} {d : Nat} {a0 a1 a2 a3 a4 : AV} {st : List AV} {sh : Shp} {I : IM} {R : RM} : ev S d 207 202 [a0, a1, a2, a3, a4] st (sh, I, R) = ev S d 207 205 [a0, a1, a2, a3, a4] (.inl 660 :: st) (sh, I, R) := (ev_eq f_207_202).trans rfl
theorem f_207_205 : fetch 207 205 = some (205, .iload_n 3, 1, [3], 0) := (fm_207 205).trans rfl
theorem u_207_205 {S : Scr} {d : Nat} {a0 a1 a2 a4 : AV} {st : List AV} {sh : Shp} {I : IM} {R : RM} {x : Int} : ev S d 207 205 [a0, a1, a2, .inl x, a4] st (sh, I, R) = ev S d 207 206 [a0, a1, a2, .inl x, a4] (.inl x :: st) (sh, I, R) := (ev_eq f_207_205).trans rfl
theorem f_207_206 : fetch 207 206 = some (206, .iadd, 1, [], 0) := (fm_207 206).trans rfl
theorem u_207_206 {S : Scr} {d : Nat} {a0 a1 a2 a3 a4 : AV} {st : List AV} {sh : Shp} {I : IM} {R : RM} {x y : Int} : ev S d 207 206 [a0, a1, a2, a3, a4] (.inl y :: .inl x :: st) (sh, I, R) = ev S d 207 207 [a0, a1, a2, a3, a4] (.inl (wr (x + y)) :: st) (sh, I, R) := (ev_eq f_207_206).trans rfl
theorem f_207_207 : fetch 207 207 = some (207, .iaload, 1, [], 0) := (fm_207 207).trans rfl
theorem u_207_207 {S : Scr} {d : Nat} {a0 a1 a2 a3 a4 : AV} {st : List AV} {sh : Shp} {I : IM} {R : RM} {k : Nat} {i : Int} (h : tg sh k = 100) (h0 : 0 ≤ i) (h1 : i < ln sh k) : ev S d 207 207 [a0, a1, a2, a3, a4] (.inl i :: .inr (.inl k) :: st) (sh, I, R) = ev S d 207 208 [a0, a1, a2, a3, a4] (.inl (I k i) :: st) (sh, I, R) := (ev_eq f_207_207).trans (congrArg (fin S d 207) (if_pos ⟨h, h0, h1⟩))
theorem f_207_208 : fetch 207 208 = some (208, .iadd, 1, [], 0) := (fm_207 208).trans rfl
theorem u_207_208 {S : Scr} {d : Nat} {a0 a1 a2 a3 a4 : AV} {st : List AV} {sh : Shp} {I : IM} {R : RM} {x y : Int} : ev S d 207 208 [a0, a1, a2, a3, a4] (.inl y :: .inl x :: st) (sh, I, R) = ev S d 207 209 [a0, a1, a2, a3, a4] (.inl (wr (x + y)) :: st) (sh, I, R) := (ev_eq f_207_208).trans rfl
theorem f_207_209 : fetch 207 209 = some (209, .istore_n 2, 1, [2], 0) := (fm_207 209).trans rfl
theorem u_207_209 {S : Scr} {d : Nat} {a0 a1 a2 a3 a4 : AV} {st : List AV} {sh : Shp} {I : IM} {R : RM} {x : Int} : ev S d 207 209 [a0, a1, a2, a3, a4] (.inl x :: st) (sh, I, R) = ev S d 207 210 [a0, a1, .inl x, a3, a4] st (sh, I, R) := (ev_eq f_207_209).trans rfl
theorem f_207_210 : fetch 207 210 = some (210, .iinc 3 1, 3, [3], 1) := (fm_207 210).trans rfl
theorem u_207_210 {S : Scr} {d : Nat} {a0 a1 a2 a4 : AV} {st : List AV} {sh : Shp} {I : IM} {R : RM} {x : Int} : ev S d 207 210 [a0, a1, a2, .inl x, a4] st (sh, I, R) = ev S d 207 213 [a0, a1, a2, .inl (wr (x + 1)), a4] st (sh, I, R) := (ev_eq f_207_210).trans rfl
theorem f_207_213 : fetch 207 213 = some (213, .goto (-22), 3, [191], 0) := (fm_207 213).trans rfl
theorem u_207_213 {S : Scr} {d : Nat} {a0 a1 a2 a3 a4 : AV} {st : List AV} {sh : Shp} {I : IM} {R : RM} : ev S d 207 213 [a0, a1, a2, a3, a4] st (sh, I, R) = ev S d 207 191 [a0, a1, a2, a3, a4] st (sh, I, R) := (ev_eq f_207_213).trans rfl
theorem f_207_216 : fetch 207 216 = some (216, .iload_n 2, 1, [2], 0) := (fm_207 216).trans rfl
theorem u_207_216 {S : Scr} {d : Nat} {a0 a1 a3 a4 : AV} {st : List AV} {sh : Shp} {I : IM} {R : RM} {x : Int} : ev S d 207 216 [a0, a1, .inl x, a3, a4] st (sh, I, R) = ev S d 207 217 [a0, a1, .inl x, a3, a4] (.inl x :: st) (sh, I, R) := (ev_eq f_207_216).trans rfl
theorem f_207_217 : fetch 207 217 = some (217, .ireturn, 1, [0], 0) := (fm_207 217).trans rfl
theorem u_207_217 {S : Scr} {d : Nat} {a0 a1 a2 a3 a4 : AV} {sh : Shp} {I : IM} {R : RM} {x : Int} : ev S d 207 217 [a0, a1, a2, a3, a4] [.inl x] (sh, I, R) = some (some (.inl x), (sh, I, R)) := (ev_eq f_207_217).trans fin_iret0
theorem f_207_218 : fetch 207 218 = some (218, .iconst 0, 1, [], 0) := (fm_207 218).trans rfl
theorem u_207_218 {S : Scr} {d : Nat} {a0 a1 a2 a3 a4 : AV} {st : List AV} {sh : Shp} {I : IM} {R : RM} : ev S d 207 218 [a0, a1, a2, a3, a4] st (sh, I, R) = ev S d 207 219 [a0, a1, a2, a3, a4] (.inl 0 :: st) (sh, I, R) := (ev_eq f_207_218).trans rfl
theorem f_207_219 : fetch 207 219 = some (219, .istore_n 3, 1, [3], 0) := (fm_207 219).trans rfl
theorem u_207_219 {S : Scr} {d : Nat} {a0 a1 a2 a3 a4 : AV} {st : List AV} {sh : Shp} {I : IM} {R : RM} {x : Int} : ev S d 207 219 [a0, a1, a2, a3, a4] (.inl x :: st) (sh, I, R) = ev S d 207 220 [a0, a1, a2, .inl x, a4] st (sh, I, R) := (ev_eq f_207_219).trans rfl
theorem f_207_220 : fetch 207 220 = some (220, .iload_n 3, 1, [3], 0) := (fm_207 220).trans rfl
theorem u_207_220 {S : Scr} {d : Nat} {a0 a1 a2 a4 : AV} {st : List AV} {sh : Shp} {I : IM} {R : RM} {x : Int} : ev S d 207 220 [a0, a1, a2, .inl x, a4] st (sh, I, R) = ev S d 207 221 [a0, a1, a2, .inl x, a4] (.inl x :: st) (sh, I, R) := (ev_eq f_207_220).trans rfl
theorem f_207_221 : fetch 207 221 = some (221, .bipush 8, 2, [], 8) := (fm_207 221).trans rfl
theorem u_207_221 {S : Scr} {d : Nat} {a0 a1 a2 a3 a4 : AV} {st : List AV} {sh : Shp} {I : IM} {R : RM} : ev S d 207 221 [a0, a1, a2, a3, a4] st (sh, I, R) = ev S d 207 223 [a0, a1, a2, a3, a4] (.inl 8 :: st) (sh, I, R) := (ev_eq f_207_221).trans rfl
theorem f_207_223 : fetch 207 223 = some (223, .if_icmp .ge 26, 3, [249], 0) := (fm_207 223).trans rfl
theorem u_207_223 {S : Scr} {d : Nat} {a0 a1 a2 a3 a4 : AV} {st : List AV} {sh : Shp} {I : IM} {R : RM} {x y : Int} : ev S d 207 223 [a0, a1, a2, a3, a4] (.inl y :: .inl x :: st) (sh, I, R) = if y ≤ x then ev S d 207 249 [a0, a1, a2, a3, a4] st (sh, I, R) else ev S d 207 226 [a0, a1, a2, a3, a4] st (sh, I, R) := (ev_eq f_207_223).trans fin_icmp_ge
theorem f_207_226 : fetch 207 226 = some (226, .iload_n 2, 1, [2], 0) := (fm_207 226).trans rfl
theorem u_207_226 {S : Scr} {d : Nat} {a0 a1 a3 a4 : AV} {st : List AV} {sh : Shp} {I : IM} {R : RM} {x : Int} : ev S d 207 226 [a0, a1, .inl x, a3, a4] st (sh, I, R) = ev S d 207 227 [a0, a1, .inl x, a3, a4] (.inl x :: st) (sh, I, R) := (ev_eq f_207_226).trans rfl
theorem f_207_227 : fetch 207 227 = some (227, .aload_n 0, 1, [0], 0) := (fm_207 227).trans rfl
theorem u_207_227 {S : Scr} {d : Nat} {a1 a2 a3 a4 : AV} {st : List AV} {sh : Shp} {I : IM} {R : RM} {x : Nat} : ev S d 207 227 [.inr (.inl x), a1, a2, a3, a4] st (sh, I, R) = ev S d 207 228 [.inr (.inl x), a1, a2, a3, a4] (.inr (.inl x) :: st) (sh, I, R) := (ev_eq f_207_227).trans rfl
theorem f_207_228 : fetch 207 228 = some (228, .getfield 19, 3, [9, 4, 1, 82], 0) := (fm_207 228).trans rfl
theorem u_207_228 {S : Scr} {d : Nat} {a0 a1 a2 a3 a4 : AV} {st : List AV} {sh : Shp} {I : IM} {R : RM} {k : Nat} (h : tg sh k = 9) : ev S d 207 228 [a0, a1, a2, a3, a4] (.inr (.inl k) :: st) (sh, I, R) = ev S d 207 231 [a0, a1, a2, a3, a4] (rv (R k 4) :: st) (sh, I, R) := (ev_eq f_207_228).trans (congrArg (fin S d 207) (if_pos h))
theorem f_207_231 : fetch 207 231 = some (231, .iload_n 3, 1, [3], 0) := (fm_207 231).trans rfl
theorem u_207_231 {S : Scr} {d : Nat} {a0 a1 a2 a4 : AV} {st : List AV} {sh : Shp} {I : IM} {R : RM} {x : Int} : ev S d 207 231 [a0, a1, a2, .inl x, a4] st (sh, I, R) = ev S d 207 232 [a0, a1, a2, .inl x, a4] (.inl x :: st) (sh, I, R) := (ev_eq f_207_231).trans rfl
theorem f_207_232 : fetch 207 232 = some (232, .iaload, 1, [], 0) := (fm_207 232).trans rfl
theorem u_207_232 {S : Scr} {d : Nat} {a0 a1 a2 a3 a4 : AV} {st : List AV} {sh : Shp} {I : IM} {R : RM} {k : Nat} {i : Int} (h : tg sh k = 100) (h0 : 0 ≤ i) (h1 : i < ln sh k) : ev S d 207 232 [a0, a1, a2, a3, a4] (.inl i :: .inr (.inl k) :: st) (sh, I, R) = ev S d 207 233 [a0, a1, a2, a3, a4] (.inl (I k i) :: st) (sh, I, R) := (ev_eq f_207_232).trans (congrArg (fin S d 207) (if_pos ⟨h, h0, h1⟩))
theorem f_207_233 : fetch 207 233 = some (233, .ifCond .lt 7, 3, [240], 0) := (fm_207 233).trans rfl
theorem u_207_233 {S : Scr} {d : Nat} {a0 a1 a2 a3 a4 : AV} {st : List AV} {sh : Shp} {I : IM} {R : RM} {x : Int} : ev S d 207 233 [a0, a1, a2, a3, a4] (.inl x :: st) (sh, I, R) = if x < 0 then ev S d 207 240 [a0, a1, a2, a3, a4] st (sh, I, R) else ev S d 207 236 [a0, a1, a2, a3, a4] st (sh, I, R) := (ev_eq f_207_233).trans fin_if_lt
theorem f_207_236 : fetch 207 236 = some (236, .iconst 1, 1, [], 1) := (fm_207 236).trans rfl
theorem u_207_236 {S : Scr} {d : Nat} {a0 a1 a2 a3 a4 : AV} {st : List AV} {sh : Shp} {I : IM} {R : RM} : ev S d 207 236 [a0, a1, a2, a3, a4] st (sh, I, R) = ev S d 207 237 [a0, a1, a2, a3, a4] (.inl 1 :: st) (sh, I, R) := (ev_eq f_207_236).trans rfl
theorem f_207_237 : fetch 207 237 = some (237, .goto 4, 3, [241], 0) := (fm_207 237).trans rfl
theorem u_207_237 {S : Scr} {d : Nat} {a0 a1 a2 a3 a4 : AV} {st : List AV} {sh : Shp} {I : IM} {R : RM} : ev S d 207 237 [a0, a1, a2, a3, a4] st (sh, I, R) = ev S d 207 241 [a0, a1, a2, a3, a4] st (sh, I, R) := (ev_eq f_207_237).trans rfl
theorem f_207_240 : fetch 207 240 = some (240, .iconst 0, 1, [], 0) := (fm_207 240).trans rfl
theorem u_207_240 {S : Scr} {d : Nat} {a0 a1 a2 a3 a4 : AV} {st : List AV} {sh : Shp} {I : IM} {R : RM} : ev S d 207 240 [a0, a1, a2, a3, a4] st (sh, I, R) = ev S d 207 241 [a0, a1, a2, a3, a4] (.inl 0 :: st) (sh, I, R) := (ev_eq f_207_240).trans rfl
theorem f_207_241 : fetch 207 241 = some (241, .iadd, 1, [], 0) := (fm_207 241).trans rfl
theorem u_207_241 {S : Scr} {d : Nat} {a0 a1 a2 a3 a4 : AV} {st : List AV} {sh : Shp} {I : IM} {R : RM} {x y : Int} : ev S d 207 241 [a0, a1, a2, a3, a4] (.inl y :: .inl x :: st) (sh, I, R) = ev S d 207 242 [a0, a1, a2, a3, a4] (.inl (wr (x + y)) :: st) (sh, I, R) := (ev_eq f_207_241).trans rfl
theorem f_207_242 : fetch 207 242 = some (242, .istore_n 2, 1, [2], 0) := (fm_207 242).trans rfl
theorem u_207_242 {S : Scr} {d : Nat} {a0 a1 a2 a3 a4 : AV} {st : List AV} {sh : Shp} {I : IM} {R : RM} {x : Int} : ev S d 207 242 [a0, a1, a2, a3, a4] (.inl x :: st) (sh, I, R) = ev S d 207 243 [a0, a1, .inl x, a3, a4] st (sh, I, R) := (ev_eq f_207_242).trans rfl
theorem f_207_243 : fetch 207 243 = some (243, .iinc 3 1, 3, [3], 1) := (fm_207 243).trans rfl
theorem u_207_243 {S : Scr} {d : Nat} {a0 a1 a2 a4 : AV} {st : List AV} {sh : Shp} {I : IM} {R : RM} {x : Int} : ev S d 207 243 [a0, a1, a2, .inl x, a4] st (sh, I, R) = ev S d 207 246 [a0, a1, a2, .inl (wr (x + 1)), a4] st (sh, I, R) := (ev_eq f_207_243).trans rfl
theorem f_207_246 : fetch 207 246 = some (246, .goto (-26), 3, [220], 0) := (fm_207 246).trans rfl
theorem u_207_246 {S : Scr} {d : Nat} {a0 a1 a2 a3 a4 : AV} {st : List AV} {sh : Shp} {I : IM} {R : RM} : ev S d 207 246 [a0, a1, a2, a3, a4] st (sh, I, R) = ev S d 207 220 [a0, a1, a2, a3, a4] st (sh, I, R) := (ev_eq f_207_246).trans rfl
theorem f_207_249 : fetch 207 249 = some (249, .iload_n 2, 1, [2], 0) := (fm_207 249).trans rfl
theorem u_207_249 {S : Scr} {d : Nat} {a0 a1 a3 a4 : AV} {st : List AV} {sh : Shp} {I : IM} {R : RM} {x : Int} : ev S d 207 249 [a0, a1, .inl x, a3, a4] st (sh, I, R) = ev S d 207 250 [a0, a1, .inl x, a3, a4] (.inl x :: st) (sh, I, R) := (ev_eq f_207_249).trans rfl
theorem f_207_250 : fetch 207 250 = some (250, .ireturn, 1, [0], 0) := (fm_207 250).trans rfl
theorem u_207_250 {S : Scr} {d : Nat} {a0 a1 a2 a3 a4 : AV} {sh : Shp} {I : IM} {R : RM} {x : Int} : ev S d 207 250 [a0, a1, a2, a3, a4] [.inl x] (sh, I, R) = some (some (.inl x), (sh, I, R)) := (ev_eq f_207_250).trans fin_iret0
theorem f_207_251 : fetch 207 251 = some (251, .iconst 0, 1, [], 0) := (fm_207 251).trans rfl
theorem u_207_251 {S : Scr} {d : Nat} {a0 a1 a2 a3 a4 : AV} {st : List AV} {sh : Shp} {I : IM} {R : RM} : ev S d 207 251 [a0, a1, a2, a3, a4] st (sh, I, R) = ev S d 207 252 [a0, a1, a2, a3, a4] (.inl 0 :: st) (sh, I, R) := (ev_eq f_207_251).trans rfl
theorem f_207_252 : fetch 207 252 = some (252, .istore_n 3, 1, [3], 0) := (fm_207 252).trans rfl
theorem u_207_252 {S : Scr} {d : Nat} {a0 a1 a2 a3 a4 : AV} {st : List AV} {sh : Shp} {I : IM} {R : RM} {x : Int} : ev S d 207 252 [a0, a1, a2, a3, a4] (.inl x :: st) (sh, I, R) = ev S d 207 253 [a0, a1, a2, .inl x, a4] st (sh, I, R) := (ev_eq f_207_252).trans rfl
theorem f_207_253 : fetch 207 253 = some (253, .iload_n 3, 1, [3], 0) := (fm_207 253).trans rfl
theorem u_207_253 {S : Scr} {d : Nat} {a0 a1 a2 a4 : AV} {st : List AV} {sh : Shp} {I : IM} {R : RM} {x : Int} : ev S d 207 253 [a0, a1, a2, .inl x, a4] st (sh, I, R) = ev S d 207 254 [a0, a1, a2, .inl x, a4] (.inl x :: st) (sh, I, R) := (ev_eq f_207_253).trans rfl
theorem f_207_254 : fetch 207 254 = some (254, .iconst 4, 1, [], 4) := (fm_207 254).trans rfl
theorem u_207_254 {S : Scr} {d : Nat} {a0 a1 a2 a3 a4 : AV} {st : List AV} {sh : Shp} {I : IM} {R : RM} : ev S d 207 254 [a0, a1, a2, a3, a4] st (sh, I, R) = ev S d 207 255 [a0, a1, a2, a3, a4] (.inl 4 :: st) (sh, I, R) := (ev_eq f_207_254).trans rfl
theorem f_207_255 : fetch 207 255 = some (255, .if_icmp .ge 26, 3, [281], 0) := (fm_207 255).trans rfl
theorem u_207_255 {S : Scr} {d : Nat} {a0 a1 a2 a3 a4 : AV} {st : List AV} {sh : Shp} {I : IM} {R : RM} {x y : Int} : ev S d 207 255 [a0, a1, a2, a3, a4] (.inl y :: .inl x :: st) (sh, I, R) = if y ≤ x then ev S d 207 281 [a0, a1, a2, a3, a4] st (sh, I, R) else ev S d 207 258 [a0, a1, a2, a3, a4] st (sh, I, R) := (ev_eq f_207_255).trans fin_icmp_ge
theorem f_207_258 : fetch 207 258 = some (258, .iload_n 2, 1, [2], 0) := (fm_207 258).trans rfl
theorem u_207_258 {S : Scr} {d : Nat} {a0 a1 a3 a4 : AV} {st : List AV} {sh : Shp} {I : IM} {R : RM} {x : Int} : ev S d 207 258 [a0, a1, .inl x, a3, a4] st (sh, I, R) = ev S d 207 259 [a0, a1, .inl x, a3, a4] (.inl x :: st) (sh, I, R) := (ev_eq f_207_258).trans rfl
theorem f_207_259 : fetch 207 259 = some (259, .aload_n 0, 1, [0], 0) := (fm_207 259).trans rfl
theorem u_207_259 {S : Scr} {d : Nat} {a1 a2 a3 a4 : AV} {st : List AV} {sh : Shp} {I : IM} {R : RM} {x : Nat} : ev S d 207 259 [.inr (.inl x), a1, a2, a3, a4] st (sh, I, R) = ev S d 207 260 [.inr (.inl x), a1, a2, a3, a4] (.inr (.inl x) :: st) (sh, I, R) := (ev_eq f_207_259).trans rfl
theorem f_207_260 : fetch 207 260 = some (260, .getfield 22, 3, [9, 5, 1, 83], 0) := (fm_207 260).trans rfl
theorem u_207_260 {S : Scr} {d : Nat} {a0 a1 a2 a3 a4 : AV} {st : List AV} {sh : Shp} {I : IM} {R : RM} {k : Nat} (h : tg sh k = 9) : ev S d 207 260 [a0, a1, a2, a3, a4] (.inr (.inl k) :: st) (sh, I, R) = ev S d 207 263 [a0, a1, a2, a3, a4] (rv (R k 5) :: st) (sh, I, R) := (ev_eq f_207_260).trans (congrArg (fin S d 207) (if_pos h))
theorem f_207_263 : fetch 207 263 = some (263, .iload_n 3, 1, [3], 0) := (fm_207 263).trans rfl
theorem u_207_263 {S : Scr} {d : Nat} {a0 a1 a2 a4 : AV} {st : List AV} {sh : Shp} {I : IM} {R : RM} {x : Int} : ev S d 207 263 [a0, a1, a2, .inl x, a4] st (sh, I, R) = ev S d 207 264 [a0, a1, a2, .inl x, a4] (.inl x :: st) (sh, I, R) := (ev_eq f_207_263).trans rfl
theorem f_207_264 : fetch 207 264 = some (264, .iaload, 1, [], 0) := (fm_207 264).trans rfl
theorem u_207_264 {S : Scr} {d : Nat} {a0 a1 a2 a3 a4 : AV} {st : List AV} {sh : Shp} {I : IM} {R : RM} {k : Nat} {i : Int} (h : tg sh k = 100) (h0 : 0 ≤ i) (h1 : i < ln sh k) : ev S d 207 264 [a0, a1, a2, a3, a4] (.inl i :: .inr (.inl k) :: st) (sh, I, R) = ev S d 207 265 [a0, a1, a2, a3, a4] (.inl (I k i) :: st) (sh, I, R) := (ev_eq f_207_264).trans (congrArg (fin S d 207) (if_pos ⟨h, h0, h1⟩))
theorem f_207_265 : fetch 207 265 = some (265, .ifCond .lt 7, 3, [272], 0) := (fm_207 265).trans rfl
theorem u_207_265 {S : Scr} {d : Nat} {a0 a1 a2 a3 a4 : AV} {st : List AV} {sh : Shp} {I : IM} {R : RM} {x : Int} : ev S d 207 265 [a0, a1, a2, a3, a4] (.inl x :: st) (sh, I, R) = if x < 0 then ev S d 207 272 [a0, a1, a2, a3, a4] st (sh, I, R) else ev S d 207 268 [a0, a1, a2, a3, a4] st (sh, I, R) := (ev_eq f_207_265).trans fin_if_lt
theorem f_207_268 : fetch 207 268 = some (268, .iconst 1, 1, [], 1) := (fm_207 268).trans rfl
theorem u_207_268 {S : Scr} {d : Nat} {a0 a1 a2 a3 a4 : AV} {st : List AV} {sh : Shp} {I : IM} {R : RM} : ev S d 207 268 [a0, a1, a2, a3, a4] st (sh, I, R) = ev S d 207 269 [a0, a1, a2, a3, a4] (.inl 1 :: st) (sh, I, R) := (ev_eq f_207_268).trans rfl
theorem f_207_269 : fetch 207 269 = some (269, .goto 4, 3, [273], 0) := (fm_207 269).trans rfl
theorem u_207_269 {S : Scr} {d : Nat} {a0 a1 a2 a3 a4 : AV} {st : List AV} {sh : Shp} {I : IM} {R : RM} : ev S d 207 269 [a0, a1, a2, a3, a4] st (sh, I, R) = ev S d 207 273 [a0, a1, a2, a3, a4] st (sh, I, R) := (ev_eq f_207_269).trans rfl
theorem f_207_272 : fetch 207 272 = some (272, .iconst 0, 1, [], 0) := (fm_207 272).trans rfl
theorem u_207_272 {S : Scr} {d : Nat} {a0 a1 a2 a3 a4 : AV} {st : List AV} {sh : Shp} {I : IM} {R : RM} : ev S d 207 272 [a0, a1, a2, a3, a4] st (sh, I, R) = ev S d 207 273 [a0, a1, a2, a3, a4] (.inl 0 :: st) (sh, I, R) := (ev_eq f_207_272).trans rfl
theorem f_207_273 : fetch 207 273 = some (273, .iadd, 1, [], 0) := (fm_207 273).trans rfl
theorem u_207_273 {S : Scr} {d : Nat} {a0 a1 a2 a3 a4 : AV} {st : List AV} {sh : Shp} {I : IM} {R : RM} {x y : Int} : ev S d 207 273 [a0, a1, a2, a3, a4] (.inl y :: .inl x :: st) (sh, I, R) = ev S d 207 274 [a0, a1, a2, a3, a4] (.inl (wr (x + y)) :: st) (sh, I, R) := (ev_eq f_207_273).trans rfl
theorem f_207_274 : fetch 207 274 = some (274, .istore_n 2, 1, [2], 0) := (fm_207 274).trans rfl
theorem u_207_274 {S : Scr} {d : Nat} {a0 a1 a2 a3 a4 : AV} {st : List AV} {sh : Shp} {I : IM} {R : RM} {x : Int} : ev S d 207 274 [a0, a1, a2, a3, a4] (.inl x :: st) (sh, I, R) = ev S d 207 275 [a0, a1, .inl x, a3, a4] st (sh, I, R) := (ev_eq f_207_274).trans rfl
theorem f_207_275 : fetch 207 275 = some (275, .iinc 3 1, 3, [3], 1) := (fm_207 275).trans rfl
theorem u_207_275 {S : Scr} {d : Nat} {a0 a1 a2 a4 : AV} {st : List AV} {sh : Shp} {I : IM} {R : RM} {x : Int} : ev S d 207 275 [a0, a1, a2, .inl x, a4] st (sh, I, R) = ev S d 207 278 [a0, a1, a2, .inl (wr (x + 1)), a4] st (sh, I, R) := (ev_eq f_207_275).trans rfl
theorem f_207_278 : fetch 207 278 = some (278, .goto (-25), 3, [253], 0) := (fm_207 278).trans rfl
theorem u_207_278 {S : Scr} {d : Nat} {a0 a1 a2 a3 a4 : AV} {st : List AV} {sh : Shp} {I : IM} {R : RM} : ev S d 207 278 [a0, a1, a2, a3, a4] st (sh, I, R) = ev S d 207 253 [a0, a1, a2, a3, a4] st (sh, I, R) := (ev_eq f_207_278).trans rfl
theorem f_207_281 : fetch 207 281 = some (281, .iload_n 2, 1, [2], 0) := (fm_207 281).trans rfl
theorem u_207_281 {S : Scr} {d : Nat} {a0 a1 a3 a4 : AV} {st : List AV} {sh : Shp} {I : IM} {R : RM} {x : Int} : ev S d 207 281 [a0, a1, .inl x, a3, a4] st (sh, I, R) = ev S d 207 282 [a0, a1, .inl x, a3, a4] (.inl x :: st) (sh, I, R) := (ev_eq f_207_281).trans rfl
theorem f_207_282 : fetch 207 282 = some (282, .ireturn, 1, [0], 0) := (fm_207 282).trans rfl
theorem u_207_282 {S : Scr} {d : Nat} {a0 a1 a2 a3 a4 : AV} {sh : Shp} {I : IM} {R : RM} {x : Int} : ev S d 207 282 [a0, a1, a2, a3, a4] [.inl x] (sh, I, R) = some (some (.inl x), (sh, I, R)) := (ev_eq f_207_282).trans fin_iret0
theorem f_207_283 : fetch 207 283 = some (283, .iconst (-1), 1, [], (-1)) := (fm_207 283).trans rfl
theorem u_207_283 {S : Scr} {d : Nat} {a0 a1 a2 a3 a4 : AV} {st : List AV} {sh : Shp} {I : IM} {R : RM} : ev S d 207 283 [a0, a1, a2, a3, a4] st (sh, I, R) = ev S d 207 284 [a0, a1, a2, a3, a4] (.inl (-1) :: st) (sh, I, R) := (ev_eq f_207_283).trans rfl
theorem f_207_284 : fetch 207 284 = some (284, .ireturn, 1, [0], 0) := (fm_207 284).trans rfl
theorem u_207_284 {S : Scr} {d : Nat} {a0 a1 a2 a3 a4 : AV} {sh : Shp} {I : IM} {R : RM} {x : Int} : ev S d 207 284 [a0, a1, a2, a3, a4] [.inl x] (sh, I, R) = some (some (.inl x), (sh, I, R)) := (ev_eq f_207_284).trans fin_iret0
theorem c_208 {d : Nat} {a0 : AV} {M : Mem} : cl (d + 1) 208 [a0] M = ev S0 d 208 0 [a0] [] M := (cl_eq (as := [a0]) (show 1 ≤ maxOf 208 by decide +kernel)).trans rfl
theorem mt_208 : MT[208]? = some m_208 := rfl
theorem fm_208 (pc : Nat) : fetch 208 pc = lk m_208.2.2.2.2.2 pc := by
  unfold fetch
  rw [mt_208]
theorem f_208_0 : fetch 208 0 = some (0, .iload_n 0, 1, [0], 0) := (fm_208 0).trans rfl
theorem u_208_0 {S : Scr} {d : Nat} {st : List AV} {sh : Shp} {I : IM} {R : RM} {x : Int} : ev S d 208 0 [.inl x] st (sh, I, R) = ev S d 208 1 [.inl x] (.inl x :: st) (sh, I, R) := (ev_eq f_208_0).trans rfl
theorem f_208_1 : fetch 208 1 = some (1, .iload_n 0, 1, [0], 0) := (fm_208 1).trans rfl
theorem u_208_1 {S : Scr} {d : Nat} {st : List AV} {sh : Shp} {I : IM} {R : RM} {x : Int} : ev S d 208 1 [.inl x] st (sh, I, R) = ev S d 208 2 [.inl x] (.inl x :: st) (sh, I, R) := (ev_eq f_208_1).trans rfl
theorem f_208_2 : fetch 208 2 = some (2, .iconst 1, 1, [], 1) := (fm_208 2).trans rfl
theorem u_208_2 {S : Scr} {d : Nat} {a0 : AV} {st : List AV} {sh : Shp} {I : IM} {R : RM} : ev S d 208 2 [a0] st (sh, I, R) = ev S d 208 3 [a0] (.inl 1 :: st) (sh, I, R) := (ev_eq f_208_2).trans rfl
theorem f_208_3 : fetch 208 3 = some (3, .iushr, 1, [], 0) := (fm_208 3).trans rfl
theorem u_208_3 {S : Scr} {d : Nat} {a0 : AV} {st : List AV} {sh : Shp} {I : IM} {R : RM} {x y : Int} : ev S d 208 3 [a0] (.inl y :: .inl x :: st) (sh, I, R) = ev S d 208 4 [a0] (.inl (b32 (fun x y => (x.toUInt32 >>> (y.toUInt32 &&& Int32.toUInt32 31)).toInt32) x y) :: st) (sh, I, R) := (ev_eq f_208_3).trans rfl
theorem f_208_4 : fetch 208 4 = some (4, .ldc_w 265, 3, [6], 1431655765) := (fm_208 4).trans rfl
theorem u_208_4 {S : Scr} {d : Nat} {a0 : AV} {st : List AV} {sh : Shp} {I : IM} {R : RM} : ev S d 208 4 [a0] st (sh, I, R) = ev S d 208 7 [a0] (.inl 1431655765 :: st) (sh, I, R) := (ev_eq f_208_4).trans rfl
theorem f_208_7 : fetch 208 7 = some (7, .iand, 1, [], 0) := (fm_208 7).trans rfl
theorem u_208_7 {S : Scr} {d : Nat} {a0 : AV} {st : List AV} {sh : Shp} {I : IM} {R : RM} {x y : Int} : ev S d 208 7 [a0] (.inl y :: .inl x :: st) (sh, I, R) = ev S d 208 8 [a0] (.inl (b32 (fun x y => x &&& y) x y) :: st) (sh, I, R) := (ev_eq f_208_7).trans rfl
theorem f_208_8 : fetch 208 8 = some (8, .isub, 1, [], 0) := (fm_208 8).trans rfl
theorem u_208_8 {S : Scr} {d : Nat} {a0 : AV} {st : List AV} {sh : Shp} {I : IM} {R : RM} {x y : Int} : ev S d 208 8 [a0] (.inl y :: .inl x :: st) (sh, I, R) = ev S d 208 9 [a0] (.inl (wr (x - y)) :: st) (sh, I, R) := (ev_eq f_208_8).trans rfl
theorem f_208_9 : fetch 208 9 = some (9, .istore_n 0, 1, [0], 0) := (fm_208 9).trans rfl
theorem u_208_9 {S : Scr} {d : Nat} {a0 : AV} {st : List AV} {sh : Shp} {I : IM} {R : RM} {x : Int} : ev S d 208 9 [a0] (.inl x :: st) (sh, I, R) = ev S d 208 10 [.inl x] st (sh, I, R) := (ev_eq f_208_9).trans rfl
theorem f_208_10 : fetch 208 10 = some (10, .iload_n 0, 1, [0], 0) := (fm_208 10).trans rfl
theorem u_208_10 {S : Scr} {d : Nat} {st : List AV} {sh : Shp} {I : IM} {R : RM} {x : Int} : ev S d 208 10 [.inl x] st (sh, I, R) = ev S d 208 11 [.inl x] (.inl x :: st) (sh, I, R) := (ev_eq f_208_10).trans rfl
theorem f_208_11 : fetch 208 11 = some (11, .ldc_w 266, 3, [7], 858993459) := (fm_208 11).trans rfl
theorem u_208_11 {S : Scr} {d : Nat} {a0 : AV} {st : List AV} {sh : Shp} {I : IM} {R : RM} : ev S d 208 11 [a0] st (sh, I, R) = ev S d 208 14 [a0] (.inl 858993459 :: st) (sh, I, R) := (ev_eq f_208_11).trans rfl
theorem f_208_14 : fetch 208 14 = some (14, .iand, 1, [], 0) := (fm_208 14).trans rfl
theorem u_208_14 {S : Scr} {d : Nat} {a0 : AV} {st : List AV} {sh : Shp} {I : IM} {R : RM} {x y : Int} : ev S d 208 14 [a0] (.inl y :: .inl x :: st) (sh, I, R) = ev S d 208 15 [a0] (.inl (b32 (fun x y => x &&& y) x y) :: st) (sh, I, R) := (ev_eq f_208_14).trans rfl
theorem f_208_15 : fetch 208 15 = some (15, .iload_n 0, 1, [0], 0) := (fm_208 15).trans rfl
theorem u_208_15 {S : Scr} {d : Nat} {st : List AV} {sh : Shp} {I : IM} {R : RM} {x : Int} : ev S d 208 15 [.inl x] st (sh, I, R) = ev S d 208 16 [.inl x] (.inl x :: st) (sh, I, R) := (ev_eq f_208_15).trans rfl
theorem f_208_16 : fetch 208 16 = some (16, .iconst 2, 1, [], 2) := (fm_208 16).trans rfl
theorem u_208_16 {S : Scr} {d : Nat} {a0 : AV} {st : List AV} {sh : Shp} {I : IM} {R : RM} : ev S d 208 16 [a0] st (sh, I, R) = ev S d 208 17 [a0] (.inl 2 :: st) (sh, I, R) := (ev_eq f_208_16).trans rfl
theorem f_208_17 : fetch 208 17 = some (17, .iushr, 1, [], 0) := (fm_208 17).trans rfl
theorem u_208_17 {S : Scr} {d : Nat} {a0 : AV} {st : List AV} {sh : Shp} {I : IM} {R : RM} {x y : Int} : ev S d 208 17 [a0] (.inl y :: .inl x :: st) (sh, I, R) = ev S d 208 18 [a0] (.inl (b32 (fun x y => (x.toUInt32 >>> (y.toUInt32 &&& Int32.toUInt32 31)).toInt32) x y) :: st) (sh, I, R) := (ev_eq f_208_17).trans rfl
theorem f_208_18 : fetch 208 18 = some (18, .ldc_w 266, 3, [7], 858993459) := (fm_208 18).trans rfl
theorem u_208_18 {S : Scr} {d : Nat} {a0 : AV} {st : List AV} {sh : Shp} {I : IM} {R : RM} : ev S d 208 18 [a0] st (sh, I, R) = ev S d 208 21 [a0] (.inl 858993459 :: st) (sh, I, R) := (ev_eq f_208_18).trans rfl
theorem f_208_21 : fetch 208 21 = some (21, .iand, 1, [], 0) := (fm_208 21).trans rfl
theorem u_208_21 {S : Scr} {d : Nat} {a0 : AV} {st : List AV} {sh : Shp} {I : IM} {R : RM} {x y : Int} : ev S d 208 21 [a0] (.inl y :: .inl x :: st) (sh, I, R) = ev S d 208 22 [a0] (.inl (b32 (fun x y => x &&& y) x y) :: st) (sh, I, R) := (ev_eq f_208_21).trans rfl
theorem f_208_22 : fetch 208 22 = some (22, .iadd, 1, [], 0) := (fm_208 22).trans rfl
theorem u_208_22 {S : Scr} {d : Nat} {a0 : AV} {st : List AV} {sh : Shp} {I : IM} {R : RM} {x y : Int} : ev S d 208 22 [a0] (.inl y :: .inl x :: st) (sh, I, R) = ev S d 208 23 [a0] (.inl (wr (x + y)) :: st) (sh, I, R) := (ev_eq f_208_22).trans rfl
theorem f_208_23 : fetch 208 23 = some (23, .istore_n 0, 1, [0], 0) := (fm_208 23).trans rfl
theorem u_208_23 {S : Scr} {d : Nat} {a0 : AV} {st : List AV} {sh : Shp} {I : IM} {R : RM} {x : Int} : ev S d 208 23 [a0] (.inl x :: st) (sh, I, R) = ev S d 208 24 [.inl x] st (sh, I, R) := (ev_eq f_208_23).trans rfl
theorem f_208_24 : fetch 208 24 = some (24, .iload_n 0, 1, [0], 0) := (fm_208 24).trans rfl
theorem u_208_24 {S : Scr} {d : Nat} {st : List AV} {sh : Shp} {I : IM} {R : RM} {x : Int} : ev S d 208 24 [.inl x] st (sh, I, R) = ev S d 208 25 [.inl x] (.inl x :: st) (sh, I, R) := (ev_eq f_208_24).trans rfl
theorem f_208_25 : fetch 208 25 = some (25, .iload_n 0, 1, [0], 0) := (fm_208 25).trans rfl
theorem u_208_25 {S : Scr} {d : Nat} {st : List AV} {sh : Shp} {I : IM} {R : RM} {x : Int} : ev S d 208 25 [.inl x] st (sh, I, R) = ev S d 208 26 [.inl x] (.inl x :: st) (sh, I, R) := (ev_eq f_208_25).trans rfl
theorem f_208_26 : fetch 208 26 = some (26, .iconst 4, 1, [], 4) := (fm_208 26).trans rfl
theorem u_208_26 {S : Scr} {d : Nat} {a0 : AV} {st : List AV} {sh : Shp} {I : IM} {R : RM} : ev S d 208 26 [a0] st (sh, I, R) = ev S d 208 27 [a0] (.inl 4 :: st) (sh, I, R) := (ev_eq f_208_26).trans rfl
theorem f_208_27 : fetch 208 27 = some (27, .iushr, 1, [], 0) := (fm_208 27).trans rfl
theorem u_208_27 {S : Scr} {d : Nat} {a0 : AV} {st : List AV} {sh : Shp} {I : IM} {R : RM} {x y : Int} : ev S d 208 27 [a0] (.inl y :: .inl x :: st) (sh, I, R) = ev S d 208 28 [a0] (.inl (b32 (fun x y => (x.toUInt32 >>> (y.toUInt32 &&& Int32.toUInt32 31)).toInt32) x y) :: st) (sh, I, R) := (ev_eq f_208_27).trans rfl
theorem f_208_28 : fetch 208 28 = some (28, .iadd, 1, [], 0) := (fm_208 28).trans rfl
theorem u_208_28 {S : Scr} {d : Nat} {a0 : AV} {st : List AV} {sh : Shp} {I : IM} {R : RM} {x y : Int} : ev S d 208 28 [a0] (.inl y :: .inl x :: st) (sh, I, R) = ev S d 208 29 [a0] (.inl (wr (x + y)) :: st) (sh, I, R) := (ev_eq f_208_28).trans rfl
theorem f_208_29 : fetch 208 29 = some (29, .ldc_w 267, 3, [8], 252645135) := (fm_208 29).trans rfl
theorem u_208_29 {S : Scr} {d : Nat} {a0 : AV} {st : List AV} {sh : Shp} {I : IM} {R : RM} : ev S d 208 29 [a0] st (sh, I, R) = ev S d 208 32 [a0] (.inl 252645135 :: st) (sh, I, R) := (ev_eq f_208_29).trans rfl
theorem f_208_32 : fetch 208 32 = some (32, .iand, 1, [], 0) := (fm_208 32).trans rfl
theorem u_208_32 {S : Scr} {d : Nat} {a0 : AV} {st : List AV} {sh : Shp} {I : IM} {R : RM} {x y : Int} : ev S d 208 32 [a0] (.inl y :: .inl x :: st) (sh, I, R) = ev S d 208 33 [a0] (.inl (b32 (fun x y => x &&& y) x y) :: st) (sh, I, R) := (ev_eq f_208_32).trans rfl
theorem f_208_33 : fetch 208 33 = some (33, .istore_n 0, 1, [0], 0) := (fm_208 33).trans rfl
theorem u_208_33 {S : Scr} {d : Nat} {a0 : AV} {st : List AV} {sh : Shp} {I : IM} {R : RM} {x : Int} : ev S d 208 33 [a0] (.inl x :: st) (sh, I, R) = ev S d 208 34 [.inl x] st (sh, I, R) := (ev_eq f_208_33).trans rfl
theorem f_208_34 : fetch 208 34 = some (34, .iload_n 0, 1, [0], 0) := (fm_208 34).trans rfl
theorem u_208_34 {S : Scr} {d : Nat} {st : List AV} {sh : Shp} {I : IM} {R : RM} {x : Int} : ev S d 208 34 [.inl x] st (sh, I, R) = ev S d 208 35 [.inl x] (.inl x :: st) (sh, I, R) := (ev_eq f_208_34).trans rfl
theorem f_208_35 : fetch 208 35 = some (35, .iload_n 0, 1, [0], 0) := (fm_208 35).trans rfl
theorem u_208_35 {S : Scr} {d : Nat} {st : List AV} {sh : Shp} {I : IM} {R : RM} {x : Int} : ev S d 208 35 [.inl x] st (sh, I, R) = ev S d 208 36 [.inl x] (.inl x :: st) (sh, I, R) := (ev_eq f_208_35).trans rfl
theorem f_208_36 : fetch 208 36 = some (36, .bipush 8, 2, [], 8) := (fm_208 36).trans rfl
theorem u_208_36 {S : Scr} {d : Nat} {a0 : AV} {st : List AV} {sh : Shp} {I : IM} {R : RM} : ev S d 208 36 [a0] st (sh, I, R) = ev S d 208 38 [a0] (.inl 8 :: st) (sh, I, R) := (ev_eq f_208_36).trans rfl
theorem f_208_38 : fetch 208 38 = some (38, .iushr, 1, [], 0) := (fm_208 38).trans rfl
theorem u_208_38 {S : Scr} {d : Nat} {a0 : AV} {st : List AV} {sh : Shp} {I : IM} {R : RM} {x y : Int} : ev S d 208 38 [a0] (.inl y :: .inl x :: st) (sh, I, R) = ev S d 208 39 [a0] (.inl (b32 (fun x y => (x.toUInt32 >>> (y.toUInt32 &&& Int32.toUInt32 31)).toInt32) x y) :: st) (sh, I, R) := (ev_eq f_208_38).trans rfl
theorem f_208_39 : fetch 208 39 = some (39, .iadd, 1, [], 0) := (fm_208 39).trans rfl
theorem u_208_39 {S : Scr} {d : Nat} {a0 : AV} {st : List AV} {sh : Shp} {I : IM} {R : RM} {x y : Int} : ev S d 208 39 [a0] (.inl y :: .inl x :: st) (sh, I, R) = ev S d 208 40 [a0] (.inl (wr (x + y)) :: st) (sh, I, R) := (ev_eq f_208_39).trans rfl
theorem f_208_40 : fetch 208 40 = some (40, .istore_n 0, 1, [0], 0) := (fm_208 40).trans rfl
theorem u_208_40 {S : Scr} {d : Nat} {a0 : AV} {st : List AV} {sh : Shp} {I : IM} {R : RM} {x : Int} : ev S d 208 40 [a0] (.inl x :: st) (sh, I, R) = ev S d 208 41 [.inl x] st (sh, I, R) := (ev_eq f_208_40).trans rfl
theorem f_208_41 : fetch 208 41 = some (41, .iload_n 0, 1, [0], 0) := (fm_208 41).trans rfl
theorem u_208_41 {S : Scr} {d : Nat} {st : List AV} {sh : Shp} {I : IM} {R : RM} {x : Int} : ev S d 208 41 [.inl x] st (sh, I, R) = ev S d 208 42 [.inl x] (.inl x :: st) (sh, I, R) := (ev_eq f_208_41).trans rfl
theorem f_208_42 : fetch 208 42 = some (42, .iload_n 0, 1, [0], 0) := (fm_208 42).trans rfl
theorem u_208_42 {S : Scr} {d : Nat} {st : List AV} {sh : Shp} {I : IM} {R : RM} {x : Int} : ev S d 208 42 [.inl x] st (sh, I, R) = ev S d 208 43 [.inl x] (.inl x :: st) (sh, I, R) := (ev_eq f_208_42).trans rfl
theorem f_208_43 : fetch 208 43 = some (43, .bipush 16, 2, [], 16) := (fm_208 43).trans rfl
theorem u_208_43 {S : Scr} {d : Nat} {a0 : AV} {st : List AV} {sh : Shp} {I : IM} {R : RM} : ev S d 208 43 [a0] st (sh, I, R) = ev S d 208 45 [a0] (.inl 16 :: st) (sh, I, R) := (ev_eq f_208_43).trans rfl
theorem f_208_45 : fetch 208 45 = some (45, .iushr, 1, [], 0) := (fm_208 45).trans rfl
theorem u_208_45 {S : Scr} {d : Nat} {a0 : AV} {st : List AV} {sh : Shp} {I : IM} {R : RM} {x y : Int} : ev S d 208 45 [a0] (.inl y :: .inl x :: st) (sh, I, R) = ev S d 208 46 [a0] (.inl (b32 (fun x y => (x.toUInt32 >>> (y.toUInt32 &&& Int32.toUInt32 31)).toInt32) x y) :: st) (sh, I, R) := (ev_eq f_208_45).trans rfl
theorem f_208_46 : fetch 208 46 = some (46, .iadd, 1, [], 0) := (fm_208 46).trans rfl
theorem u_208_46 {S : Scr} {d : Nat} {a0 : AV} {st : List AV} {sh : Shp} {I : IM} {R : RM} {x y : Int} : ev S d 208 46 [a0] (.inl y :: .inl x :: st) (sh, I, R) = ev S d 208 47 [a0] (.inl (wr (x + y)) :: st) (sh, I, R) := (ev_eq f_208_46).trans rfl
theorem f_208_47 : fetch 208 47 = some (47, .istore_n 0, 1, [0], 0) := (fm_208 47).trans rfl
theorem u_208_47 {S : Scr} {d : Nat} {a0 : AV} {st : List AV} {sh : Shp} {I : IM} {R : RM} {x : Int} : ev S d 208 47 [a0] (.inl x :: st) (sh, I, R) = ev S d 208 48 [.inl x] st (sh, I, R) := (ev_eq f_208_47).trans rfl
theorem f_208_48 : fetch 208 48 = some (48, .iload_n 0, 1, [0], 0) := (fm_208 48).trans rfl
theorem u_208_48 {S : Scr} {d : Nat} {st : List AV} {sh : Shp} {I : IM} {R : RM} {x : Int} : ev S d 208 48 [.inl x] st (sh, I, R) = ev S d 208 49 [.inl x] (.inl x :: st) (sh, I, R) := (ev_eq f_208_48).trans rfl
theorem f_208_49 : fetch 208 49 = some (49, .bipush 63, 2, [], 63) := (fm_208 49).trans rfl
theorem u_208_49 {S : Scr} {d : Nat} {a0 : AV} {st : List AV} {sh : Shp} {I : IM} {R : RM} : ev S d 208 49 [a0] st (sh, I, R) = ev S d 208 51 [a0] (.inl 63 :: st) (sh, I, R) := (ev_eq f_208_49).trans rfl
theorem f_208_51 : fetch 208 51 = some (51, .iand, 1, [], 0) := (fm_208 51).trans rfl
theorem u_208_51 {S : Scr} {d : Nat} {a0 : AV} {st : List AV} {sh : Shp} {I : IM} {R : RM} {x y : Int} : ev S d 208 51 [a0] (.inl y :: .inl x :: st) (sh, I, R) = ev S d 208 52 [a0] (.inl (b32 (fun x y => x &&& y) x y) :: st) (sh, I, R) := (ev_eq f_208_51).trans rfl
theorem f_208_52 : fetch 208 52 = some (52, .ireturn, 1, [0], 0) := (fm_208 52).trans rfl
theorem u_208_52 {S : Scr} {d : Nat} {a0 : AV} {sh : Shp} {I : IM} {R : RM} {x : Int} : ev S d 208 52 [a0] [.inl x] (sh, I, R) = some (some (.inl x), (sh, I, R)) := (ev_eq f_208_52).trans fin_iret0
