/-! one step each (by program): 209 GraphSaverLaw.law -/
theorem c_209 {d : Nat} {a0 : AV} {M : Mem} : cl (d + 1) 209 [a0] M = ev S0 d 209 0 [a0, .inr (.inr 1), .inr (.inr 1), .inr (.inr 1)] [] M := (cl_eq (as := [a0]) (show 1 ≤ maxOf 209 by decide +kernel)).trans rfl
theorem mt_209 : MT[209]? = some m_209 := rfl
theorem fm_209 (pc : Nat) : fetch 209 pc = lk m_209.2.2.2.2.2 pc := by
  unfold fetch
  rw [mt_209]
set_option maxRecDepth 100000 in
theorem f_209_0 : fetch 209 0 = some (0, .new 7, 3, [8, 9, 11], 0) := (fm_209 0).trans rfl
set_option maxRecDepth 100000 in
theorem f_209_3 : fetch 209 3 = some (3, .dup, 1, [], 0) := (fm_209 3).trans rfl
theorem u_209_3 {S : Scr} {d : Nat} {a0 a1 a2 a3 : AV} {st : List AV} {sh : Shp} {I : IM} {R : RM} {x : AV} : ev S d 209 3 [a0, a1, a2, a3] (x :: st) (sh, I, R) = ev S d 209 4 [a0, a1, a2, a3] (x :: x :: st) (sh, I, R) := (ev_eq f_209_3).trans rfl
set_option maxRecDepth 100000 in
theorem f_209_4 : fetch 209 4 = some (4, .invokespecial 9, 3, [84, 0, 173], 0) := (fm_209 4).trans rfl
theorem u_209_4 {S : Scr} {d : Nat} {a0 a1 a2 a3 : AV} {st : List AV} {sh : Shp} {I : IM} {R : RM} {k : Nat} (h : tg sh k = 8) (hr : st.length ≤ 8) : ev S d 209 4 [a0, a1, a2, a3] (.inr (.inl k) :: st) (sh, I, R) = bnd (cl d 84 [.inr (.inl k)] (sh, I, R)) (fun v M => ev S d 209 7 [a0, a1, a2, a3] (psh v st) M) := (ev_eq f_209_4).trans (congrArg (fin S d 209) (if_pos ⟨h, rfl, hr⟩))
set_option maxRecDepth 100000 in
theorem f_209_7 : fetch 209 7 = some (7, .astore_n 1, 1, [1], 0) := (fm_209 7).trans rfl
theorem u_209_7 {S : Scr} {d : Nat} {a0 a1 a2 a3 : AV} {st : List AV} {sh : Shp} {I : IM} {R : RM} {x : Nat} : ev S d 209 7 [a0, a1, a2, a3] (.inr (.inl x) :: st) (sh, I, R) = ev S d 209 8 [a0, .inr (.inl x), a2, a3] st (sh, I, R) := (ev_eq f_209_7).trans rfl
set_option maxRecDepth 100000 in
theorem f_209_8 : fetch 209 8 = some (8, .new 10, 3, [9, 27, 12], 0) := (fm_209 8).trans rfl
set_option maxRecDepth 100000 in
theorem f_209_11 : fetch 209 11 = some (11, .dup, 1, [], 0) := (fm_209 11).trans rfl
theorem u_209_11 {S : Scr} {d : Nat} {a0 a1 a2 a3 : AV} {st : List AV} {sh : Shp} {I : IM} {R : RM} {x : AV} : ev S d 209 11 [a0, a1, a2, a3] (x :: st) (sh, I, R) = ev S d 209 12 [a0, a1, a2, a3] (x :: x :: st) (sh, I, R) := (ev_eq f_209_11).trans rfl
set_option maxRecDepth 100000 in
theorem f_209_12 : fetch 209 12 = some (12, .invokespecial 12, 3, [128, 0, 174], 0) := (fm_209 12).trans rfl
theorem u_209_12 {S : Scr} {d : Nat} {a0 a1 a2 a3 : AV} {st : List AV} {sh : Shp} {I : IM} {R : RM} {k : Nat} (h : tg sh k = 9) (hr : st.length ≤ 8) : ev S d 209 12 [a0, a1, a2, a3] (.inr (.inl k) :: st) (sh, I, R) = bnd (cl d 128 [.inr (.inl k)] (sh, I, R)) (fun v M => ev S d 209 15 [a0, a1, a2, a3] (psh v st) M) := (ev_eq f_209_12).trans (congrArg (fin S d 209) (if_pos ⟨h, rfl, hr⟩))
set_option maxRecDepth 100000 in
theorem f_209_15 : fetch 209 15 = some (15, .astore_n 2, 1, [2], 0) := (fm_209 15).trans rfl
theorem u_209_15 {S : Scr} {d : Nat} {a0 a1 a2 a3 : AV} {st : List AV} {sh : Shp} {I : IM} {R : RM} {x : Nat} : ev S d 209 15 [a0, a1, a2, a3] (.inr (.inl x) :: st) (sh, I, R) = ev S d 209 16 [a0, a1, .inr (.inl x), a3] st (sh, I, R) := (ev_eq f_209_15).trans rfl
set_option maxRecDepth 100000 in
theorem f_209_16 : fetch 209 16 = some (16, .iconst 0, 1, [], 0) := (fm_209 16).trans rfl
theorem u_209_16 {S : Scr} {d : Nat} {a0 a1 a2 a3 : AV} {st : List AV} {sh : Shp} {I : IM} {R : RM} : ev S d 209 16 [a0, a1, a2, a3] st (sh, I, R) = ev S d 209 17 [a0, a1, a2, a3] (.inl 0 :: st) (sh, I, R) := (ev_eq f_209_16).trans rfl
set_option maxRecDepth 100000 in
theorem f_209_17 : fetch 209 17 = some (17, .istore_n 3, 1, [3], 0) := (fm_209 17).trans rfl
theorem u_209_17 {S : Scr} {d : Nat} {a0 a1 a2 a3 : AV} {st : List AV} {sh : Shp} {I : IM} {R : RM} {x : Int} : ev S d 209 17 [a0, a1, a2, a3] (.inl x :: st) (sh, I, R) = ev S d 209 18 [a0, a1, a2, .inl x] st (sh, I, R) := (ev_eq f_209_17).trans rfl
set_option maxRecDepth 100000 in
theorem f_209_18 : fetch 209 18 = some (18, .iload_n 3, 1, [3], 0) := (fm_209 18).trans rfl
theorem u_209_18 {S : Scr} {d : Nat} {a0 a1 a2 : AV} {st : List AV} {sh : Shp} {I : IM} {R : RM} {x : Int} : ev S d 209 18 [a0, a1, a2, .inl x] st (sh, I, R) = ev S d 209 19 [a0, a1, a2, .inl x] (.inl x :: st) (sh, I, R) := (ev_eq f_209_18).trans rfl
set_option maxRecDepth 100000 in
theorem f_209_19 : fetch 209 19 = some (19, .aload_n 0, 1, [0], 0) := (fm_209 19).trans rfl
theorem u_209_19s {S : Scr} {d : Nat} {a1 a2 a3 : AV} {st : List AV} {sh : Shp} {I : IM} {R : RM} : ev S d 209 19 [.inr (.inr 2), a1, a2, a3] st (sh, I, R) = ev S d 209 20 [.inr (.inr 2), a1, a2, a3] (.inr (.inr 2) :: st) (sh, I, R) := (ev_eq f_209_19).trans rfl
set_option maxRecDepth 100000 in
theorem f_209_20 : fetch 209 20 = some (20, .arraylength, 1, [], 0) := (fm_209 20).trans rfl
theorem u_209_20 {S : Scr} {d : Nat} {a0 a1 a2 a3 : AV} {st : List AV} {sh : Shp} {I : IM} {R : RM} : ev S d 209 20 [a0, a1, a2, a3] (.inr (.inr 2) :: st) (sh, I, R) = ev S d 209 21 [a0, a1, a2, a3] (.inl (S.2 : Int) :: st) (sh, I, R) := (ev_eq f_209_20).trans rfl
set_option maxRecDepth 100000 in
theorem f_209_21 : fetch 209 21 = some (21, .iconst 5, 1, [], 5) := (fm_209 21).trans rfl
theorem u_209_21 {S : Scr} {d : Nat} {a0 a1 a2 a3 : AV} {st : List AV} {sh : Shp} {I : IM} {R : RM} : ev S d 209 21 [a0, a1, a2, a3] st (sh, I, R) = ev S d 209 22 [a0, a1, a2, a3] (.inl 5 :: st) (sh, I, R) := (ev_eq f_209_21).trans rfl
set_option maxRecDepth 100000 in
theorem f_209_22 : fetch 209 22 = some (22, .isub, 1, [], 0) := (fm_209 22).trans rfl
theorem u_209_22 {S : Scr} {d : Nat} {a0 a1 a2 a3 : AV} {st : List AV} {sh : Shp} {I : IM} {R : RM} {x y : Int} : ev S d 209 22 [a0, a1, a2, a3] (.inl y :: .inl x :: st) (sh, I, R) = ev S d 209 23 [a0, a1, a2, a3] (.inl (wr (x - y)) :: st) (sh, I, R) := (ev_eq f_209_22).trans rfl
set_option maxRecDepth 100000 in
theorem f_209_23 : fetch 209 23 = some (23, .if_icmp .gt 1155, 3, [1178], 0) := (fm_209 23).trans rfl
theorem u_209_23 {S : Scr} {d : Nat} {a0 a1 a2 a3 : AV} {st : List AV} {sh : Shp} {I : IM} {R : RM} {x y : Int} : ev S d 209 23 [a0, a1, a2, a3] (.inl y :: .inl x :: st) (sh, I, R) = if y < x then ev S d 209 1178 [a0, a1, a2, a3] st (sh, I, R) else ev S d 209 26 [a0, a1, a2, a3] st (sh, I, R) := (ev_eq f_209_23).trans fin_icmp_gt
set_option maxRecDepth 100000 in
theorem f_209_26 : fetch 209 26 = some (26, .aload_n 0, 1, [0], 0) := (fm_209 26).trans rfl
theorem u_209_26s {S : Scr} {d : Nat} {a1 a2 a3 : AV} {st : List AV} {sh : Shp} {I : IM} {R : RM} : ev S d 209 26 [.inr (.inr 2), a1, a2, a3] st (sh, I, R) = ev S d 209 27 [.inr (.inr 2), a1, a2, a3] (.inr (.inr 2) :: st) (sh, I, R) := (ev_eq f_209_26).trans rfl
set_option maxRecDepth 100000 in
theorem f_209_27 : fetch 209 27 = some (27, .iload_n 3, 1, [3], 0) := (fm_209 27).trans rfl
theorem u_209_27 {S : Scr} {d : Nat} {a0 a1 a2 : AV} {st : List AV} {sh : Shp} {I : IM} {R : RM} {x : Int} : ev S d 209 27 [a0, a1, a2, .inl x] st (sh, I, R) = ev S d 209 28 [a0, a1, a2, .inl x] (.inl x :: st) (sh, I, R) := (ev_eq f_209_27).trans rfl
set_option maxRecDepth 100000 in
theorem f_209_28 : fetch 209 28 = some (28, .iaload, 1, [], 0) := (fm_209 28).trans rfl
theorem u_209_28s {S : Scr} {d : Nat} {a0 a1 a2 a3 : AV} {st : List AV} {sh : Shp} {I : IM} {R : RM} {i : Int} (h0 : 0 ≤ i) (h1 : i < S.2) : ev S d 209 28 [a0, a1, a2, a3] (.inl i :: .inr (.inr 2) :: st) (sh, I, R) = ev S d 209 29 [a0, a1, a2, a3] (.inl (S.1 i) :: st) (sh, I, R) := (ev_eq f_209_28).trans (congrArg (fin S d 209) (if_pos ⟨h0, h1⟩))
set_option maxRecDepth 100000 in
theorem f_209_29 : fetch 209 29 = some (29, .bipush 31, 2, [], 31) := (fm_209 29).trans rfl
theorem u_209_29 {S : Scr} {d : Nat} {a0 a1 a2 a3 : AV} {st : List AV} {sh : Shp} {I : IM} {R : RM} : ev S d 209 29 [a0, a1, a2, a3] st (sh, I, R) = ev S d 209 31 [a0, a1, a2, a3] (.inl 31 :: st) (sh, I, R) := (ev_eq f_209_29).trans rfl
set_option maxRecDepth 100000 in
theorem f_209_31 : fetch 209 31 = some (31, .iand, 1, [], 0) := (fm_209 31).trans rfl
theorem u_209_31 {S : Scr} {d : Nat} {a0 a1 a2 a3 : AV} {st : List AV} {sh : Shp} {I : IM} {R : RM} {x y : Int} : ev S d 209 31 [a0, a1, a2, a3] (.inl y :: .inl x :: st) (sh, I, R) = ev S d 209 32 [a0, a1, a2, a3] (.inl (b32 (fun x y => x &&& y) x y) :: st) (sh, I, R) := (ev_eq f_209_31).trans rfl
set_option maxRecDepth 100000 in
theorem f_209_32 : fetch 209 32 = some (32, .tableswitch 1140 0 31 #[144, 197, 230, 273, 296, 329, 372, 405, 438, 481, 514, 547, 580, 603, 626, 639, 672, 715, 748, 781, 804, 837, 870, 903, 936, 969, 1002, 1015, 1028, 1061, 1084, 1117], 144, [1172, 0, 176, 1, 229, 2, 262, 3, 305, 4, 328, 5, 361, 6, 404, 7, 437, 8, 470, 9, 513, 10, 546, 11, 579, 12, 612, 13, 635, 14, 658, 15, 671, 16, 704, 17, 747, 18, 780, 19, 813, 20, 836, 21, 869, 22, 902, 23, 935, 24, 968, 25, 1001, 26, 1034, 27, 1047, 28, 1060, 29, 1093, 30, 1116, 31, 1149], 0) := (fm_209 32).trans rfl
theorem u_209_32 {S : Scr} {d : Nat} {a0 a1 a2 a3 : AV} {st : List AV} {sh : Shp} {I : IM} {R : RM} {x : Int} : ev S d 209 32 [a0, a1, a2, a3] (.inl x :: st) (sh, I, R) = if x = 0 then ev S d 209 176 [a0, a1, a2, a3] st (sh, I, R) else if x = 1 then ev S d 209 229 [a0, a1, a2, a3] st (sh, I, R) else if x = 2 then ev S d 209 262 [a0, a1, a2, a3] st (sh, I, R) else if x = 3 then ev S d 209 305 [a0, a1, a2, a3] st (sh, I, R) else if x = 4 then ev S d 209 328 [a0, a1, a2, a3] st (sh, I, R) else if x = 5 then ev S d 209 361 [a0, a1, a2, a3] st (sh, I, R) else if x = 6 then ev S d 209 404 [a0, a1, a2, a3] st (sh, I, R) else if x = 7 then ev S d 209 437 [a0, a1, a2, a3] st (sh, I, R) else if x = 8 then ev S d 209 470 [a0, a1, a2, a3] st (sh, I, R) else if x = 9 then ev S d 209 513 [a0, a1, a2, a3] st (sh, I, R) else if x = 10 then ev S d 209 546 [a0, a1, a2, a3] st (sh, I, R) else if x = 11 then ev S d 209 579 [a0, a1, a2, a3] st (sh, I, R) else if x = 12 then ev S d 209 612 [a0, a1, a2, a3] st (sh, I, R) else if x = 13 then ev S d 209 635 [a0, a1, a2, a3] st (sh, I, R) else if x = 14 then ev S d 209 658 [a0, a1, a2, a3] st (sh, I, R) else if x = 15 then ev S d 209 671 [a0, a1, a2, a3] st (sh, I, R) else if x = 16 then ev S d 209 704 [a0, a1, a2, a3] st (sh, I, R) else if x = 17 then ev S d 209 747 [a0, a1, a2, a3] st (sh, I, R) else if x = 18 then ev S d 209 780 [a0, a1, a2, a3] st (sh, I, R) else if x = 19 then ev S d 209 813 [a0, a1, a2, a3] st (sh, I, R) else if x = 20 then ev S d 209 836 [a0, a1, a2, a3] st (sh, I, R) else if x = 21 then ev S d 209 869 [a0, a1, a2, a3] st (sh, I, R) else if x = 22 then ev S d 209 902 [a0, a1, a2, a3] st (sh, I, R) else if x = 23 then ev S d 209 935 [a0, a1, a2, a3] st (sh, I, R) else if x = 24 then ev S d 209 968 [a0, a1, a2, a3] st (sh, I, R) else if x = 25 then ev S d 209 1001 [a0, a1, a2, a3] st (sh, I, R) else if x = 26 then ev S d 209 1034 [a0, a1, a2, a3] st (sh, I, R) else if x = 27 then ev S d 209 1047 [a0, a1, a2, a3] st (sh, I, R) else if x = 28 then ev S d 209 1060 [a0, a1, a2, a3] st (sh, I, R) else if x = 29 then ev S d 209 1093 [a0, a1, a2, a3] st (sh, I, R) else if x = 30 then ev S d 209 1116 [a0, a1, a2, a3] st (sh, I, R) else if x = 31 then ev S d 209 1149 [a0, a1, a2, a3] st (sh, I, R) else ev S d 209 1172 [a0, a1, a2, a3] st (sh, I, R) := by
  rw [ev_eq f_209_32]
  show ev S d 209 (swt 1172 x [0, 176, 1, 229, 2, 262, 3, 305, 4, 328, 5, 361, 6, 404, 7, 437, 8, 470, 9, 513, 10, 546, 11, 579, 12, 612, 13, 635, 14, 658, 15, 671, 16, 704, 17, 747, 18, 780, 19, 813, 20, 836, 21, 869, 22, 902, 23, 935, 24, 968, 25, 1001, 26, 1034, 27, 1047, 28, 1060, 29, 1093, 30, 1116, 31, 1149]) _ _ _ = _
  rw [ev_sw, ev_sw, ev_sw, ev_sw, ev_sw, ev_sw, ev_sw, ev_sw, ev_sw, ev_sw, ev_sw, ev_sw, ev_sw, ev_sw, ev_sw, ev_sw, ev_sw, ev_sw, ev_sw, ev_sw, ev_sw, ev_sw, ev_sw, ev_sw, ev_sw, ev_sw, ev_sw, ev_sw, ev_sw, ev_sw, ev_sw, ev_sw, ev_sw0]
  rfl
set_option maxRecDepth 100000 in
theorem f_209_176 : fetch 209 176 = some (176, .aload_n 1, 1, [1], 0) := (fm_209 176).trans rfl
theorem u_209_176 {S : Scr} {d : Nat} {a0 a2 a3 : AV} {st : List AV} {sh : Shp} {I : IM} {R : RM} {x : Nat} : ev S d 209 176 [a0, .inr (.inl x), a2, a3] st (sh, I, R) = ev S d 209 177 [a0, .inr (.inl x), a2, a3] (.inr (.inl x) :: st) (sh, I, R) := (ev_eq f_209_176).trans rfl
set_option maxRecDepth 100000 in
theorem f_209_177 : fetch 209 177 = some (177, .aload_n 0, 1, [0], 0) := (fm_209 177).trans rfl
theorem u_209_177s {S : Scr} {d : Nat} {a1 a2 a3 : AV} {st : List AV} {sh : Shp} {I : IM} {R : RM} : ev S d 209 177 [.inr (.inr 2), a1, a2, a3] st (sh, I, R) = ev S d 209 178 [.inr (.inr 2), a1, a2, a3] (.inr (.inr 2) :: st) (sh, I, R) := (ev_eq f_209_177).trans rfl
set_option maxRecDepth 100000 in
theorem f_209_178 : fetch 209 178 = some (178, .iload_n 3, 1, [3], 0) := (fm_209 178).trans rfl
theorem u_209_178 {S : Scr} {d : Nat} {a0 a1 a2 : AV} {st : List AV} {sh : Shp} {I : IM} {R : RM} {x : Int} : ev S d 209 178 [a0, a1, a2, .inl x] st (sh, I, R) = ev S d 209 179 [a0, a1, a2, .inl x] (.inl x :: st) (sh, I, R) := (ev_eq f_209_178).trans rfl
set_option maxRecDepth 100000 in
theorem f_209_179 : fetch 209 179 = some (179, .iconst 1, 1, [], 1) := (fm_209 179).trans rfl
theorem u_209_179 {S : Scr} {d : Nat} {a0 a1 a2 a3 : AV} {st : List AV} {sh : Shp} {I : IM} {R : RM} : ev S d 209 179 [a0, a1, a2, a3] st (sh, I, R) = ev S d 209 180 [a0, a1, a2, a3] (.inl 1 :: st) (sh, I, R) := (ev_eq f_209_179).trans rfl
set_option maxRecDepth 100000 in
theorem f_209_180 : fetch 209 180 = some (180, .iadd, 1, [], 0) := (fm_209 180).trans rfl
theorem u_209_180 {S : Scr} {d : Nat} {a0 a1 a2 a3 : AV} {st : List AV} {sh : Shp} {I : IM} {R : RM} {x y : Int} : ev S d 209 180 [a0, a1, a2, a3] (.inl y :: .inl x :: st) (sh, I, R) = ev S d 209 181 [a0, a1, a2, a3] (.inl (wr (x + y)) :: st) (sh, I, R) := (ev_eq f_209_180).trans rfl
set_option maxRecDepth 100000 in
theorem f_209_181 : fetch 209 181 = some (181, .iaload, 1, [], 0) := (fm_209 181).trans rfl
theorem u_209_181s {S : Scr} {d : Nat} {a0 a1 a2 a3 : AV} {st : List AV} {sh : Shp} {I : IM} {R : RM} {i : Int} (h0 : 0 ≤ i) (h1 : i < S.2) : ev S d 209 181 [a0, a1, a2, a3] (.inl i :: .inr (.inr 2) :: st) (sh, I, R) = ev S d 209 182 [a0, a1, a2, a3] (.inl (S.1 i) :: st) (sh, I, R) := (ev_eq f_209_181).trans (congrArg (fin S d 209) (if_pos ⟨h0, h1⟩))
set_option maxRecDepth 100000 in
theorem f_209_182 : fetch 209 182 = some (182, .aload_n 0, 1, [0], 0) := (fm_209 182).trans rfl
theorem u_209_182s {S : Scr} {d : Nat} {a1 a2 a3 : AV} {st : List AV} {sh : Shp} {I : IM} {R : RM} : ev S d 209 182 [.inr (.inr 2), a1, a2, a3] st (sh, I, R) = ev S d 209 183 [.inr (.inr 2), a1, a2, a3] (.inr (.inr 2) :: st) (sh, I, R) := (ev_eq f_209_182).trans rfl
set_option maxRecDepth 100000 in
theorem f_209_183 : fetch 209 183 = some (183, .iload_n 3, 1, [3], 0) := (fm_209 183).trans rfl
theorem u_209_183 {S : Scr} {d : Nat} {a0 a1 a2 : AV} {st : List AV} {sh : Shp} {I : IM} {R : RM} {x : Int} : ev S d 209 183 [a0, a1, a2, .inl x] st (sh, I, R) = ev S d 209 184 [a0, a1, a2, .inl x] (.inl x :: st) (sh, I, R) := (ev_eq f_209_183).trans rfl
set_option maxRecDepth 100000 in
theorem f_209_184 : fetch 209 184 = some (184, .iconst 2, 1, [], 2) := (fm_209 184).trans rfl
theorem u_209_184 {S : Scr} {d : Nat} {a0 a1 a2 a3 : AV} {st : List AV} {sh : Shp} {I : IM} {R : RM} : ev S d 209 184 [a0, a1, a2, a3] st (sh, I, R) = ev S d 209 185 [a0, a1, a2, a3] (.inl 2 :: st) (sh, I, R) := (ev_eq f_209_184).trans rfl
set_option maxRecDepth 100000 in
theorem f_209_185 : fetch 209 185 = some (185, .iadd, 1, [], 0) := (fm_209 185).trans rfl
theorem u_209_185 {S : Scr} {d : Nat} {a0 a1 a2 a3 : AV} {st : List AV} {sh : Shp} {I : IM} {R : RM} {x y : Int} : ev S d 209 185 [a0, a1, a2, a3] (.inl y :: .inl x :: st) (sh, I, R) = ev S d 209 186 [a0, a1, a2, a3] (.inl (wr (x + y)) :: st) (sh, I, R) := (ev_eq f_209_185).trans rfl
set_option maxRecDepth 100000 in
theorem f_209_186 : fetch 209 186 = some (186, .iaload, 1, [], 0) := (fm_209 186).trans rfl
theorem u_209_186s {S : Scr} {d : Nat} {a0 a1 a2 a3 : AV} {st : List AV} {sh : Shp} {I : IM} {R : RM} {i : Int} (h0 : 0 ≤ i) (h1 : i < S.2) : ev S d 209 186 [a0, a1, a2, a3] (.inl i :: .inr (.inr 2) :: st) (sh, I, R) = ev S d 209 187 [a0, a1, a2, a3] (.inl (S.1 i) :: st) (sh, I, R) := (ev_eq f_209_186).trans (congrArg (fin S d 209) (if_pos ⟨h0, h1⟩))
set_option maxRecDepth 100000 in
theorem f_209_187 : fetch 209 187 = some (187, .aload_n 0, 1, [0], 0) := (fm_209 187).trans rfl
theorem u_209_187s {S : Scr} {d : Nat} {a1 a2 a3 : AV} {st : List AV} {sh : Shp} {I : IM} {R : RM} : ev S d 209 187 [.inr (.inr 2), a1, a2, a3] st (sh, I, R) = ev S d 209 188 [.inr (.inr 2), a1, a2, a3] (.inr (.inr 2) :: st) (sh, I, R) := (ev_eq f_209_187).trans rfl
set_option maxRecDepth 100000 in
theorem f_209_188 : fetch 209 188 = some (188, .iload_n 3, 1, [3], 0) := (fm_209 188).trans rfl
theorem u_209_188 {S : Scr} {d : Nat} {a0 a1 a2 : AV} {st : List AV} {sh : Shp} {I : IM} {R : RM} {x : Int} : ev S d 209 188 [a0, a1, a2, .inl x] st (sh, I, R) = ev S d 209 189 [a0, a1, a2, .inl x] (.inl x :: st) (sh, I, R) := (ev_eq f_209_188).trans rfl
set_option maxRecDepth 100000 in
theorem f_209_189 : fetch 209 189 = some (189, .iconst 3, 1, [], 3) := (fm_209 189).trans rfl
theorem u_209_189 {S : Scr} {d : Nat} {a0 a1 a2 a3 : AV} {st : List AV} {sh : Shp} {I : IM} {R : RM} : ev S d 209 189 [a0, a1, a2, a3] st (sh, I, R) = ev S d 209 190 [a0, a1, a2, a3] (.inl 3 :: st) (sh, I, R) := (ev_eq f_209_189).trans rfl
set_option maxRecDepth 100000 in
theorem f_209_190 : fetch 209 190 = some (190, .iadd, 1, [], 0) := (fm_209 190).trans rfl
theorem u_209_190 {S : Scr} {d : Nat} {a0 a1 a2 a3 : AV} {st : List AV} {sh : Shp} {I : IM} {R : RM} {x y : Int} : ev S d 209 190 [a0, a1, a2, a3] (.inl y :: .inl x :: st) (sh, I, R) = ev S d 209 191 [a0, a1, a2, a3] (.inl (wr (x + y)) :: st) (sh, I, R) := (ev_eq f_209_190).trans rfl
set_option maxRecDepth 100000 in
theorem f_209_191 : fetch 209 191 = some (191, .iaload, 1, [], 0) := (fm_209 191).trans rfl
theorem u_209_191s {S : Scr} {d : Nat} {a0 a1 a2 a3 : AV} {st : List AV} {sh : Shp} {I : IM} {R : RM} {i : Int} (h0 : 0 ≤ i) (h1 : i < S.2) : ev S d 209 191 [a0, a1, a2, a3] (.inl i :: .inr (.inr 2) :: st) (sh, I, R) = ev S d 209 192 [a0, a1, a2, a3] (.inl (S.1 i) :: st) (sh, I, R) := (ev_eq f_209_191).trans (congrArg (fin S d 209) (if_pos ⟨h0, h1⟩))
set_option maxRecDepth 100000 in
theorem f_209_192 : fetch 209 192 = some (192, .aload_n 0, 1, [0], 0) := (fm_209 192).trans rfl
theorem u_209_192s {S : Scr} {d : Nat} {a1 a2 a3 : AV} {st : List AV} {sh : Shp} {I : IM} {R : RM} : ev S d 209 192 [.inr (.inr 2), a1, a2, a3] st (sh, I, R) = ev S d 209 193 [.inr (.inr 2), a1, a2, a3] (.inr (.inr 2) :: st) (sh, I, R) := (ev_eq f_209_192).trans rfl
set_option maxRecDepth 100000 in
theorem f_209_193 : fetch 209 193 = some (193, .iload_n 3, 1, [3], 0) := (fm_209 193).trans rfl
theorem u_209_193 {S : Scr} {d : Nat} {a0 a1 a2 : AV} {st : List AV} {sh : Shp} {I : IM} {R : RM} {x : Int} : ev S d 209 193 [a0, a1, a2, .inl x] st (sh, I, R) = ev S d 209 194 [a0, a1, a2, .inl x] (.inl x :: st) (sh, I, R) := (ev_eq f_209_193).trans rfl
set_option maxRecDepth 100000 in
theorem f_209_194 : fetch 209 194 = some (194, .iconst 4, 1, [], 4) := (fm_209 194).trans rfl
theorem u_209_194 {S : Scr} {d : Nat} {a0 a1 a2 a3 : AV} {st : List AV} {sh : Shp} {I : IM} {R : RM} : ev S d 209 194 [a0, a1, a2, a3] st (sh, I, R) = ev S d 209 195 [a0, a1, a2, a3] (.inl 4 :: st) (sh, I, R) := (ev_eq f_209_194).trans rfl
set_option maxRecDepth 100000 in
theorem f_209_195 : fetch 209 195 = some (195, .iadd, 1, [], 0) := (fm_209 195).trans rfl
theorem u_209_195 {S : Scr} {d : Nat} {a0 a1 a2 a3 : AV} {st : List AV} {sh : Shp} {I : IM} {R : RM} {x y : Int} : ev S d 209 195 [a0, a1, a2, a3] (.inl y :: .inl x :: st) (sh, I, R) = ev S d 209 196 [a0, a1, a2, a3] (.inl (wr (x + y)) :: st) (sh, I, R) := (ev_eq f_209_195).trans rfl
set_option maxRecDepth 100000 in
theorem f_209_196 : fetch 209 196 = some (196, .iaload, 1, [], 0) := (fm_209 196).trans rfl
theorem u_209_196s {S : Scr} {d : Nat} {a0 a1 a2 a3 : AV} {st : List AV} {sh : Shp} {I : IM} {R : RM} {i : Int} (h0 : 0 ≤ i) (h1 : i < S.2) : ev S d 209 196 [a0, a1, a2, a3] (.inl i :: .inr (.inr 2) :: st) (sh, I, R) = ev S d 209 197 [a0, a1, a2, a3] (.inl (S.1 i) :: st) (sh, I, R) := (ev_eq f_209_196).trans (congrArg (fin S d 209) (if_pos ⟨h0, h1⟩))
set_option maxRecDepth 100000 in
theorem f_209_197 : fetch 209 197 = some (197, .invokevirtual 13, 3, [85, 4, 175], 0) := (fm_209 197).trans rfl
theorem u_209_197 {S : Scr} {d : Nat} {a0 a1 a2 a3 : AV} {st : List AV} {sh : Shp} {I : IM} {R : RM} {x0 : Int} {x1 : Int} {x2 : Int} {x3 : Int} {k : Nat} (h : tg sh k = 8) (hr : st.length ≤ 8) : ev S d 209 197 [a0, a1, a2, a3] (.inl x3 :: .inl x2 :: .inl x1 :: .inl x0 :: .inr (.inl k) :: st) (sh, I, R) = bnd (cl d 85 [.inr (.inl k), .inl x0, .inl x1, .inl x2, .inl x3] (sh, I, R)) (fun v M => ev S d 209 200 [a0, a1, a2, a3] (psh v st) M) := (ev_eq f_209_197).trans (congrArg (fin S d 209) (if_pos ⟨h, rfl, hr⟩))
set_option maxRecDepth 100000 in
theorem f_209_200 : fetch 209 200 = some (200, .aload_n 2, 1, [2], 0) := (fm_209 200).trans rfl
theorem u_209_200 {S : Scr} {d : Nat} {a0 a1 a3 : AV} {st : List AV} {sh : Shp} {I : IM} {R : RM} {x : Nat} : ev S d 209 200 [a0, a1, .inr (.inl x), a3] st (sh, I, R) = ev S d 209 201 [a0, a1, .inr (.inl x), a3] (.inr (.inl x) :: st) (sh, I, R) := (ev_eq f_209_200).trans rfl
set_option maxRecDepth 100000 in
theorem f_209_201 : fetch 209 201 = some (201, .aload_n 0, 1, [0], 0) := (fm_209 201).trans rfl
theorem u_209_201s {S : Scr} {d : Nat} {a1 a2 a3 : AV} {st : List AV} {sh : Shp} {I : IM} {R : RM} : ev S d 209 201 [.inr (.inr 2), a1, a2, a3] st (sh, I, R) = ev S d 209 202 [.inr (.inr 2), a1, a2, a3] (.inr (.inr 2) :: st) (sh, I, R) := (ev_eq f_209_201).trans rfl
set_option maxRecDepth 100000 in
theorem f_209_202 : fetch 209 202 = some (202, .iload_n 3, 1, [3], 0) := (fm_209 202).trans rfl
theorem u_209_202 {S : Scr} {d : Nat} {a0 a1 a2 : AV} {st : List AV} {sh : Shp} {I : IM} {R : RM} {x : Int} : ev S d 209 202 [a0, a1, a2, .inl x] st (sh, I, R) = ev S d 209 203 [a0, a1, a2, .inl x] (.inl x :: st) (sh, I, R) := (ev_eq f_209_202).trans rfl
set_option maxRecDepth 100000 in
theorem f_209_203 : fetch 209 203 = some (203, .iconst 1, 1, [], 1) := (fm_209 203).trans rfl
theorem u_209_203 {S : Scr} {d : Nat} {a0 a1 a2 a3 : AV} {st : List AV} {sh : Shp} {I : IM} {R : RM} : ev S d 209 203 [a0, a1, a2, a3] st (sh, I, R) = ev S d 209 204 [a0, a1, a2, a3] (.inl 1 :: st) (sh, I, R) := (ev_eq f_209_203).trans rfl
set_option maxRecDepth 100000 in
theorem f_209_204 : fetch 209 204 = some (204, .iadd, 1, [], 0) := (fm_209 204).trans rfl
theorem u_209_204 {S : Scr} {d : Nat} {a0 a1 a2 a3 : AV} {st : List AV} {sh : Shp} {I : IM} {R : RM} {x y : Int} : ev S d 209 204 [a0, a1, a2, a3] (.inl y :: .inl x :: st) (sh, I, R) = ev S d 209 205 [a0, a1, a2, a3] (.inl (wr (x + y)) :: st) (sh, I, R) := (ev_eq f_209_204).trans rfl
set_option maxRecDepth 100000 in
theorem f_209_205 : fetch 209 205 = some (205, .iaload, 1, [], 0) := (fm_209 205).trans rfl
theorem u_209_205s {S : Scr} {d : Nat} {a0 a1 a2 a3 : AV} {st : List AV} {sh : Shp} {I : IM} {R : RM} {i : Int} (h0 : 0 ≤ i) (h1 : i < S.2) : ev S d 209 205 [a0, a1, a2, a3] (.inl i :: .inr (.inr 2) :: st) (sh, I, R) = ev S d 209 206 [a0, a1, a2, a3] (.inl (S.1 i) :: st) (sh, I, R) := (ev_eq f_209_205).trans (congrArg (fin S d 209) (if_pos ⟨h0, h1⟩))
set_option maxRecDepth 100000 in
theorem f_209_206 : fetch 209 206 = some (206, .aload_n 0, 1, [0], 0) := (fm_209 206).trans rfl
theorem u_209_206s {S : Scr} {d : Nat} {a1 a2 a3 : AV} {st : List AV} {sh : Shp} {I : IM} {R : RM} : ev S d 209 206 [.inr (.inr 2), a1, a2, a3] st (sh, I, R) = ev S d 209 207 [.inr (.inr 2), a1, a2, a3] (.inr (.inr 2) :: st) (sh, I, R) := (ev_eq f_209_206).trans rfl
set_option maxRecDepth 100000 in
theorem f_209_207 : fetch 209 207 = some (207, .iload_n 3, 1, [3], 0) := (fm_209 207).trans rfl
theorem u_209_207 {S : Scr} {d : Nat} {a0 a1 a2 : AV} {st : List AV} {sh : Shp} {I : IM} {R : RM} {x : Int} : ev S d 209 207 [a0, a1, a2, .inl x] st (sh, I, R) = ev S d 209 208 [a0, a1, a2, .inl x] (.inl x :: st) (sh, I, R) := (ev_eq f_209_207).trans rfl
set_option maxRecDepth 100000 in
theorem f_209_208 : fetch 209 208 = some (208, .iconst 2, 1, [], 2) := (fm_209 208).trans rfl
theorem u_209_208 {S : Scr} {d : Nat} {a0 a1 a2 a3 : AV} {st : List AV} {sh : Shp} {I : IM} {R : RM} : ev S d 209 208 [a0, a1, a2, a3] st (sh, I, R) = ev S d 209 209 [a0, a1, a2, a3] (.inl 2 :: st) (sh, I, R) := (ev_eq f_209_208).trans rfl
set_option maxRecDepth 100000 in
theorem f_209_209 : fetch 209 209 = some (209, .iadd, 1, [], 0) := (fm_209 209).trans rfl
theorem u_209_209 {S : Scr} {d : Nat} {a0 a1 a2 a3 : AV} {st : List AV} {sh : Shp} {I : IM} {R : RM} {x y : Int} : ev S d 209 209 [a0, a1, a2, a3] (.inl y :: .inl x :: st) (sh, I, R) = ev S d 209 210 [a0, a1, a2, a3] (.inl (wr (x + y)) :: st) (sh, I, R) := (ev_eq f_209_209).trans rfl
set_option maxRecDepth 100000 in
theorem f_209_210 : fetch 209 210 = some (210, .iaload, 1, [], 0) := (fm_209 210).trans rfl
theorem u_209_210s {S : Scr} {d : Nat} {a0 a1 a2 a3 : AV} {st : List AV} {sh : Shp} {I : IM} {R : RM} {i : Int} (h0 : 0 ≤ i) (h1 : i < S.2) : ev S d 209 210 [a0, a1, a2, a3] (.inl i :: .inr (.inr 2) :: st) (sh, I, R) = ev S d 209 211 [a0, a1, a2, a3] (.inl (S.1 i) :: st) (sh, I, R) := (ev_eq f_209_210).trans (congrArg (fin S d 209) (if_pos ⟨h0, h1⟩))
set_option maxRecDepth 100000 in
theorem f_209_211 : fetch 209 211 = some (211, .aload_n 0, 1, [0], 0) := (fm_209 211).trans rfl
theorem u_209_211s {S : Scr} {d : Nat} {a1 a2 a3 : AV} {st : List AV} {sh : Shp} {I : IM} {R : RM} : ev S d 209 211 [.inr (.inr 2), a1, a2, a3] st (sh, I, R) = ev S d 209 212 [.inr (.inr 2), a1, a2, a3] (.inr (.inr 2) :: st) (sh, I, R) := (ev_eq f_209_211).trans rfl
set_option maxRecDepth 100000 in
theorem f_209_212 : fetch 209 212 = some (212, .iload_n 3, 1, [3], 0) := (fm_209 212).trans rfl
theorem u_209_212 {S : Scr} {d : Nat} {a0 a1 a2 : AV} {st : List AV} {sh : Shp} {I : IM} {R : RM} {x : Int} : ev S d 209 212 [a0, a1, a2, .inl x] st (sh, I, R) = ev S d 209 213 [a0, a1, a2, .inl x] (.inl x :: st) (sh, I, R) := (ev_eq f_209_212).trans rfl
set_option maxRecDepth 100000 in
theorem f_209_213 : fetch 209 213 = some (213, .iconst 3, 1, [], 3) := (fm_209 213).trans rfl
theorem u_209_213 {S : Scr} {d : Nat} {a0 a1 a2 a3 : AV} {st : List AV} {sh : Shp} {I : IM} {R : RM} : ev S d 209 213 [a0, a1, a2, a3] st (sh, I, R) = ev S d 209 214 [a0, a1, a2, a3] (.inl 3 :: st) (sh, I, R) := (ev_eq f_209_213).trans rfl
set_option maxRecDepth 100000 in
theorem f_209_214 : fetch 209 214 = some (214, .iadd, 1, [], 0) := (fm_209 214).trans rfl
theorem u_209_214 {S : Scr} {d : Nat} {a0 a1 a2 a3 : AV} {st : List AV} {sh : Shp} {I : IM} {R : RM} {x y : Int} : ev S d 209 214 [a0, a1, a2, a3] (.inl y :: .inl x :: st) (sh, I, R) = ev S d 209 215 [a0, a1, a2, a3] (.inl (wr (x + y)) :: st) (sh, I, R) := (ev_eq f_209_214).trans rfl
set_option maxRecDepth 100000 in
theorem f_209_215 : fetch 209 215 = some (215, .iaload, 1, [], 0) := (fm_209 215).trans rfl
theorem u_209_215s {S : Scr} {d : Nat} {a0 a1 a2 a3 : AV} {st : List AV} {sh : Shp} {I : IM} {R : RM} {i : Int} (h0 : 0 ≤ i) (h1 : i < S.2) : ev S d 209 215 [a0, a1, a2, a3] (.inl i :: .inr (.inr 2) :: st) (sh, I, R) = ev S d 209 216 [a0, a1, a2, a3] (.inl (S.1 i) :: st) (sh, I, R) := (ev_eq f_209_215).trans (congrArg (fin S d 209) (if_pos ⟨h0, h1⟩))
set_option maxRecDepth 100000 in
theorem f_209_216 : fetch 209 216 = some (216, .aload_n 0, 1, [0], 0) := (fm_209 216).trans rfl
theorem u_209_216s {S : Scr} {d : Nat} {a1 a2 a3 : AV} {st : List AV} {sh : Shp} {I : IM} {R : RM} : ev S d 209 216 [.inr (.inr 2), a1, a2, a3] st (sh, I, R) = ev S d 209 217 [.inr (.inr 2), a1, a2, a3] (.inr (.inr 2) :: st) (sh, I, R) := (ev_eq f_209_216).trans rfl
set_option maxRecDepth 100000 in
theorem f_209_217 : fetch 209 217 = some (217, .iload_n 3, 1, [3], 0) := (fm_209 217).trans rfl
theorem u_209_217 {S : Scr} {d : Nat} {a0 a1 a2 : AV} {st : List AV} {sh : Shp} {I : IM} {R : RM} {x : Int} : ev S d 209 217 [a0, a1, a2, .inl x] st (sh, I, R) = ev S d 209 218 [a0, a1, a2, .inl x] (.inl x :: st) (sh, I, R) := (ev_eq f_209_217).trans rfl
set_option maxRecDepth 100000 in
theorem f_209_218 : fetch 209 218 = some (218, .iconst 4, 1, [], 4) := (fm_209 218).trans rfl
theorem u_209_218 {S : Scr} {d : Nat} {a0 a1 a2 a3 : AV} {st : List AV} {sh : Shp} {I : IM} {R : RM} : ev S d 209 218 [a0, a1, a2, a3] st (sh, I, R) = ev S d 209 219 [a0, a1, a2, a3] (.inl 4 :: st) (sh, I, R) := (ev_eq f_209_218).trans rfl
set_option maxRecDepth 100000 in
theorem f_209_219 : fetch 209 219 = some (219, .iadd, 1, [], 0) := (fm_209 219).trans rfl
theorem u_209_219 {S : Scr} {d : Nat} {a0 a1 a2 a3 : AV} {st : List AV} {sh : Shp} {I : IM} {R : RM} {x y : Int} : ev S d 209 219 [a0, a1, a2, a3] (.inl y :: .inl x :: st) (sh, I, R) = ev S d 209 220 [a0, a1, a2, a3] (.inl (wr (x + y)) :: st) (sh, I, R) := (ev_eq f_209_219).trans rfl
set_option maxRecDepth 100000 in
theorem f_209_220 : fetch 209 220 = some (220, .iaload, 1, [], 0) := (fm_209 220).trans rfl
theorem u_209_220s {S : Scr} {d : Nat} {a0 a1 a2 a3 : AV} {st : List AV} {sh : Shp} {I : IM} {R : RM} {i : Int} (h0 : 0 ≤ i) (h1 : i < S.2) : ev S d 209 220 [a0, a1, a2, a3] (.inl i :: .inr (.inr 2) :: st) (sh, I, R) = ev S d 209 221 [a0, a1, a2, a3] (.inl (S.1 i) :: st) (sh, I, R) := (ev_eq f_209_220).trans (congrArg (fin S d 209) (if_pos ⟨h0, h1⟩))
set_option maxRecDepth 100000 in
theorem f_209_221 : fetch 209 221 = some (221, .invokevirtual 17, 3, [148, 4, 176], 0) := (fm_209 221).trans rfl
theorem u_209_221 {S : Scr} {d : Nat} {a0 a1 a2 a3 : AV} {st : List AV} {sh : Shp} {I : IM} {R : RM} {x0 : Int} {x1 : Int} {x2 : Int} {x3 : Int} {k : Nat} (h : tg sh k = 9) (hr : st.length ≤ 8) : ev S d 209 221 [a0, a1, a2, a3] (.inl x3 :: .inl x2 :: .inl x1 :: .inl x0 :: .inr (.inl k) :: st) (sh, I, R) = bnd (cl d 148 [.inr (.inl k), .inl x0, .inl x1, .inl x2, .inl x3] (sh, I, R)) (fun v M => ev S d 209 224 [a0, a1, a2, a3] (psh v st) M) := (ev_eq f_209_221).trans (congrArg (fin S d 209) (if_pos ⟨h, rfl, hr⟩))
set_option maxRecDepth 100000 in
theorem f_209_224 : fetch 209 224 = some (224, .if_icmp .eq 948, 3, [1172], 0) := (fm_209 224).trans rfl
theorem u_209_224 {S : Scr} {d : Nat} {a0 a1 a2 a3 : AV} {st : List AV} {sh : Shp} {I : IM} {R : RM} {x y : Int} : ev S d 209 224 [a0, a1, a2, a3] (.inl y :: .inl x :: st) (sh, I, R) = if x = y then ev S d 209 1172 [a0, a1, a2, a3] st (sh, I, R) else ev S d 209 227 [a0, a1, a2, a3] st (sh, I, R) := (ev_eq f_209_224).trans fin_icmp_eq
set_option maxRecDepth 100000 in
theorem f_209_227 : fetch 209 227 = some (227, .iconst 0, 1, [], 0) := (fm_209 227).trans rfl
theorem u_209_227 {S : Scr} {d : Nat} {a0 a1 a2 a3 : AV} {st : List AV} {sh : Shp} {I : IM} {R : RM} : ev S d 209 227 [a0, a1, a2, a3] st (sh, I, R) = ev S d 209 228 [a0, a1, a2, a3] (.inl 0 :: st) (sh, I, R) := (ev_eq f_209_227).trans rfl
set_option maxRecDepth 100000 in
theorem f_209_228 : fetch 209 228 = some (228, .ireturn, 1, [1], 0) := (fm_209 228).trans rfl
theorem u_209_228 {S : Scr} {d : Nat} {a0 a1 a2 a3 : AV} {sh : Shp} {I : IM} {R : RM} {x : Int} (h : x = 0 ∨ x = 1) : ev S d 209 228 [a0, a1, a2, a3] [.inl x] (sh, I, R) = some (some (.inl x), (sh, I, R)) := (ev_eq f_209_228).trans (fin_iret1 h)
set_option maxRecDepth 100000 in
theorem f_209_229 : fetch 209 229 = some (229, .aload_n 1, 1, [1], 0) := (fm_209 229).trans rfl
theorem u_209_229 {S : Scr} {d : Nat} {a0 a2 a3 : AV} {st : List AV} {sh : Shp} {I : IM} {R : RM} {x : Nat} : ev S d 209 229 [a0, .inr (.inl x), a2, a3] st (sh, I, R) = ev S d 209 230 [a0, .inr (.inl x), a2, a3] (.inr (.inl x) :: st) (sh, I, R) := (ev_eq f_209_229).trans rfl
set_option maxRecDepth 100000 in
theorem f_209_230 : fetch 209 230 = some (230, .aload_n 0, 1, [0], 0) := (fm_209 230).trans rfl
theorem u_209_230s {S : Scr} {d : Nat} {a1 a2 a3 : AV} {st : List AV} {sh : Shp} {I : IM} {R : RM} : ev S d 209 230 [.inr (.inr 2), a1, a2, a3] st (sh, I, R) = ev S d 209 231 [.inr (.inr 2), a1, a2, a3] (.inr (.inr 2) :: st) (sh, I, R) := (ev_eq f_209_230).trans rfl
set_option maxRecDepth 100000 in
theorem f_209_231 : fetch 209 231 = some (231, .iload_n 3, 1, [3], 0) := (fm_209 231).trans rfl
theorem u_209_231 {S : Scr} {d : Nat} {a0 a1 a2 : AV} {st : List AV} {sh : Shp} {I : IM} {R : RM} {x : Int} : ev S d 209 231 [a0, a1, a2, .inl x] st (sh, I, R) = ev S d 209 232 [a0, a1, a2, .inl x] (.inl x :: st) (sh, I, R) := (ev_eq f_209_231).trans rfl
set_option maxRecDepth 100000 in
theorem f_209_232 : fetch 209 232 = some (232, .iconst 1, 1, [], 1) := (fm_209 232).trans rfl
theorem u_209_232 {S : Scr} {d : Nat} {a0 a1 a2 a3 : AV} {st : List AV} {sh : Shp} {I : IM} {R : RM} : ev S d 209 232 [a0, a1, a2, a3] st (sh, I, R) = ev S d 209 233 [a0, a1, a2, a3] (.inl 1 :: st) (sh, I, R) := (ev_eq f_209_232).trans rfl
set_option maxRecDepth 100000 in
theorem f_209_233 : fetch 209 233 = some (233, .iadd, 1, [], 0) := (fm_209 233).trans rfl
theorem u_209_233 {S : Scr} {d : Nat} {a0 a1 a2 a3 : AV} {st : List AV} {sh : Shp} {I : IM} {R : RM} {x y : Int} : ev S d 209 233 [a0, a1, a2, a3] (.inl y :: .inl x :: st) (sh, I, R) = ev S d 209 234 [a0, a1, a2, a3] (.inl (wr (x + y)) :: st) (sh, I, R) := (ev_eq f_209_233).trans rfl
set_option maxRecDepth 100000 in
theorem f_209_234 : fetch 209 234 = some (234, .iaload, 1, [], 0) := (fm_209 234).trans rfl
theorem u_209_234s {S : Scr} {d : Nat} {a0 a1 a2 a3 : AV} {st : List AV} {sh : Shp} {I : IM} {R : RM} {i : Int} (h0 : 0 ≤ i) (h1 : i < S.2) : ev S d 209 234 [a0, a1, a2, a3] (.inl i :: .inr (.inr 2) :: st) (sh, I, R) = ev S d 209 235 [a0, a1, a2, a3] (.inl (S.1 i) :: st) (sh, I, R) := (ev_eq f_209_234).trans (congrArg (fin S d 209) (if_pos ⟨h0, h1⟩))
set_option maxRecDepth 100000 in
theorem f_209_235 : fetch 209 235 = some (235, .aload_n 0, 1, [0], 0) := (fm_209 235).trans rfl
theorem u_209_235s {S : Scr} {d : Nat} {a1 a2 a3 : AV} {st : List AV} {sh : Shp} {I : IM} {R : RM} : ev S d 209 235 [.inr (.inr 2), a1, a2, a3] st (sh, I, R) = ev S d 209 236 [.inr (.inr 2), a1, a2, a3] (.inr (.inr 2) :: st) (sh, I, R) := (ev_eq f_209_235).trans rfl
set_option maxRecDepth 100000 in
theorem f_209_236 : fetch 209 236 = some (236, .iload_n 3, 1, [3], 0) := (fm_209 236).trans rfl
theorem u_209_236 {S : Scr} {d : Nat} {a0 a1 a2 : AV} {st : List AV} {sh : Shp} {I : IM} {R : RM} {x : Int} : ev S d 209 236 [a0, a1, a2, .inl x] st (sh, I, R) = ev S d 209 237 [a0, a1, a2, .inl x] (.inl x :: st) (sh, I, R) := (ev_eq f_209_236).trans rfl
set_option maxRecDepth 100000 in
theorem f_209_237 : fetch 209 237 = some (237, .iconst 2, 1, [], 2) := (fm_209 237).trans rfl
theorem u_209_237 {S : Scr} {d : Nat} {a0 a1 a2 a3 : AV} {st : List AV} {sh : Shp} {I : IM} {R : RM} : ev S d 209 237 [a0, a1, a2, a3] st (sh, I, R) = ev S d 209 238 [a0, a1, a2, a3] (.inl 2 :: st) (sh, I, R) := (ev_eq f_209_237).trans rfl
set_option maxRecDepth 100000 in
theorem f_209_238 : fetch 209 238 = some (238, .iadd, 1, [], 0) := (fm_209 238).trans rfl
theorem u_209_238 {S : Scr} {d : Nat} {a0 a1 a2 a3 : AV} {st : List AV} {sh : Shp} {I : IM} {R : RM} {x y : Int} : ev S d 209 238 [a0, a1, a2, a3] (.inl y :: .inl x :: st) (sh, I, R) = ev S d 209 239 [a0, a1, a2, a3] (.inl (wr (x + y)) :: st) (sh, I, R) := (ev_eq f_209_238).trans rfl
set_option maxRecDepth 100000 in
theorem f_209_239 : fetch 209 239 = some (239, .iaload, 1, [], 0) := (fm_209 239).trans rfl
theorem u_209_239s {S : Scr} {d : Nat} {a0 a1 a2 a3 : AV} {st : List AV} {sh : Shp} {I : IM} {R : RM} {i : Int} (h0 : 0 ≤ i) (h1 : i < S.2) : ev S d 209 239 [a0, a1, a2, a3] (.inl i :: .inr (.inr 2) :: st) (sh, I, R) = ev S d 209 240 [a0, a1, a2, a3] (.inl (S.1 i) :: st) (sh, I, R) := (ev_eq f_209_239).trans (congrArg (fin S d 209) (if_pos ⟨h0, h1⟩))
set_option maxRecDepth 100000 in
theorem f_209_240 : fetch 209 240 = some (240, .invokevirtual 18, 3, [86, 2, 177], 0) := (fm_209 240).trans rfl
theorem u_209_240 {S : Scr} {d : Nat} {a0 a1 a2 a3 : AV} {st : List AV} {sh : Shp} {I : IM} {R : RM} {x0 : Int} {x1 : Int} {k : Nat} (h : tg sh k = 8) (hr : st.length ≤ 8) : ev S d 209 240 [a0, a1, a2, a3] (.inl x1 :: .inl x0 :: .inr (.inl k) :: st) (sh, I, R) = bnd (cl d 86 [.inr (.inl k), .inl x0, .inl x1] (sh, I, R)) (fun v M => ev S d 209 243 [a0, a1, a2, a3] (psh v st) M) := (ev_eq f_209_240).trans (congrArg (fin S d 209) (if_pos ⟨h, rfl, hr⟩))
set_option maxRecDepth 100000 in
theorem f_209_243 : fetch 209 243 = some (243, .aload_n 2, 1, [2], 0) := (fm_209 243).trans rfl
theorem u_209_243 {S : Scr} {d : Nat} {a0 a1 a3 : AV} {st : List AV} {sh : Shp} {I : IM} {R : RM} {x : Nat} : ev S d 209 243 [a0, a1, .inr (.inl x), a3] st (sh, I, R) = ev S d 209 244 [a0, a1, .inr (.inl x), a3] (.inr (.inl x) :: st) (sh, I, R) := (ev_eq f_209_243).trans rfl
set_option maxRecDepth 100000 in
theorem f_209_244 : fetch 209 244 = some (244, .aload_n 0, 1, [0], 0) := (fm_209 244).trans rfl
theorem u_209_244s {S : Scr} {d : Nat} {a1 a2 a3 : AV} {st : List AV} {sh : Shp} {I : IM} {R : RM} : ev S d 209 244 [.inr (.inr 2), a1, a2, a3] st (sh, I, R) = ev S d 209 245 [.inr (.inr 2), a1, a2, a3] (.inr (.inr 2) :: st) (sh, I, R) := (ev_eq f_209_244).trans rfl
set_option maxRecDepth 100000 in
theorem f_209_245 : fetch 209 245 = some (245, .iload_n 3, 1, [3], 0) := (fm_209 245).trans rfl
theorem u_209_245 {S : Scr} {d : Nat} {a0 a1 a2 : AV} {st : List AV} {sh : Shp} {I : IM} {R : RM} {x : Int} : ev S d 209 245 [a0, a1, a2, .inl x] st (sh, I, R) = ev S d 209 246 [a0, a1, a2, .inl x] (.inl x :: st) (sh, I, R) := (ev_eq f_209_245).trans rfl
set_option maxRecDepth 100000 in
theorem f_209_246 : fetch 209 246 = some (246, .iconst 1, 1, [], 1) := (fm_209 246).trans rfl
theorem u_209_246 {S : Scr} {d : Nat} {a0 a1 a2 a3 : AV} {st : List AV} {sh : Shp} {I : IM} {R : RM} : ev S d 209 246 [a0, a1, a2, a3] st (sh, I, R) = ev S d 209 247 [a0, a1, a2, a3] (.inl 1 :: st) (sh, I, R) := (ev_eq f_209_246).trans rfl
set_option maxRecDepth 100000 in
theorem f_209_247 : fetch 209 247 = some (247, .iadd, 1, [], 0) := (fm_209 247).trans rfl
theorem u_209_247 {S : Scr} {d : Nat} {a0 a1 a2 a3 : AV} {st : List AV} {sh : Shp} {I : IM} {R : RM} {x y : Int} : ev S d 209 247 [a0, a1, a2, a3] (.inl y :: .inl x :: st) (sh, I, R) = ev S d 209 248 [a0, a1, a2, a3] (.inl (wr (x + y)) :: st) (sh, I, R) := (ev_eq f_209_247).trans rfl
set_option maxRecDepth 100000 in
theorem f_209_248 : fetch 209 248 = some (248, .iaload, 1, [], 0) := (fm_209 248).trans rfl
theorem u_209_248s {S : Scr} {d : Nat} {a0 a1 a2 a3 : AV} {st : List AV} {sh : Shp} {I : IM} {R : RM} {i : Int} (h0 : 0 ≤ i) (h1 : i < S.2) : ev S d 209 248 [a0, a1, a2, a3] (.inl i :: .inr (.inr 2) :: st) (sh, I, R) = ev S d 209 249 [a0, a1, a2, a3] (.inl (S.1 i) :: st) (sh, I, R) := (ev_eq f_209_248).trans (congrArg (fin S d 209) (if_pos ⟨h0, h1⟩))
set_option maxRecDepth 100000 in
theorem f_209_249 : fetch 209 249 = some (249, .aload_n 0, 1, [0], 0) := (fm_209 249).trans rfl
theorem u_209_249s {S : Scr} {d : Nat} {a1 a2 a3 : AV} {st : List AV} {sh : Shp} {I : IM} {R : RM} : ev S d 209 249 [.inr (.inr 2), a1, a2, a3] st (sh, I, R) = ev S d 209 250 [.inr (.inr 2), a1, a2, a3] (.inr (.inr 2) :: st) (sh, I, R) := (ev_eq f_209_249).trans rfl
set_option maxRecDepth 100000 in
theorem f_209_250 : fetch 209 250 = some (250, .iload_n 3, 1, [3], 0) := (fm_209 250).trans rfl
theorem u_209_250 {S : Scr} {d : Nat} {a0 a1 a2 : AV} {st : List AV} {sh : Shp} {I : IM} {R : RM} {x : Int} : ev S d 209 250 [a0, a1, a2, .inl x] st (sh, I, R) = ev S d 209 251 [a0, a1, a2, .inl x] (.inl x :: st) (sh, I, R) := (ev_eq f_209_250).trans rfl
set_option maxRecDepth 100000 in
theorem f_209_251 : fetch 209 251 = some (251, .iconst 2, 1, [], 2) := (fm_209 251).trans rfl
theorem u_209_251 {S : Scr} {d : Nat} {a0 a1 a2 a3 : AV} {st : List AV} {sh : Shp} {I : IM} {R : RM} : ev S d 209 251 [a0, a1, a2, a3] st (sh, I, R) = ev S d 209 252 [a0, a1, a2, a3] (.inl 2 :: st) (sh, I, R) := (ev_eq f_209_251).trans rfl
set_option maxRecDepth 100000 in
theorem f_209_252 : fetch 209 252 = some (252, .iadd, 1, [], 0) := (fm_209 252).trans rfl
theorem u_209_252 {S : Scr} {d : Nat} {a0 a1 a2 a3 : AV} {st : List AV} {sh : Shp} {I : IM} {R : RM} {x y : Int} : ev S d 209 252 [a0, a1, a2, a3] (.inl y :: .inl x :: st) (sh, I, R) = ev S d 209 253 [a0, a1, a2, a3] (.inl (wr (x + y)) :: st) (sh, I, R) := (ev_eq f_209_252).trans rfl
set_option maxRecDepth 100000 in
theorem f_209_253 : fetch 209 253 = some (253, .iaload, 1, [], 0) := (fm_209 253).trans rfl
theorem u_209_253s {S : Scr} {d : Nat} {a0 a1 a2 a3 : AV} {st : List AV} {sh : Shp} {I : IM} {R : RM} {i : Int} (h0 : 0 ≤ i) (h1 : i < S.2) : ev S d 209 253 [a0, a1, a2, a3] (.inl i :: .inr (.inr 2) :: st) (sh, I, R) = ev S d 209 254 [a0, a1, a2, a3] (.inl (S.1 i) :: st) (sh, I, R) := (ev_eq f_209_253).trans (congrArg (fin S d 209) (if_pos ⟨h0, h1⟩))
set_option maxRecDepth 100000 in
theorem f_209_254 : fetch 209 254 = some (254, .invokevirtual 22, 3, [149, 2, 178], 0) := (fm_209 254).trans rfl
theorem u_209_254 {S : Scr} {d : Nat} {a0 a1 a2 a3 : AV} {st : List AV} {sh : Shp} {I : IM} {R : RM} {x0 : Int} {x1 : Int} {k : Nat} (h : tg sh k = 9) (hr : st.length ≤ 8) : ev S d 209 254 [a0, a1, a2, a3] (.inl x1 :: .inl x0 :: .inr (.inl k) :: st) (sh, I, R) = bnd (cl d 149 [.inr (.inl k), .inl x0, .inl x1] (sh, I, R)) (fun v M => ev S d 209 257 [a0, a1, a2, a3] (psh v st) M) := (ev_eq f_209_254).trans (congrArg (fin S d 209) (if_pos ⟨h, rfl, hr⟩))
set_option maxRecDepth 100000 in
theorem f_209_257 : fetch 209 257 = some (257, .if_icmp .eq 915, 3, [1172], 0) := (fm_209 257).trans rfl
theorem u_209_257 {S : Scr} {d : Nat} {a0 a1 a2 a3 : AV} {st : List AV} {sh : Shp} {I : IM} {R : RM} {x y : Int} : ev S d 209 257 [a0, a1, a2, a3] (.inl y :: .inl x :: st) (sh, I, R) = if x = y then ev S d 209 1172 [a0, a1, a2, a3] st (sh, I, R) else ev S d 209 260 [a0, a1, a2, a3] st (sh, I, R) := (ev_eq f_209_257).trans fin_icmp_eq
set_option maxRecDepth 100000 in
theorem f_209_260 : fetch 209 260 = some (260, .iconst 0, 1, [], 0) := (fm_209 260).trans rfl
theorem u_209_260 {S : Scr} {d : Nat} {a0 a1 a2 a3 : AV} {st : List AV} {sh : Shp} {I : IM} {R : RM} : ev S d 209 260 [a0, a1, a2, a3] st (sh, I, R) = ev S d 209 261 [a0, a1, a2, a3] (.inl 0 :: st) (sh, I, R) := (ev_eq f_209_260).trans rfl
set_option maxRecDepth 100000 in
theorem f_209_261 : fetch 209 261 = some (261, .ireturn, 1, [1], 0) := (fm_209 261).trans rfl
theorem u_209_261 {S : Scr} {d : Nat} {a0 a1 a2 a3 : AV} {sh : Shp} {I : IM} {R : RM} {x : Int} (h : x = 0 ∨ x = 1) : ev S d 209 261 [a0, a1, a2, a3] [.inl x] (sh, I, R) = some (some (.inl x), (sh, I, R)) := (ev_eq f_209_261).trans (fin_iret1 h)
set_option maxRecDepth 100000 in
theorem f_209_262 : fetch 209 262 = some (262, .aload_n 1, 1, [1], 0) := (fm_209 262).trans rfl
theorem u_209_262 {S : Scr} {d : Nat} {a0 a2 a3 : AV} {st : List AV} {sh : Shp} {I : IM} {R : RM} {x : Nat} : ev S d 209 262 [a0, .inr (.inl x), a2, a3] st (sh, I, R) = ev S d 209 263 [a0, .inr (.inl x), a2, a3] (.inr (.inl x) :: st) (sh, I, R) := (ev_eq f_209_262).trans rfl
set_option maxRecDepth 100000 in
theorem f_209_263 : fetch 209 263 = some (263, .aload_n 0, 1, [0], 0) := (fm_209 263).trans rfl
theorem u_209_263s {S : Scr} {d : Nat} {a1 a2 a3 : AV} {st : List AV} {sh : Shp} {I : IM} {R : RM} : ev S d 209 263 [.inr (.inr 2), a1, a2, a3] st (sh, I, R) = ev S d 209 264 [.inr (.inr 2), a1, a2, a3] (.inr (.inr 2) :: st) (sh, I, R) := (ev_eq f_209_263).trans rfl
set_option maxRecDepth 100000 in
theorem f_209_264 : fetch 209 264 = some (264, .iload_n 3, 1, [3], 0) := (fm_209 264).trans rfl
theorem u_209_264 {S : Scr} {d : Nat} {a0 a1 a2 : AV} {st : List AV} {sh : Shp} {I : IM} {R : RM} {x : Int} : ev S d 209 264 [a0, a1, a2, .inl x] st (sh, I, R) = ev S d 209 265 [a0, a1, a2, .inl x] (.inl x :: st) (sh, I, R) := (ev_eq f_209_264).trans rfl
set_option maxRecDepth 100000 in
theorem f_209_265 : fetch 209 265 = some (265, .iconst 1, 1, [], 1) := (fm_209 265).trans rfl
theorem u_209_265 {S : Scr} {d : Nat} {a0 a1 a2 a3 : AV} {st : List AV} {sh : Shp} {I : IM} {R : RM} : ev S d 209 265 [a0, a1, a2, a3] st (sh, I, R) = ev S d 209 266 [a0, a1, a2, a3] (.inl 1 :: st) (sh, I, R) := (ev_eq f_209_265).trans rfl
set_option maxRecDepth 100000 in
theorem f_209_266 : fetch 209 266 = some (266, .iadd, 1, [], 0) := (fm_209 266).trans rfl
theorem u_209_266 {S : Scr} {d : Nat} {a0 a1 a2 a3 : AV} {st : List AV} {sh : Shp} {I : IM} {R : RM} {x y : Int} : ev S d 209 266 [a0, a1, a2, a3] (.inl y :: .inl x :: st) (sh, I, R) = ev S d 209 267 [a0, a1, a2, a3] (.inl (wr (x + y)) :: st) (sh, I, R) := (ev_eq f_209_266).trans rfl
set_option maxRecDepth 100000 in
theorem f_209_267 : fetch 209 267 = some (267, .iaload, 1, [], 0) := (fm_209 267).trans rfl
theorem u_209_267s {S : Scr} {d : Nat} {a0 a1 a2 a3 : AV} {st : List AV} {sh : Shp} {I : IM} {R : RM} {i : Int} (h0 : 0 ≤ i) (h1 : i < S.2) : ev S d 209 267 [a0, a1, a2, a3] (.inl i :: .inr (.inr 2) :: st) (sh, I, R) = ev S d 209 268 [a0, a1, a2, a3] (.inl (S.1 i) :: st) (sh, I, R) := (ev_eq f_209_267).trans (congrArg (fin S d 209) (if_pos ⟨h0, h1⟩))
set_option maxRecDepth 100000 in
theorem f_209_268 : fetch 209 268 = some (268, .aload_n 0, 1, [0], 0) := (fm_209 268).trans rfl
theorem u_209_268s {S : Scr} {d : Nat} {a1 a2 a3 : AV} {st : List AV} {sh : Shp} {I : IM} {R : RM} : ev S d 209 268 [.inr (.inr 2), a1, a2, a3] st (sh, I, R) = ev S d 209 269 [.inr (.inr 2), a1, a2, a3] (.inr (.inr 2) :: st) (sh, I, R) := (ev_eq f_209_268).trans rfl
set_option maxRecDepth 100000 in
theorem f_209_269 : fetch 209 269 = some (269, .iload_n 3, 1, [3], 0) := (fm_209 269).trans rfl
theorem u_209_269 {S : Scr} {d : Nat} {a0 a1 a2 : AV} {st : List AV} {sh : Shp} {I : IM} {R : RM} {x : Int} : ev S d 209 269 [a0, a1, a2, .inl x] st (sh, I, R) = ev S d 209 270 [a0, a1, a2, .inl x] (.inl x :: st) (sh, I, R) := (ev_eq f_209_269).trans rfl
set_option maxRecDepth 100000 in
theorem f_209_270 : fetch 209 270 = some (270, .iconst 2, 1, [], 2) := (fm_209 270).trans rfl
theorem u_209_270 {S : Scr} {d : Nat} {a0 a1 a2 a3 : AV} {st : List AV} {sh : Shp} {I : IM} {R : RM} : ev S d 209 270 [a0, a1, a2, a3] st (sh, I, R) = ev S d 209 271 [a0, a1, a2, a3] (.inl 2 :: st) (sh, I, R) := (ev_eq f_209_270).trans rfl
set_option maxRecDepth 100000 in
theorem f_209_271 : fetch 209 271 = some (271, .iadd, 1, [], 0) := (fm_209 271).trans rfl
theorem u_209_271 {S : Scr} {d : Nat} {a0 a1 a2 a3 : AV} {st : List AV} {sh : Shp} {I : IM} {R : RM} {x y : Int} : ev S d 209 271 [a0, a1, a2, a3] (.inl y :: .inl x :: st) (sh, I, R) = ev S d 209 272 [a0, a1, a2, a3] (.inl (wr (x + y)) :: st) (sh, I, R) := (ev_eq f_209_271).trans rfl
set_option maxRecDepth 100000 in
theorem f_209_272 : fetch 209 272 = some (272, .iaload, 1, [], 0) := (fm_209 272).trans rfl
theorem u_209_272s {S : Scr} {d : Nat} {a0 a1 a2 a3 : AV} {st : List AV} {sh : Shp} {I : IM} {R : RM} {i : Int} (h0 : 0 ≤ i) (h1 : i < S.2) : ev S d 209 272 [a0, a1, a2, a3] (.inl i :: .inr (.inr 2) :: st) (sh, I, R) = ev S d 209 273 [a0, a1, a2, a3] (.inl (S.1 i) :: st) (sh, I, R) := (ev_eq f_209_272).trans (congrArg (fin S d 209) (if_pos ⟨h0, h1⟩))
set_option maxRecDepth 100000 in
theorem f_209_273 : fetch 209 273 = some (273, .aload_n 0, 1, [0], 0) := (fm_209 273).trans rfl
theorem u_209_273s {S : Scr} {d : Nat} {a1 a2 a3 : AV} {st : List AV} {sh : Shp} {I : IM} {R : RM} : ev S d 209 273 [.inr (.inr 2), a1, a2, a3] st (sh, I, R) = ev S d 209 274 [.inr (.inr 2), a1, a2, a3] (.inr (.inr 2) :: st) (sh, I, R) := (ev_eq f_209_273).trans rfl
set_option maxRecDepth 100000 in
theorem f_209_274 : fetch 209 274 = some (274, .iload_n 3, 1, [3], 0) := (fm_209 274).trans rfl
theorem u_209_274 {S : Scr} {d : Nat} {a0 a1 a2 : AV} {st : List AV} {sh : Shp} {I : IM} {R : RM} {x : Int} : ev S d 209 274 [a0, a1, a2, .inl x] st (sh, I, R) = ev S d 209 275 [a0, a1, a2, .inl x] (.inl x :: st) (sh, I, R) := (ev_eq f_209_274).trans rfl
set_option maxRecDepth 100000 in
theorem f_209_275 : fetch 209 275 = some (275, .iconst 3, 1, [], 3) := (fm_209 275).trans rfl
theorem u_209_275 {S : Scr} {d : Nat} {a0 a1 a2 a3 : AV} {st : List AV} {sh : Shp} {I : IM} {R : RM} : ev S d 209 275 [a0, a1, a2, a3] st (sh, I, R) = ev S d 209 276 [a0, a1, a2, a3] (.inl 3 :: st) (sh, I, R) := (ev_eq f_209_275).trans rfl
set_option maxRecDepth 100000 in
theorem f_209_276 : fetch 209 276 = some (276, .iadd, 1, [], 0) := (fm_209 276).trans rfl
theorem u_209_276 {S : Scr} {d : Nat} {a0 a1 a2 a3 : AV} {st : List AV} {sh : Shp} {I : IM} {R : RM} {x y : Int} : ev S d 209 276 [a0, a1, a2, a3] (.inl y :: .inl x :: st) (sh, I, R) = ev S d 209 277 [a0, a1, a2, a3] (.inl (wr (x + y)) :: st) (sh, I, R) := (ev_eq f_209_276).trans rfl
set_option maxRecDepth 100000 in
theorem f_209_277 : fetch 209 277 = some (277, .iaload, 1, [], 0) := (fm_209 277).trans rfl
theorem u_209_277s {S : Scr} {d : Nat} {a0 a1 a2 a3 : AV} {st : List AV} {sh : Shp} {I : IM} {R : RM} {i : Int} (h0 : 0 ≤ i) (h1 : i < S.2) : ev S d 209 277 [a0, a1, a2, a3] (.inl i :: .inr (.inr 2) :: st) (sh, I, R) = ev S d 209 278 [a0, a1, a2, a3] (.inl (S.1 i) :: st) (sh, I, R) := (ev_eq f_209_277).trans (congrArg (fin S d 209) (if_pos ⟨h0, h1⟩))
set_option maxRecDepth 100000 in
theorem f_209_278 : fetch 209 278 = some (278, .invokevirtual 23, 3, [87, 3, 179], 0) := (fm_209 278).trans rfl
theorem u_209_278 {S : Scr} {d : Nat} {a0 a1 a2 a3 : AV} {st : List AV} {sh : Shp} {I : IM} {R : RM} {x0 : Int} {x1 : Int} {x2 : Int} {k : Nat} (h : tg sh k = 8) (hr : st.length ≤ 8) : ev S d 209 278 [a0, a1, a2, a3] (.inl x2 :: .inl x1 :: .inl x0 :: .inr (.inl k) :: st) (sh, I, R) = bnd (cl d 87 [.inr (.inl k), .inl x0, .inl x1, .inl x2] (sh, I, R)) (fun v M => ev S d 209 281 [a0, a1, a2, a3] (psh v st) M) := (ev_eq f_209_278).trans (congrArg (fin S d 209) (if_pos ⟨h, rfl, hr⟩))
set_option maxRecDepth 100000 in
theorem f_209_281 : fetch 209 281 = some (281, .aload_n 2, 1, [2], 0) := (fm_209 281).trans rfl
theorem u_209_281 {S : Scr} {d : Nat} {a0 a1 a3 : AV} {st : List AV} {sh : Shp} {I : IM} {R : RM} {x : Nat} : ev S d 209 281 [a0, a1, .inr (.inl x), a3] st (sh, I, R) = ev S d 209 282 [a0, a1, .inr (.inl x), a3] (.inr (.inl x) :: st) (sh, I, R) := (ev_eq f_209_281).trans rfl
set_option maxRecDepth 100000 in
theorem f_209_282 : fetch 209 282 = some (282, .aload_n 0, 1, [0], 0) := (fm_209 282).trans rfl
theorem u_209_282s {S : Scr} {d : Nat} {a1 a2 a3 : AV} {st : List AV} {sh : Shp} {I : IM} {R : RM} : ev S d 209 282 [.inr (.inr 2), a1, a2, a3] st (sh, I, R) = ev S d 209 283 [.inr (.inr 2), a1, a2, a3] (.inr (.inr 2) :: st) (sh, I, R) := (ev_eq f_209_282).trans rfl
set_option maxRecDepth 100000 in
theorem f_209_283 : fetch 209 283 = some (283, .iload_n 3, 1, [3], 0) := (fm_209 283).trans rfl
theorem u_209_283 {S : Scr} {d : Nat} {a0 a1 a2 : AV} {st : List AV} {sh : Shp} {I : IM} {R : RM} {x : Int} : ev S d 209 283 [a0, a1, a2, .inl x] st (sh, I, R) = ev S d 209 284 [a0, a1, a2, .inl x] (.inl x :: st) (sh, I, R) := (ev_eq f_209_283).trans rfl
set_option maxRecDepth 100000 in
theorem f_209_284 : fetch 209 284 = some (284, .iconst 1, 1, [], 1) := (fm_209 284).trans rfl
theorem u_209_284 {S : Scr} {d : Nat} {a0 a1 a2 a3 : AV} {st : List AV} {sh : Shp} {I : IM} {R : RM} : ev S d 209 284 [a0, a1, a2, a3] st (sh, I, R) = ev S d 209 285 [a0, a1, a2, a3] (.inl 1 :: st) (sh, I, R) := (ev_eq f_209_284).trans rfl
set_option maxRecDepth 100000 in
theorem f_209_285 : fetch 209 285 = some (285, .iadd, 1, [], 0) := (fm_209 285).trans rfl
theorem u_209_285 {S : Scr} {d : Nat} {a0 a1 a2 a3 : AV} {st : List AV} {sh : Shp} {I : IM} {R : RM} {x y : Int} : ev S d 209 285 [a0, a1, a2, a3] (.inl y :: .inl x :: st) (sh, I, R) = ev S d 209 286 [a0, a1, a2, a3] (.inl (wr (x + y)) :: st) (sh, I, R) := (ev_eq f_209_285).trans rfl
set_option maxRecDepth 100000 in
theorem f_209_286 : fetch 209 286 = some (286, .iaload, 1, [], 0) := (fm_209 286).trans rfl
theorem u_209_286s {S : Scr} {d : Nat} {a0 a1 a2 a3 : AV} {st : List AV} {sh : Shp} {I : IM} {R : RM} {i : Int} (h0 : 0 ≤ i) (h1 : i < S.2) : ev S d 209 286 [a0, a1, a2, a3] (.inl i :: .inr (.inr 2) :: st) (sh, I, R) = ev S d 209 287 [a0, a1, a2, a3] (.inl (S.1 i) :: st) (sh, I, R) := (ev_eq f_209_286).trans (congrArg (fin S d 209) (if_pos ⟨h0, h1⟩))
set_option maxRecDepth 100000 in
theorem f_209_287 : fetch 209 287 = some (287, .aload_n 0, 1, [0], 0) := (fm_209 287).trans rfl
theorem u_209_287s {S : Scr} {d : Nat} {a1 a2 a3 : AV} {st : List AV} {sh : Shp} {I : IM} {R : RM} : ev S d 209 287 [.inr (.inr 2), a1, a2, a3] st (sh, I, R) = ev S d 209 288 [.inr (.inr 2), a1, a2, a3] (.inr (.inr 2) :: st) (sh, I, R) := (ev_eq f_209_287).trans rfl
set_option maxRecDepth 100000 in
theorem f_209_288 : fetch 209 288 = some (288, .iload_n 3, 1, [3], 0) := (fm_209 288).trans rfl
theorem u_209_288 {S : Scr} {d : Nat} {a0 a1 a2 : AV} {st : List AV} {sh : Shp} {I : IM} {R : RM} {x : Int} : ev S d 209 288 [a0, a1, a2, .inl x] st (sh, I, R) = ev S d 209 289 [a0, a1, a2, .inl x] (.inl x :: st) (sh, I, R) := (ev_eq f_209_288).trans rfl
set_option maxRecDepth 100000 in
theorem f_209_289 : fetch 209 289 = some (289, .iconst 2, 1, [], 2) := (fm_209 289).trans rfl
theorem u_209_289 {S : Scr} {d : Nat} {a0 a1 a2 a3 : AV} {st : List AV} {sh : Shp} {I : IM} {R : RM} : ev S d 209 289 [a0, a1, a2, a3] st (sh, I, R) = ev S d 209 290 [a0, a1, a2, a3] (.inl 2 :: st) (sh, I, R) := (ev_eq f_209_289).trans rfl
set_option maxRecDepth 100000 in
theorem f_209_290 : fetch 209 290 = some (290, .iadd, 1, [], 0) := (fm_209 290).trans rfl
theorem u_209_290 {S : Scr} {d : Nat} {a0 a1 a2 a3 : AV} {st : List AV} {sh : Shp} {I : IM} {R : RM} {x y : Int} : ev S d 209 290 [a0, a1, a2, a3] (.inl y :: .inl x :: st) (sh, I, R) = ev S d 209 291 [a0, a1, a2, a3] (.inl (wr (x + y)) :: st) (sh, I, R) := (ev_eq f_209_290).trans rfl
set_option maxRecDepth 100000 in
theorem f_209_291 : fetch 209 291 = some (291, .iaload, 1, [], 0) := (fm_209 291).trans rfl
theorem u_209_291s {S : Scr} {d : Nat} {a0 a1 a2 a3 : AV} {st : List AV} {sh : Shp} {I : IM} {R : RM} {i : Int} (h0 : 0 ≤ i) (h1 : i < S.2) : ev S d 209 291 [a0, a1, a2, a3] (.inl i :: .inr (.inr 2) :: st) (sh, I, R) = ev S d 209 292 [a0, a1, a2, a3] (.inl (S.1 i) :: st) (sh, I, R) := (ev_eq f_209_291).trans (congrArg (fin S d 209) (if_pos ⟨h0, h1⟩))
set_option maxRecDepth 100000 in
theorem f_209_292 : fetch 209 292 = some (292, .aload_n 0, 1, [0], 0) := (fm_209 292).trans rfl
theorem u_209_292s {S : Scr} {d : Nat} {a1 a2 a3 : AV} {st : List AV} {sh : Shp} {I : IM} {R : RM} : ev S d 209 292 [.inr (.inr 2), a1, a2, a3] st (sh, I, R) = ev S d 209 293 [.inr (.inr 2), a1, a2, a3] (.inr (.inr 2) :: st) (sh, I, R) := (ev_eq f_209_292).trans rfl
set_option maxRecDepth 100000 in
theorem f_209_293 : fetch 209 293 = some (293, .iload_n 3, 1, [3], 0) := (fm_209 293).trans rfl
theorem u_209_293 {S : Scr} {d : Nat} {a0 a1 a2 : AV} {st : List AV} {sh : Shp} {I : IM} {R : RM} {x : Int} : ev S d 209 293 [a0, a1, a2, .inl x] st (sh, I, R) = ev S d 209 294 [a0, a1, a2, .inl x] (.inl x :: st) (sh, I, R) := (ev_eq f_209_293).trans rfl
set_option maxRecDepth 100000 in
theorem f_209_294 : fetch 209 294 = some (294, .iconst 3, 1, [], 3) := (fm_209 294).trans rfl
theorem u_209_294 {S : Scr} {d : Nat} {a0 a1 a2 a3 : AV} {st : List AV} {sh : Shp} {I : IM} {R : RM} : ev S d 209 294 [a0, a1, a2, a3] st (sh, I, R) = ev S d 209 295 [a0, a1, a2, a3] (.inl 3 :: st) (sh, I, R) := (ev_eq f_209_294).trans rfl
set_option maxRecDepth 100000 in
theorem f_209_295 : fetch 209 295 = some (295, .iadd, 1, [], 0) := (fm_209 295).trans rfl
theorem u_209_295 {S : Scr} {d : Nat} {a0 a1 a2 a3 : AV} {st : List AV} {sh : Shp} {I : IM} {R : RM} {x y : Int} : ev S d 209 295 [a0, a1, a2, a3] (.inl y :: .inl x :: st) (sh, I, R) = ev S d 209 296 [a0, a1, a2, a3] (.inl (wr (x + y)) :: st) (sh, I, R) := (ev_eq f_209_295).trans rfl
set_option maxRecDepth 100000 in
theorem f_209_296 : fetch 209 296 = some (296, .iaload, 1, [], 0) := (fm_209 296).trans rfl
theorem u_209_296s {S : Scr} {d : Nat} {a0 a1 a2 a3 : AV} {st : List AV} {sh : Shp} {I : IM} {R : RM} {i : Int} (h0 : 0 ≤ i) (h1 : i < S.2) : ev S d 209 296 [a0, a1, a2, a3] (.inl i :: .inr (.inr 2) :: st) (sh, I, R) = ev S d 209 297 [a0, a1, a2, a3] (.inl (S.1 i) :: st) (sh, I, R) := (ev_eq f_209_296).trans (congrArg (fin S d 209) (if_pos ⟨h0, h1⟩))
set_option maxRecDepth 100000 in
theorem f_209_297 : fetch 209 297 = some (297, .invokevirtual 27, 3, [150, 3, 180], 0) := (fm_209 297).trans rfl
theorem u_209_297 {S : Scr} {d : Nat} {a0 a1 a2 a3 : AV} {st : List AV} {sh : Shp} {I : IM} {R : RM} {x0 : Int} {x1 : Int} {x2 : Int} {k : Nat} (h : tg sh k = 9) (hr : st.length ≤ 8) : ev S d 209 297 [a0, a1, a2, a3] (.inl x2 :: .inl x1 :: .inl x0 :: .inr (.inl k) :: st) (sh, I, R) = bnd (cl d 150 [.inr (.inl k), .inl x0, .inl x1, .inl x2] (sh, I, R)) (fun v M => ev S d 209 300 [a0, a1, a2, a3] (psh v st) M) := (ev_eq f_209_297).trans (congrArg (fin S d 209) (if_pos ⟨h, rfl, hr⟩))
set_option maxRecDepth 100000 in
theorem f_209_300 : fetch 209 300 = some (300, .if_icmp .eq 872, 3, [1172], 0) := (fm_209 300).trans rfl
theorem u_209_300 {S : Scr} {d : Nat} {a0 a1 a2 a3 : AV} {st : List AV} {sh : Shp} {I : IM} {R : RM} {x y : Int} : ev S d 209 300 [a0, a1, a2, a3] (.inl y :: .inl x :: st) (sh, I, R) = if x = y then ev S d 209 1172 [a0, a1, a2, a3] st (sh, I, R) else ev S d 209 303 [a0, a1, a2, a3] st (sh, I, R) := (ev_eq f_209_300).trans fin_icmp_eq
set_option maxRecDepth 100000 in
theorem f_209_303 : fetch 209 303 = some (303, .iconst 0, 1, [], 0) := (fm_209 303).trans rfl
theorem u_209_303 {S : Scr} {d : Nat} {a0 a1 a2 a3 : AV} {st : List AV} {sh : Shp} {I : IM} {R : RM} : ev S d 209 303 [a0, a1, a2, a3] st (sh, I, R) = ev S d 209 304 [a0, a1, a2, a3] (.inl 0 :: st) (sh, I, R) := (ev_eq f_209_303).trans rfl
set_option maxRecDepth 100000 in
theorem f_209_304 : fetch 209 304 = some (304, .ireturn, 1, [1], 0) := (fm_209 304).trans rfl
theorem u_209_304 {S : Scr} {d : Nat} {a0 a1 a2 a3 : AV} {sh : Shp} {I : IM} {R : RM} {x : Int} (h : x = 0 ∨ x = 1) : ev S d 209 304 [a0, a1, a2, a3] [.inl x] (sh, I, R) = some (some (.inl x), (sh, I, R)) := (ev_eq f_209_304).trans (fin_iret1 h)
set_option maxRecDepth 100000 in
theorem f_209_305 : fetch 209 305 = some (305, .aload_n 1, 1, [1], 0) := (fm_209 305).trans rfl
theorem u_209_305 {S : Scr} {d : Nat} {a0 a2 a3 : AV} {st : List AV} {sh : Shp} {I : IM} {R : RM} {x : Nat} : ev S d 209 305 [a0, .inr (.inl x), a2, a3] st (sh, I, R) = ev S d 209 306 [a0, .inr (.inl x), a2, a3] (.inr (.inl x) :: st) (sh, I, R) := (ev_eq f_209_305).trans rfl
set_option maxRecDepth 100000 in
theorem f_209_306 : fetch 209 306 = some (306, .aload_n 0, 1, [0], 0) := (fm_209 306).trans rfl
theorem u_209_306s {S : Scr} {d : Nat} {a1 a2 a3 : AV} {st : List AV} {sh : Shp} {I : IM} {R : RM} : ev S d 209 306 [.inr (.inr 2), a1, a2, a3] st (sh, I, R) = ev S d 209 307 [.inr (.inr 2), a1, a2, a3] (.inr (.inr 2) :: st) (sh, I, R) := (ev_eq f_209_306).trans rfl
set_option maxRecDepth 100000 in
theorem f_209_307 : fetch 209 307 = some (307, .iload_n 3, 1, [3], 0) := (fm_209 307).trans rfl
theorem u_209_307 {S : Scr} {d : Nat} {a0 a1 a2 : AV} {st : List AV} {sh : Shp} {I : IM} {R : RM} {x : Int} : ev S d 209 307 [a0, a1, a2, .inl x] st (sh, I, R) = ev S d 209 308 [a0, a1, a2, .inl x] (.inl x :: st) (sh, I, R) := (ev_eq f_209_307).trans rfl
set_option maxRecDepth 100000 in
theorem f_209_308 : fetch 209 308 = some (308, .iconst 1, 1, [], 1) := (fm_209 308).trans rfl
theorem u_209_308 {S : Scr} {d : Nat} {a0 a1 a2 a3 : AV} {st : List AV} {sh : Shp} {I : IM} {R : RM} : ev S d 209 308 [a0, a1, a2, a3] st (sh, I, R) = ev S d 209 309 [a0, a1, a2, a3] (.inl 1 :: st) (sh, I, R) := (ev_eq f_209_308).trans rfl
set_option maxRecDepth 100000 in
theorem f_209_309 : fetch 209 309 = some (309, .iadd, 1, [], 0) := (fm_209 309).trans rfl
theorem u_209_309 {S : Scr} {d : Nat} {a0 a1 a2 a3 : AV} {st : List AV} {sh : Shp} {I : IM} {R : RM} {x y : Int} : ev S d 209 309 [a0, a1, a2, a3] (.inl y :: .inl x :: st) (sh, I, R) = ev S d 209 310 [a0, a1, a2, a3] (.inl (wr (x + y)) :: st) (sh, I, R) := (ev_eq f_209_309).trans rfl
set_option maxRecDepth 100000 in
theorem f_209_310 : fetch 209 310 = some (310, .iaload, 1, [], 0) := (fm_209 310).trans rfl
theorem u_209_310s {S : Scr} {d : Nat} {a0 a1 a2 a3 : AV} {st : List AV} {sh : Shp} {I : IM} {R : RM} {i : Int} (h0 : 0 ≤ i) (h1 : i < S.2) : ev S d 209 310 [a0, a1, a2, a3] (.inl i :: .inr (.inr 2) :: st) (sh, I, R) = ev S d 209 311 [a0, a1, a2, a3] (.inl (S.1 i) :: st) (sh, I, R) := (ev_eq f_209_310).trans (congrArg (fin S d 209) (if_pos ⟨h0, h1⟩))
set_option maxRecDepth 100000 in
theorem f_209_311 : fetch 209 311 = some (311, .invokevirtual 28, 3, [88, 1, 181], 0) := (fm_209 311).trans rfl
theorem u_209_311 {S : Scr} {d : Nat} {a0 a1 a2 a3 : AV} {st : List AV} {sh : Shp} {I : IM} {R : RM} {x0 : Int} {k : Nat} (h : tg sh k = 8) (hr : st.length ≤ 8) : ev S d 209 311 [a0, a1, a2, a3] (.inl x0 :: .inr (.inl k) :: st) (sh, I, R) = bnd (cl d 88 [.inr (.inl k), .inl x0] (sh, I, R)) (fun v M => ev S d 209 314 [a0, a1, a2, a3] (psh v st) M) := (ev_eq f_209_311).trans (congrArg (fin S d 209) (if_pos ⟨h, rfl, hr⟩))
set_option maxRecDepth 100000 in
theorem f_209_314 : fetch 209 314 = some (314, .aload_n 2, 1, [2], 0) := (fm_209 314).trans rfl
theorem u_209_314 {S : Scr} {d : Nat} {a0 a1 a3 : AV} {st : List AV} {sh : Shp} {I : IM} {R : RM} {x : Nat} : ev S d 209 314 [a0, a1, .inr (.inl x), a3] st (sh, I, R) = ev S d 209 315 [a0, a1, .inr (.inl x), a3] (.inr (.inl x) :: st) (sh, I, R) := (ev_eq f_209_314).trans rfl
set_option maxRecDepth 100000 in
theorem f_209_315 : fetch 209 315 = some (315, .aload_n 0, 1, [0], 0) := (fm_209 315).trans rfl
theorem u_209_315s {S : Scr} {d : Nat} {a1 a2 a3 : AV} {st : List AV} {sh : Shp} {I : IM} {R : RM} : ev S d 209 315 [.inr (.inr 2), a1, a2, a3] st (sh, I, R) = ev S d 209 316 [.inr (.inr 2), a1, a2, a3] (.inr (.inr 2) :: st) (sh, I, R) := (ev_eq f_209_315).trans rfl
set_option maxRecDepth 100000 in
theorem f_209_316 : fetch 209 316 = some (316, .iload_n 3, 1, [3], 0) := (fm_209 316).trans rfl
theorem u_209_316 {S : Scr} {d : Nat} {a0 a1 a2 : AV} {st : List AV} {sh : Shp} {I : IM} {R : RM} {x : Int} : ev S d 209 316 [a0, a1, a2, .inl x] st (sh, I, R) = ev S d 209 317 [a0, a1, a2, .inl x] (.inl x :: st) (sh, I, R) := (ev_eq f_209_316).trans rfl
set_option maxRecDepth 100000 in
theorem f_209_317 : fetch 209 317 = some (317, .iconst 1, 1, [], 1) := (fm_209 317).trans rfl
theorem u_209_317 {S : Scr} {d : Nat} {a0 a1 a2 a3 : AV} {st : List AV} {sh : Shp} {I : IM} {R : RM} : ev S d 209 317 [a0, a1, a2, a3] st (sh, I, R) = ev S d 209 318 [a0, a1, a2, a3] (.inl 1 :: st) (sh, I, R) := (ev_eq f_209_317).trans rfl
set_option maxRecDepth 100000 in
theorem f_209_318 : fetch 209 318 = some (318, .iadd, 1, [], 0) := (fm_209 318).trans rfl
theorem u_209_318 {S : Scr} {d : Nat} {a0 a1 a2 a3 : AV} {st : List AV} {sh : Shp} {I : IM} {R : RM} {x y : Int} : ev S d 209 318 [a0, a1, a2, a3] (.inl y :: .inl x :: st) (sh, I, R) = ev S d 209 319 [a0, a1, a2, a3] (.inl (wr (x + y)) :: st) (sh, I, R) := (ev_eq f_209_318).trans rfl
set_option maxRecDepth 100000 in
theorem f_209_319 : fetch 209 319 = some (319, .iaload, 1, [], 0) := (fm_209 319).trans rfl
theorem u_209_319s {S : Scr} {d : Nat} {a0 a1 a2 a3 : AV} {st : List AV} {sh : Shp} {I : IM} {R : RM} {i : Int} (h0 : 0 ≤ i) (h1 : i < S.2) : ev S d 209 319 [a0, a1, a2, a3] (.inl i :: .inr (.inr 2) :: st) (sh, I, R) = ev S d 209 320 [a0, a1, a2, a3] (.inl (S.1 i) :: st) (sh, I, R) := (ev_eq f_209_319).trans (congrArg (fin S d 209) (if_pos ⟨h0, h1⟩))
set_option maxRecDepth 100000 in
theorem f_209_320 : fetch 209 320 = some (320, .invokevirtual 32, 3, [152, 1, 182], 0) := (fm_209 320).trans rfl
theorem u_209_320 {S : Scr} {d : Nat} {a0 a1 a2 a3 : AV} {st : List AV} {sh : Shp} {I : IM} {R : RM} {x0 : Int} {k : Nat} (h : tg sh k = 9) (hr : st.length ≤ 8) : ev S d 209 320 [a0, a1, a2, a3] (.inl x0 :: .inr (.inl k) :: st) (sh, I, R) = bnd (cl d 152 [.inr (.inl k), .inl x0] (sh, I, R)) (fun v M => ev S d 209 323 [a0, a1, a2, a3] (psh v st) M) := (ev_eq f_209_320).trans (congrArg (fin S d 209) (if_pos ⟨h, rfl, hr⟩))
set_option maxRecDepth 100000 in
theorem f_209_323 : fetch 209 323 = some (323, .if_icmp .eq 849, 3, [1172], 0) := (fm_209 323).trans rfl
theorem u_209_323 {S : Scr} {d : Nat} {a0 a1 a2 a3 : AV} {st : List AV} {sh : Shp} {I : IM} {R : RM} {x y : Int} : ev S d 209 323 [a0, a1, a2, a3] (.inl y :: .inl x :: st) (sh, I, R) = if x = y then ev S d 209 1172 [a0, a1, a2, a3] st (sh, I, R) else ev S d 209 326 [a0, a1, a2, a3] st (sh, I, R) := (ev_eq f_209_323).trans fin_icmp_eq
set_option maxRecDepth 100000 in
theorem f_209_326 : fetch 209 326 = some (326, .iconst 0, 1, [], 0) := (fm_209 326).trans rfl
theorem u_209_326 {S : Scr} {d : Nat} {a0 a1 a2 a3 : AV} {st : List AV} {sh : Shp} {I : IM} {R : RM} : ev S d 209 326 [a0, a1, a2, a3] st (sh, I, R) = ev S d 209 327 [a0, a1, a2, a3] (.inl 0 :: st) (sh, I, R) := (ev_eq f_209_326).trans rfl
set_option maxRecDepth 100000 in
theorem f_209_327 : fetch 209 327 = some (327, .ireturn, 1, [1], 0) := (fm_209 327).trans rfl
theorem u_209_327 {S : Scr} {d : Nat} {a0 a1 a2 a3 : AV} {sh : Shp} {I : IM} {R : RM} {x : Int} (h : x = 0 ∨ x = 1) : ev S d 209 327 [a0, a1, a2, a3] [.inl x] (sh, I, R) = some (some (.inl x), (sh, I, R)) := (ev_eq f_209_327).trans (fin_iret1 h)
set_option maxRecDepth 100000 in
theorem f_209_328 : fetch 209 328 = some (328, .aload_n 1, 1, [1], 0) := (fm_209 328).trans rfl
theorem u_209_328 {S : Scr} {d : Nat} {a0 a2 a3 : AV} {st : List AV} {sh : Shp} {I : IM} {R : RM} {x : Nat} : ev S d 209 328 [a0, .inr (.inl x), a2, a3] st (sh, I, R) = ev S d 209 329 [a0, .inr (.inl x), a2, a3] (.inr (.inl x) :: st) (sh, I, R) := (ev_eq f_209_328).trans rfl
set_option maxRecDepth 100000 in
theorem f_209_329 : fetch 209 329 = some (329, .aload_n 0, 1, [0], 0) := (fm_209 329).trans rfl
theorem u_209_329s {S : Scr} {d : Nat} {a1 a2 a3 : AV} {st : List AV} {sh : Shp} {I : IM} {R : RM} : ev S d 209 329 [.inr (.inr 2), a1, a2, a3] st (sh, I, R) = ev S d 209 330 [.inr (.inr 2), a1, a2, a3] (.inr (.inr 2) :: st) (sh, I, R) := (ev_eq f_209_329).trans rfl
set_option maxRecDepth 100000 in
theorem f_209_330 : fetch 209 330 = some (330, .iload_n 3, 1, [3], 0) := (fm_209 330).trans rfl
theorem u_209_330 {S : Scr} {d : Nat} {a0 a1 a2 : AV} {st : List AV} {sh : Shp} {I : IM} {R : RM} {x : Int} : ev S d 209 330 [a0, a1, a2, .inl x] st (sh, I, R) = ev S d 209 331 [a0, a1, a2, .inl x] (.inl x :: st) (sh, I, R) := (ev_eq f_209_330).trans rfl
set_option maxRecDepth 100000 in
theorem f_209_331 : fetch 209 331 = some (331, .iconst 1, 1, [], 1) := (fm_209 331).trans rfl
theorem u_209_331 {S : Scr} {d : Nat} {a0 a1 a2 a3 : AV} {st : List AV} {sh : Shp} {I : IM} {R : RM} : ev S d 209 331 [a0, a1, a2, a3] st (sh, I, R) = ev S d 209 332 [a0, a1, a2, a3] (.inl 1 :: st) (sh, I, R) := (ev_eq f_209_331).trans rfl
set_option maxRecDepth 100000 in
theorem f_209_332 : fetch 209 332 = some (332, .iadd, 1, [], 0) := (fm_209 332).trans rfl
theorem u_209_332 {S : Scr} {d : Nat} {a0 a1 a2 a3 : AV} {st : List AV} {sh : Shp} {I : IM} {R : RM} {x y : Int} : ev S d 209 332 [a0, a1, a2, a3] (.inl y :: .inl x :: st) (sh, I, R) = ev S d 209 333 [a0, a1, a2, a3] (.inl (wr (x + y)) :: st) (sh, I, R) := (ev_eq f_209_332).trans rfl
set_option maxRecDepth 100000 in
theorem f_209_333 : fetch 209 333 = some (333, .iaload, 1, [], 0) := (fm_209 333).trans rfl
theorem u_209_333s {S : Scr} {d : Nat} {a0 a1 a2 a3 : AV} {st : List AV} {sh : Shp} {I : IM} {R : RM} {i : Int} (h0 : 0 ≤ i) (h1 : i < S.2) : ev S d 209 333 [a0, a1, a2, a3] (.inl i :: .inr (.inr 2) :: st) (sh, I, R) = ev S d 209 334 [a0, a1, a2, a3] (.inl (S.1 i) :: st) (sh, I, R) := (ev_eq f_209_333).trans (congrArg (fin S d 209) (if_pos ⟨h0, h1⟩))
set_option maxRecDepth 100000 in
theorem f_209_334 : fetch 209 334 = some (334, .aload_n 0, 1, [0], 0) := (fm_209 334).trans rfl
theorem u_209_334s {S : Scr} {d : Nat} {a1 a2 a3 : AV} {st : List AV} {sh : Shp} {I : IM} {R : RM} : ev S d 209 334 [.inr (.inr 2), a1, a2, a3] st (sh, I, R) = ev S d 209 335 [.inr (.inr 2), a1, a2, a3] (.inr (.inr 2) :: st) (sh, I, R) := (ev_eq f_209_334).trans rfl
set_option maxRecDepth 100000 in
theorem f_209_335 : fetch 209 335 = some (335, .iload_n 3, 1, [3], 0) := (fm_209 335).trans rfl
theorem u_209_335 {S : Scr} {d : Nat} {a0 a1 a2 : AV} {st : List AV} {sh : Shp} {I : IM} {R : RM} {x : Int} : ev S d 209 335 [a0, a1, a2, .inl x] st (sh, I, R) = ev S d 209 336 [a0, a1, a2, .inl x] (.inl x :: st) (sh, I, R) := (ev_eq f_209_335).trans rfl
set_option maxRecDepth 100000 in
theorem f_209_336 : fetch 209 336 = some (336, .iconst 2, 1, [], 2) := (fm_209 336).trans rfl
theorem u_209_336 {S : Scr} {d : Nat} {a0 a1 a2 a3 : AV} {st : List AV} {sh : Shp} {I : IM} {R : RM} : ev S d 209 336 [a0, a1, a2, a3] st (sh, I, R) = ev S d 209 337 [a0, a1, a2, a3] (.inl 2 :: st) (sh, I, R) := (ev_eq f_209_336).trans rfl
set_option maxRecDepth 100000 in
theorem f_209_337 : fetch 209 337 = some (337, .iadd, 1, [], 0) := (fm_209 337).trans rfl
theorem u_209_337 {S : Scr} {d : Nat} {a0 a1 a2 a3 : AV} {st : List AV} {sh : Shp} {I : IM} {R : RM} {x y : Int} : ev S d 209 337 [a0, a1, a2, a3] (.inl y :: .inl x :: st) (sh, I, R) = ev S d 209 338 [a0, a1, a2, a3] (.inl (wr (x + y)) :: st) (sh, I, R) := (ev_eq f_209_337).trans rfl
set_option maxRecDepth 100000 in
theorem f_209_338 : fetch 209 338 = some (338, .iaload, 1, [], 0) := (fm_209 338).trans rfl
theorem u_209_338s {S : Scr} {d : Nat} {a0 a1 a2 a3 : AV} {st : List AV} {sh : Shp} {I : IM} {R : RM} {i : Int} (h0 : 0 ≤ i) (h1 : i < S.2) : ev S d 209 338 [a0, a1, a2, a3] (.inl i :: .inr (.inr 2) :: st) (sh, I, R) = ev S d 209 339 [a0, a1, a2, a3] (.inl (S.1 i) :: st) (sh, I, R) := (ev_eq f_209_338).trans (congrArg (fin S d 209) (if_pos ⟨h0, h1⟩))
set_option maxRecDepth 100000 in
theorem f_209_339 : fetch 209 339 = some (339, .invokevirtual 33, 3, [89, 2, 183], 0) := (fm_209 339).trans rfl
theorem u_209_339 {S : Scr} {d : Nat} {a0 a1 a2 a3 : AV} {st : List AV} {sh : Shp} {I : IM} {R : RM} {x0 : Int} {x1 : Int} {k : Nat} (h : tg sh k = 8) (hr : st.length ≤ 8) : ev S d 209 339 [a0, a1, a2, a3] (.inl x1 :: .inl x0 :: .inr (.inl k) :: st) (sh, I, R) = bnd (cl d 89 [.inr (.inl k), .inl x0, .inl x1] (sh, I, R)) (fun v M => ev S d 209 342 [a0, a1, a2, a3] (psh v st) M) := (ev_eq f_209_339).trans (congrArg (fin S d 209) (if_pos ⟨h, rfl, hr⟩))
set_option maxRecDepth 100000 in
theorem f_209_342 : fetch 209 342 = some (342, .aload_n 2, 1, [2], 0) := (fm_209 342).trans rfl
theorem u_209_342 {S : Scr} {d : Nat} {a0 a1 a3 : AV} {st : List AV} {sh : Shp} {I : IM} {R : RM} {x : Nat} : ev S d 209 342 [a0, a1, .inr (.inl x), a3] st (sh, I, R) = ev S d 209 343 [a0, a1, .inr (.inl x), a3] (.inr (.inl x) :: st) (sh, I, R) := (ev_eq f_209_342).trans rfl
set_option maxRecDepth 100000 in
theorem f_209_343 : fetch 209 343 = some (343, .aload_n 0, 1, [0], 0) := (fm_209 343).trans rfl
theorem u_209_343s {S : Scr} {d : Nat} {a1 a2 a3 : AV} {st : List AV} {sh : Shp} {I : IM} {R : RM} : ev S d 209 343 [.inr (.inr 2), a1, a2, a3] st (sh, I, R) = ev S d 209 344 [.inr (.inr 2), a1, a2, a3] (.inr (.inr 2) :: st) (sh, I, R) := (ev_eq f_209_343).trans rfl
set_option maxRecDepth 100000 in
theorem f_209_344 : fetch 209 344 = some (344, .iload_n 3, 1, [3], 0) := (fm_209 344).trans rfl
theorem u_209_344 {S : Scr} {d : Nat} {a0 a1 a2 : AV} {st : List AV} {sh : Shp} {I : IM} {R : RM} {x : Int} : ev S d 209 344 [a0, a1, a2, .inl x] st (sh, I, R) = ev S d 209 345 [a0, a1, a2, .inl x] (.inl x :: st) (sh, I, R) := (ev_eq f_209_344).trans rfl
set_option maxRecDepth 100000 in
theorem f_209_345 : fetch 209 345 = some (345, .iconst 1, 1, [], 1) := (fm_209 345).trans rfl
theorem u_209_345 {S : Scr} {d : Nat} {a0 a1 a2 a3 : AV} {st : List AV} {sh : Shp} {I : IM} {R : RM} : ev S d 209 345 [a0, a1, a2, a3] st (sh, I, R) = ev S d 209 346 [a0, a1, a2, a3] (.inl 1 :: st) (sh, I, R) := (ev_eq f_209_345).trans rfl
set_option maxRecDepth 100000 in
theorem f_209_346 : fetch 209 346 = some (346, .iadd, 1, [], 0) := (fm_209 346).trans rfl
theorem u_209_346 {S : Scr} {d : Nat} {a0 a1 a2 a3 : AV} {st : List AV} {sh : Shp} {I : IM} {R : RM} {x y : Int} : ev S d 209 346 [a0, a1, a2, a3] (.inl y :: .inl x :: st) (sh, I, R) = ev S d 209 347 [a0, a1, a2, a3] (.inl (wr (x + y)) :: st) (sh, I, R) := (ev_eq f_209_346).trans rfl
set_option maxRecDepth 100000 in
theorem f_209_347 : fetch 209 347 = some (347, .iaload, 1, [], 0) := (fm_209 347).trans rfl
theorem u_209_347s {S : Scr} {d : Nat} {a0 a1 a2 a3 : AV} {st : List AV} {sh : Shp} {I : IM} {R : RM} {i : Int} (h0 : 0 ≤ i) (h1 : i < S.2) : ev S d 209 347 [a0, a1, a2, a3] (.inl i :: .inr (.inr 2) :: st) (sh, I, R) = ev S d 209 348 [a0, a1, a2, a3] (.inl (S.1 i) :: st) (sh, I, R) := (ev_eq f_209_347).trans (congrArg (fin S d 209) (if_pos ⟨h0, h1⟩))
set_option maxRecDepth 100000 in
theorem f_209_348 : fetch 209 348 = some (348, .aload_n 0, 1, [0], 0) := (fm_209 348).trans rfl
theorem u_209_348s {S : Scr} {d : Nat} {a1 a2 a3 : AV} {st : List AV} {sh : Shp} {I : IM} {R : RM} : ev S d 209 348 [.inr (.inr 2), a1, a2, a3] st (sh, I, R) = ev S d 209 349 [.inr (.inr 2), a1, a2, a3] (.inr (.inr 2) :: st) (sh, I, R) := (ev_eq f_209_348).trans rfl
set_option maxRecDepth 100000 in
theorem f_209_349 : fetch 209 349 = some (349, .iload_n 3, 1, [3], 0) := (fm_209 349).trans rfl
theorem u_209_349 {S : Scr} {d : Nat} {a0 a1 a2 : AV} {st : List AV} {sh : Shp} {I : IM} {R : RM} {x : Int} : ev S d 209 349 [a0, a1, a2, .inl x] st (sh, I, R) = ev S d 209 350 [a0, a1, a2, .inl x] (.inl x :: st) (sh, I, R) := (ev_eq f_209_349).trans rfl
set_option maxRecDepth 100000 in
theorem f_209_350 : fetch 209 350 = some (350, .iconst 2, 1, [], 2) := (fm_209 350).trans rfl
theorem u_209_350 {S : Scr} {d : Nat} {a0 a1 a2 a3 : AV} {st : List AV} {sh : Shp} {I : IM} {R : RM} : ev S d 209 350 [a0, a1, a2, a3] st (sh, I, R) = ev S d 209 351 [a0, a1, a2, a3] (.inl 2 :: st) (sh, I, R) := (ev_eq f_209_350).trans rfl
set_option maxRecDepth 100000 in
theorem f_209_351 : fetch 209 351 = some (351, .iadd, 1, [], 0) := (fm_209 351).trans rfl
theorem u_209_351 {S : Scr} {d : Nat} {a0 a1 a2 a3 : AV} {st : List AV} {sh : Shp} {I : IM} {R : RM} {x y : Int} : ev S d 209 351 [a0, a1, a2, a3] (.inl y :: .inl x :: st) (sh, I, R) = ev S d 209 352 [a0, a1, a2, a3] (.inl (wr (x + y)) :: st) (sh, I, R) := (ev_eq f_209_351).trans rfl
set_option maxRecDepth 100000 in
theorem f_209_352 : fetch 209 352 = some (352, .iaload, 1, [], 0) := (fm_209 352).trans rfl
theorem u_209_352s {S : Scr} {d : Nat} {a0 a1 a2 a3 : AV} {st : List AV} {sh : Shp} {I : IM} {R : RM} {i : Int} (h0 : 0 ≤ i) (h1 : i < S.2) : ev S d 209 352 [a0, a1, a2, a3] (.inl i :: .inr (.inr 2) :: st) (sh, I, R) = ev S d 209 353 [a0, a1, a2, a3] (.inl (S.1 i) :: st) (sh, I, R) := (ev_eq f_209_352).trans (congrArg (fin S d 209) (if_pos ⟨h0, h1⟩))
set_option maxRecDepth 100000 in
theorem f_209_353 : fetch 209 353 = some (353, .invokevirtual 36, 3, [153, 2, 184], 0) := (fm_209 353).trans rfl
theorem u_209_353 {S : Scr} {d : Nat} {a0 a1 a2 a3 : AV} {st : List AV} {sh : Shp} {I : IM} {R : RM} {x0 : Int} {x1 : Int} {k : Nat} (h : tg sh k = 9) (hr : st.length ≤ 8) : ev S d 209 353 [a0, a1, a2, a3] (.inl x1 :: .inl x0 :: .inr (.inl k) :: st) (sh, I, R) = bnd (cl d 153 [.inr (.inl k), .inl x0, .inl x1] (sh, I, R)) (fun v M => ev S d 209 356 [a0, a1, a2, a3] (psh v st) M) := (ev_eq f_209_353).trans (congrArg (fin S d 209) (if_pos ⟨h, rfl, hr⟩))
set_option maxRecDepth 100000 in
theorem f_209_356 : fetch 209 356 = some (356, .if_icmp .eq 816, 3, [1172], 0) := (fm_209 356).trans rfl
theorem u_209_356 {S : Scr} {d : Nat} {a0 a1 a2 a3 : AV} {st : List AV} {sh : Shp} {I : IM} {R : RM} {x y : Int} : ev S d 209 356 [a0, a1, a2, a3] (.inl y :: .inl x :: st) (sh, I, R) = if x = y then ev S d 209 1172 [a0, a1, a2, a3] st (sh, I, R) else ev S d 209 359 [a0, a1, a2, a3] st (sh, I, R) := (ev_eq f_209_356).trans fin_icmp_eq
set_option maxRecDepth 100000 in
theorem f_209_359 : fetch 209 359 = some (359, .iconst 0, 1, [], 0) := (fm_209 359).trans rfl
theorem u_209_359 {S : Scr} {d : Nat} {a0 a1 a2 a3 : AV} {st : List AV} {sh : Shp} {I : IM} {R : RM} : ev S d 209 359 [a0, a1, a2, a3] st (sh, I, R) = ev S d 209 360 [a0, a1, a2, a3] (.inl 0 :: st) (sh, I, R) := (ev_eq f_209_359).trans rfl
set_option maxRecDepth 100000 in
theorem f_209_360 : fetch 209 360 = some (360, .ireturn, 1, [1], 0) := (fm_209 360).trans rfl
theorem u_209_360 {S : Scr} {d : Nat} {a0 a1 a2 a3 : AV} {sh : Shp} {I : IM} {R : RM} {x : Int} (h : x = 0 ∨ x = 1) : ev S d 209 360 [a0, a1, a2, a3] [.inl x] (sh, I, R) = some (some (.inl x), (sh, I, R)) := (ev_eq f_209_360).trans (fin_iret1 h)
set_option maxRecDepth 100000 in
theorem f_209_361 : fetch 209 361 = some (361, .aload_n 1, 1, [1], 0) := (fm_209 361).trans rfl
theorem u_209_361 {S : Scr} {d : Nat} {a0 a2 a3 : AV} {st : List AV} {sh : Shp} {I : IM} {R : RM} {x : Nat} : ev S d 209 361 [a0, .inr (.inl x), a2, a3] st (sh, I, R) = ev S d 209 362 [a0, .inr (.inl x), a2, a3] (.inr (.inl x) :: st) (sh, I, R) := (ev_eq f_209_361).trans rfl
set_option maxRecDepth 100000 in
theorem f_209_362 : fetch 209 362 = some (362, .aload_n 0, 1, [0], 0) := (fm_209 362).trans rfl
theorem u_209_362s {S : Scr} {d : Nat} {a1 a2 a3 : AV} {st : List AV} {sh : Shp} {I : IM} {R : RM} : ev S d 209 362 [.inr (.inr 2), a1, a2, a3] st (sh, I, R) = ev S d 209 363 [.inr (.inr 2), a1, a2, a3] (.inr (.inr 2) :: st) (sh, I, R) := (ev_eq f_209_362).trans rfl
set_option maxRecDepth 100000 in
theorem f_209_363 : fetch 209 363 = some (363, .iload_n 3, 1, [3], 0) := (fm_209 363).trans rfl
theorem u_209_363 {S : Scr} {d : Nat} {a0 a1 a2 : AV} {st : List AV} {sh : Shp} {I : IM} {R : RM} {x : Int} : ev S d 209 363 [a0, a1, a2, .inl x] st (sh, I, R) = ev S d 209 364 [a0, a1, a2, .inl x] (.inl x :: st) (sh, I, R) := (ev_eq f_209_363).trans rfl
set_option maxRecDepth 100000 in
theorem f_209_364 : fetch 209 364 = some (364, .iconst 1, 1, [], 1) := (fm_209 364).trans rfl
theorem u_209_364 {S : Scr} {d : Nat} {a0 a1 a2 a3 : AV} {st : List AV} {sh : Shp} {I : IM} {R : RM} : ev S d 209 364 [a0, a1, a2, a3] st (sh, I, R) = ev S d 209 365 [a0, a1, a2, a3] (.inl 1 :: st) (sh, I, R) := (ev_eq f_209_364).trans rfl
set_option maxRecDepth 100000 in
theorem f_209_365 : fetch 209 365 = some (365, .iadd, 1, [], 0) := (fm_209 365).trans rfl
theorem u_209_365 {S : Scr} {d : Nat} {a0 a1 a2 a3 : AV} {st : List AV} {sh : Shp} {I : IM} {R : RM} {x y : Int} : ev S d 209 365 [a0, a1, a2, a3] (.inl y :: .inl x :: st) (sh, I, R) = ev S d 209 366 [a0, a1, a2, a3] (.inl (wr (x + y)) :: st) (sh, I, R) := (ev_eq f_209_365).trans rfl
set_option maxRecDepth 100000 in
theorem f_209_366 : fetch 209 366 = some (366, .iaload, 1, [], 0) := (fm_209 366).trans rfl
theorem u_209_366s {S : Scr} {d : Nat} {a0 a1 a2 a3 : AV} {st : List AV} {sh : Shp} {I : IM} {R : RM} {i : Int} (h0 : 0 ≤ i) (h1 : i < S.2) : ev S d 209 366 [a0, a1, a2, a3] (.inl i :: .inr (.inr 2) :: st) (sh, I, R) = ev S d 209 367 [a0, a1, a2, a3] (.inl (S.1 i) :: st) (sh, I, R) := (ev_eq f_209_366).trans (congrArg (fin S d 209) (if_pos ⟨h0, h1⟩))
set_option maxRecDepth 100000 in
theorem f_209_367 : fetch 209 367 = some (367, .aload_n 0, 1, [0], 0) := (fm_209 367).trans rfl
theorem u_209_367s {S : Scr} {d : Nat} {a1 a2 a3 : AV} {st : List AV} {sh : Shp} {I : IM} {R : RM} : ev S d 209 367 [.inr (.inr 2), a1, a2, a3] st (sh, I, R) = ev S d 209 368 [.inr (.inr 2), a1, a2, a3] (.inr (.inr 2) :: st) (sh, I, R) := (ev_eq f_209_367).trans rfl
set_option maxRecDepth 100000 in
theorem f_209_368 : fetch 209 368 = some (368, .iload_n 3, 1, [3], 0) := (fm_209 368).trans rfl
theorem u_209_368 {S : Scr} {d : Nat} {a0 a1 a2 : AV} {st : List AV} {sh : Shp} {I : IM} {R : RM} {x : Int} : ev S d 209 368 [a0, a1, a2, .inl x] st (sh, I, R) = ev S d 209 369 [a0, a1, a2, .inl x] (.inl x :: st) (sh, I, R) := (ev_eq f_209_368).trans rfl
set_option maxRecDepth 100000 in
theorem f_209_369 : fetch 209 369 = some (369, .iconst 2, 1, [], 2) := (fm_209 369).trans rfl
theorem u_209_369 {S : Scr} {d : Nat} {a0 a1 a2 a3 : AV} {st : List AV} {sh : Shp} {I : IM} {R : RM} : ev S d 209 369 [a0, a1, a2, a3] st (sh, I, R) = ev S d 209 370 [a0, a1, a2, a3] (.inl 2 :: st) (sh, I, R) := (ev_eq f_209_369).trans rfl
set_option maxRecDepth 100000 in
theorem f_209_370 : fetch 209 370 = some (370, .iadd, 1, [], 0) := (fm_209 370).trans rfl
theorem u_209_370 {S : Scr} {d : Nat} {a0 a1 a2 a3 : AV} {st : List AV} {sh : Shp} {I : IM} {R : RM} {x y : Int} : ev S d 209 370 [a0, a1, a2, a3] (.inl y :: .inl x :: st) (sh, I, R) = ev S d 209 371 [a0, a1, a2, a3] (.inl (wr (x + y)) :: st) (sh, I, R) := (ev_eq f_209_370).trans rfl
set_option maxRecDepth 100000 in
theorem f_209_371 : fetch 209 371 = some (371, .iaload, 1, [], 0) := (fm_209 371).trans rfl
theorem u_209_371s {S : Scr} {d : Nat} {a0 a1 a2 a3 : AV} {st : List AV} {sh : Shp} {I : IM} {R : RM} {i : Int} (h0 : 0 ≤ i) (h1 : i < S.2) : ev S d 209 371 [a0, a1, a2, a3] (.inl i :: .inr (.inr 2) :: st) (sh, I, R) = ev S d 209 372 [a0, a1, a2, a3] (.inl (S.1 i) :: st) (sh, I, R) := (ev_eq f_209_371).trans (congrArg (fin S d 209) (if_pos ⟨h0, h1⟩))
set_option maxRecDepth 100000 in
theorem f_209_372 : fetch 209 372 = some (372, .aload_n 0, 1, [0], 0) := (fm_209 372).trans rfl
theorem u_209_372s {S : Scr} {d : Nat} {a1 a2 a3 : AV} {st : List AV} {sh : Shp} {I : IM} {R : RM} : ev S d 209 372 [.inr (.inr 2), a1, a2, a3] st (sh, I, R) = ev S d 209 373 [.inr (.inr 2), a1, a2, a3] (.inr (.inr 2) :: st) (sh, I, R) := (ev_eq f_209_372).trans rfl
set_option maxRecDepth 100000 in
theorem f_209_373 : fetch 209 373 = some (373, .iload_n 3, 1, [3], 0) := (fm_209 373).trans rfl
theorem u_209_373 {S : Scr} {d : Nat} {a0 a1 a2 : AV} {st : List AV} {sh : Shp} {I : IM} {R : RM} {x : Int} : ev S d 209 373 [a0, a1, a2, .inl x] st (sh, I, R) = ev S d 209 374 [a0, a1, a2, .inl x] (.inl x :: st) (sh, I, R) := (ev_eq f_209_373).trans rfl
set_option maxRecDepth 100000 in
theorem f_209_374 : fetch 209 374 = some (374, .iconst 3, 1, [], 3) := (fm_209 374).trans rfl
theorem u_209_374 {S : Scr} {d : Nat} {a0 a1 a2 a3 : AV} {st : List AV} {sh : Shp} {I : IM} {R : RM} : ev S d 209 374 [a0, a1, a2, a3] st (sh, I, R) = ev S d 209 375 [a0, a1, a2, a3] (.inl 3 :: st) (sh, I, R) := (ev_eq f_209_374).trans rfl
set_option maxRecDepth 100000 in
theorem f_209_375 : fetch 209 375 = some (375, .iadd, 1, [], 0) := (fm_209 375).trans rfl
theorem u_209_375 {S : Scr} {d : Nat} {a0 a1 a2 a3 : AV} {st : List AV} {sh : Shp} {I : IM} {R : RM} {x y : Int} : ev S d 209 375 [a0, a1, a2, a3] (.inl y :: .inl x :: st) (sh, I, R) = ev S d 209 376 [a0, a1, a2, a3] (.inl (wr (x + y)) :: st) (sh, I, R) := (ev_eq f_209_375).trans rfl
set_option maxRecDepth 100000 in
theorem f_209_376 : fetch 209 376 = some (376, .iaload, 1, [], 0) := (fm_209 376).trans rfl
theorem u_209_376s {S : Scr} {d : Nat} {a0 a1 a2 a3 : AV} {st : List AV} {sh : Shp} {I : IM} {R : RM} {i : Int} (h0 : 0 ≤ i) (h1 : i < S.2) : ev S d 209 376 [a0, a1, a2, a3] (.inl i :: .inr (.inr 2) :: st) (sh, I, R) = ev S d 209 377 [a0, a1, a2, a3] (.inl (S.1 i) :: st) (sh, I, R) := (ev_eq f_209_376).trans (congrArg (fin S d 209) (if_pos ⟨h0, h1⟩))
set_option maxRecDepth 100000 in
theorem f_209_377 : fetch 209 377 = some (377, .invokevirtual 37, 3, [90, 3, 185], 0) := (fm_209 377).trans rfl
theorem u_209_377 {S : Scr} {d : Nat} {a0 a1 a2 a3 : AV} {st : List AV} {sh : Shp} {I : IM} {R : RM} {x0 : Int} {x1 : Int} {x2 : Int} {k : Nat} (h : tg sh k = 8) (hr : st.length ≤ 8) : ev S d 209 377 [a0, a1, a2, a3] (.inl x2 :: .inl x1 :: .inl x0 :: .inr (.inl k) :: st) (sh, I, R) = bnd (cl d 90 [.inr (.inl k), .inl x0, .inl x1, .inl x2] (sh, I, R)) (fun v M => ev S d 209 380 [a0, a1, a2, a3] (psh v st) M) := (ev_eq f_209_377).trans (congrArg (fin S d 209) (if_pos ⟨h, rfl, hr⟩))
set_option maxRecDepth 100000 in
theorem f_209_380 : fetch 209 380 = some (380, .aload_n 2, 1, [2], 0) := (fm_209 380).trans rfl
theorem u_209_380 {S : Scr} {d : Nat} {a0 a1 a3 : AV} {st : List AV} {sh : Shp} {I : IM} {R : RM} {x : Nat} : ev S d 209 380 [a0, a1, .inr (.inl x), a3] st (sh, I, R) = ev S d 209 381 [a0, a1, .inr (.inl x), a3] (.inr (.inl x) :: st) (sh, I, R) := (ev_eq f_209_380).trans rfl
set_option maxRecDepth 100000 in
theorem f_209_381 : fetch 209 381 = some (381, .aload_n 0, 1, [0], 0) := (fm_209 381).trans rfl
theorem u_209_381s {S : Scr} {d : Nat} {a1 a2 a3 : AV} {st : List AV} {sh : Shp} {I : IM} {R : RM} : ev S d 209 381 [.inr (.inr 2), a1, a2, a3] st (sh, I, R) = ev S d 209 382 [.inr (.inr 2), a1, a2, a3] (.inr (.inr 2) :: st) (sh, I, R) := (ev_eq f_209_381).trans rfl
set_option maxRecDepth 100000 in
theorem f_209_382 : fetch 209 382 = some (382, .iload_n 3, 1, [3], 0) := (fm_209 382).trans rfl
theorem u_209_382 {S : Scr} {d : Nat} {a0 a1 a2 : AV} {st : List AV} {sh : Shp} {I : IM} {R : RM} {x : Int} : ev S d 209 382 [a0, a1, a2, .inl x] st (sh, I, R) = ev S d 209 383 [a0, a1, a2, .inl x] (.inl x :: st) (sh, I, R) := (ev_eq f_209_382).trans rfl
set_option maxRecDepth 100000 in
theorem f_209_383 : fetch 209 383 = some (383, .iconst 1, 1, [], 1) := (fm_209 383).trans rfl
theorem u_209_383 {S : Scr} {d : Nat} {a0 a1 a2 a3 : AV} {st : List AV} {sh : Shp} {I : IM} {R : RM} : ev S d 209 383 [a0, a1, a2, a3] st (sh, I, R) = ev S d 209 384 [a0, a1, a2, a3] (.inl 1 :: st) (sh, I, R) := (ev_eq f_209_383).trans rfl
set_option maxRecDepth 100000 in
theorem f_209_384 : fetch 209 384 = some (384, .iadd, 1, [], 0) := (fm_209 384).trans rfl
theorem u_209_384 {S : Scr} {d : Nat} {a0 a1 a2 a3 : AV} {st : List AV} {sh : Shp} {I : IM} {R : RM} {x y : Int} : ev S d 209 384 [a0, a1, a2, a3] (.inl y :: .inl x :: st) (sh, I, R) = ev S d 209 385 [a0, a1, a2, a3] (.inl (wr (x + y)) :: st) (sh, I, R) := (ev_eq f_209_384).trans rfl
set_option maxRecDepth 100000 in
theorem f_209_385 : fetch 209 385 = some (385, .iaload, 1, [], 0) := (fm_209 385).trans rfl
theorem u_209_385s {S : Scr} {d : Nat} {a0 a1 a2 a3 : AV} {st : List AV} {sh : Shp} {I : IM} {R : RM} {i : Int} (h0 : 0 ≤ i) (h1 : i < S.2) : ev S d 209 385 [a0, a1, a2, a3] (.inl i :: .inr (.inr 2) :: st) (sh, I, R) = ev S d 209 386 [a0, a1, a2, a3] (.inl (S.1 i) :: st) (sh, I, R) := (ev_eq f_209_385).trans (congrArg (fin S d 209) (if_pos ⟨h0, h1⟩))
set_option maxRecDepth 100000 in
theorem f_209_386 : fetch 209 386 = some (386, .aload_n 0, 1, [0], 0) := (fm_209 386).trans rfl
theorem u_209_386s {S : Scr} {d : Nat} {a1 a2 a3 : AV} {st : List AV} {sh : Shp} {I : IM} {R : RM} : ev S d 209 386 [.inr (.inr 2), a1, a2, a3] st (sh, I, R) = ev S d 209 387 [.inr (.inr 2), a1, a2, a3] (.inr (.inr 2) :: st) (sh, I, R) := (ev_eq f_209_386).trans rfl
set_option maxRecDepth 100000 in
theorem f_209_387 : fetch 209 387 = some (387, .iload_n 3, 1, [3], 0) := (fm_209 387).trans rfl
theorem u_209_387 {S : Scr} {d : Nat} {a0 a1 a2 : AV} {st : List AV} {sh : Shp} {I : IM} {R : RM} {x : Int} : ev S d 209 387 [a0, a1, a2, .inl x] st (sh, I, R) = ev S d 209 388 [a0, a1, a2, .inl x] (.inl x :: st) (sh, I, R) := (ev_eq f_209_387).trans rfl
set_option maxRecDepth 100000 in
theorem f_209_388 : fetch 209 388 = some (388, .iconst 2, 1, [], 2) := (fm_209 388).trans rfl
theorem u_209_388 {S : Scr} {d : Nat} {a0 a1 a2 a3 : AV} {st : List AV} {sh : Shp} {I : IM} {R : RM} : ev S d 209 388 [a0, a1, a2, a3] st (sh, I, R) = ev S d 209 389 [a0, a1, a2, a3] (.inl 2 :: st) (sh, I, R) := (ev_eq f_209_388).trans rfl
set_option maxRecDepth 100000 in
theorem f_209_389 : fetch 209 389 = some (389, .iadd, 1, [], 0) := (fm_209 389).trans rfl
theorem u_209_389 {S : Scr} {d : Nat} {a0 a1 a2 a3 : AV} {st : List AV} {sh : Shp} {I : IM} {R : RM} {x y : Int} : ev S d 209 389 [a0, a1, a2, a3] (.inl y :: .inl x :: st) (sh, I, R) = ev S d 209 390 [a0, a1, a2, a3] (.inl (wr (x + y)) :: st) (sh, I, R) := (ev_eq f_209_389).trans rfl
set_option maxRecDepth 100000 in
theorem f_209_390 : fetch 209 390 = some (390, .iaload, 1, [], 0) := (fm_209 390).trans rfl
theorem u_209_390s {S : Scr} {d : Nat} {a0 a1 a2 a3 : AV} {st : List AV} {sh : Shp} {I : IM} {R : RM} {i : Int} (h0 : 0 ≤ i) (h1 : i < S.2) : ev S d 209 390 [a0, a1, a2, a3] (.inl i :: .inr (.inr 2) :: st) (sh, I, R) = ev S d 209 391 [a0, a1, a2, a3] (.inl (S.1 i) :: st) (sh, I, R) := (ev_eq f_209_390).trans (congrArg (fin S d 209) (if_pos ⟨h0, h1⟩))
set_option maxRecDepth 100000 in
theorem f_209_391 : fetch 209 391 = some (391, .aload_n 0, 1, [0], 0) := (fm_209 391).trans rfl
theorem u_209_391s {S : Scr} {d : Nat} {a1 a2 a3 : AV} {st : List AV} {sh : Shp} {I : IM} {R : RM} : ev S d 209 391 [.inr (.inr 2), a1, a2, a3] st (sh, I, R) = ev S d 209 392 [.inr (.inr 2), a1, a2, a3] (.inr (.inr 2) :: st) (sh, I, R) := (ev_eq f_209_391).trans rfl
set_option maxRecDepth 100000 in
theorem f_209_392 : fetch 209 392 = some (392, .iload_n 3, 1, [3], 0) := (fm_209 392).trans rfl
theorem u_209_392 {S : Scr} {d : Nat} {a0 a1 a2 : AV} {st : List AV} {sh : Shp} {I : IM} {R : RM} {x : Int} : ev S d 209 392 [a0, a1, a2, .inl x] st (sh, I, R) = ev S d 209 393 [a0, a1, a2, .inl x] (.inl x :: st) (sh, I, R) := (ev_eq f_209_392).trans rfl
set_option maxRecDepth 100000 in
theorem f_209_393 : fetch 209 393 = some (393, .iconst 3, 1, [], 3) := (fm_209 393).trans rfl
theorem u_209_393 {S : Scr} {d : Nat} {a0 a1 a2 a3 : AV} {st : List AV} {sh : Shp} {I : IM} {R : RM} : ev S d 209 393 [a0, a1, a2, a3] st (sh, I, R) = ev S d 209 394 [a0, a1, a2, a3] (.inl 3 :: st) (sh, I, R) := (ev_eq f_209_393).trans rfl
set_option maxRecDepth 100000 in
theorem f_209_394 : fetch 209 394 = some (394, .iadd, 1, [], 0) := (fm_209 394).trans rfl
theorem u_209_394 {S : Scr} {d : Nat} {a0 a1 a2 a3 : AV} {st : List AV} {sh : Shp} {I : IM} {R : RM} {x y : Int} : ev S d 209 394 [a0, a1, a2, a3] (.inl y :: .inl x :: st) (sh, I, R) = ev S d 209 395 [a0, a1, a2, a3] (.inl (wr (x + y)) :: st) (sh, I, R) := (ev_eq f_209_394).trans rfl
set_option maxRecDepth 100000 in
theorem f_209_395 : fetch 209 395 = some (395, .iaload, 1, [], 0) := (fm_209 395).trans rfl
theorem u_209_395s {S : Scr} {d : Nat} {a0 a1 a2 a3 : AV} {st : List AV} {sh : Shp} {I : IM} {R : RM} {i : Int} (h0 : 0 ≤ i) (h1 : i < S.2) : ev S d 209 395 [a0, a1, a2, a3] (.inl i :: .inr (.inr 2) :: st) (sh, I, R) = ev S d 209 396 [a0, a1, a2, a3] (.inl (S.1 i) :: st) (sh, I, R) := (ev_eq f_209_395).trans (congrArg (fin S d 209) (if_pos ⟨h0, h1⟩))
set_option maxRecDepth 100000 in
theorem f_209_396 : fetch 209 396 = some (396, .invokevirtual 40, 3, [155, 3, 186], 0) := (fm_209 396).trans rfl
theorem u_209_396 {S : Scr} {d : Nat} {a0 a1 a2 a3 : AV} {st : List AV} {sh : Shp} {I : IM} {R : RM} {x0 : Int} {x1 : Int} {x2 : Int} {k : Nat} (h : tg sh k = 9) (hr : st.length ≤ 8) : ev S d 209 396 [a0, a1, a2, a3] (.inl x2 :: .inl x1 :: .inl x0 :: .inr (.inl k) :: st) (sh, I, R) = bnd (cl d 155 [.inr (.inl k), .inl x0, .inl x1, .inl x2] (sh, I, R)) (fun v M => ev S d 209 399 [a0, a1, a2, a3] (psh v st) M) := (ev_eq f_209_396).trans (congrArg (fin S d 209) (if_pos ⟨h, rfl, hr⟩))
set_option maxRecDepth 100000 in
theorem f_209_399 : fetch 209 399 = some (399, .if_icmp .eq 773, 3, [1172], 0) := (fm_209 399).trans rfl
theorem u_209_399 {S : Scr} {d : Nat} {a0 a1 a2 a3 : AV} {st : List AV} {sh : Shp} {I : IM} {R : RM} {x y : Int} : ev S d 209 399 [a0, a1, a2, a3] (.inl y :: .inl x :: st) (sh, I, R) = if x = y then ev S d 209 1172 [a0, a1, a2, a3] st (sh, I, R) else ev S d 209 402 [a0, a1, a2, a3] st (sh, I, R) := (ev_eq f_209_399).trans fin_icmp_eq
set_option maxRecDepth 100000 in
theorem f_209_402 : fetch 209 402 = some (402, .iconst 0, 1, [], 0) := (fm_209 402).trans rfl
theorem u_209_402 {S : Scr} {d : Nat} {a0 a1 a2 a3 : AV} {st : List AV} {sh : Shp} {I : IM} {R : RM} : ev S d 209 402 [a0, a1, a2, a3] st (sh, I, R) = ev S d 209 403 [a0, a1, a2, a3] (.inl 0 :: st) (sh, I, R) := (ev_eq f_209_402).trans rfl
set_option maxRecDepth 100000 in
theorem f_209_403 : fetch 209 403 = some (403, .ireturn, 1, [1], 0) := (fm_209 403).trans rfl
theorem u_209_403 {S : Scr} {d : Nat} {a0 a1 a2 a3 : AV} {sh : Shp} {I : IM} {R : RM} {x : Int} (h : x = 0 ∨ x = 1) : ev S d 209 403 [a0, a1, a2, a3] [.inl x] (sh, I, R) = some (some (.inl x), (sh, I, R)) := (ev_eq f_209_403).trans (fin_iret1 h)
set_option maxRecDepth 100000 in
theorem f_209_404 : fetch 209 404 = some (404, .aload_n 1, 1, [1], 0) := (fm_209 404).trans rfl
theorem u_209_404 {S : Scr} {d : Nat} {a0 a2 a3 : AV} {st : List AV} {sh : Shp} {I : IM} {R : RM} {x : Nat} : ev S d 209 404 [a0, .inr (.inl x), a2, a3] st (sh, I, R) = ev S d 209 405 [a0, .inr (.inl x), a2, a3] (.inr (.inl x) :: st) (sh, I, R) := (ev_eq f_209_404).trans rfl
set_option maxRecDepth 100000 in
theorem f_209_405 : fetch 209 405 = some (405, .aload_n 0, 1, [0], 0) := (fm_209 405).trans rfl
theorem u_209_405s {S : Scr} {d : Nat} {a1 a2 a3 : AV} {st : List AV} {sh : Shp} {I : IM} {R : RM} : ev S d 209 405 [.inr (.inr 2), a1, a2, a3] st (sh, I, R) = ev S d 209 406 [.inr (.inr 2), a1, a2, a3] (.inr (.inr 2) :: st) (sh, I, R) := (ev_eq f_209_405).trans rfl
set_option maxRecDepth 100000 in
theorem f_209_406 : fetch 209 406 = some (406, .iload_n 3, 1, [3], 0) := (fm_209 406).trans rfl
theorem u_209_406 {S : Scr} {d : Nat} {a0 a1 a2 : AV} {st : List AV} {sh : Shp} {I : IM} {R : RM} {x : Int} : ev S d 209 406 [a0, a1, a2, .inl x] st (sh, I, R) = ev S d 209 407 [a0, a1, a2, .inl x] (.inl x :: st) (sh, I, R) := (ev_eq f_209_406).trans rfl
set_option maxRecDepth 100000 in
theorem f_209_407 : fetch 209 407 = some (407, .iconst 1, 1, [], 1) := (fm_209 407).trans rfl
theorem u_209_407 {S : Scr} {d : Nat} {a0 a1 a2 a3 : AV} {st : List AV} {sh : Shp} {I : IM} {R : RM} : ev S d 209 407 [a0, a1, a2, a3] st (sh, I, R) = ev S d 209 408 [a0, a1, a2, a3] (.inl 1 :: st) (sh, I, R) := (ev_eq f_209_407).trans rfl
set_option maxRecDepth 100000 in
theorem f_209_408 : fetch 209 408 = some (408, .iadd, 1, [], 0) := (fm_209 408).trans rfl
theorem u_209_408 {S : Scr} {d : Nat} {a0 a1 a2 a3 : AV} {st : List AV} {sh : Shp} {I : IM} {R : RM} {x y : Int} : ev S d 209 408 [a0, a1, a2, a3] (.inl y :: .inl x :: st) (sh, I, R) = ev S d 209 409 [a0, a1, a2, a3] (.inl (wr (x + y)) :: st) (sh, I, R) := (ev_eq f_209_408).trans rfl
set_option maxRecDepth 100000 in
theorem f_209_409 : fetch 209 409 = some (409, .iaload, 1, [], 0) := (fm_209 409).trans rfl
theorem u_209_409s {S : Scr} {d : Nat} {a0 a1 a2 a3 : AV} {st : List AV} {sh : Shp} {I : IM} {R : RM} {i : Int} (h0 : 0 ≤ i) (h1 : i < S.2) : ev S d 209 409 [a0, a1, a2, a3] (.inl i :: .inr (.inr 2) :: st) (sh, I, R) = ev S d 209 410 [a0, a1, a2, a3] (.inl (S.1 i) :: st) (sh, I, R) := (ev_eq f_209_409).trans (congrArg (fin S d 209) (if_pos ⟨h0, h1⟩))
set_option maxRecDepth 100000 in
theorem f_209_410 : fetch 209 410 = some (410, .aload_n 0, 1, [0], 0) := (fm_209 410).trans rfl
theorem u_209_410s {S : Scr} {d : Nat} {a1 a2 a3 : AV} {st : List AV} {sh : Shp} {I : IM} {R : RM} : ev S d 209 410 [.inr (.inr 2), a1, a2, a3] st (sh, I, R) = ev S d 209 411 [.inr (.inr 2), a1, a2, a3] (.inr (.inr 2) :: st) (sh, I, R) := (ev_eq f_209_410).trans rfl
set_option maxRecDepth 100000 in
theorem f_209_411 : fetch 209 411 = some (411, .iload_n 3, 1, [3], 0) := (fm_209 411).trans rfl
theorem u_209_411 {S : Scr} {d : Nat} {a0 a1 a2 : AV} {st : List AV} {sh : Shp} {I : IM} {R : RM} {x : Int} : ev S d 209 411 [a0, a1, a2, .inl x] st (sh, I, R) = ev S d 209 412 [a0, a1, a2, .inl x] (.inl x :: st) (sh, I, R) := (ev_eq f_209_411).trans rfl
set_option maxRecDepth 100000 in
theorem f_209_412 : fetch 209 412 = some (412, .iconst 2, 1, [], 2) := (fm_209 412).trans rfl
theorem u_209_412 {S : Scr} {d : Nat} {a0 a1 a2 a3 : AV} {st : List AV} {sh : Shp} {I : IM} {R : RM} : ev S d 209 412 [a0, a1, a2, a3] st (sh, I, R) = ev S d 209 413 [a0, a1, a2, a3] (.inl 2 :: st) (sh, I, R) := (ev_eq f_209_412).trans rfl
set_option maxRecDepth 100000 in
theorem f_209_413 : fetch 209 413 = some (413, .iadd, 1, [], 0) := (fm_209 413).trans rfl
theorem u_209_413 {S : Scr} {d : Nat} {a0 a1 a2 a3 : AV} {st : List AV} {sh : Shp} {I : IM} {R : RM} {x y : Int} : ev S d 209 413 [a0, a1, a2, a3] (.inl y :: .inl x :: st) (sh, I, R) = ev S d 209 414 [a0, a1, a2, a3] (.inl (wr (x + y)) :: st) (sh, I, R) := (ev_eq f_209_413).trans rfl
set_option maxRecDepth 100000 in
theorem f_209_414 : fetch 209 414 = some (414, .iaload, 1, [], 0) := (fm_209 414).trans rfl
theorem u_209_414s {S : Scr} {d : Nat} {a0 a1 a2 a3 : AV} {st : List AV} {sh : Shp} {I : IM} {R : RM} {i : Int} (h0 : 0 ≤ i) (h1 : i < S.2) : ev S d 209 414 [a0, a1, a2, a3] (.inl i :: .inr (.inr 2) :: st) (sh, I, R) = ev S d 209 415 [a0, a1, a2, a3] (.inl (S.1 i) :: st) (sh, I, R) := (ev_eq f_209_414).trans (congrArg (fin S d 209) (if_pos ⟨h0, h1⟩))
set_option maxRecDepth 100000 in
theorem f_209_415 : fetch 209 415 = some (415, .invokevirtual 41, 3, [91, 2, 187], 0) := (fm_209 415).trans rfl
theorem u_209_415 {S : Scr} {d : Nat} {a0 a1 a2 a3 : AV} {st : List AV} {sh : Shp} {I : IM} {R : RM} {x0 : Int} {x1 : Int} {k : Nat} (h : tg sh k = 8) (hr : st.length ≤ 8) : ev S d 209 415 [a0, a1, a2, a3] (.inl x1 :: .inl x0 :: .inr (.inl k) :: st) (sh, I, R) = bnd (cl d 91 [.inr (.inl k), .inl x0, .inl x1] (sh, I, R)) (fun v M => ev S d 209 418 [a0, a1, a2, a3] (psh v st) M) := (ev_eq f_209_415).trans (congrArg (fin S d 209) (if_pos ⟨h, rfl, hr⟩))
set_option maxRecDepth 100000 in
theorem f_209_418 : fetch 209 418 = some (418, .aload_n 2, 1, [2], 0) := (fm_209 418).trans rfl
theorem u_209_418 {S : Scr} {d : Nat} {a0 a1 a3 : AV} {st : List AV} {sh : Shp} {I : IM} {R : RM} {x : Nat} : ev S d 209 418 [a0, a1, .inr (.inl x), a3] st (sh, I, R) = ev S d 209 419 [a0, a1, .inr (.inl x), a3] (.inr (.inl x) :: st) (sh, I, R) := (ev_eq f_209_418).trans rfl
set_option maxRecDepth 100000 in
theorem f_209_419 : fetch 209 419 = some (419, .aload_n 0, 1, [0], 0) := (fm_209 419).trans rfl
theorem u_209_419s {S : Scr} {d : Nat} {a1 a2 a3 : AV} {st : List AV} {sh : Shp} {I : IM} {R : RM} : ev S d 209 419 [.inr (.inr 2), a1, a2, a3] st (sh, I, R) = ev S d 209 420 [.inr (.inr 2), a1, a2, a3] (.inr (.inr 2) :: st) (sh, I, R) := (ev_eq f_209_419).trans rfl
set_option maxRecDepth 100000 in
theorem f_209_420 : fetch 209 420 = some (420, .iload_n 3, 1, [3], 0) := (fm_209 420).trans rfl
theorem u_209_420 {S : Scr} {d : Nat} {a0 a1 a2 : AV} {st : List AV} {sh : Shp} {I : IM} {R : RM} {x : Int} : ev S d 209 420 [a0, a1, a2, .inl x] st (sh, I, R) = ev S d 209 421 [a0, a1, a2, .inl x] (.inl x :: st) (sh, I, R) := (ev_eq f_209_420).trans rfl
set_option maxRecDepth 100000 in
theorem f_209_421 : fetch 209 421 = some (421, .iconst 1, 1, [], 1) := (fm_209 421).trans rfl
theorem u_209_421 {S : Scr} {d : Nat} {a0 a1 a2 a3 : AV} {st : List AV} {sh : Shp} {I : IM} {R : RM} : ev S d 209 421 [a0, a1, a2, a3] st (sh, I, R) = ev S d 209 422 [a0, a1, a2, a3] (.inl 1 :: st) (sh, I, R) := (ev_eq f_209_421).trans rfl
set_option maxRecDepth 100000 in
theorem f_209_422 : fetch 209 422 = some (422, .iadd, 1, [], 0) := (fm_209 422).trans rfl
theorem u_209_422 {S : Scr} {d : Nat} {a0 a1 a2 a3 : AV} {st : List AV} {sh : Shp} {I : IM} {R : RM} {x y : Int} : ev S d 209 422 [a0, a1, a2, a3] (.inl y :: .inl x :: st) (sh, I, R) = ev S d 209 423 [a0, a1, a2, a3] (.inl (wr (x + y)) :: st) (sh, I, R) := (ev_eq f_209_422).trans rfl
set_option maxRecDepth 100000 in
theorem f_209_423 : fetch 209 423 = some (423, .iaload, 1, [], 0) := (fm_209 423).trans rfl
theorem u_209_423s {S : Scr} {d : Nat} {a0 a1 a2 a3 : AV} {st : List AV} {sh : Shp} {I : IM} {R : RM} {i : Int} (h0 : 0 ≤ i) (h1 : i < S.2) : ev S d 209 423 [a0, a1, a2, a3] (.inl i :: .inr (.inr 2) :: st) (sh, I, R) = ev S d 209 424 [a0, a1, a2, a3] (.inl (S.1 i) :: st) (sh, I, R) := (ev_eq f_209_423).trans (congrArg (fin S d 209) (if_pos ⟨h0, h1⟩))
set_option maxRecDepth 100000 in
theorem f_209_424 : fetch 209 424 = some (424, .aload_n 0, 1, [0], 0) := (fm_209 424).trans rfl
theorem u_209_424s {S : Scr} {d : Nat} {a1 a2 a3 : AV} {st : List AV} {sh : Shp} {I : IM} {R : RM} : ev S d 209 424 [.inr (.inr 2), a1, a2, a3] st (sh, I, R) = ev S d 209 425 [.inr (.inr 2), a1, a2, a3] (.inr (.inr 2) :: st) (sh, I, R) := (ev_eq f_209_424).trans rfl
set_option maxRecDepth 100000 in
theorem f_209_425 : fetch 209 425 = some (425, .iload_n 3, 1, [3], 0) := (fm_209 425).trans rfl
theorem u_209_425 {S : Scr} {d : Nat} {a0 a1 a2 : AV} {st : List AV} {sh : Shp} {I : IM} {R : RM} {x : Int} : ev S d 209 425 [a0, a1, a2, .inl x] st (sh, I, R) = ev S d 209 426 [a0, a1, a2, .inl x] (.inl x :: st) (sh, I, R) := (ev_eq f_209_425).trans rfl
set_option maxRecDepth 100000 in
theorem f_209_426 : fetch 209 426 = some (426, .iconst 2, 1, [], 2) := (fm_209 426).trans rfl
theorem u_209_426 {S : Scr} {d : Nat} {a0 a1 a2 a3 : AV} {st : List AV} {sh : Shp} {I : IM} {R : RM} : ev S d 209 426 [a0, a1, a2, a3] st (sh, I, R) = ev S d 209 427 [a0, a1, a2, a3] (.inl 2 :: st) (sh, I, R) := (ev_eq f_209_426).trans rfl
set_option maxRecDepth 100000 in
theorem f_209_427 : fetch 209 427 = some (427, .iadd, 1, [], 0) := (fm_209 427).trans rfl
theorem u_209_427 {S : Scr} {d : Nat} {a0 a1 a2 a3 : AV} {st : List AV} {sh : Shp} {I : IM} {R : RM} {x y : Int} : ev S d 209 427 [a0, a1, a2, a3] (.inl y :: .inl x :: st) (sh, I, R) = ev S d 209 428 [a0, a1, a2, a3] (.inl (wr (x + y)) :: st) (sh, I, R) := (ev_eq f_209_427).trans rfl
set_option maxRecDepth 100000 in
theorem f_209_428 : fetch 209 428 = some (428, .iaload, 1, [], 0) := (fm_209 428).trans rfl
theorem u_209_428s {S : Scr} {d : Nat} {a0 a1 a2 a3 : AV} {st : List AV} {sh : Shp} {I : IM} {R : RM} {i : Int} (h0 : 0 ≤ i) (h1 : i < S.2) : ev S d 209 428 [a0, a1, a2, a3] (.inl i :: .inr (.inr 2) :: st) (sh, I, R) = ev S d 209 429 [a0, a1, a2, a3] (.inl (S.1 i) :: st) (sh, I, R) := (ev_eq f_209_428).trans (congrArg (fin S d 209) (if_pos ⟨h0, h1⟩))
set_option maxRecDepth 100000 in
theorem f_209_429 : fetch 209 429 = some (429, .invokevirtual 44, 3, [156, 2, 188], 0) := (fm_209 429).trans rfl
theorem u_209_429 {S : Scr} {d : Nat} {a0 a1 a2 a3 : AV} {st : List AV} {sh : Shp} {I : IM} {R : RM} {x0 : Int} {x1 : Int} {k : Nat} (h : tg sh k = 9) (hr : st.length ≤ 8) : ev S d 209 429 [a0, a1, a2, a3] (.inl x1 :: .inl x0 :: .inr (.inl k) :: st) (sh, I, R) = bnd (cl d 156 [.inr (.inl k), .inl x0, .inl x1] (sh, I, R)) (fun v M => ev S d 209 432 [a0, a1, a2, a3] (psh v st) M) := (ev_eq f_209_429).trans (congrArg (fin S d 209) (if_pos ⟨h, rfl, hr⟩))
set_option maxRecDepth 100000 in
theorem f_209_432 : fetch 209 432 = some (432, .if_icmp .eq 740, 3, [1172], 0) := (fm_209 432).trans rfl
theorem u_209_432 {S : Scr} {d : Nat} {a0 a1 a2 a3 : AV} {st : List AV} {sh : Shp} {I : IM} {R : RM} {x y : Int} : ev S d 209 432 [a0, a1, a2, a3] (.inl y :: .inl x :: st) (sh, I, R) = if x = y then ev S d 209 1172 [a0, a1, a2, a3] st (sh, I, R) else ev S d 209 435 [a0, a1, a2, a3] st (sh, I, R) := (ev_eq f_209_432).trans fin_icmp_eq
set_option maxRecDepth 100000 in
theorem f_209_435 : fetch 209 435 = some (435, .iconst 0, 1, [], 0) := (fm_209 435).trans rfl
theorem u_209_435 {S : Scr} {d : Nat} {a0 a1 a2 a3 : AV} {st : List AV} {sh : Shp} {I : IM} {R : RM} : ev S d 209 435 [a0, a1, a2, a3] st (sh, I, R) = ev S d 209 436 [a0, a1, a2, a3] (.inl 0 :: st) (sh, I, R) := (ev_eq f_209_435).trans rfl
set_option maxRecDepth 100000 in
theorem f_209_436 : fetch 209 436 = some (436, .ireturn, 1, [1], 0) := (fm_209 436).trans rfl
theorem u_209_436 {S : Scr} {d : Nat} {a0 a1 a2 a3 : AV} {sh : Shp} {I : IM} {R : RM} {x : Int} (h : x = 0 ∨ x = 1) : ev S d 209 436 [a0, a1, a2, a3] [.inl x] (sh, I, R) = some (some (.inl x), (sh, I, R)) := (ev_eq f_209_436).trans (fin_iret1 h)
set_option maxRecDepth 100000 in
theorem f_209_437 : fetch 209 437 = some (437, .aload_n 1, 1, [1], 0) := (fm_209 437).trans rfl
theorem u_209_437 {S : Scr} {d : Nat} {a0 a2 a3 : AV} {st : List AV} {sh : Shp} {I : IM} {R : RM} {x : Nat} : ev S d 209 437 [a0, .inr (.inl x), a2, a3] st (sh, I, R) = ev S d 209 438 [a0, .inr (.inl x), a2, a3] (.inr (.inl x) :: st) (sh, I, R) := (ev_eq f_209_437).trans rfl
set_option maxRecDepth 100000 in
theorem f_209_438 : fetch 209 438 = some (438, .aload_n 0, 1, [0], 0) := (fm_209 438).trans rfl
theorem u_209_438s {S : Scr} {d : Nat} {a1 a2 a3 : AV} {st : List AV} {sh : Shp} {I : IM} {R : RM} : ev S d 209 438 [.inr (.inr 2), a1, a2, a3] st (sh, I, R) = ev S d 209 439 [.inr (.inr 2), a1, a2, a3] (.inr (.inr 2) :: st) (sh, I, R) := (ev_eq f_209_438).trans rfl
set_option maxRecDepth 100000 in
theorem f_209_439 : fetch 209 439 = some (439, .iload_n 3, 1, [3], 0) := (fm_209 439).trans rfl
theorem u_209_439 {S : Scr} {d : Nat} {a0 a1 a2 : AV} {st : List AV} {sh : Shp} {I : IM} {R : RM} {x : Int} : ev S d 209 439 [a0, a1, a2, .inl x] st (sh, I, R) = ev S d 209 440 [a0, a1, a2, .inl x] (.inl x :: st) (sh, I, R) := (ev_eq f_209_439).trans rfl
set_option maxRecDepth 100000 in
theorem f_209_440 : fetch 209 440 = some (440, .iconst 1, 1, [], 1) := (fm_209 440).trans rfl
theorem u_209_440 {S : Scr} {d : Nat} {a0 a1 a2 a3 : AV} {st : List AV} {sh : Shp} {I : IM} {R : RM} : ev S d 209 440 [a0, a1, a2, a3] st (sh, I, R) = ev S d 209 441 [a0, a1, a2, a3] (.inl 1 :: st) (sh, I, R) := (ev_eq f_209_440).trans rfl
set_option maxRecDepth 100000 in
theorem f_209_441 : fetch 209 441 = some (441, .iadd, 1, [], 0) := (fm_209 441).trans rfl
theorem u_209_441 {S : Scr} {d : Nat} {a0 a1 a2 a3 : AV} {st : List AV} {sh : Shp} {I : IM} {R : RM} {x y : Int} : ev S d 209 441 [a0, a1, a2, a3] (.inl y :: .inl x :: st) (sh, I, R) = ev S d 209 442 [a0, a1, a2, a3] (.inl (wr (x + y)) :: st) (sh, I, R) := (ev_eq f_209_441).trans rfl
set_option maxRecDepth 100000 in
theorem f_209_442 : fetch 209 442 = some (442, .iaload, 1, [], 0) := (fm_209 442).trans rfl
theorem u_209_442s {S : Scr} {d : Nat} {a0 a1 a2 a3 : AV} {st : List AV} {sh : Shp} {I : IM} {R : RM} {i : Int} (h0 : 0 ≤ i) (h1 : i < S.2) : ev S d 209 442 [a0, a1, a2, a3] (.inl i :: .inr (.inr 2) :: st) (sh, I, R) = ev S d 209 443 [a0, a1, a2, a3] (.inl (S.1 i) :: st) (sh, I, R) := (ev_eq f_209_442).trans (congrArg (fin S d 209) (if_pos ⟨h0, h1⟩))
set_option maxRecDepth 100000 in
theorem f_209_443 : fetch 209 443 = some (443, .aload_n 0, 1, [0], 0) := (fm_209 443).trans rfl
theorem u_209_443s {S : Scr} {d : Nat} {a1 a2 a3 : AV} {st : List AV} {sh : Shp} {I : IM} {R : RM} : ev S d 209 443 [.inr (.inr 2), a1, a2, a3] st (sh, I, R) = ev S d 209 444 [.inr (.inr 2), a1, a2, a3] (.inr (.inr 2) :: st) (sh, I, R) := (ev_eq f_209_443).trans rfl
set_option maxRecDepth 100000 in
theorem f_209_444 : fetch 209 444 = some (444, .iload_n 3, 1, [3], 0) := (fm_209 444).trans rfl
theorem u_209_444 {S : Scr} {d : Nat} {a0 a1 a2 : AV} {st : List AV} {sh : Shp} {I : IM} {R : RM} {x : Int} : ev S d 209 444 [a0, a1, a2, .inl x] st (sh, I, R) = ev S d 209 445 [a0, a1, a2, .inl x] (.inl x :: st) (sh, I, R) := (ev_eq f_209_444).trans rfl
set_option maxRecDepth 100000 in
theorem f_209_445 : fetch 209 445 = some (445, .iconst 2, 1, [], 2) := (fm_209 445).trans rfl
theorem u_209_445 {S : Scr} {d : Nat} {a0 a1 a2 a3 : AV} {st : List AV} {sh : Shp} {I : IM} {R : RM} : ev S d 209 445 [a0, a1, a2, a3] st (sh, I, R) = ev S d 209 446 [a0, a1, a2, a3] (.inl 2 :: st) (sh, I, R) := (ev_eq f_209_445).trans rfl
set_option maxRecDepth 100000 in
theorem f_209_446 : fetch 209 446 = some (446, .iadd, 1, [], 0) := (fm_209 446).trans rfl
theorem u_209_446 {S : Scr} {d : Nat} {a0 a1 a2 a3 : AV} {st : List AV} {sh : Shp} {I : IM} {R : RM} {x y : Int} : ev S d 209 446 [a0, a1, a2, a3] (.inl y :: .inl x :: st) (sh, I, R) = ev S d 209 447 [a0, a1, a2, a3] (.inl (wr (x + y)) :: st) (sh, I, R) := (ev_eq f_209_446).trans rfl
set_option maxRecDepth 100000 in
theorem f_209_447 : fetch 209 447 = some (447, .iaload, 1, [], 0) := (fm_209 447).trans rfl
theorem u_209_447s {S : Scr} {d : Nat} {a0 a1 a2 a3 : AV} {st : List AV} {sh : Shp} {I : IM} {R : RM} {i : Int} (h0 : 0 ≤ i) (h1 : i < S.2) : ev S d 209 447 [a0, a1, a2, a3] (.inl i :: .inr (.inr 2) :: st) (sh, I, R) = ev S d 209 448 [a0, a1, a2, a3] (.inl (S.1 i) :: st) (sh, I, R) := (ev_eq f_209_447).trans (congrArg (fin S d 209) (if_pos ⟨h0, h1⟩))
set_option maxRecDepth 100000 in
theorem f_209_448 : fetch 209 448 = some (448, .invokevirtual 45, 3, [92, 2, 189], 0) := (fm_209 448).trans rfl
theorem u_209_448 {S : Scr} {d : Nat} {a0 a1 a2 a3 : AV} {st : List AV} {sh : Shp} {I : IM} {R : RM} {x0 : Int} {x1 : Int} {k : Nat} (h : tg sh k = 8) (hr : st.length ≤ 8) : ev S d 209 448 [a0, a1, a2, a3] (.inl x1 :: .inl x0 :: .inr (.inl k) :: st) (sh, I, R) = bnd (cl d 92 [.inr (.inl k), .inl x0, .inl x1] (sh, I, R)) (fun v M => ev S d 209 451 [a0, a1, a2, a3] (psh v st) M) := (ev_eq f_209_448).trans (congrArg (fin S d 209) (if_pos ⟨h, rfl, hr⟩))
set_option maxRecDepth 100000 in
theorem f_209_451 : fetch 209 451 = some (451, .aload_n 2, 1, [2], 0) := (fm_209 451).trans rfl
theorem u_209_451 {S : Scr} {d : Nat} {a0 a1 a3 : AV} {st : List AV} {sh : Shp} {I : IM} {R : RM} {x : Nat} : ev S d 209 451 [a0, a1, .inr (.inl x), a3] st (sh, I, R) = ev S d 209 452 [a0, a1, .inr (.inl x), a3] (.inr (.inl x) :: st) (sh, I, R) := (ev_eq f_209_451).trans rfl
set_option maxRecDepth 100000 in
theorem f_209_452 : fetch 209 452 = some (452, .aload_n 0, 1, [0], 0) := (fm_209 452).trans rfl
theorem u_209_452s {S : Scr} {d : Nat} {a1 a2 a3 : AV} {st : List AV} {sh : Shp} {I : IM} {R : RM} : ev S d 209 452 [.inr (.inr 2), a1, a2, a3] st (sh, I, R) = ev S d 209 453 [.inr (.inr 2), a1, a2, a3] (.inr (.inr 2) :: st) (sh, I, R) := (ev_eq f_209_452).trans rfl
set_option maxRecDepth 100000 in
theorem f_209_453 : fetch 209 453 = some (453, .iload_n 3, 1, [3], 0) := (fm_209 453).trans rfl
theorem u_209_453 {S : Scr} {d : Nat} {a0 a1 a2 : AV} {st : List AV} {sh : Shp} {I : IM} {R : RM} {x : Int} : ev S d 209 453 [a0, a1, a2, .inl x] st (sh, I, R) = ev S d 209 454 [a0, a1, a2, .inl x] (.inl x :: st) (sh, I, R) := (ev_eq f_209_453).trans rfl
set_option maxRecDepth 100000 in
theorem f_209_454 : fetch 209 454 = some (454, .iconst 1, 1, [], 1) := (fm_209 454).trans rfl
theorem u_209_454 {S : Scr} {d : Nat} {a0 a1 a2 a3 : AV} {st : List AV} {sh : Shp} {I : IM} {R : RM} : ev S d 209 454 [a0, a1, a2, a3] st (sh, I, R) = ev S d 209 455 [a0, a1, a2, a3] (.inl 1 :: st) (sh, I, R) := (ev_eq f_209_454).trans rfl
set_option maxRecDepth 100000 in
theorem f_209_455 : fetch 209 455 = some (455, .iadd, 1, [], 0) := (fm_209 455).trans rfl
theorem u_209_455 {S : Scr} {d : Nat} {a0 a1 a2 a3 : AV} {st : List AV} {sh : Shp} {I : IM} {R : RM} {x y : Int} : ev S d 209 455 [a0, a1, a2, a3] (.inl y :: .inl x :: st) (sh, I, R) = ev S d 209 456 [a0, a1, a2, a3] (.inl (wr (x + y)) :: st) (sh, I, R) := (ev_eq f_209_455).trans rfl
set_option maxRecDepth 100000 in
theorem f_209_456 : fetch 209 456 = some (456, .iaload, 1, [], 0) := (fm_209 456).trans rfl
theorem u_209_456s {S : Scr} {d : Nat} {a0 a1 a2 a3 : AV} {st : List AV} {sh : Shp} {I : IM} {R : RM} {i : Int} (h0 : 0 ≤ i) (h1 : i < S.2) : ev S d 209 456 [a0, a1, a2, a3] (.inl i :: .inr (.inr 2) :: st) (sh, I, R) = ev S d 209 457 [a0, a1, a2, a3] (.inl (S.1 i) :: st) (sh, I, R) := (ev_eq f_209_456).trans (congrArg (fin S d 209) (if_pos ⟨h0, h1⟩))
set_option maxRecDepth 100000 in
theorem f_209_457 : fetch 209 457 = some (457, .aload_n 0, 1, [0], 0) := (fm_209 457).trans rfl
theorem u_209_457s {S : Scr} {d : Nat} {a1 a2 a3 : AV} {st : List AV} {sh : Shp} {I : IM} {R : RM} : ev S d 209 457 [.inr (.inr 2), a1, a2, a3] st (sh, I, R) = ev S d 209 458 [.inr (.inr 2), a1, a2, a3] (.inr (.inr 2) :: st) (sh, I, R) := (ev_eq f_209_457).trans rfl
set_option maxRecDepth 100000 in
theorem f_209_458 : fetch 209 458 = some (458, .iload_n 3, 1, [3], 0) := (fm_209 458).trans rfl
theorem u_209_458 {S : Scr} {d : Nat} {a0 a1 a2 : AV} {st : List AV} {sh : Shp} {I : IM} {R : RM} {x : Int} : ev S d 209 458 [a0, a1, a2, .inl x] st (sh, I, R) = ev S d 209 459 [a0, a1, a2, .inl x] (.inl x :: st) (sh, I, R) := (ev_eq f_209_458).trans rfl
set_option maxRecDepth 100000 in
theorem f_209_459 : fetch 209 459 = some (459, .iconst 2, 1, [], 2) := (fm_209 459).trans rfl
theorem u_209_459 {S : Scr} {d : Nat} {a0 a1 a2 a3 : AV} {st : List AV} {sh : Shp} {I : IM} {R : RM} : ev S d 209 459 [a0, a1, a2, a3] st (sh, I, R) = ev S d 209 460 [a0, a1, a2, a3] (.inl 2 :: st) (sh, I, R) := (ev_eq f_209_459).trans rfl
set_option maxRecDepth 100000 in
theorem f_209_460 : fetch 209 460 = some (460, .iadd, 1, [], 0) := (fm_209 460).trans rfl
theorem u_209_460 {S : Scr} {d : Nat} {a0 a1 a2 a3 : AV} {st : List AV} {sh : Shp} {I : IM} {R : RM} {x y : Int} : ev S d 209 460 [a0, a1, a2, a3] (.inl y :: .inl x :: st) (sh, I, R) = ev S d 209 461 [a0, a1, a2, a3] (.inl (wr (x + y)) :: st) (sh, I, R) := (ev_eq f_209_460).trans rfl
set_option maxRecDepth 100000 in
theorem f_209_461 : fetch 209 461 = some (461, .iaload, 1, [], 0) := (fm_209 461).trans rfl
theorem u_209_461s {S : Scr} {d : Nat} {a0 a1 a2 a3 : AV} {st : List AV} {sh : Shp} {I : IM} {R : RM} {i : Int} (h0 : 0 ≤ i) (h1 : i < S.2) : ev S d 209 461 [a0, a1, a2, a3] (.inl i :: .inr (.inr 2) :: st) (sh, I, R) = ev S d 209 462 [a0, a1, a2, a3] (.inl (S.1 i) :: st) (sh, I, R) := (ev_eq f_209_461).trans (congrArg (fin S d 209) (if_pos ⟨h0, h1⟩))
set_option maxRecDepth 100000 in
theorem f_209_462 : fetch 209 462 = some (462, .invokevirtual 48, 3, [157, 2, 190], 0) := (fm_209 462).trans rfl
theorem u_209_462 {S : Scr} {d : Nat} {a0 a1 a2 a3 : AV} {st : List AV} {sh : Shp} {I : IM} {R : RM} {x0 : Int} {x1 : Int} {k : Nat} (h : tg sh k = 9) (hr : st.length ≤ 8) : ev S d 209 462 [a0, a1, a2, a3] (.inl x1 :: .inl x0 :: .inr (.inl k) :: st) (sh, I, R) = bnd (cl d 157 [.inr (.inl k), .inl x0, .inl x1] (sh, I, R)) (fun v M => ev S d 209 465 [a0, a1, a2, a3] (psh v st) M) := (ev_eq f_209_462).trans (congrArg (fin S d 209) (if_pos ⟨h, rfl, hr⟩))
set_option maxRecDepth 100000 in
theorem f_209_465 : fetch 209 465 = some (465, .if_icmp .eq 707, 3, [1172], 0) := (fm_209 465).trans rfl
theorem u_209_465 {S : Scr} {d : Nat} {a0 a1 a2 a3 : AV} {st : List AV} {sh : Shp} {I : IM} {R : RM} {x y : Int} : ev S d 209 465 [a0, a1, a2, a3] (.inl y :: .inl x :: st) (sh, I, R) = if x = y then ev S d 209 1172 [a0, a1, a2, a3] st (sh, I, R) else ev S d 209 468 [a0, a1, a2, a3] st (sh, I, R) := (ev_eq f_209_465).trans fin_icmp_eq
set_option maxRecDepth 100000 in
theorem f_209_468 : fetch 209 468 = some (468, .iconst 0, 1, [], 0) := (fm_209 468).trans rfl
theorem u_209_468 {S : Scr} {d : Nat} {a0 a1 a2 a3 : AV} {st : List AV} {sh : Shp} {I : IM} {R : RM} : ev S d 209 468 [a0, a1, a2, a3] st (sh, I, R) = ev S d 209 469 [a0, a1, a2, a3] (.inl 0 :: st) (sh, I, R) := (ev_eq f_209_468).trans rfl
set_option maxRecDepth 100000 in
theorem f_209_469 : fetch 209 469 = some (469, .ireturn, 1, [1], 0) := (fm_209 469).trans rfl
theorem u_209_469 {S : Scr} {d : Nat} {a0 a1 a2 a3 : AV} {sh : Shp} {I : IM} {R : RM} {x : Int} (h : x = 0 ∨ x = 1) : ev S d 209 469 [a0, a1, a2, a3] [.inl x] (sh, I, R) = some (some (.inl x), (sh, I, R)) := (ev_eq f_209_469).trans (fin_iret1 h)
set_option maxRecDepth 100000 in
theorem f_209_470 : fetch 209 470 = some (470, .aload_n 1, 1, [1], 0) := (fm_209 470).trans rfl
theorem u_209_470 {S : Scr} {d : Nat} {a0 a2 a3 : AV} {st : List AV} {sh : Shp} {I : IM} {R : RM} {x : Nat} : ev S d 209 470 [a0, .inr (.inl x), a2, a3] st (sh, I, R) = ev S d 209 471 [a0, .inr (.inl x), a2, a3] (.inr (.inl x) :: st) (sh, I, R) := (ev_eq f_209_470).trans rfl
set_option maxRecDepth 100000 in
theorem f_209_471 : fetch 209 471 = some (471, .aload_n 0, 1, [0], 0) := (fm_209 471).trans rfl
theorem u_209_471s {S : Scr} {d : Nat} {a1 a2 a3 : AV} {st : List AV} {sh : Shp} {I : IM} {R : RM} : ev S d 209 471 [.inr (.inr 2), a1, a2, a3] st (sh, I, R) = ev S d 209 472 [.inr (.inr 2), a1, a2, a3] (.inr (.inr 2) :: st) (sh, I, R) := (ev_eq f_209_471).trans rfl
set_option maxRecDepth 100000 in
theorem f_209_472 : fetch 209 472 = some (472, .iload_n 3, 1, [3], 0) := (fm_209 472).trans rfl
theorem u_209_472 {S : Scr} {d : Nat} {a0 a1 a2 : AV} {st : List AV} {sh : Shp} {I : IM} {R : RM} {x : Int} : ev S d 209 472 [a0, a1, a2, .inl x] st (sh, I, R) = ev S d 209 473 [a0, a1, a2, .inl x] (.inl x :: st) (sh, I, R) := (ev_eq f_209_472).trans rfl
set_option maxRecDepth 100000 in
theorem f_209_473 : fetch 209 473 = some (473, .iconst 1, 1, [], 1) := (fm_209 473).trans rfl
theorem u_209_473 {S : Scr} {d : Nat} {a0 a1 a2 a3 : AV} {st : List AV} {sh : Shp} {I : IM} {R : RM} : ev S d 209 473 [a0, a1, a2, a3] st (sh, I, R) = ev S d 209 474 [a0, a1, a2, a3] (.inl 1 :: st) (sh, I, R) := (ev_eq f_209_473).trans rfl
set_option maxRecDepth 100000 in
theorem f_209_474 : fetch 209 474 = some (474, .iadd, 1, [], 0) := (fm_209 474).trans rfl
theorem u_209_474 {S : Scr} {d : Nat} {a0 a1 a2 a3 : AV} {st : List AV} {sh : Shp} {I : IM} {R : RM} {x y : Int} : ev S d 209 474 [a0, a1, a2, a3] (.inl y :: .inl x :: st) (sh, I, R) = ev S d 209 475 [a0, a1, a2, a3] (.inl (wr (x + y)) :: st) (sh, I, R) := (ev_eq f_209_474).trans rfl
set_option maxRecDepth 100000 in
theorem f_209_475 : fetch 209 475 = some (475, .iaload, 1, [], 0) := (fm_209 475).trans rfl
theorem u_209_475s {S : Scr} {d : Nat} {a0 a1 a2 a3 : AV} {st : List AV} {sh : Shp} {I : IM} {R : RM} {i : Int} (h0 : 0 ≤ i) (h1 : i < S.2) : ev S d 209 475 [a0, a1, a2, a3] (.inl i :: .inr (.inr 2) :: st) (sh, I, R) = ev S d 209 476 [a0, a1, a2, a3] (.inl (S.1 i) :: st) (sh, I, R) := (ev_eq f_209_475).trans (congrArg (fin S d 209) (if_pos ⟨h0, h1⟩))
set_option maxRecDepth 100000 in
theorem f_209_476 : fetch 209 476 = some (476, .aload_n 0, 1, [0], 0) := (fm_209 476).trans rfl
theorem u_209_476s {S : Scr} {d : Nat} {a1 a2 a3 : AV} {st : List AV} {sh : Shp} {I : IM} {R : RM} : ev S d 209 476 [.inr (.inr 2), a1, a2, a3] st (sh, I, R) = ev S d 209 477 [.inr (.inr 2), a1, a2, a3] (.inr (.inr 2) :: st) (sh, I, R) := (ev_eq f_209_476).trans rfl
set_option maxRecDepth 100000 in
theorem f_209_477 : fetch 209 477 = some (477, .iload_n 3, 1, [3], 0) := (fm_209 477).trans rfl
theorem u_209_477 {S : Scr} {d : Nat} {a0 a1 a2 : AV} {st : List AV} {sh : Shp} {I : IM} {R : RM} {x : Int} : ev S d 209 477 [a0, a1, a2, .inl x] st (sh, I, R) = ev S d 209 478 [a0, a1, a2, .inl x] (.inl x :: st) (sh, I, R) := (ev_eq f_209_477).trans rfl
set_option maxRecDepth 100000 in
theorem f_209_478 : fetch 209 478 = some (478, .iconst 2, 1, [], 2) := (fm_209 478).trans rfl
theorem u_209_478 {S : Scr} {d : Nat} {a0 a1 a2 a3 : AV} {st : List AV} {sh : Shp} {I : IM} {R : RM} : ev S d 209 478 [a0, a1, a2, a3] st (sh, I, R) = ev S d 209 479 [a0, a1, a2, a3] (.inl 2 :: st) (sh, I, R) := (ev_eq f_209_478).trans rfl
set_option maxRecDepth 100000 in
theorem f_209_479 : fetch 209 479 = some (479, .iadd, 1, [], 0) := (fm_209 479).trans rfl
theorem u_209_479 {S : Scr} {d : Nat} {a0 a1 a2 a3 : AV} {st : List AV} {sh : Shp} {I : IM} {R : RM} {x y : Int} : ev S d 209 479 [a0, a1, a2, a3] (.inl y :: .inl x :: st) (sh, I, R) = ev S d 209 480 [a0, a1, a2, a3] (.inl (wr (x + y)) :: st) (sh, I, R) := (ev_eq f_209_479).trans rfl
set_option maxRecDepth 100000 in
theorem f_209_480 : fetch 209 480 = some (480, .iaload, 1, [], 0) := (fm_209 480).trans rfl
theorem u_209_480s {S : Scr} {d : Nat} {a0 a1 a2 a3 : AV} {st : List AV} {sh : Shp} {I : IM} {R : RM} {i : Int} (h0 : 0 ≤ i) (h1 : i < S.2) : ev S d 209 480 [a0, a1, a2, a3] (.inl i :: .inr (.inr 2) :: st) (sh, I, R) = ev S d 209 481 [a0, a1, a2, a3] (.inl (S.1 i) :: st) (sh, I, R) := (ev_eq f_209_480).trans (congrArg (fin S d 209) (if_pos ⟨h0, h1⟩))
set_option maxRecDepth 100000 in
theorem f_209_481 : fetch 209 481 = some (481, .aload_n 0, 1, [0], 0) := (fm_209 481).trans rfl
theorem u_209_481s {S : Scr} {d : Nat} {a1 a2 a3 : AV} {st : List AV} {sh : Shp} {I : IM} {R : RM} : ev S d 209 481 [.inr (.inr 2), a1, a2, a3] st (sh, I, R) = ev S d 209 482 [.inr (.inr 2), a1, a2, a3] (.inr (.inr 2) :: st) (sh, I, R) := (ev_eq f_209_481).trans rfl
set_option maxRecDepth 100000 in
theorem f_209_482 : fetch 209 482 = some (482, .iload_n 3, 1, [3], 0) := (fm_209 482).trans rfl
theorem u_209_482 {S : Scr} {d : Nat} {a0 a1 a2 : AV} {st : List AV} {sh : Shp} {I : IM} {R : RM} {x : Int} : ev S d 209 482 [a0, a1, a2, .inl x] st (sh, I, R) = ev S d 209 483 [a0, a1, a2, .inl x] (.inl x :: st) (sh, I, R) := (ev_eq f_209_482).trans rfl
set_option maxRecDepth 100000 in
theorem f_209_483 : fetch 209 483 = some (483, .iconst 3, 1, [], 3) := (fm_209 483).trans rfl
theorem u_209_483 {S : Scr} {d : Nat} {a0 a1 a2 a3 : AV} {st : List AV} {sh : Shp} {I : IM} {R : RM} : ev S d 209 483 [a0, a1, a2, a3] st (sh, I, R) = ev S d 209 484 [a0, a1, a2, a3] (.inl 3 :: st) (sh, I, R) := (ev_eq f_209_483).trans rfl
set_option maxRecDepth 100000 in
theorem f_209_484 : fetch 209 484 = some (484, .iadd, 1, [], 0) := (fm_209 484).trans rfl
theorem u_209_484 {S : Scr} {d : Nat} {a0 a1 a2 a3 : AV} {st : List AV} {sh : Shp} {I : IM} {R : RM} {x y : Int} : ev S d 209 484 [a0, a1, a2, a3] (.inl y :: .inl x :: st) (sh, I, R) = ev S d 209 485 [a0, a1, a2, a3] (.inl (wr (x + y)) :: st) (sh, I, R) := (ev_eq f_209_484).trans rfl
set_option maxRecDepth 100000 in
theorem f_209_485 : fetch 209 485 = some (485, .iaload, 1, [], 0) := (fm_209 485).trans rfl
theorem u_209_485s {S : Scr} {d : Nat} {a0 a1 a2 a3 : AV} {st : List AV} {sh : Shp} {I : IM} {R : RM} {i : Int} (h0 : 0 ≤ i) (h1 : i < S.2) : ev S d 209 485 [a0, a1, a2, a3] (.inl i :: .inr (.inr 2) :: st) (sh, I, R) = ev S d 209 486 [a0, a1, a2, a3] (.inl (S.1 i) :: st) (sh, I, R) := (ev_eq f_209_485).trans (congrArg (fin S d 209) (if_pos ⟨h0, h1⟩))
set_option maxRecDepth 100000 in
theorem f_209_486 : fetch 209 486 = some (486, .invokevirtual 49, 3, [93, 3, 191], 0) := (fm_209 486).trans rfl
theorem u_209_486 {S : Scr} {d : Nat} {a0 a1 a2 a3 : AV} {st : List AV} {sh : Shp} {I : IM} {R : RM} {x0 : Int} {x1 : Int} {x2 : Int} {k : Nat} (h : tg sh k = 8) (hr : st.length ≤ 8) : ev S d 209 486 [a0, a1, a2, a3] (.inl x2 :: .inl x1 :: .inl x0 :: .inr (.inl k) :: st) (sh, I, R) = bnd (cl d 93 [.inr (.inl k), .inl x0, .inl x1, .inl x2] (sh, I, R)) (fun v M => ev S d 209 489 [a0, a1, a2, a3] (psh v st) M) := (ev_eq f_209_486).trans (congrArg (fin S d 209) (if_pos ⟨h, rfl, hr⟩))
set_option maxRecDepth 100000 in
theorem f_209_489 : fetch 209 489 = some (489, .aload_n 2, 1, [2], 0) := (fm_209 489).trans rfl
theorem u_209_489 {S : Scr} {d : Nat} {a0 a1 a3 : AV} {st : List AV} {sh : Shp} {I : IM} {R : RM} {x : Nat} : ev S d 209 489 [a0, a1, .inr (.inl x), a3] st (sh, I, R) = ev S d 209 490 [a0, a1, .inr (.inl x), a3] (.inr (.inl x) :: st) (sh, I, R) := (ev_eq f_209_489).trans rfl
set_option maxRecDepth 100000 in
theorem f_209_490 : fetch 209 490 = some (490, .aload_n 0, 1, [0], 0) := (fm_209 490).trans rfl
theorem u_209_490s {S : Scr} {d : Nat} {a1 a2 a3 : AV} {st : List AV} {sh : Shp} {I : IM} {R : RM} : ev S d 209 490 [.inr (.inr 2), a1, a2, a3] st (sh, I, R) = ev S d 209 491 [.inr (.inr 2), a1, a2, a3] (.inr (.inr 2) :: st) (sh, I, R) := (ev_eq f_209_490).trans rfl
set_option maxRecDepth 100000 in
theorem f_209_491 : fetch 209 491 = some (491, .iload_n 3, 1, [3], 0) := (fm_209 491).trans rfl
theorem u_209_491 {S : Scr} {d : Nat} {a0 a1 a2 : AV} {st : List AV} {sh : Shp} {I : IM} {R : RM} {x : Int} : ev S d 209 491 [a0, a1, a2, .inl x] st (sh, I, R) = ev S d 209 492 [a0, a1, a2, .inl x] (.inl x :: st) (sh, I, R) := (ev_eq f_209_491).trans rfl
set_option maxRecDepth 100000 in
theorem f_209_492 : fetch 209 492 = some (492, .iconst 1, 1, [], 1) := (fm_209 492).trans rfl
theorem u_209_492 {S : Scr} {d : Nat} {a0 a1 a2 a3 : AV} {st : List AV} {sh : Shp} {I : IM} {R : RM} : ev S d 209 492 [a0, a1, a2, a3] st (sh, I, R) = ev S d 209 493 [a0, a1, a2, a3] (.inl 1 :: st) (sh, I, R) := (ev_eq f_209_492).trans rfl
set_option maxRecDepth 100000 in
theorem f_209_493 : fetch 209 493 = some (493, .iadd, 1, [], 0) := (fm_209 493).trans rfl
theorem u_209_493 {S : Scr} {d : Nat} {a0 a1 a2 a3 : AV} {st : List AV} {sh : Shp} {I : IM} {R : RM} {x y : Int} : ev S d 209 493 [a0, a1, a2, a3] (.inl y :: .inl x :: st) (sh, I, R) = ev S d 209 494 [a0, a1, a2, a3] (.inl (wr (x + y)) :: st) (sh, I, R) := (ev_eq f_209_493).trans rfl
set_option maxRecDepth 100000 in
theorem f_209_494 : fetch 209 494 = some (494, .iaload, 1, [], 0) := (fm_209 494).trans rfl
theorem u_209_494s {S : Scr} {d : Nat} {a0 a1 a2 a3 : AV} {st : List AV} {sh : Shp} {I : IM} {R : RM} {i : Int} (h0 : 0 ≤ i) (h1 : i < S.2) : ev S d 209 494 [a0, a1, a2, a3] (.inl i :: .inr (.inr 2) :: st) (sh, I, R) = ev S d 209 495 [a0, a1, a2, a3] (.inl (S.1 i) :: st) (sh, I, R) := (ev_eq f_209_494).trans (congrArg (fin S d 209) (if_pos ⟨h0, h1⟩))
set_option maxRecDepth 100000 in
theorem f_209_495 : fetch 209 495 = some (495, .aload_n 0, 1, [0], 0) := (fm_209 495).trans rfl
theorem u_209_495s {S : Scr} {d : Nat} {a1 a2 a3 : AV} {st : List AV} {sh : Shp} {I : IM} {R : RM} : ev S d 209 495 [.inr (.inr 2), a1, a2, a3] st (sh, I, R) = ev S d 209 496 [.inr (.inr 2), a1, a2, a3] (.inr (.inr 2) :: st) (sh, I, R) := (ev_eq f_209_495).trans rfl
set_option maxRecDepth 100000 in
theorem f_209_496 : fetch 209 496 = some (496, .iload_n 3, 1, [3], 0) := (fm_209 496).trans rfl
theorem u_209_496 {S : Scr} {d : Nat} {a0 a1 a2 : AV} {st : List AV} {sh : Shp} {I : IM} {R : RM} {x : Int} : ev S d 209 496 [a0, a1, a2, .inl x] st (sh, I, R) = ev S d 209 497 [a0, a1, a2, .inl x] (.inl x :: st) (sh, I, R) := (ev_eq f_209_496).trans rfl
set_option maxRecDepth 100000 in
theorem f_209_497 : fetch 209 497 = some (497, .iconst 2, 1, [], 2) := (fm_209 497).trans rfl
theorem u_209_497 {S : Scr} {d : Nat} {a0 a1 a2 a3 : AV} {st : List AV} {sh : Shp} {I : IM} {R : RM} : ev S d 209 497 [a0, a1, a2, a3] st (sh, I, R) = ev S d 209 498 [a0, a1, a2, a3] (.inl 2 :: st) (sh, I, R) := (ev_eq f_209_497).trans rfl
set_option maxRecDepth 100000 in
theorem f_209_498 : fetch 209 498 = some (498, .iadd, 1, [], 0) := (fm_209 498).trans rfl
theorem u_209_498 {S : Scr} {d : Nat} {a0 a1 a2 a3 : AV} {st : List AV} {sh : Shp} {I : IM} {R : RM} {x y : Int} : ev S d 209 498 [a0, a1, a2, a3] (.inl y :: .inl x :: st) (sh, I, R) = ev S d 209 499 [a0, a1, a2, a3] (.inl (wr (x + y)) :: st) (sh, I, R) := (ev_eq f_209_498).trans rfl
set_option maxRecDepth 100000 in
theorem f_209_499 : fetch 209 499 = some (499, .iaload, 1, [], 0) := (fm_209 499).trans rfl
theorem u_209_499s {S : Scr} {d : Nat} {a0 a1 a2 a3 : AV} {st : List AV} {sh : Shp} {I : IM} {R : RM} {i : Int} (h0 : 0 ≤ i) (h1 : i < S.2) : ev S d 209 499 [a0, a1, a2, a3] (.inl i :: .inr (.inr 2) :: st) (sh, I, R) = ev S d 209 500 [a0, a1, a2, a3] (.inl (S.1 i) :: st) (sh, I, R) := (ev_eq f_209_499).trans (congrArg (fin S d 209) (if_pos ⟨h0, h1⟩))
set_option maxRecDepth 100000 in
theorem f_209_500 : fetch 209 500 = some (500, .aload_n 0, 1, [0], 0) := (fm_209 500).trans rfl
theorem u_209_500s {S : Scr} {d : Nat} {a1 a2 a3 : AV} {st : List AV} {sh : Shp} {I : IM} {R : RM} : ev S d 209 500 [.inr (.inr 2), a1, a2, a3] st (sh, I, R) = ev S d 209 501 [.inr (.inr 2), a1, a2, a3] (.inr (.inr 2) :: st) (sh, I, R) := (ev_eq f_209_500).trans rfl
set_option maxRecDepth 100000 in
theorem f_209_501 : fetch 209 501 = some (501, .iload_n 3, 1, [3], 0) := (fm_209 501).trans rfl
theorem u_209_501 {S : Scr} {d : Nat} {a0 a1 a2 : AV} {st : List AV} {sh : Shp} {I : IM} {R : RM} {x : Int} : ev S d 209 501 [a0, a1, a2, .inl x] st (sh, I, R) = ev S d 209 502 [a0, a1, a2, .inl x] (.inl x :: st) (sh, I, R) := (ev_eq f_209_501).trans rfl
set_option maxRecDepth 100000 in
theorem f_209_502 : fetch 209 502 = some (502, .iconst 3, 1, [], 3) := (fm_209 502).trans rfl
theorem u_209_502 {S : Scr} {d : Nat} {a0 a1 a2 a3 : AV} {st : List AV} {sh : Shp} {I : IM} {R : RM} : ev S d 209 502 [a0, a1, a2, a3] st (sh, I, R) = ev S d 209 503 [a0, a1, a2, a3] (.inl 3 :: st) (sh, I, R) := (ev_eq f_209_502).trans rfl
set_option maxRecDepth 100000 in
theorem f_209_503 : fetch 209 503 = some (503, .iadd, 1, [], 0) := (fm_209 503).trans rfl
theorem u_209_503 {S : Scr} {d : Nat} {a0 a1 a2 a3 : AV} {st : List AV} {sh : Shp} {I : IM} {R : RM} {x y : Int} : ev S d 209 503 [a0, a1, a2, a3] (.inl y :: .inl x :: st) (sh, I, R) = ev S d 209 504 [a0, a1, a2, a3] (.inl (wr (x + y)) :: st) (sh, I, R) := (ev_eq f_209_503).trans rfl
set_option maxRecDepth 100000 in
theorem f_209_504 : fetch 209 504 = some (504, .iaload, 1, [], 0) := (fm_209 504).trans rfl
theorem u_209_504s {S : Scr} {d : Nat} {a0 a1 a2 a3 : AV} {st : List AV} {sh : Shp} {I : IM} {R : RM} {i : Int} (h0 : 0 ≤ i) (h1 : i < S.2) : ev S d 209 504 [a0, a1, a2, a3] (.inl i :: .inr (.inr 2) :: st) (sh, I, R) = ev S d 209 505 [a0, a1, a2, a3] (.inl (S.1 i) :: st) (sh, I, R) := (ev_eq f_209_504).trans (congrArg (fin S d 209) (if_pos ⟨h0, h1⟩))
set_option maxRecDepth 100000 in
theorem f_209_505 : fetch 209 505 = some (505, .invokevirtual 52, 3, [158, 3, 192], 0) := (fm_209 505).trans rfl
theorem u_209_505 {S : Scr} {d : Nat} {a0 a1 a2 a3 : AV} {st : List AV} {sh : Shp} {I : IM} {R : RM} {x0 : Int} {x1 : Int} {x2 : Int} {k : Nat} (h : tg sh k = 9) (hr : st.length ≤ 8) : ev S d 209 505 [a0, a1, a2, a3] (.inl x2 :: .inl x1 :: .inl x0 :: .inr (.inl k) :: st) (sh, I, R) = bnd (cl d 158 [.inr (.inl k), .inl x0, .inl x1, .inl x2] (sh, I, R)) (fun v M => ev S d 209 508 [a0, a1, a2, a3] (psh v st) M) := (ev_eq f_209_505).trans (congrArg (fin S d 209) (if_pos ⟨h, rfl, hr⟩))
set_option maxRecDepth 100000 in
theorem f_209_508 : fetch 209 508 = some (508, .if_icmp .eq 664, 3, [1172], 0) := (fm_209 508).trans rfl
theorem u_209_508 {S : Scr} {d : Nat} {a0 a1 a2 a3 : AV} {st : List AV} {sh : Shp} {I : IM} {R : RM} {x y : Int} : ev S d 209 508 [a0, a1, a2, a3] (.inl y :: .inl x :: st) (sh, I, R) = if x = y then ev S d 209 1172 [a0, a1, a2, a3] st (sh, I, R) else ev S d 209 511 [a0, a1, a2, a3] st (sh, I, R) := (ev_eq f_209_508).trans fin_icmp_eq
set_option maxRecDepth 100000 in
theorem f_209_511 : fetch 209 511 = some (511, .iconst 0, 1, [], 0) := (fm_209 511).trans rfl
theorem u_209_511 {S : Scr} {d : Nat} {a0 a1 a2 a3 : AV} {st : List AV} {sh : Shp} {I : IM} {R : RM} : ev S d 209 511 [a0, a1, a2, a3] st (sh, I, R) = ev S d 209 512 [a0, a1, a2, a3] (.inl 0 :: st) (sh, I, R) := (ev_eq f_209_511).trans rfl
set_option maxRecDepth 100000 in
theorem f_209_512 : fetch 209 512 = some (512, .ireturn, 1, [1], 0) := (fm_209 512).trans rfl
theorem u_209_512 {S : Scr} {d : Nat} {a0 a1 a2 a3 : AV} {sh : Shp} {I : IM} {R : RM} {x : Int} (h : x = 0 ∨ x = 1) : ev S d 209 512 [a0, a1, a2, a3] [.inl x] (sh, I, R) = some (some (.inl x), (sh, I, R)) := (ev_eq f_209_512).trans (fin_iret1 h)
set_option maxRecDepth 100000 in
theorem f_209_513 : fetch 209 513 = some (513, .aload_n 1, 1, [1], 0) := (fm_209 513).trans rfl
theorem u_209_513 {S : Scr} {d : Nat} {a0 a2 a3 : AV} {st : List AV} {sh : Shp} {I : IM} {R : RM} {x : Nat} : ev S d 209 513 [a0, .inr (.inl x), a2, a3] st (sh, I, R) = ev S d 209 514 [a0, .inr (.inl x), a2, a3] (.inr (.inl x) :: st) (sh, I, R) := (ev_eq f_209_513).trans rfl
set_option maxRecDepth 100000 in
theorem f_209_514 : fetch 209 514 = some (514, .aload_n 0, 1, [0], 0) := (fm_209 514).trans rfl
theorem u_209_514s {S : Scr} {d : Nat} {a1 a2 a3 : AV} {st : List AV} {sh : Shp} {I : IM} {R : RM} : ev S d 209 514 [.inr (.inr 2), a1, a2, a3] st (sh, I, R) = ev S d 209 515 [.inr (.inr 2), a1, a2, a3] (.inr (.inr 2) :: st) (sh, I, R) := (ev_eq f_209_514).trans rfl
set_option maxRecDepth 100000 in
theorem f_209_515 : fetch 209 515 = some (515, .iload_n 3, 1, [3], 0) := (fm_209 515).trans rfl
theorem u_209_515 {S : Scr} {d : Nat} {a0 a1 a2 : AV} {st : List AV} {sh : Shp} {I : IM} {R : RM} {x : Int} : ev S d 209 515 [a0, a1, a2, .inl x] st (sh, I, R) = ev S d 209 516 [a0, a1, a2, .inl x] (.inl x :: st) (sh, I, R) := (ev_eq f_209_515).trans rfl
set_option maxRecDepth 100000 in
theorem f_209_516 : fetch 209 516 = some (516, .iconst 1, 1, [], 1) := (fm_209 516).trans rfl
theorem u_209_516 {S : Scr} {d : Nat} {a0 a1 a2 a3 : AV} {st : List AV} {sh : Shp} {I : IM} {R : RM} : ev S d 209 516 [a0, a1, a2, a3] st (sh, I, R) = ev S d 209 517 [a0, a1, a2, a3] (.inl 1 :: st) (sh, I, R) := (ev_eq f_209_516).trans rfl
set_option maxRecDepth 100000 in
theorem f_209_517 : fetch 209 517 = some (517, .iadd, 1, [], 0) := (fm_209 517).trans rfl
theorem u_209_517 {S : Scr} {d : Nat} {a0 a1 a2 a3 : AV} {st : List AV} {sh : Shp} {I : IM} {R : RM} {x y : Int} : ev S d 209 517 [a0, a1, a2, a3] (.inl y :: .inl x :: st) (sh, I, R) = ev S d 209 518 [a0, a1, a2, a3] (.inl (wr (x + y)) :: st) (sh, I, R) := (ev_eq f_209_517).trans rfl
set_option maxRecDepth 100000 in
theorem f_209_518 : fetch 209 518 = some (518, .iaload, 1, [], 0) := (fm_209 518).trans rfl
theorem u_209_518s {S : Scr} {d : Nat} {a0 a1 a2 a3 : AV} {st : List AV} {sh : Shp} {I : IM} {R : RM} {i : Int} (h0 : 0 ≤ i) (h1 : i < S.2) : ev S d 209 518 [a0, a1, a2, a3] (.inl i :: .inr (.inr 2) :: st) (sh, I, R) = ev S d 209 519 [a0, a1, a2, a3] (.inl (S.1 i) :: st) (sh, I, R) := (ev_eq f_209_518).trans (congrArg (fin S d 209) (if_pos ⟨h0, h1⟩))
set_option maxRecDepth 100000 in
theorem f_209_519 : fetch 209 519 = some (519, .aload_n 0, 1, [0], 0) := (fm_209 519).trans rfl
theorem u_209_519s {S : Scr} {d : Nat} {a1 a2 a3 : AV} {st : List AV} {sh : Shp} {I : IM} {R : RM} : ev S d 209 519 [.inr (.inr 2), a1, a2, a3] st (sh, I, R) = ev S d 209 520 [.inr (.inr 2), a1, a2, a3] (.inr (.inr 2) :: st) (sh, I, R) := (ev_eq f_209_519).trans rfl
set_option maxRecDepth 100000 in
theorem f_209_520 : fetch 209 520 = some (520, .iload_n 3, 1, [3], 0) := (fm_209 520).trans rfl
theorem u_209_520 {S : Scr} {d : Nat} {a0 a1 a2 : AV} {st : List AV} {sh : Shp} {I : IM} {R : RM} {x : Int} : ev S d 209 520 [a0, a1, a2, .inl x] st (sh, I, R) = ev S d 209 521 [a0, a1, a2, .inl x] (.inl x :: st) (sh, I, R) := (ev_eq f_209_520).trans rfl
set_option maxRecDepth 100000 in
theorem f_209_521 : fetch 209 521 = some (521, .iconst 2, 1, [], 2) := (fm_209 521).trans rfl
theorem u_209_521 {S : Scr} {d : Nat} {a0 a1 a2 a3 : AV} {st : List AV} {sh : Shp} {I : IM} {R : RM} : ev S d 209 521 [a0, a1, a2, a3] st (sh, I, R) = ev S d 209 522 [a0, a1, a2, a3] (.inl 2 :: st) (sh, I, R) := (ev_eq f_209_521).trans rfl
set_option maxRecDepth 100000 in
theorem f_209_522 : fetch 209 522 = some (522, .iadd, 1, [], 0) := (fm_209 522).trans rfl
theorem u_209_522 {S : Scr} {d : Nat} {a0 a1 a2 a3 : AV} {st : List AV} {sh : Shp} {I : IM} {R : RM} {x y : Int} : ev S d 209 522 [a0, a1, a2, a3] (.inl y :: .inl x :: st) (sh, I, R) = ev S d 209 523 [a0, a1, a2, a3] (.inl (wr (x + y)) :: st) (sh, I, R) := (ev_eq f_209_522).trans rfl
set_option maxRecDepth 100000 in
theorem f_209_523 : fetch 209 523 = some (523, .iaload, 1, [], 0) := (fm_209 523).trans rfl
theorem u_209_523s {S : Scr} {d : Nat} {a0 a1 a2 a3 : AV} {st : List AV} {sh : Shp} {I : IM} {R : RM} {i : Int} (h0 : 0 ≤ i) (h1 : i < S.2) : ev S d 209 523 [a0, a1, a2, a3] (.inl i :: .inr (.inr 2) :: st) (sh, I, R) = ev S d 209 524 [a0, a1, a2, a3] (.inl (S.1 i) :: st) (sh, I, R) := (ev_eq f_209_523).trans (congrArg (fin S d 209) (if_pos ⟨h0, h1⟩))
set_option maxRecDepth 100000 in
theorem f_209_524 : fetch 209 524 = some (524, .invokevirtual 53, 3, [94, 2, 193], 0) := (fm_209 524).trans rfl
theorem u_209_524 {S : Scr} {d : Nat} {a0 a1 a2 a3 : AV} {st : List AV} {sh : Shp} {I : IM} {R : RM} {x0 : Int} {x1 : Int} {k : Nat} (h : tg sh k = 8) (hr : st.length ≤ 8) : ev S d 209 524 [a0, a1, a2, a3] (.inl x1 :: .inl x0 :: .inr (.inl k) :: st) (sh, I, R) = bnd (cl d 94 [.inr (.inl k), .inl x0, .inl x1] (sh, I, R)) (fun v M => ev S d 209 527 [a0, a1, a2, a3] (psh v st) M) := (ev_eq f_209_524).trans (congrArg (fin S d 209) (if_pos ⟨h, rfl, hr⟩))
set_option maxRecDepth 100000 in
theorem f_209_527 : fetch 209 527 = some (527, .aload_n 2, 1, [2], 0) := (fm_209 527).trans rfl
theorem u_209_527 {S : Scr} {d : Nat} {a0 a1 a3 : AV} {st : List AV} {sh : Shp} {I : IM} {R : RM} {x : Nat} : ev S d 209 527 [a0, a1, .inr (.inl x), a3] st (sh, I, R) = ev S d 209 528 [a0, a1, .inr (.inl x), a3] (.inr (.inl x) :: st) (sh, I, R) := (ev_eq f_209_527).trans rfl
set_option maxRecDepth 100000 in
theorem f_209_528 : fetch 209 528 = some (528, .aload_n 0, 1, [0], 0) := (fm_209 528).trans rfl
theorem u_209_528s {S : Scr} {d : Nat} {a1 a2 a3 : AV} {st : List AV} {sh : Shp} {I : IM} {R : RM} : ev S d 209 528 [.inr (.inr 2), a1, a2, a3] st (sh, I, R) = ev S d 209 529 [.inr (.inr 2), a1, a2, a3] (.inr (.inr 2) :: st) (sh, I, R) := (ev_eq f_209_528).trans rfl
set_option maxRecDepth 100000 in
theorem f_209_529 : fetch 209 529 = some (529, .iload_n 3, 1, [3], 0) := (fm_209 529).trans rfl
theorem u_209_529 {S : Scr} {d : Nat} {a0 a1 a2 : AV} {st : List AV} {sh : Shp} {I : IM} {R : RM} {x : Int} : ev S d 209 529 [a0, a1, a2, .inl x] st (sh, I, R) = ev S d 209 530 [a0, a1, a2, .inl x] (.inl x :: st) (sh, I, R) := (ev_eq f_209_529).trans rfl
set_option maxRecDepth 100000 in
theorem f_209_530 : fetch 209 530 = some (530, .iconst 1, 1, [], 1) := (fm_209 530).trans rfl
theorem u_209_530 {S : Scr} {d : Nat} {a0 a1 a2 a3 : AV} {st : List AV} {sh : Shp} {I : IM} {R : RM} : ev S d 209 530 [a0, a1, a2, a3] st (sh, I, R) = ev S d 209 531 [a0, a1, a2, a3] (.inl 1 :: st) (sh, I, R) := (ev_eq f_209_530).trans rfl
set_option maxRecDepth 100000 in
theorem f_209_531 : fetch 209 531 = some (531, .iadd, 1, [], 0) := (fm_209 531).trans rfl
theorem u_209_531 {S : Scr} {d : Nat} {a0 a1 a2 a3 : AV} {st : List AV} {sh : Shp} {I : IM} {R : RM} {x y : Int} : ev S d 209 531 [a0, a1, a2, a3] (.inl y :: .inl x :: st) (sh, I, R) = ev S d 209 532 [a0, a1, a2, a3] (.inl (wr (x + y)) :: st) (sh, I, R) := (ev_eq f_209_531).trans rfl
set_option maxRecDepth 100000 in
theorem f_209_532 : fetch 209 532 = some (532, .iaload, 1, [], 0) := (fm_209 532).trans rfl
theorem u_209_532s {S : Scr} {d : Nat} {a0 a1 a2 a3 : AV} {st : List AV} {sh : Shp} {I : IM} {R : RM} {i : Int} (h0 : 0 ≤ i) (h1 : i < S.2) : ev S d 209 532 [a0, a1, a2, a3] (.inl i :: .inr (.inr 2) :: st) (sh, I, R) = ev S d 209 533 [a0, a1, a2, a3] (.inl (S.1 i) :: st) (sh, I, R) := (ev_eq f_209_532).trans (congrArg (fin S d 209) (if_pos ⟨h0, h1⟩))
set_option maxRecDepth 100000 in
theorem f_209_533 : fetch 209 533 = some (533, .aload_n 0, 1, [0], 0) := (fm_209 533).trans rfl
theorem u_209_533s {S : Scr} {d : Nat} {a1 a2 a3 : AV} {st : List AV} {sh : Shp} {I : IM} {R : RM} : ev S d 209 533 [.inr (.inr 2), a1, a2, a3] st (sh, I, R) = ev S d 209 534 [.inr (.inr 2), a1, a2, a3] (.inr (.inr 2) :: st) (sh, I, R) := (ev_eq f_209_533).trans rfl
set_option maxRecDepth 100000 in
theorem f_209_534 : fetch 209 534 = some (534, .iload_n 3, 1, [3], 0) := (fm_209 534).trans rfl
theorem u_209_534 {S : Scr} {d : Nat} {a0 a1 a2 : AV} {st : List AV} {sh : Shp} {I : IM} {R : RM} {x : Int} : ev S d 209 534 [a0, a1, a2, .inl x] st (sh, I, R) = ev S d 209 535 [a0, a1, a2, .inl x] (.inl x :: st) (sh, I, R) := (ev_eq f_209_534).trans rfl
set_option maxRecDepth 100000 in
theorem f_209_535 : fetch 209 535 = some (535, .iconst 2, 1, [], 2) := (fm_209 535).trans rfl
theorem u_209_535 {S : Scr} {d : Nat} {a0 a1 a2 a3 : AV} {st : List AV} {sh : Shp} {I : IM} {R : RM} : ev S d 209 535 [a0, a1, a2, a3] st (sh, I, R) = ev S d 209 536 [a0, a1, a2, a3] (.inl 2 :: st) (sh, I, R) := (ev_eq f_209_535).trans rfl
set_option maxRecDepth 100000 in
theorem f_209_536 : fetch 209 536 = some (536, .iadd, 1, [], 0) := (fm_209 536).trans rfl
theorem u_209_536 {S : Scr} {d : Nat} {a0 a1 a2 a3 : AV} {st : List AV} {sh : Shp} {I : IM} {R : RM} {x y : Int} : ev S d 209 536 [a0, a1, a2, a3] (.inl y :: .inl x :: st) (sh, I, R) = ev S d 209 537 [a0, a1, a2, a3] (.inl (wr (x + y)) :: st) (sh, I, R) := (ev_eq f_209_536).trans rfl
set_option maxRecDepth 100000 in
theorem f_209_537 : fetch 209 537 = some (537, .iaload, 1, [], 0) := (fm_209 537).trans rfl
theorem u_209_537s {S : Scr} {d : Nat} {a0 a1 a2 a3 : AV} {st : List AV} {sh : Shp} {I : IM} {R : RM} {i : Int} (h0 : 0 ≤ i) (h1 : i < S.2) : ev S d 209 537 [a0, a1, a2, a3] (.inl i :: .inr (.inr 2) :: st) (sh, I, R) = ev S d 209 538 [a0, a1, a2, a3] (.inl (S.1 i) :: st) (sh, I, R) := (ev_eq f_209_537).trans (congrArg (fin S d 209) (if_pos ⟨h0, h1⟩))
set_option maxRecDepth 100000 in
theorem f_209_538 : fetch 209 538 = some (538, .invokevirtual 56, 3, [159, 2, 194], 0) := (fm_209 538).trans rfl
theorem u_209_538 {S : Scr} {d : Nat} {a0 a1 a2 a3 : AV} {st : List AV} {sh : Shp} {I : IM} {R : RM} {x0 : Int} {x1 : Int} {k : Nat} (h : tg sh k = 9) (hr : st.length ≤ 8) : ev S d 209 538 [a0, a1, a2, a3] (.inl x1 :: .inl x0 :: .inr (.inl k) :: st) (sh, I, R) = bnd (cl d 159 [.inr (.inl k), .inl x0, .inl x1] (sh, I, R)) (fun v M => ev S d 209 541 [a0, a1, a2, a3] (psh v st) M) := (ev_eq f_209_538).trans (congrArg (fin S d 209) (if_pos ⟨h, rfl, hr⟩))
set_option maxRecDepth 100000 in
theorem f_209_541 : fetch 209 541 = some (541, .if_icmp .eq 631, 3, [1172], 0) := (fm_209 541).trans rfl
theorem u_209_541 {S : Scr} {d : Nat} {a0 a1 a2 a3 : AV} {st : List AV} {sh : Shp} {I : IM} {R : RM} {x y : Int} : ev S d 209 541 [a0, a1, a2, a3] (.inl y :: .inl x :: st) (sh, I, R) = if x = y then ev S d 209 1172 [a0, a1, a2, a3] st (sh, I, R) else ev S d 209 544 [a0, a1, a2, a3] st (sh, I, R) := (ev_eq f_209_541).trans fin_icmp_eq
set_option maxRecDepth 100000 in
theorem f_209_544 : fetch 209 544 = some (544, .iconst 0, 1, [], 0) := (fm_209 544).trans rfl
theorem u_209_544 {S : Scr} {d : Nat} {a0 a1 a2 a3 : AV} {st : List AV} {sh : Shp} {I : IM} {R : RM} : ev S d 209 544 [a0, a1, a2, a3] st (sh, I, R) = ev S d 209 545 [a0, a1, a2, a3] (.inl 0 :: st) (sh, I, R) := (ev_eq f_209_544).trans rfl
set_option maxRecDepth 100000 in
theorem f_209_545 : fetch 209 545 = some (545, .ireturn, 1, [1], 0) := (fm_209 545).trans rfl
theorem u_209_545 {S : Scr} {d : Nat} {a0 a1 a2 a3 : AV} {sh : Shp} {I : IM} {R : RM} {x : Int} (h : x = 0 ∨ x = 1) : ev S d 209 545 [a0, a1, a2, a3] [.inl x] (sh, I, R) = some (some (.inl x), (sh, I, R)) := (ev_eq f_209_545).trans (fin_iret1 h)
set_option maxRecDepth 100000 in
theorem f_209_546 : fetch 209 546 = some (546, .aload_n 1, 1, [1], 0) := (fm_209 546).trans rfl
theorem u_209_546 {S : Scr} {d : Nat} {a0 a2 a3 : AV} {st : List AV} {sh : Shp} {I : IM} {R : RM} {x : Nat} : ev S d 209 546 [a0, .inr (.inl x), a2, a3] st (sh, I, R) = ev S d 209 547 [a0, .inr (.inl x), a2, a3] (.inr (.inl x) :: st) (sh, I, R) := (ev_eq f_209_546).trans rfl
set_option maxRecDepth 100000 in
theorem f_209_547 : fetch 209 547 = some (547, .aload_n 0, 1, [0], 0) := (fm_209 547).trans rfl
theorem u_209_547s {S : Scr} {d : Nat} {a1 a2 a3 : AV} {st : List AV} {sh : Shp} {I : IM} {R : RM} : ev S d 209 547 [.inr (.inr 2), a1, a2, a3] st (sh, I, R) = ev S d 209 548 [.inr (.inr 2), a1, a2, a3] (.inr (.inr 2) :: st) (sh, I, R) := (ev_eq f_209_547).trans rfl
set_option maxRecDepth 100000 in
theorem f_209_548 : fetch 209 548 = some (548, .iload_n 3, 1, [3], 0) := (fm_209 548).trans rfl
theorem u_209_548 {S : Scr} {d : Nat} {a0 a1 a2 : AV} {st : List AV} {sh : Shp} {I : IM} {R : RM} {x : Int} : ev S d 209 548 [a0, a1, a2, .inl x] st (sh, I, R) = ev S d 209 549 [a0, a1, a2, .inl x] (.inl x :: st) (sh, I, R) := (ev_eq f_209_548).trans rfl
set_option maxRecDepth 100000 in
theorem f_209_549 : fetch 209 549 = some (549, .iconst 1, 1, [], 1) := (fm_209 549).trans rfl
theorem u_209_549 {S : Scr} {d : Nat} {a0 a1 a2 a3 : AV} {st : List AV} {sh : Shp} {I : IM} {R : RM} : ev S d 209 549 [a0, a1, a2, a3] st (sh, I, R) = ev S d 209 550 [a0, a1, a2, a3] (.inl 1 :: st) (sh, I, R) := (ev_eq f_209_549).trans rfl
set_option maxRecDepth 100000 in
theorem f_209_550 : fetch 209 550 = some (550, .iadd, 1, [], 0) := (fm_209 550).trans rfl
theorem u_209_550 {S : Scr} {d : Nat} {a0 a1 a2 a3 : AV} {st : List AV} {sh : Shp} {I : IM} {R : RM} {x y : Int} : ev S d 209 550 [a0, a1, a2, a3] (.inl y :: .inl x :: st) (sh, I, R) = ev S d 209 551 [a0, a1, a2, a3] (.inl (wr (x + y)) :: st) (sh, I, R) := (ev_eq f_209_550).trans rfl
set_option maxRecDepth 100000 in
theorem f_209_551 : fetch 209 551 = some (551, .iaload, 1, [], 0) := (fm_209 551).trans rfl
theorem u_209_551s {S : Scr} {d : Nat} {a0 a1 a2 a3 : AV} {st : List AV} {sh : Shp} {I : IM} {R : RM} {i : Int} (h0 : 0 ≤ i) (h1 : i < S.2) : ev S d 209 551 [a0, a1, a2, a3] (.inl i :: .inr (.inr 2) :: st) (sh, I, R) = ev S d 209 552 [a0, a1, a2, a3] (.inl (S.1 i) :: st) (sh, I, R) := (ev_eq f_209_551).trans (congrArg (fin S d 209) (if_pos ⟨h0, h1⟩))
set_option maxRecDepth 100000 in
theorem f_209_552 : fetch 209 552 = some (552, .aload_n 0, 1, [0], 0) := (fm_209 552).trans rfl
theorem u_209_552s {S : Scr} {d : Nat} {a1 a2 a3 : AV} {st : List AV} {sh : Shp} {I : IM} {R : RM} : ev S d 209 552 [.inr (.inr 2), a1, a2, a3] st (sh, I, R) = ev S d 209 553 [.inr (.inr 2), a1, a2, a3] (.inr (.inr 2) :: st) (sh, I, R) := (ev_eq f_209_552).trans rfl
set_option maxRecDepth 100000 in
theorem f_209_553 : fetch 209 553 = some (553, .iload_n 3, 1, [3], 0) := (fm_209 553).trans rfl
theorem u_209_553 {S : Scr} {d : Nat} {a0 a1 a2 : AV} {st : List AV} {sh : Shp} {I : IM} {R : RM} {x : Int} : ev S d 209 553 [a0, a1, a2, .inl x] st (sh, I, R) = ev S d 209 554 [a0, a1, a2, .inl x] (.inl x :: st) (sh, I, R) := (ev_eq f_209_553).trans rfl
set_option maxRecDepth 100000 in
theorem f_209_554 : fetch 209 554 = some (554, .iconst 2, 1, [], 2) := (fm_209 554).trans rfl
theorem u_209_554 {S : Scr} {d : Nat} {a0 a1 a2 a3 : AV} {st : List AV} {sh : Shp} {I : IM} {R : RM} : ev S d 209 554 [a0, a1, a2, a3] st (sh, I, R) = ev S d 209 555 [a0, a1, a2, a3] (.inl 2 :: st) (sh, I, R) := (ev_eq f_209_554).trans rfl
set_option maxRecDepth 100000 in
theorem f_209_555 : fetch 209 555 = some (555, .iadd, 1, [], 0) := (fm_209 555).trans rfl
theorem u_209_555 {S : Scr} {d : Nat} {a0 a1 a2 a3 : AV} {st : List AV} {sh : Shp} {I : IM} {R : RM} {x y : Int} : ev S d 209 555 [a0, a1, a2, a3] (.inl y :: .inl x :: st) (sh, I, R) = ev S d 209 556 [a0, a1, a2, a3] (.inl (wr (x + y)) :: st) (sh, I, R) := (ev_eq f_209_555).trans rfl
set_option maxRecDepth 100000 in
theorem f_209_556 : fetch 209 556 = some (556, .iaload, 1, [], 0) := (fm_209 556).trans rfl
theorem u_209_556s {S : Scr} {d : Nat} {a0 a1 a2 a3 : AV} {st : List AV} {sh : Shp} {I : IM} {R : RM} {i : Int} (h0 : 0 ≤ i) (h1 : i < S.2) : ev S d 209 556 [a0, a1, a2, a3] (.inl i :: .inr (.inr 2) :: st) (sh, I, R) = ev S d 209 557 [a0, a1, a2, a3] (.inl (S.1 i) :: st) (sh, I, R) := (ev_eq f_209_556).trans (congrArg (fin S d 209) (if_pos ⟨h0, h1⟩))
set_option maxRecDepth 100000 in
theorem f_209_557 : fetch 209 557 = some (557, .invokevirtual 57, 3, [95, 2, 195], 0) := (fm_209 557).trans rfl
theorem u_209_557 {S : Scr} {d : Nat} {a0 a1 a2 a3 : AV} {st : List AV} {sh : Shp} {I : IM} {R : RM} {x0 : Int} {x1 : Int} {k : Nat} (h : tg sh k = 8) (hr : st.length ≤ 8) : ev S d 209 557 [a0, a1, a2, a3] (.inl x1 :: .inl x0 :: .inr (.inl k) :: st) (sh, I, R) = bnd (cl d 95 [.inr (.inl k), .inl x0, .inl x1] (sh, I, R)) (fun v M => ev S d 209 560 [a0, a1, a2, a3] (psh v st) M) := (ev_eq f_209_557).trans (congrArg (fin S d 209) (if_pos ⟨h, rfl, hr⟩))
set_option maxRecDepth 100000 in
theorem f_209_560 : fetch 209 560 = some (560, .aload_n 2, 1, [2], 0) := (fm_209 560).trans rfl
theorem u_209_560 {S : Scr} {d : Nat} {a0 a1 a3 : AV} {st : List AV} {sh : Shp} {I : IM} {R : RM} {x : Nat} : ev S d 209 560 [a0, a1, .inr (.inl x), a3] st (sh, I, R) = ev S d 209 561 [a0, a1, .inr (.inl x), a3] (.inr (.inl x) :: st) (sh, I, R) := (ev_eq f_209_560).trans rfl
set_option maxRecDepth 100000 in
theorem f_209_561 : fetch 209 561 = some (561, .aload_n 0, 1, [0], 0) := (fm_209 561).trans rfl
theorem u_209_561s {S : Scr} {d : Nat} {a1 a2 a3 : AV} {st : List AV} {sh : Shp} {I : IM} {R : RM} : ev S d 209 561 [.inr (.inr 2), a1, a2, a3] st (sh, I, R) = ev S d 209 562 [.inr (.inr 2), a1, a2, a3] (.inr (.inr 2) :: st) (sh, I, R) := (ev_eq f_209_561).trans rfl
set_option maxRecDepth 100000 in
theorem f_209_562 : fetch 209 562 = some (562, .iload_n 3, 1, [3], 0) := (fm_209 562).trans rfl
theorem u_209_562 {S : Scr} {d : Nat} {a0 a1 a2 : AV} {st : List AV} {sh : Shp} {I : IM} {R : RM} {x : Int} : ev S d 209 562 [a0, a1, a2, .inl x] st (sh, I, R) = ev S d 209 563 [a0, a1, a2, .inl x] (.inl x :: st) (sh, I, R) := (ev_eq f_209_562).trans rfl
set_option maxRecDepth 100000 in
theorem f_209_563 : fetch 209 563 = some (563, .iconst 1, 1, [], 1) := (fm_209 563).trans rfl
theorem u_209_563 {S : Scr} {d : Nat} {a0 a1 a2 a3 : AV} {st : List AV} {sh : Shp} {I : IM} {R : RM} : ev S d 209 563 [a0, a1, a2, a3] st (sh, I, R) = ev S d 209 564 [a0, a1, a2, a3] (.inl 1 :: st) (sh, I, R) := (ev_eq f_209_563).trans rfl
set_option maxRecDepth 100000 in
theorem f_209_564 : fetch 209 564 = some (564, .iadd, 1, [], 0) := (fm_209 564).trans rfl
theorem u_209_564 {S : Scr} {d : Nat} {a0 a1 a2 a3 : AV} {st : List AV} {sh : Shp} {I : IM} {R : RM} {x y : Int} : ev S d 209 564 [a0, a1, a2, a3] (.inl y :: .inl x :: st) (sh, I, R) = ev S d 209 565 [a0, a1, a2, a3] (.inl (wr (x + y)) :: st) (sh, I, R) := (ev_eq f_209_564).trans rfl
set_option maxRecDepth 100000 in
theorem f_209_565 : fetch 209 565 = some (565, .iaload, 1, [], 0) := (fm_209 565).trans rfl
theorem u_209_565s {S : Scr} {d : Nat} {a0 a1 a2 a3 : AV} {st : List AV} {sh : Shp} {I : IM} {R : RM} {i : Int} (h0 : 0 ≤ i) (h1 : i < S.2) : ev S d 209 565 [a0, a1, a2, a3] (.inl i :: .inr (.inr 2) :: st) (sh, I, R) = ev S d 209 566 [a0, a1, a2, a3] (.inl (S.1 i) :: st) (sh, I, R) := (ev_eq f_209_565).trans (congrArg (fin S d 209) (if_pos ⟨h0, h1⟩))
set_option maxRecDepth 100000 in
theorem f_209_566 : fetch 209 566 = some (566, .aload_n 0, 1, [0], 0) := (fm_209 566).trans rfl
theorem u_209_566s {S : Scr} {d : Nat} {a1 a2 a3 : AV} {st : List AV} {sh : Shp} {I : IM} {R : RM} : ev S d 209 566 [.inr (.inr 2), a1, a2, a3] st (sh, I, R) = ev S d 209 567 [.inr (.inr 2), a1, a2, a3] (.inr (.inr 2) :: st) (sh, I, R) := (ev_eq f_209_566).trans rfl
set_option maxRecDepth 100000 in
theorem f_209_567 : fetch 209 567 = some (567, .iload_n 3, 1, [3], 0) := (fm_209 567).trans rfl
theorem u_209_567 {S : Scr} {d : Nat} {a0 a1 a2 : AV} {st : List AV} {sh : Shp} {I : IM} {R : RM} {x : Int} : ev S d 209 567 [a0, a1, a2, .inl x] st (sh, I, R) = ev S d 209 568 [a0, a1, a2, .inl x] (.inl x :: st) (sh, I, R) := (ev_eq f_209_567).trans rfl
set_option maxRecDepth 100000 in
theorem f_209_568 : fetch 209 568 = some (568, .iconst 2, 1, [], 2) := (fm_209 568).trans rfl
theorem u_209_568 {S : Scr} {d : Nat} {a0 a1 a2 a3 : AV} {st : List AV} {sh : Shp} {I : IM} {R : RM} : ev S d 209 568 [a0, a1, a2, a3] st (sh, I, R) = ev S d 209 569 [a0, a1, a2, a3] (.inl 2 :: st) (sh, I, R) := (ev_eq f_209_568).trans rfl
set_option maxRecDepth 100000 in
theorem f_209_569 : fetch 209 569 = some (569, .iadd, 1, [], 0) := (fm_209 569).trans rfl
theorem u_209_569 {S : Scr} {d : Nat} {a0 a1 a2 a3 : AV} {st : List AV} {sh : Shp} {I : IM} {R : RM} {x y : Int} : ev S d 209 569 [a0, a1, a2, a3] (.inl y :: .inl x :: st) (sh, I, R) = ev S d 209 570 [a0, a1, a2, a3] (.inl (wr (x + y)) :: st) (sh, I, R) := (ev_eq f_209_569).trans rfl
set_option maxRecDepth 100000 in
theorem f_209_570 : fetch 209 570 = some (570, .iaload, 1, [], 0) := (fm_209 570).trans rfl
theorem u_209_570s {S : Scr} {d : Nat} {a0 a1 a2 a3 : AV} {st : List AV} {sh : Shp} {I : IM} {R : RM} {i : Int} (h0 : 0 ≤ i) (h1 : i < S.2) : ev S d 209 570 [a0, a1, a2, a3] (.inl i :: .inr (.inr 2) :: st) (sh, I, R) = ev S d 209 571 [a0, a1, a2, a3] (.inl (S.1 i) :: st) (sh, I, R) := (ev_eq f_209_570).trans (congrArg (fin S d 209) (if_pos ⟨h0, h1⟩))
set_option maxRecDepth 100000 in
theorem f_209_571 : fetch 209 571 = some (571, .invokevirtual 60, 3, [161, 2, 196], 0) := (fm_209 571).trans rfl
theorem u_209_571 {S : Scr} {d : Nat} {a0 a1 a2 a3 : AV} {st : List AV} {sh : Shp} {I : IM} {R : RM} {x0 : Int} {x1 : Int} {k : Nat} (h : tg sh k = 9) (hr : st.length ≤ 8) : ev S d 209 571 [a0, a1, a2, a3] (.inl x1 :: .inl x0 :: .inr (.inl k) :: st) (sh, I, R) = bnd (cl d 161 [.inr (.inl k), .inl x0, .inl x1] (sh, I, R)) (fun v M => ev S d 209 574 [a0, a1, a2, a3] (psh v st) M) := (ev_eq f_209_571).trans (congrArg (fin S d 209) (if_pos ⟨h, rfl, hr⟩))
set_option maxRecDepth 100000 in
theorem f_209_574 : fetch 209 574 = some (574, .if_icmp .eq 598, 3, [1172], 0) := (fm_209 574).trans rfl
theorem u_209_574 {S : Scr} {d : Nat} {a0 a1 a2 a3 : AV} {st : List AV} {sh : Shp} {I : IM} {R : RM} {x y : Int} : ev S d 209 574 [a0, a1, a2, a3] (.inl y :: .inl x :: st) (sh, I, R) = if x = y then ev S d 209 1172 [a0, a1, a2, a3] st (sh, I, R) else ev S d 209 577 [a0, a1, a2, a3] st (sh, I, R) := (ev_eq f_209_574).trans fin_icmp_eq
set_option maxRecDepth 100000 in
theorem f_209_577 : fetch 209 577 = some (577, .iconst 0, 1, [], 0) := (fm_209 577).trans rfl
theorem u_209_577 {S : Scr} {d : Nat} {a0 a1 a2 a3 : AV} {st : List AV} {sh : Shp} {I : IM} {R : RM} : ev S d 209 577 [a0, a1, a2, a3] st (sh, I, R) = ev S d 209 578 [a0, a1, a2, a3] (.inl 0 :: st) (sh, I, R) := (ev_eq f_209_577).trans rfl
set_option maxRecDepth 100000 in
theorem f_209_578 : fetch 209 578 = some (578, .ireturn, 1, [1], 0) := (fm_209 578).trans rfl
theorem u_209_578 {S : Scr} {d : Nat} {a0 a1 a2 a3 : AV} {sh : Shp} {I : IM} {R : RM} {x : Int} (h : x = 0 ∨ x = 1) : ev S d 209 578 [a0, a1, a2, a3] [.inl x] (sh, I, R) = some (some (.inl x), (sh, I, R)) := (ev_eq f_209_578).trans (fin_iret1 h)
set_option maxRecDepth 100000 in
theorem f_209_579 : fetch 209 579 = some (579, .aload_n 1, 1, [1], 0) := (fm_209 579).trans rfl
theorem u_209_579 {S : Scr} {d : Nat} {a0 a2 a3 : AV} {st : List AV} {sh : Shp} {I : IM} {R : RM} {x : Nat} : ev S d 209 579 [a0, .inr (.inl x), a2, a3] st (sh, I, R) = ev S d 209 580 [a0, .inr (.inl x), a2, a3] (.inr (.inl x) :: st) (sh, I, R) := (ev_eq f_209_579).trans rfl
set_option maxRecDepth 100000 in
theorem f_209_580 : fetch 209 580 = some (580, .aload_n 0, 1, [0], 0) := (fm_209 580).trans rfl
theorem u_209_580s {S : Scr} {d : Nat} {a1 a2 a3 : AV} {st : List AV} {sh : Shp} {I : IM} {R : RM} : ev S d 209 580 [.inr (.inr 2), a1, a2, a3] st (sh, I, R) = ev S d 209 581 [.inr (.inr 2), a1, a2, a3] (.inr (.inr 2) :: st) (sh, I, R) := (ev_eq f_209_580).trans rfl
set_option maxRecDepth 100000 in
theorem f_209_581 : fetch 209 581 = some (581, .iload_n 3, 1, [3], 0) := (fm_209 581).trans rfl
theorem u_209_581 {S : Scr} {d : Nat} {a0 a1 a2 : AV} {st : List AV} {sh : Shp} {I : IM} {R : RM} {x : Int} : ev S d 209 581 [a0, a1, a2, .inl x] st (sh, I, R) = ev S d 209 582 [a0, a1, a2, .inl x] (.inl x :: st) (sh, I, R) := (ev_eq f_209_581).trans rfl
set_option maxRecDepth 100000 in
theorem f_209_582 : fetch 209 582 = some (582, .iconst 1, 1, [], 1) := (fm_209 582).trans rfl
theorem u_209_582 {S : Scr} {d : Nat} {a0 a1 a2 a3 : AV} {st : List AV} {sh : Shp} {I : IM} {R : RM} : ev S d 209 582 [a0, a1, a2, a3] st (sh, I, R) = ev S d 209 583 [a0, a1, a2, a3] (.inl 1 :: st) (sh, I, R) := (ev_eq f_209_582).trans rfl
set_option maxRecDepth 100000 in
theorem f_209_583 : fetch 209 583 = some (583, .iadd, 1, [], 0) := (fm_209 583).trans rfl
theorem u_209_583 {S : Scr} {d : Nat} {a0 a1 a2 a3 : AV} {st : List AV} {sh : Shp} {I : IM} {R : RM} {x y : Int} : ev S d 209 583 [a0, a1, a2, a3] (.inl y :: .inl x :: st) (sh, I, R) = ev S d 209 584 [a0, a1, a2, a3] (.inl (wr (x + y)) :: st) (sh, I, R) := (ev_eq f_209_583).trans rfl
set_option maxRecDepth 100000 in
theorem f_209_584 : fetch 209 584 = some (584, .iaload, 1, [], 0) := (fm_209 584).trans rfl
theorem u_209_584s {S : Scr} {d : Nat} {a0 a1 a2 a3 : AV} {st : List AV} {sh : Shp} {I : IM} {R : RM} {i : Int} (h0 : 0 ≤ i) (h1 : i < S.2) : ev S d 209 584 [a0, a1, a2, a3] (.inl i :: .inr (.inr 2) :: st) (sh, I, R) = ev S d 209 585 [a0, a1, a2, a3] (.inl (S.1 i) :: st) (sh, I, R) := (ev_eq f_209_584).trans (congrArg (fin S d 209) (if_pos ⟨h0, h1⟩))
set_option maxRecDepth 100000 in
theorem f_209_585 : fetch 209 585 = some (585, .aload_n 0, 1, [0], 0) := (fm_209 585).trans rfl
theorem u_209_585s {S : Scr} {d : Nat} {a1 a2 a3 : AV} {st : List AV} {sh : Shp} {I : IM} {R : RM} : ev S d 209 585 [.inr (.inr 2), a1, a2, a3] st (sh, I, R) = ev S d 209 586 [.inr (.inr 2), a1, a2, a3] (.inr (.inr 2) :: st) (sh, I, R) := (ev_eq f_209_585).trans rfl
set_option maxRecDepth 100000 in
theorem f_209_586 : fetch 209 586 = some (586, .iload_n 3, 1, [3], 0) := (fm_209 586).trans rfl
theorem u_209_586 {S : Scr} {d : Nat} {a0 a1 a2 : AV} {st : List AV} {sh : Shp} {I : IM} {R : RM} {x : Int} : ev S d 209 586 [a0, a1, a2, .inl x] st (sh, I, R) = ev S d 209 587 [a0, a1, a2, .inl x] (.inl x :: st) (sh, I, R) := (ev_eq f_209_586).trans rfl
set_option maxRecDepth 100000 in
theorem f_209_587 : fetch 209 587 = some (587, .iconst 2, 1, [], 2) := (fm_209 587).trans rfl
theorem u_209_587 {S : Scr} {d : Nat} {a0 a1 a2 a3 : AV} {st : List AV} {sh : Shp} {I : IM} {R : RM} : ev S d 209 587 [a0, a1, a2, a3] st (sh, I, R) = ev S d 209 588 [a0, a1, a2, a3] (.inl 2 :: st) (sh, I, R) := (ev_eq f_209_587).trans rfl
set_option maxRecDepth 100000 in
theorem f_209_588 : fetch 209 588 = some (588, .iadd, 1, [], 0) := (fm_209 588).trans rfl
theorem u_209_588 {S : Scr} {d : Nat} {a0 a1 a2 a3 : AV} {st : List AV} {sh : Shp} {I : IM} {R : RM} {x y : Int} : ev S d 209 588 [a0, a1, a2, a3] (.inl y :: .inl x :: st) (sh, I, R) = ev S d 209 589 [a0, a1, a2, a3] (.inl (wr (x + y)) :: st) (sh, I, R) := (ev_eq f_209_588).trans rfl
set_option maxRecDepth 100000 in
theorem f_209_589 : fetch 209 589 = some (589, .iaload, 1, [], 0) := (fm_209 589).trans rfl
theorem u_209_589s {S : Scr} {d : Nat} {a0 a1 a2 a3 : AV} {st : List AV} {sh : Shp} {I : IM} {R : RM} {i : Int} (h0 : 0 ≤ i) (h1 : i < S.2) : ev S d 209 589 [a0, a1, a2, a3] (.inl i :: .inr (.inr 2) :: st) (sh, I, R) = ev S d 209 590 [a0, a1, a2, a3] (.inl (S.1 i) :: st) (sh, I, R) := (ev_eq f_209_589).trans (congrArg (fin S d 209) (if_pos ⟨h0, h1⟩))
set_option maxRecDepth 100000 in
theorem f_209_590 : fetch 209 590 = some (590, .invokevirtual 61, 3, [96, 2, 197], 0) := (fm_209 590).trans rfl
theorem u_209_590 {S : Scr} {d : Nat} {a0 a1 a2 a3 : AV} {st : List AV} {sh : Shp} {I : IM} {R : RM} {x0 : Int} {x1 : Int} {k : Nat} (h : tg sh k = 8) (hr : st.length ≤ 8) : ev S d 209 590 [a0, a1, a2, a3] (.inl x1 :: .inl x0 :: .inr (.inl k) :: st) (sh, I, R) = bnd (cl d 96 [.inr (.inl k), .inl x0, .inl x1] (sh, I, R)) (fun v M => ev S d 209 593 [a0, a1, a2, a3] (psh v st) M) := (ev_eq f_209_590).trans (congrArg (fin S d 209) (if_pos ⟨h, rfl, hr⟩))
set_option maxRecDepth 100000 in
theorem f_209_593 : fetch 209 593 = some (593, .aload_n 2, 1, [2], 0) := (fm_209 593).trans rfl
theorem u_209_593 {S : Scr} {d : Nat} {a0 a1 a3 : AV} {st : List AV} {sh : Shp} {I : IM} {R : RM} {x : Nat} : ev S d 209 593 [a0, a1, .inr (.inl x), a3] st (sh, I, R) = ev S d 209 594 [a0, a1, .inr (.inl x), a3] (.inr (.inl x) :: st) (sh, I, R) := (ev_eq f_209_593).trans rfl
set_option maxRecDepth 100000 in
theorem f_209_594 : fetch 209 594 = some (594, .aload_n 0, 1, [0], 0) := (fm_209 594).trans rfl
theorem u_209_594s {S : Scr} {d : Nat} {a1 a2 a3 : AV} {st : List AV} {sh : Shp} {I : IM} {R : RM} : ev S d 209 594 [.inr (.inr 2), a1, a2, a3] st (sh, I, R) = ev S d 209 595 [.inr (.inr 2), a1, a2, a3] (.inr (.inr 2) :: st) (sh, I, R) := (ev_eq f_209_594).trans rfl
set_option maxRecDepth 100000 in
theorem f_209_595 : fetch 209 595 = some (595, .iload_n 3, 1, [3], 0) := (fm_209 595).trans rfl
theorem u_209_595 {S : Scr} {d : Nat} {a0 a1 a2 : AV} {st : List AV} {sh : Shp} {I : IM} {R : RM} {x : Int} : ev S d 209 595 [a0, a1, a2, .inl x] st (sh, I, R) = ev S d 209 596 [a0, a1, a2, .inl x] (.inl x :: st) (sh, I, R) := (ev_eq f_209_595).trans rfl
set_option maxRecDepth 100000 in
theorem f_209_596 : fetch 209 596 = some (596, .iconst 1, 1, [], 1) := (fm_209 596).trans rfl
theorem u_209_596 {S : Scr} {d : Nat} {a0 a1 a2 a3 : AV} {st : List AV} {sh : Shp} {I : IM} {R : RM} : ev S d 209 596 [a0, a1, a2, a3] st (sh, I, R) = ev S d 209 597 [a0, a1, a2, a3] (.inl 1 :: st) (sh, I, R) := (ev_eq f_209_596).trans rfl
set_option maxRecDepth 100000 in
theorem f_209_597 : fetch 209 597 = some (597, .iadd, 1, [], 0) := (fm_209 597).trans rfl
theorem u_209_597 {S : Scr} {d : Nat} {a0 a1 a2 a3 : AV} {st : List AV} {sh : Shp} {I : IM} {R : RM} {x y : Int} : ev S d 209 597 [a0, a1, a2, a3] (.inl y :: .inl x :: st) (sh, I, R) = ev S d 209 598 [a0, a1, a2, a3] (.inl (wr (x + y)) :: st) (sh, I, R) := (ev_eq f_209_597).trans rfl
set_option maxRecDepth 100000 in
theorem f_209_598 : fetch 209 598 = some (598, .iaload, 1, [], 0) := (fm_209 598).trans rfl
theorem u_209_598s {S : Scr} {d : Nat} {a0 a1 a2 a3 : AV} {st : List AV} {sh : Shp} {I : IM} {R : RM} {i : Int} (h0 : 0 ≤ i) (h1 : i < S.2) : ev S d 209 598 [a0, a1, a2, a3] (.inl i :: .inr (.inr 2) :: st) (sh, I, R) = ev S d 209 599 [a0, a1, a2, a3] (.inl (S.1 i) :: st) (sh, I, R) := (ev_eq f_209_598).trans (congrArg (fin S d 209) (if_pos ⟨h0, h1⟩))
set_option maxRecDepth 100000 in
theorem f_209_599 : fetch 209 599 = some (599, .aload_n 0, 1, [0], 0) := (fm_209 599).trans rfl
theorem u_209_599s {S : Scr} {d : Nat} {a1 a2 a3 : AV} {st : List AV} {sh : Shp} {I : IM} {R : RM} : ev S d 209 599 [.inr (.inr 2), a1, a2, a3] st (sh, I, R) = ev S d 209 600 [.inr (.inr 2), a1, a2, a3] (.inr (.inr 2) :: st) (sh, I, R) := (ev_eq f_209_599).trans rfl
set_option maxRecDepth 100000 in
theorem f_209_600 : fetch 209 600 = some (600, .iload_n 3, 1, [3], 0) := (fm_209 600).trans rfl
theorem u_209_600 {S : Scr} {d : Nat} {a0 a1 a2 : AV} {st : List AV} {sh : Shp} {I : IM} {R : RM} {x : Int} : ev S d 209 600 [a0, a1, a2, .inl x] st (sh, I, R) = ev S d 209 601 [a0, a1, a2, .inl x] (.inl x :: st) (sh, I, R) := (ev_eq f_209_600).trans rfl
set_option maxRecDepth 100000 in
theorem f_209_601 : fetch 209 601 = some (601, .iconst 2, 1, [], 2) := (fm_209 601).trans rfl
theorem u_209_601 {S : Scr} {d : Nat} {a0 a1 a2 a3 : AV} {st : List AV} {sh : Shp} {I : IM} {R : RM} : ev S d 209 601 [a0, a1, a2, a3] st (sh, I, R) = ev S d 209 602 [a0, a1, a2, a3] (.inl 2 :: st) (sh, I, R) := (ev_eq f_209_601).trans rfl
set_option maxRecDepth 100000 in
theorem f_209_602 : fetch 209 602 = some (602, .iadd, 1, [], 0) := (fm_209 602).trans rfl
theorem u_209_602 {S : Scr} {d : Nat} {a0 a1 a2 a3 : AV} {st : List AV} {sh : Shp} {I : IM} {R : RM} {x y : Int} : ev S d 209 602 [a0, a1, a2, a3] (.inl y :: .inl x :: st) (sh, I, R) = ev S d 209 603 [a0, a1, a2, a3] (.inl (wr (x + y)) :: st) (sh, I, R) := (ev_eq f_209_602).trans rfl
set_option maxRecDepth 100000 in
theorem f_209_603 : fetch 209 603 = some (603, .iaload, 1, [], 0) := (fm_209 603).trans rfl
theorem u_209_603s {S : Scr} {d : Nat} {a0 a1 a2 a3 : AV} {st : List AV} {sh : Shp} {I : IM} {R : RM} {i : Int} (h0 : 0 ≤ i) (h1 : i < S.2) : ev S d 209 603 [a0, a1, a2, a3] (.inl i :: .inr (.inr 2) :: st) (sh, I, R) = ev S d 209 604 [a0, a1, a2, a3] (.inl (S.1 i) :: st) (sh, I, R) := (ev_eq f_209_603).trans (congrArg (fin S d 209) (if_pos ⟨h0, h1⟩))
set_option maxRecDepth 100000 in
theorem f_209_604 : fetch 209 604 = some (604, .invokevirtual 64, 3, [162, 2, 198], 0) := (fm_209 604).trans rfl
theorem u_209_604 {S : Scr} {d : Nat} {a0 a1 a2 a3 : AV} {st : List AV} {sh : Shp} {I : IM} {R : RM} {x0 : Int} {x1 : Int} {k : Nat} (h : tg sh k = 9) (hr : st.length ≤ 8) : ev S d 209 604 [a0, a1, a2, a3] (.inl x1 :: .inl x0 :: .inr (.inl k) :: st) (sh, I, R) = bnd (cl d 162 [.inr (.inl k), .inl x0, .inl x1] (sh, I, R)) (fun v M => ev S d 209 607 [a0, a1, a2, a3] (psh v st) M) := (ev_eq f_209_604).trans (congrArg (fin S d 209) (if_pos ⟨h, rfl, hr⟩))
set_option maxRecDepth 100000 in
theorem f_209_607 : fetch 209 607 = some (607, .if_icmp .eq 565, 3, [1172], 0) := (fm_209 607).trans rfl
theorem u_209_607 {S : Scr} {d : Nat} {a0 a1 a2 a3 : AV} {st : List AV} {sh : Shp} {I : IM} {R : RM} {x y : Int} : ev S d 209 607 [a0, a1, a2, a3] (.inl y :: .inl x :: st) (sh, I, R) = if x = y then ev S d 209 1172 [a0, a1, a2, a3] st (sh, I, R) else ev S d 209 610 [a0, a1, a2, a3] st (sh, I, R) := (ev_eq f_209_607).trans fin_icmp_eq
set_option maxRecDepth 100000 in
theorem f_209_610 : fetch 209 610 = some (610, .iconst 0, 1, [], 0) := (fm_209 610).trans rfl
theorem u_209_610 {S : Scr} {d : Nat} {a0 a1 a2 a3 : AV} {st : List AV} {sh : Shp} {I : IM} {R : RM} : ev S d 209 610 [a0, a1, a2, a3] st (sh, I, R) = ev S d 209 611 [a0, a1, a2, a3] (.inl 0 :: st) (sh, I, R) := (ev_eq f_209_610).trans rfl
set_option maxRecDepth 100000 in
theorem f_209_611 : fetch 209 611 = some (611, .ireturn, 1, [1], 0) := (fm_209 611).trans rfl
theorem u_209_611 {S : Scr} {d : Nat} {a0 a1 a2 a3 : AV} {sh : Shp} {I : IM} {R : RM} {x : Int} (h : x = 0 ∨ x = 1) : ev S d 209 611 [a0, a1, a2, a3] [.inl x] (sh, I, R) = some (some (.inl x), (sh, I, R)) := (ev_eq f_209_611).trans (fin_iret1 h)
set_option maxRecDepth 100000 in
theorem f_209_612 : fetch 209 612 = some (612, .aload_n 1, 1, [1], 0) := (fm_209 612).trans rfl
theorem u_209_612 {S : Scr} {d : Nat} {a0 a2 a3 : AV} {st : List AV} {sh : Shp} {I : IM} {R : RM} {x : Nat} : ev S d 209 612 [a0, .inr (.inl x), a2, a3] st (sh, I, R) = ev S d 209 613 [a0, .inr (.inl x), a2, a3] (.inr (.inl x) :: st) (sh, I, R) := (ev_eq f_209_612).trans rfl
set_option maxRecDepth 100000 in
theorem f_209_613 : fetch 209 613 = some (613, .aload_n 0, 1, [0], 0) := (fm_209 613).trans rfl
theorem u_209_613s {S : Scr} {d : Nat} {a1 a2 a3 : AV} {st : List AV} {sh : Shp} {I : IM} {R : RM} : ev S d 209 613 [.inr (.inr 2), a1, a2, a3] st (sh, I, R) = ev S d 209 614 [.inr (.inr 2), a1, a2, a3] (.inr (.inr 2) :: st) (sh, I, R) := (ev_eq f_209_613).trans rfl
set_option maxRecDepth 100000 in
theorem f_209_614 : fetch 209 614 = some (614, .iload_n 3, 1, [3], 0) := (fm_209 614).trans rfl
theorem u_209_614 {S : Scr} {d : Nat} {a0 a1 a2 : AV} {st : List AV} {sh : Shp} {I : IM} {R : RM} {x : Int} : ev S d 209 614 [a0, a1, a2, .inl x] st (sh, I, R) = ev S d 209 615 [a0, a1, a2, .inl x] (.inl x :: st) (sh, I, R) := (ev_eq f_209_614).trans rfl
set_option maxRecDepth 100000 in
theorem f_209_615 : fetch 209 615 = some (615, .iconst 1, 1, [], 1) := (fm_209 615).trans rfl
theorem u_209_615 {S : Scr} {d : Nat} {a0 a1 a2 a3 : AV} {st : List AV} {sh : Shp} {I : IM} {R : RM} : ev S d 209 615 [a0, a1, a2, a3] st (sh, I, R) = ev S d 209 616 [a0, a1, a2, a3] (.inl 1 :: st) (sh, I, R) := (ev_eq f_209_615).trans rfl
set_option maxRecDepth 100000 in
theorem f_209_616 : fetch 209 616 = some (616, .iadd, 1, [], 0) := (fm_209 616).trans rfl
theorem u_209_616 {S : Scr} {d : Nat} {a0 a1 a2 a3 : AV} {st : List AV} {sh : Shp} {I : IM} {R : RM} {x y : Int} : ev S d 209 616 [a0, a1, a2, a3] (.inl y :: .inl x :: st) (sh, I, R) = ev S d 209 617 [a0, a1, a2, a3] (.inl (wr (x + y)) :: st) (sh, I, R) := (ev_eq f_209_616).trans rfl
set_option maxRecDepth 100000 in
theorem f_209_617 : fetch 209 617 = some (617, .iaload, 1, [], 0) := (fm_209 617).trans rfl
theorem u_209_617s {S : Scr} {d : Nat} {a0 a1 a2 a3 : AV} {st : List AV} {sh : Shp} {I : IM} {R : RM} {i : Int} (h0 : 0 ≤ i) (h1 : i < S.2) : ev S d 209 617 [a0, a1, a2, a3] (.inl i :: .inr (.inr 2) :: st) (sh, I, R) = ev S d 209 618 [a0, a1, a2, a3] (.inl (S.1 i) :: st) (sh, I, R) := (ev_eq f_209_617).trans (congrArg (fin S d 209) (if_pos ⟨h0, h1⟩))
set_option maxRecDepth 100000 in
theorem f_209_618 : fetch 209 618 = some (618, .invokevirtual 65, 3, [97, 1, 199], 0) := (fm_209 618).trans rfl
theorem u_209_618 {S : Scr} {d : Nat} {a0 a1 a2 a3 : AV} {st : List AV} {sh : Shp} {I : IM} {R : RM} {x0 : Int} {k : Nat} (h : tg sh k = 8) (hr : st.length ≤ 8) : ev S d 209 618 [a0, a1, a2, a3] (.inl x0 :: .inr (.inl k) :: st) (sh, I, R) = bnd (cl d 97 [.inr (.inl k), .inl x0] (sh, I, R)) (fun v M => ev S d 209 621 [a0, a1, a2, a3] (psh v st) M) := (ev_eq f_209_618).trans (congrArg (fin S d 209) (if_pos ⟨h, rfl, hr⟩))
set_option maxRecDepth 100000 in
theorem f_209_621 : fetch 209 621 = some (621, .aload_n 2, 1, [2], 0) := (fm_209 621).trans rfl
theorem u_209_621 {S : Scr} {d : Nat} {a0 a1 a3 : AV} {st : List AV} {sh : Shp} {I : IM} {R : RM} {x : Nat} : ev S d 209 621 [a0, a1, .inr (.inl x), a3] st (sh, I, R) = ev S d 209 622 [a0, a1, .inr (.inl x), a3] (.inr (.inl x) :: st) (sh, I, R) := (ev_eq f_209_621).trans rfl
set_option maxRecDepth 100000 in
theorem f_209_622 : fetch 209 622 = some (622, .aload_n 0, 1, [0], 0) := (fm_209 622).trans rfl
theorem u_209_622s {S : Scr} {d : Nat} {a1 a2 a3 : AV} {st : List AV} {sh : Shp} {I : IM} {R : RM} : ev S d 209 622 [.inr (.inr 2), a1, a2, a3] st (sh, I, R) = ev S d 209 623 [.inr (.inr 2), a1, a2, a3] (.inr (.inr 2) :: st) (sh, I, R) := (ev_eq f_209_622).trans rfl
set_option maxRecDepth 100000 in
theorem f_209_623 : fetch 209 623 = some (623, .iload_n 3, 1, [3], 0) := (fm_209 623).trans rfl
theorem u_209_623 {S : Scr} {d : Nat} {a0 a1 a2 : AV} {st : List AV} {sh : Shp} {I : IM} {R : RM} {x : Int} : ev S d 209 623 [a0, a1, a2, .inl x] st (sh, I, R) = ev S d 209 624 [a0, a1, a2, .inl x] (.inl x :: st) (sh, I, R) := (ev_eq f_209_623).trans rfl
set_option maxRecDepth 100000 in
theorem f_209_624 : fetch 209 624 = some (624, .iconst 1, 1, [], 1) := (fm_209 624).trans rfl
theorem u_209_624 {S : Scr} {d : Nat} {a0 a1 a2 a3 : AV} {st : List AV} {sh : Shp} {I : IM} {R : RM} : ev S d 209 624 [a0, a1, a2, a3] st (sh, I, R) = ev S d 209 625 [a0, a1, a2, a3] (.inl 1 :: st) (sh, I, R) := (ev_eq f_209_624).trans rfl
set_option maxRecDepth 100000 in
theorem f_209_625 : fetch 209 625 = some (625, .iadd, 1, [], 0) := (fm_209 625).trans rfl
theorem u_209_625 {S : Scr} {d : Nat} {a0 a1 a2 a3 : AV} {st : List AV} {sh : Shp} {I : IM} {R : RM} {x y : Int} : ev S d 209 625 [a0, a1, a2, a3] (.inl y :: .inl x :: st) (sh, I, R) = ev S d 209 626 [a0, a1, a2, a3] (.inl (wr (x + y)) :: st) (sh, I, R) := (ev_eq f_209_625).trans rfl
set_option maxRecDepth 100000 in
theorem f_209_626 : fetch 209 626 = some (626, .iaload, 1, [], 0) := (fm_209 626).trans rfl
theorem u_209_626s {S : Scr} {d : Nat} {a0 a1 a2 a3 : AV} {st : List AV} {sh : Shp} {I : IM} {R : RM} {i : Int} (h0 : 0 ≤ i) (h1 : i < S.2) : ev S d 209 626 [a0, a1, a2, a3] (.inl i :: .inr (.inr 2) :: st) (sh, I, R) = ev S d 209 627 [a0, a1, a2, a3] (.inl (S.1 i) :: st) (sh, I, R) := (ev_eq f_209_626).trans (congrArg (fin S d 209) (if_pos ⟨h0, h1⟩))
set_option maxRecDepth 100000 in
theorem f_209_627 : fetch 209 627 = some (627, .invokevirtual 68, 3, [163, 1, 200], 0) := (fm_209 627).trans rfl
theorem u_209_627 {S : Scr} {d : Nat} {a0 a1 a2 a3 : AV} {st : List AV} {sh : Shp} {I : IM} {R : RM} {x0 : Int} {k : Nat} (h : tg sh k = 9) (hr : st.length ≤ 8) : ev S d 209 627 [a0, a1, a2, a3] (.inl x0 :: .inr (.inl k) :: st) (sh, I, R) = bnd (cl d 163 [.inr (.inl k), .inl x0] (sh, I, R)) (fun v M => ev S d 209 630 [a0, a1, a2, a3] (psh v st) M) := (ev_eq f_209_627).trans (congrArg (fin S d 209) (if_pos ⟨h, rfl, hr⟩))
set_option maxRecDepth 100000 in
theorem f_209_630 : fetch 209 630 = some (630, .if_icmp .eq 542, 3, [1172], 0) := (fm_209 630).trans rfl
theorem u_209_630 {S : Scr} {d : Nat} {a0 a1 a2 a3 : AV} {st : List AV} {sh : Shp} {I : IM} {R : RM} {x y : Int} : ev S d 209 630 [a0, a1, a2, a3] (.inl y :: .inl x :: st) (sh, I, R) = if x = y then ev S d 209 1172 [a0, a1, a2, a3] st (sh, I, R) else ev S d 209 633 [a0, a1, a2, a3] st (sh, I, R) := (ev_eq f_209_630).trans fin_icmp_eq
set_option maxRecDepth 100000 in
theorem f_209_633 : fetch 209 633 = some (633, .iconst 0, 1, [], 0) := (fm_209 633).trans rfl
theorem u_209_633 {S : Scr} {d : Nat} {a0 a1 a2 a3 : AV} {st : List AV} {sh : Shp} {I : IM} {R : RM} : ev S d 209 633 [a0, a1, a2, a3] st (sh, I, R) = ev S d 209 634 [a0, a1, a2, a3] (.inl 0 :: st) (sh, I, R) := (ev_eq f_209_633).trans rfl
set_option maxRecDepth 100000 in
theorem f_209_634 : fetch 209 634 = some (634, .ireturn, 1, [1], 0) := (fm_209 634).trans rfl
theorem u_209_634 {S : Scr} {d : Nat} {a0 a1 a2 a3 : AV} {sh : Shp} {I : IM} {R : RM} {x : Int} (h : x = 0 ∨ x = 1) : ev S d 209 634 [a0, a1, a2, a3] [.inl x] (sh, I, R) = some (some (.inl x), (sh, I, R)) := (ev_eq f_209_634).trans (fin_iret1 h)
set_option maxRecDepth 100000 in
theorem f_209_635 : fetch 209 635 = some (635, .aload_n 1, 1, [1], 0) := (fm_209 635).trans rfl
theorem u_209_635 {S : Scr} {d : Nat} {a0 a2 a3 : AV} {st : List AV} {sh : Shp} {I : IM} {R : RM} {x : Nat} : ev S d 209 635 [a0, .inr (.inl x), a2, a3] st (sh, I, R) = ev S d 209 636 [a0, .inr (.inl x), a2, a3] (.inr (.inl x) :: st) (sh, I, R) := (ev_eq f_209_635).trans rfl
set_option maxRecDepth 100000 in
theorem f_209_636 : fetch 209 636 = some (636, .aload_n 0, 1, [0], 0) := (fm_209 636).trans rfl
theorem u_209_636s {S : Scr} {d : Nat} {a1 a2 a3 : AV} {st : List AV} {sh : Shp} {I : IM} {R : RM} : ev S d 209 636 [.inr (.inr 2), a1, a2, a3] st (sh, I, R) = ev S d 209 637 [.inr (.inr 2), a1, a2, a3] (.inr (.inr 2) :: st) (sh, I, R) := (ev_eq f_209_636).trans rfl
set_option maxRecDepth 100000 in
theorem f_209_637 : fetch 209 637 = some (637, .iload_n 3, 1, [3], 0) := (fm_209 637).trans rfl
theorem u_209_637 {S : Scr} {d : Nat} {a0 a1 a2 : AV} {st : List AV} {sh : Shp} {I : IM} {R : RM} {x : Int} : ev S d 209 637 [a0, a1, a2, .inl x] st (sh, I, R) = ev S d 209 638 [a0, a1, a2, .inl x] (.inl x :: st) (sh, I, R) := (ev_eq f_209_637).trans rfl
set_option maxRecDepth 100000 in
theorem f_209_638 : fetch 209 638 = some (638, .iconst 1, 1, [], 1) := (fm_209 638).trans rfl
theorem u_209_638 {S : Scr} {d : Nat} {a0 a1 a2 a3 : AV} {st : List AV} {sh : Shp} {I : IM} {R : RM} : ev S d 209 638 [a0, a1, a2, a3] st (sh, I, R) = ev S d 209 639 [a0, a1, a2, a3] (.inl 1 :: st) (sh, I, R) := (ev_eq f_209_638).trans rfl
set_option maxRecDepth 100000 in
theorem f_209_639 : fetch 209 639 = some (639, .iadd, 1, [], 0) := (fm_209 639).trans rfl
theorem u_209_639 {S : Scr} {d : Nat} {a0 a1 a2 a3 : AV} {st : List AV} {sh : Shp} {I : IM} {R : RM} {x y : Int} : ev S d 209 639 [a0, a1, a2, a3] (.inl y :: .inl x :: st) (sh, I, R) = ev S d 209 640 [a0, a1, a2, a3] (.inl (wr (x + y)) :: st) (sh, I, R) := (ev_eq f_209_639).trans rfl
set_option maxRecDepth 100000 in
theorem f_209_640 : fetch 209 640 = some (640, .iaload, 1, [], 0) := (fm_209 640).trans rfl
theorem u_209_640s {S : Scr} {d : Nat} {a0 a1 a2 a3 : AV} {st : List AV} {sh : Shp} {I : IM} {R : RM} {i : Int} (h0 : 0 ≤ i) (h1 : i < S.2) : ev S d 209 640 [a0, a1, a2, a3] (.inl i :: .inr (.inr 2) :: st) (sh, I, R) = ev S d 209 641 [a0, a1, a2, a3] (.inl (S.1 i) :: st) (sh, I, R) := (ev_eq f_209_640).trans (congrArg (fin S d 209) (if_pos ⟨h0, h1⟩))
set_option maxRecDepth 100000 in
theorem f_209_641 : fetch 209 641 = some (641, .invokevirtual 69, 3, [98, 1, 201], 0) := (fm_209 641).trans rfl
theorem u_209_641 {S : Scr} {d : Nat} {a0 a1 a2 a3 : AV} {st : List AV} {sh : Shp} {I : IM} {R : RM} {x0 : Int} {k : Nat} (h : tg sh k = 8) (hr : st.length ≤ 8) : ev S d 209 641 [a0, a1, a2, a3] (.inl x0 :: .inr (.inl k) :: st) (sh, I, R) = bnd (cl d 98 [.inr (.inl k), .inl x0] (sh, I, R)) (fun v M => ev S d 209 644 [a0, a1, a2, a3] (psh v st) M) := (ev_eq f_209_641).trans (congrArg (fin S d 209) (if_pos ⟨h, rfl, hr⟩))
set_option maxRecDepth 100000 in
theorem f_209_644 : fetch 209 644 = some (644, .aload_n 2, 1, [2], 0) := (fm_209 644).trans rfl
theorem u_209_644 {S : Scr} {d : Nat} {a0 a1 a3 : AV} {st : List AV} {sh : Shp} {I : IM} {R : RM} {x : Nat} : ev S d 209 644 [a0, a1, .inr (.inl x), a3] st (sh, I, R) = ev S d 209 645 [a0, a1, .inr (.inl x), a3] (.inr (.inl x) :: st) (sh, I, R) := (ev_eq f_209_644).trans rfl
set_option maxRecDepth 100000 in
theorem f_209_645 : fetch 209 645 = some (645, .aload_n 0, 1, [0], 0) := (fm_209 645).trans rfl
theorem u_209_645s {S : Scr} {d : Nat} {a1 a2 a3 : AV} {st : List AV} {sh : Shp} {I : IM} {R : RM} : ev S d 209 645 [.inr (.inr 2), a1, a2, a3] st (sh, I, R) = ev S d 209 646 [.inr (.inr 2), a1, a2, a3] (.inr (.inr 2) :: st) (sh, I, R) := (ev_eq f_209_645).trans rfl
set_option maxRecDepth 100000 in
theorem f_209_646 : fetch 209 646 = some (646, .iload_n 3, 1, [3], 0) := (fm_209 646).trans rfl
theorem u_209_646 {S : Scr} {d : Nat} {a0 a1 a2 : AV} {st : List AV} {sh : Shp} {I : IM} {R : RM} {x : Int} : ev S d 209 646 [a0, a1, a2, .inl x] st (sh, I, R) = ev S d 209 647 [a0, a1, a2, .inl x] (.inl x :: st) (sh, I, R) := (ev_eq f_209_646).trans rfl
set_option maxRecDepth 100000 in
theorem f_209_647 : fetch 209 647 = some (647, .iconst 1, 1, [], 1) := (fm_209 647).trans rfl
theorem u_209_647 {S : Scr} {d : Nat} {a0 a1 a2 a3 : AV} {st : List AV} {sh : Shp} {I : IM} {R : RM} : ev S d 209 647 [a0, a1, a2, a3] st (sh, I, R) = ev S d 209 648 [a0, a1, a2, a3] (.inl 1 :: st) (sh, I, R) := (ev_eq f_209_647).trans rfl
set_option maxRecDepth 100000 in
theorem f_209_648 : fetch 209 648 = some (648, .iadd, 1, [], 0) := (fm_209 648).trans rfl
theorem u_209_648 {S : Scr} {d : Nat} {a0 a1 a2 a3 : AV} {st : List AV} {sh : Shp} {I : IM} {R : RM} {x y : Int} : ev S d 209 648 [a0, a1, a2, a3] (.inl y :: .inl x :: st) (sh, I, R) = ev S d 209 649 [a0, a1, a2, a3] (.inl (wr (x + y)) :: st) (sh, I, R) := (ev_eq f_209_648).trans rfl
set_option maxRecDepth 100000 in
theorem f_209_649 : fetch 209 649 = some (649, .iaload, 1, [], 0) := (fm_209 649).trans rfl
theorem u_209_649s {S : Scr} {d : Nat} {a0 a1 a2 a3 : AV} {st : List AV} {sh : Shp} {I : IM} {R : RM} {i : Int} (h0 : 0 ≤ i) (h1 : i < S.2) : ev S d 209 649 [a0, a1, a2, a3] (.inl i :: .inr (.inr 2) :: st) (sh, I, R) = ev S d 209 650 [a0, a1, a2, a3] (.inl (S.1 i) :: st) (sh, I, R) := (ev_eq f_209_649).trans (congrArg (fin S d 209) (if_pos ⟨h0, h1⟩))
set_option maxRecDepth 100000 in
theorem f_209_650 : fetch 209 650 = some (650, .invokevirtual 72, 3, [167, 1, 202], 0) := (fm_209 650).trans rfl
theorem u_209_650 {S : Scr} {d : Nat} {a0 a1 a2 a3 : AV} {st : List AV} {sh : Shp} {I : IM} {R : RM} {x0 : Int} {k : Nat} (h : tg sh k = 9) (hr : st.length ≤ 8) : ev S d 209 650 [a0, a1, a2, a3] (.inl x0 :: .inr (.inl k) :: st) (sh, I, R) = bnd (cl d 167 [.inr (.inl k), .inl x0] (sh, I, R)) (fun v M => ev S d 209 653 [a0, a1, a2, a3] (psh v st) M) := (ev_eq f_209_650).trans (congrArg (fin S d 209) (if_pos ⟨h, rfl, hr⟩))
set_option maxRecDepth 100000 in
theorem f_209_653 : fetch 209 653 = some (653, .if_icmp .eq 519, 3, [1172], 0) := (fm_209 653).trans rfl
theorem u_209_653 {S : Scr} {d : Nat} {a0 a1 a2 a3 : AV} {st : List AV} {sh : Shp} {I : IM} {R : RM} {x y : Int} : ev S d 209 653 [a0, a1, a2, a3] (.inl y :: .inl x :: st) (sh, I, R) = if x = y then ev S d 209 1172 [a0, a1, a2, a3] st (sh, I, R) else ev S d 209 656 [a0, a1, a2, a3] st (sh, I, R) := (ev_eq f_209_653).trans fin_icmp_eq
set_option maxRecDepth 100000 in
theorem f_209_656 : fetch 209 656 = some (656, .iconst 0, 1, [], 0) := (fm_209 656).trans rfl
theorem u_209_656 {S : Scr} {d : Nat} {a0 a1 a2 a3 : AV} {st : List AV} {sh : Shp} {I : IM} {R : RM} : ev S d 209 656 [a0, a1, a2, a3] st (sh, I, R) = ev S d 209 657 [a0, a1, a2, a3] (.inl 0 :: st) (sh, I, R) := (ev_eq f_209_656).trans rfl
set_option maxRecDepth 100000 in
theorem f_209_657 : fetch 209 657 = some (657, .ireturn, 1, [1], 0) := (fm_209 657).trans rfl
theorem u_209_657 {S : Scr} {d : Nat} {a0 a1 a2 a3 : AV} {sh : Shp} {I : IM} {R : RM} {x : Int} (h : x = 0 ∨ x = 1) : ev S d 209 657 [a0, a1, a2, a3] [.inl x] (sh, I, R) = some (some (.inl x), (sh, I, R)) := (ev_eq f_209_657).trans (fin_iret1 h)
set_option maxRecDepth 100000 in
theorem f_209_658 : fetch 209 658 = some (658, .aload_n 1, 1, [1], 0) := (fm_209 658).trans rfl
theorem u_209_658 {S : Scr} {d : Nat} {a0 a2 a3 : AV} {st : List AV} {sh : Shp} {I : IM} {R : RM} {x : Nat} : ev S d 209 658 [a0, .inr (.inl x), a2, a3] st (sh, I, R) = ev S d 209 659 [a0, .inr (.inl x), a2, a3] (.inr (.inl x) :: st) (sh, I, R) := (ev_eq f_209_658).trans rfl
set_option maxRecDepth 100000 in
theorem f_209_659 : fetch 209 659 = some (659, .invokevirtual 73, 3, [99, 0, 203], 0) := (fm_209 659).trans rfl
theorem u_209_659 {S : Scr} {d : Nat} {a0 a1 a2 a3 : AV} {st : List AV} {sh : Shp} {I : IM} {R : RM} {k : Nat} (h : tg sh k = 8) (hr : st.length ≤ 8) : ev S d 209 659 [a0, a1, a2, a3] (.inr (.inl k) :: st) (sh, I, R) = bnd (cl d 99 [.inr (.inl k)] (sh, I, R)) (fun v M => ev S d 209 662 [a0, a1, a2, a3] (psh v st) M) := (ev_eq f_209_659).trans (congrArg (fin S d 209) (if_pos ⟨h, rfl, hr⟩))
set_option maxRecDepth 100000 in
theorem f_209_662 : fetch 209 662 = some (662, .aload_n 2, 1, [2], 0) := (fm_209 662).trans rfl
theorem u_209_662 {S : Scr} {d : Nat} {a0 a1 a3 : AV} {st : List AV} {sh : Shp} {I : IM} {R : RM} {x : Nat} : ev S d 209 662 [a0, a1, .inr (.inl x), a3] st (sh, I, R) = ev S d 209 663 [a0, a1, .inr (.inl x), a3] (.inr (.inl x) :: st) (sh, I, R) := (ev_eq f_209_662).trans rfl
set_option maxRecDepth 100000 in
theorem f_209_663 : fetch 209 663 = some (663, .invokevirtual 77, 3, [168, 0, 204], 0) := (fm_209 663).trans rfl
theorem u_209_663 {S : Scr} {d : Nat} {a0 a1 a2 a3 : AV} {st : List AV} {sh : Shp} {I : IM} {R : RM} {k : Nat} (h : tg sh k = 9) (hr : st.length ≤ 8) : ev S d 209 663 [a0, a1, a2, a3] (.inr (.inl k) :: st) (sh, I, R) = bnd (cl d 168 [.inr (.inl k)] (sh, I, R)) (fun v M => ev S d 209 666 [a0, a1, a2, a3] (psh v st) M) := (ev_eq f_209_663).trans (congrArg (fin S d 209) (if_pos ⟨h, rfl, hr⟩))
set_option maxRecDepth 100000 in
theorem f_209_666 : fetch 209 666 = some (666, .if_icmp .eq 506, 3, [1172], 0) := (fm_209 666).trans rfl
theorem u_209_666 {S : Scr} {d : Nat} {a0 a1 a2 a3 : AV} {st : List AV} {sh : Shp} {I : IM} {R : RM} {x y : Int} : ev S d 209 666 [a0, a1, a2, a3] (.inl y :: .inl x :: st) (sh, I, R) = if x = y then ev S d 209 1172 [a0, a1, a2, a3] st (sh, I, R) else ev S d 209 669 [a0, a1, a2, a3] st (sh, I, R) := (ev_eq f_209_666).trans fin_icmp_eq
set_option maxRecDepth 100000 in
theorem f_209_669 : fetch 209 669 = some (669, .iconst 0, 1, [], 0) := (fm_209 669).trans rfl
theorem u_209_669 {S : Scr} {d : Nat} {a0 a1 a2 a3 : AV} {st : List AV} {sh : Shp} {I : IM} {R : RM} : ev S d 209 669 [a0, a1, a2, a3] st (sh, I, R) = ev S d 209 670 [a0, a1, a2, a3] (.inl 0 :: st) (sh, I, R) := (ev_eq f_209_669).trans rfl
set_option maxRecDepth 100000 in
theorem f_209_670 : fetch 209 670 = some (670, .ireturn, 1, [1], 0) := (fm_209 670).trans rfl
theorem u_209_670 {S : Scr} {d : Nat} {a0 a1 a2 a3 : AV} {sh : Shp} {I : IM} {R : RM} {x : Int} (h : x = 0 ∨ x = 1) : ev S d 209 670 [a0, a1, a2, a3] [.inl x] (sh, I, R) = some (some (.inl x), (sh, I, R)) := (ev_eq f_209_670).trans (fin_iret1 h)
set_option maxRecDepth 100000 in
theorem f_209_671 : fetch 209 671 = some (671, .aload_n 1, 1, [1], 0) := (fm_209 671).trans rfl
theorem u_209_671 {S : Scr} {d : Nat} {a0 a2 a3 : AV} {st : List AV} {sh : Shp} {I : IM} {R : RM} {x : Nat} : ev S d 209 671 [a0, .inr (.inl x), a2, a3] st (sh, I, R) = ev S d 209 672 [a0, .inr (.inl x), a2, a3] (.inr (.inl x) :: st) (sh, I, R) := (ev_eq f_209_671).trans rfl
set_option maxRecDepth 100000 in
theorem f_209_672 : fetch 209 672 = some (672, .aload_n 0, 1, [0], 0) := (fm_209 672).trans rfl
theorem u_209_672s {S : Scr} {d : Nat} {a1 a2 a3 : AV} {st : List AV} {sh : Shp} {I : IM} {R : RM} : ev S d 209 672 [.inr (.inr 2), a1, a2, a3] st (sh, I, R) = ev S d 209 673 [.inr (.inr 2), a1, a2, a3] (.inr (.inr 2) :: st) (sh, I, R) := (ev_eq f_209_672).trans rfl
set_option maxRecDepth 100000 in
theorem f_209_673 : fetch 209 673 = some (673, .iload_n 3, 1, [3], 0) := (fm_209 673).trans rfl
theorem u_209_673 {S : Scr} {d : Nat} {a0 a1 a2 : AV} {st : List AV} {sh : Shp} {I : IM} {R : RM} {x : Int} : ev S d 209 673 [a0, a1, a2, .inl x] st (sh, I, R) = ev S d 209 674 [a0, a1, a2, .inl x] (.inl x :: st) (sh, I, R) := (ev_eq f_209_673).trans rfl
set_option maxRecDepth 100000 in
theorem f_209_674 : fetch 209 674 = some (674, .iconst 1, 1, [], 1) := (fm_209 674).trans rfl
theorem u_209_674 {S : Scr} {d : Nat} {a0 a1 a2 a3 : AV} {st : List AV} {sh : Shp} {I : IM} {R : RM} : ev S d 209 674 [a0, a1, a2, a3] st (sh, I, R) = ev S d 209 675 [a0, a1, a2, a3] (.inl 1 :: st) (sh, I, R) := (ev_eq f_209_674).trans rfl
set_option maxRecDepth 100000 in
theorem f_209_675 : fetch 209 675 = some (675, .iadd, 1, [], 0) := (fm_209 675).trans rfl
theorem u_209_675 {S : Scr} {d : Nat} {a0 a1 a2 a3 : AV} {st : List AV} {sh : Shp} {I : IM} {R : RM} {x y : Int} : ev S d 209 675 [a0, a1, a2, a3] (.inl y :: .inl x :: st) (sh, I, R) = ev S d 209 676 [a0, a1, a2, a3] (.inl (wr (x + y)) :: st) (sh, I, R) := (ev_eq f_209_675).trans rfl
set_option maxRecDepth 100000 in
theorem f_209_676 : fetch 209 676 = some (676, .iaload, 1, [], 0) := (fm_209 676).trans rfl
theorem u_209_676s {S : Scr} {d : Nat} {a0 a1 a2 a3 : AV} {st : List AV} {sh : Shp} {I : IM} {R : RM} {i : Int} (h0 : 0 ≤ i) (h1 : i < S.2) : ev S d 209 676 [a0, a1, a2, a3] (.inl i :: .inr (.inr 2) :: st) (sh, I, R) = ev S d 209 677 [a0, a1, a2, a3] (.inl (S.1 i) :: st) (sh, I, R) := (ev_eq f_209_676).trans (congrArg (fin S d 209) (if_pos ⟨h0, h1⟩))
set_option maxRecDepth 100000 in
theorem f_209_677 : fetch 209 677 = some (677, .aload_n 0, 1, [0], 0) := (fm_209 677).trans rfl
theorem u_209_677s {S : Scr} {d : Nat} {a1 a2 a3 : AV} {st : List AV} {sh : Shp} {I : IM} {R : RM} : ev S d 209 677 [.inr (.inr 2), a1, a2, a3] st (sh, I, R) = ev S d 209 678 [.inr (.inr 2), a1, a2, a3] (.inr (.inr 2) :: st) (sh, I, R) := (ev_eq f_209_677).trans rfl
set_option maxRecDepth 100000 in
theorem f_209_678 : fetch 209 678 = some (678, .iload_n 3, 1, [3], 0) := (fm_209 678).trans rfl
theorem u_209_678 {S : Scr} {d : Nat} {a0 a1 a2 : AV} {st : List AV} {sh : Shp} {I : IM} {R : RM} {x : Int} : ev S d 209 678 [a0, a1, a2, .inl x] st (sh, I, R) = ev S d 209 679 [a0, a1, a2, .inl x] (.inl x :: st) (sh, I, R) := (ev_eq f_209_678).trans rfl
set_option maxRecDepth 100000 in
theorem f_209_679 : fetch 209 679 = some (679, .iconst 2, 1, [], 2) := (fm_209 679).trans rfl
theorem u_209_679 {S : Scr} {d : Nat} {a0 a1 a2 a3 : AV} {st : List AV} {sh : Shp} {I : IM} {R : RM} : ev S d 209 679 [a0, a1, a2, a3] st (sh, I, R) = ev S d 209 680 [a0, a1, a2, a3] (.inl 2 :: st) (sh, I, R) := (ev_eq f_209_679).trans rfl
set_option maxRecDepth 100000 in
theorem f_209_680 : fetch 209 680 = some (680, .iadd, 1, [], 0) := (fm_209 680).trans rfl
theorem u_209_680 {S : Scr} {d : Nat} {a0 a1 a2 a3 : AV} {st : List AV} {sh : Shp} {I : IM} {R : RM} {x y : Int} : ev S d 209 680 [a0, a1, a2, a3] (.inl y :: .inl x :: st) (sh, I, R) = ev S d 209 681 [a0, a1, a2, a3] (.inl (wr (x + y)) :: st) (sh, I, R) := (ev_eq f_209_680).trans rfl
set_option maxRecDepth 100000 in
theorem f_209_681 : fetch 209 681 = some (681, .iaload, 1, [], 0) := (fm_209 681).trans rfl
theorem u_209_681s {S : Scr} {d : Nat} {a0 a1 a2 a3 : AV} {st : List AV} {sh : Shp} {I : IM} {R : RM} {i : Int} (h0 : 0 ≤ i) (h1 : i < S.2) : ev S d 209 681 [a0, a1, a2, a3] (.inl i :: .inr (.inr 2) :: st) (sh, I, R) = ev S d 209 682 [a0, a1, a2, a3] (.inl (S.1 i) :: st) (sh, I, R) := (ev_eq f_209_681).trans (congrArg (fin S d 209) (if_pos ⟨h0, h1⟩))
set_option maxRecDepth 100000 in
theorem f_209_682 : fetch 209 682 = some (682, .invokevirtual 78, 3, [100, 2, 205], 0) := (fm_209 682).trans rfl
theorem u_209_682 {S : Scr} {d : Nat} {a0 a1 a2 a3 : AV} {st : List AV} {sh : Shp} {I : IM} {R : RM} {x0 : Int} {x1 : Int} {k : Nat} (h : tg sh k = 8) (hr : st.length ≤ 8) : ev S d 209 682 [a0, a1, a2, a3] (.inl x1 :: .inl x0 :: .inr (.inl k) :: st) (sh, I, R) = bnd (cl d 100 [.inr (.inl k), .inl x0, .inl x1] (sh, I, R)) (fun v M => ev S d 209 685 [a0, a1, a2, a3] (psh v st) M) := (ev_eq f_209_682).trans (congrArg (fin S d 209) (if_pos ⟨h, rfl, hr⟩))
set_option maxRecDepth 100000 in
theorem f_209_685 : fetch 209 685 = some (685, .aload_n 2, 1, [2], 0) := (fm_209 685).trans rfl
theorem u_209_685 {S : Scr} {d : Nat} {a0 a1 a3 : AV} {st : List AV} {sh : Shp} {I : IM} {R : RM} {x : Nat} : ev S d 209 685 [a0, a1, .inr (.inl x), a3] st (sh, I, R) = ev S d 209 686 [a0, a1, .inr (.inl x), a3] (.inr (.inl x) :: st) (sh, I, R) := (ev_eq f_209_685).trans rfl
set_option maxRecDepth 100000 in
theorem f_209_686 : fetch 209 686 = some (686, .aload_n 0, 1, [0], 0) := (fm_209 686).trans rfl
theorem u_209_686s {S : Scr} {d : Nat} {a1 a2 a3 : AV} {st : List AV} {sh : Shp} {I : IM} {R : RM} : ev S d 209 686 [.inr (.inr 2), a1, a2, a3] st (sh, I, R) = ev S d 209 687 [.inr (.inr 2), a1, a2, a3] (.inr (.inr 2) :: st) (sh, I, R) := (ev_eq f_209_686).trans rfl
set_option maxRecDepth 100000 in
theorem f_209_687 : fetch 209 687 = some (687, .iload_n 3, 1, [3], 0) := (fm_209 687).trans rfl
theorem u_209_687 {S : Scr} {d : Nat} {a0 a1 a2 : AV} {st : List AV} {sh : Shp} {I : IM} {R : RM} {x : Int} : ev S d 209 687 [a0, a1, a2, .inl x] st (sh, I, R) = ev S d 209 688 [a0, a1, a2, .inl x] (.inl x :: st) (sh, I, R) := (ev_eq f_209_687).trans rfl
set_option maxRecDepth 100000 in
theorem f_209_688 : fetch 209 688 = some (688, .iconst 1, 1, [], 1) := (fm_209 688).trans rfl
theorem u_209_688 {S : Scr} {d : Nat} {a0 a1 a2 a3 : AV} {st : List AV} {sh : Shp} {I : IM} {R : RM} : ev S d 209 688 [a0, a1, a2, a3] st (sh, I, R) = ev S d 209 689 [a0, a1, a2, a3] (.inl 1 :: st) (sh, I, R) := (ev_eq f_209_688).trans rfl
set_option maxRecDepth 100000 in
theorem f_209_689 : fetch 209 689 = some (689, .iadd, 1, [], 0) := (fm_209 689).trans rfl
theorem u_209_689 {S : Scr} {d : Nat} {a0 a1 a2 a3 : AV} {st : List AV} {sh : Shp} {I : IM} {R : RM} {x y : Int} : ev S d 209 689 [a0, a1, a2, a3] (.inl y :: .inl x :: st) (sh, I, R) = ev S d 209 690 [a0, a1, a2, a3] (.inl (wr (x + y)) :: st) (sh, I, R) := (ev_eq f_209_689).trans rfl
set_option maxRecDepth 100000 in
theorem f_209_690 : fetch 209 690 = some (690, .iaload, 1, [], 0) := (fm_209 690).trans rfl
theorem u_209_690s {S : Scr} {d : Nat} {a0 a1 a2 a3 : AV} {st : List AV} {sh : Shp} {I : IM} {R : RM} {i : Int} (h0 : 0 ≤ i) (h1 : i < S.2) : ev S d 209 690 [a0, a1, a2, a3] (.inl i :: .inr (.inr 2) :: st) (sh, I, R) = ev S d 209 691 [a0, a1, a2, a3] (.inl (S.1 i) :: st) (sh, I, R) := (ev_eq f_209_690).trans (congrArg (fin S d 209) (if_pos ⟨h0, h1⟩))
set_option maxRecDepth 100000 in
theorem f_209_691 : fetch 209 691 = some (691, .aload_n 0, 1, [0], 0) := (fm_209 691).trans rfl
theorem u_209_691s {S : Scr} {d : Nat} {a1 a2 a3 : AV} {st : List AV} {sh : Shp} {I : IM} {R : RM} : ev S d 209 691 [.inr (.inr 2), a1, a2, a3] st (sh, I, R) = ev S d 209 692 [.inr (.inr 2), a1, a2, a3] (.inr (.inr 2) :: st) (sh, I, R) := (ev_eq f_209_691).trans rfl
set_option maxRecDepth 100000 in
theorem f_209_692 : fetch 209 692 = some (692, .iload_n 3, 1, [3], 0) := (fm_209 692).trans rfl
theorem u_209_692 {S : Scr} {d : Nat} {a0 a1 a2 : AV} {st : List AV} {sh : Shp} {I : IM} {R : RM} {x : Int} : ev S d 209 692 [a0, a1, a2, .inl x] st (sh, I, R) = ev S d 209 693 [a0, a1, a2, .inl x] (.inl x :: st) (sh, I, R) := (ev_eq f_209_692).trans rfl
set_option maxRecDepth 100000 in
theorem f_209_693 : fetch 209 693 = some (693, .iconst 2, 1, [], 2) := (fm_209 693).trans rfl
theorem u_209_693 {S : Scr} {d : Nat} {a0 a1 a2 a3 : AV} {st : List AV} {sh : Shp} {I : IM} {R : RM} : ev S d 209 693 [a0, a1, a2, a3] st (sh, I, R) = ev S d 209 694 [a0, a1, a2, a3] (.inl 2 :: st) (sh, I, R) := (ev_eq f_209_693).trans rfl
set_option maxRecDepth 100000 in
theorem f_209_694 : fetch 209 694 = some (694, .iadd, 1, [], 0) := (fm_209 694).trans rfl
theorem u_209_694 {S : Scr} {d : Nat} {a0 a1 a2 a3 : AV} {st : List AV} {sh : Shp} {I : IM} {R : RM} {x y : Int} : ev S d 209 694 [a0, a1, a2, a3] (.inl y :: .inl x :: st) (sh, I, R) = ev S d 209 695 [a0, a1, a2, a3] (.inl (wr (x + y)) :: st) (sh, I, R) := (ev_eq f_209_694).trans rfl
set_option maxRecDepth 100000 in
theorem f_209_695 : fetch 209 695 = some (695, .iaload, 1, [], 0) := (fm_209 695).trans rfl
theorem u_209_695s {S : Scr} {d : Nat} {a0 a1 a2 a3 : AV} {st : List AV} {sh : Shp} {I : IM} {R : RM} {i : Int} (h0 : 0 ≤ i) (h1 : i < S.2) : ev S d 209 695 [a0, a1, a2, a3] (.inl i :: .inr (.inr 2) :: st) (sh, I, R) = ev S d 209 696 [a0, a1, a2, a3] (.inl (S.1 i) :: st) (sh, I, R) := (ev_eq f_209_695).trans (congrArg (fin S d 209) (if_pos ⟨h0, h1⟩))
set_option maxRecDepth 100000 in
theorem f_209_696 : fetch 209 696 = some (696, .invokevirtual 81, 3, [170, 2, 206], 0) := (fm_209 696).trans rfl
theorem u_209_696 {S : Scr} {d : Nat} {a0 a1 a2 a3 : AV} {st : List AV} {sh : Shp} {I : IM} {R : RM} {x0 : Int} {x1 : Int} {k : Nat} (h : tg sh k = 9) (hr : st.length ≤ 8) : ev S d 209 696 [a0, a1, a2, a3] (.inl x1 :: .inl x0 :: .inr (.inl k) :: st) (sh, I, R) = bnd (cl d 170 [.inr (.inl k), .inl x0, .inl x1] (sh, I, R)) (fun v M => ev S d 209 699 [a0, a1, a2, a3] (psh v st) M) := (ev_eq f_209_696).trans (congrArg (fin S d 209) (if_pos ⟨h, rfl, hr⟩))
set_option maxRecDepth 100000 in
theorem f_209_699 : fetch 209 699 = some (699, .if_icmp .eq 473, 3, [1172], 0) := (fm_209 699).trans rfl
theorem u_209_699 {S : Scr} {d : Nat} {a0 a1 a2 a3 : AV} {st : List AV} {sh : Shp} {I : IM} {R : RM} {x y : Int} : ev S d 209 699 [a0, a1, a2, a3] (.inl y :: .inl x :: st) (sh, I, R) = if x = y then ev S d 209 1172 [a0, a1, a2, a3] st (sh, I, R) else ev S d 209 702 [a0, a1, a2, a3] st (sh, I, R) := (ev_eq f_209_699).trans fin_icmp_eq
set_option maxRecDepth 100000 in
theorem f_209_702 : fetch 209 702 = some (702, .iconst 0, 1, [], 0) := (fm_209 702).trans rfl
theorem u_209_702 {S : Scr} {d : Nat} {a0 a1 a2 a3 : AV} {st : List AV} {sh : Shp} {I : IM} {R : RM} : ev S d 209 702 [a0, a1, a2, a3] st (sh, I, R) = ev S d 209 703 [a0, a1, a2, a3] (.inl 0 :: st) (sh, I, R) := (ev_eq f_209_702).trans rfl
set_option maxRecDepth 100000 in
theorem f_209_703 : fetch 209 703 = some (703, .ireturn, 1, [1], 0) := (fm_209 703).trans rfl
theorem u_209_703 {S : Scr} {d : Nat} {a0 a1 a2 a3 : AV} {sh : Shp} {I : IM} {R : RM} {x : Int} (h : x = 0 ∨ x = 1) : ev S d 209 703 [a0, a1, a2, a3] [.inl x] (sh, I, R) = some (some (.inl x), (sh, I, R)) := (ev_eq f_209_703).trans (fin_iret1 h)
set_option maxRecDepth 100000 in
theorem f_209_704 : fetch 209 704 = some (704, .aload_n 1, 1, [1], 0) := (fm_209 704).trans rfl
theorem u_209_704 {S : Scr} {d : Nat} {a0 a2 a3 : AV} {st : List AV} {sh : Shp} {I : IM} {R : RM} {x : Nat} : ev S d 209 704 [a0, .inr (.inl x), a2, a3] st (sh, I, R) = ev S d 209 705 [a0, .inr (.inl x), a2, a3] (.inr (.inl x) :: st) (sh, I, R) := (ev_eq f_209_704).trans rfl
set_option maxRecDepth 100000 in
theorem f_209_705 : fetch 209 705 = some (705, .aload_n 0, 1, [0], 0) := (fm_209 705).trans rfl
theorem u_209_705s {S : Scr} {d : Nat} {a1 a2 a3 : AV} {st : List AV} {sh : Shp} {I : IM} {R : RM} : ev S d 209 705 [.inr (.inr 2), a1, a2, a3] st (sh, I, R) = ev S d 209 706 [.inr (.inr 2), a1, a2, a3] (.inr (.inr 2) :: st) (sh, I, R) := (ev_eq f_209_705).trans rfl
set_option maxRecDepth 100000 in
theorem f_209_706 : fetch 209 706 = some (706, .iload_n 3, 1, [3], 0) := (fm_209 706).trans rfl
theorem u_209_706 {S : Scr} {d : Nat} {a0 a1 a2 : AV} {st : List AV} {sh : Shp} {I : IM} {R : RM} {x : Int} : ev S d 209 706 [a0, a1, a2, .inl x] st (sh, I, R) = ev S d 209 707 [a0, a1, a2, .inl x] (.inl x :: st) (sh, I, R) := (ev_eq f_209_706).trans rfl
set_option maxRecDepth 100000 in
theorem f_209_707 : fetch 209 707 = some (707, .iconst 1, 1, [], 1) := (fm_209 707).trans rfl
theorem u_209_707 {S : Scr} {d : Nat} {a0 a1 a2 a3 : AV} {st : List AV} {sh : Shp} {I : IM} {R : RM} : ev S d 209 707 [a0, a1, a2, a3] st (sh, I, R) = ev S d 209 708 [a0, a1, a2, a3] (.inl 1 :: st) (sh, I, R) := (ev_eq f_209_707).trans rfl
set_option maxRecDepth 100000 in
theorem f_209_708 : fetch 209 708 = some (708, .iadd, 1, [], 0) := (fm_209 708).trans rfl
theorem u_209_708 {S : Scr} {d : Nat} {a0 a1 a2 a3 : AV} {st : List AV} {sh : Shp} {I : IM} {R : RM} {x y : Int} : ev S d 209 708 [a0, a1, a2, a3] (.inl y :: .inl x :: st) (sh, I, R) = ev S d 209 709 [a0, a1, a2, a3] (.inl (wr (x + y)) :: st) (sh, I, R) := (ev_eq f_209_708).trans rfl
set_option maxRecDepth 100000 in
theorem f_209_709 : fetch 209 709 = some (709, .iaload, 1, [], 0) := (fm_209 709).trans rfl
theorem u_209_709s {S : Scr} {d : Nat} {a0 a1 a2 a3 : AV} {st : List AV} {sh : Shp} {I : IM} {R : RM} {i : Int} (h0 : 0 ≤ i) (h1 : i < S.2) : ev S d 209 709 [a0, a1, a2, a3] (.inl i :: .inr (.inr 2) :: st) (sh, I, R) = ev S d 209 710 [a0, a1, a2, a3] (.inl (S.1 i) :: st) (sh, I, R) := (ev_eq f_209_709).trans (congrArg (fin S d 209) (if_pos ⟨h0, h1⟩))
set_option maxRecDepth 100000 in
theorem f_209_710 : fetch 209 710 = some (710, .aload_n 0, 1, [0], 0) := (fm_209 710).trans rfl
theorem u_209_710s {S : Scr} {d : Nat} {a1 a2 a3 : AV} {st : List AV} {sh : Shp} {I : IM} {R : RM} : ev S d 209 710 [.inr (.inr 2), a1, a2, a3] st (sh, I, R) = ev S d 209 711 [.inr (.inr 2), a1, a2, a3] (.inr (.inr 2) :: st) (sh, I, R) := (ev_eq f_209_710).trans rfl
set_option maxRecDepth 100000 in
theorem f_209_711 : fetch 209 711 = some (711, .iload_n 3, 1, [3], 0) := (fm_209 711).trans rfl
theorem u_209_711 {S : Scr} {d : Nat} {a0 a1 a2 : AV} {st : List AV} {sh : Shp} {I : IM} {R : RM} {x : Int} : ev S d 209 711 [a0, a1, a2, .inl x] st (sh, I, R) = ev S d 209 712 [a0, a1, a2, .inl x] (.inl x :: st) (sh, I, R) := (ev_eq f_209_711).trans rfl
set_option maxRecDepth 100000 in
theorem f_209_712 : fetch 209 712 = some (712, .iconst 2, 1, [], 2) := (fm_209 712).trans rfl
theorem u_209_712 {S : Scr} {d : Nat} {a0 a1 a2 a3 : AV} {st : List AV} {sh : Shp} {I : IM} {R : RM} : ev S d 209 712 [a0, a1, a2, a3] st (sh, I, R) = ev S d 209 713 [a0, a1, a2, a3] (.inl 2 :: st) (sh, I, R) := (ev_eq f_209_712).trans rfl
set_option maxRecDepth 100000 in
theorem f_209_713 : fetch 209 713 = some (713, .iadd, 1, [], 0) := (fm_209 713).trans rfl
theorem u_209_713 {S : Scr} {d : Nat} {a0 a1 a2 a3 : AV} {st : List AV} {sh : Shp} {I : IM} {R : RM} {x y : Int} : ev S d 209 713 [a0, a1, a2, a3] (.inl y :: .inl x :: st) (sh, I, R) = ev S d 209 714 [a0, a1, a2, a3] (.inl (wr (x + y)) :: st) (sh, I, R) := (ev_eq f_209_713).trans rfl
set_option maxRecDepth 100000 in
theorem f_209_714 : fetch 209 714 = some (714, .iaload, 1, [], 0) := (fm_209 714).trans rfl
theorem u_209_714s {S : Scr} {d : Nat} {a0 a1 a2 a3 : AV} {st : List AV} {sh : Shp} {I : IM} {R : RM} {i : Int} (h0 : 0 ≤ i) (h1 : i < S.2) : ev S d 209 714 [a0, a1, a2, a3] (.inl i :: .inr (.inr 2) :: st) (sh, I, R) = ev S d 209 715 [a0, a1, a2, a3] (.inl (S.1 i) :: st) (sh, I, R) := (ev_eq f_209_714).trans (congrArg (fin S d 209) (if_pos ⟨h0, h1⟩))
set_option maxRecDepth 100000 in
theorem f_209_715 : fetch 209 715 = some (715, .aload_n 0, 1, [0], 0) := (fm_209 715).trans rfl
theorem u_209_715s {S : Scr} {d : Nat} {a1 a2 a3 : AV} {st : List AV} {sh : Shp} {I : IM} {R : RM} : ev S d 209 715 [.inr (.inr 2), a1, a2, a3] st (sh, I, R) = ev S d 209 716 [.inr (.inr 2), a1, a2, a3] (.inr (.inr 2) :: st) (sh, I, R) := (ev_eq f_209_715).trans rfl
set_option maxRecDepth 100000 in
theorem f_209_716 : fetch 209 716 = some (716, .iload_n 3, 1, [3], 0) := (fm_209 716).trans rfl
theorem u_209_716 {S : Scr} {d : Nat} {a0 a1 a2 : AV} {st : List AV} {sh : Shp} {I : IM} {R : RM} {x : Int} : ev S d 209 716 [a0, a1, a2, .inl x] st (sh, I, R) = ev S d 209 717 [a0, a1, a2, .inl x] (.inl x :: st) (sh, I, R) := (ev_eq f_209_716).trans rfl
set_option maxRecDepth 100000 in
theorem f_209_717 : fetch 209 717 = some (717, .iconst 3, 1, [], 3) := (fm_209 717).trans rfl
theorem u_209_717 {S : Scr} {d : Nat} {a0 a1 a2 a3 : AV} {st : List AV} {sh : Shp} {I : IM} {R : RM} : ev S d 209 717 [a0, a1, a2, a3] st (sh, I, R) = ev S d 209 718 [a0, a1, a2, a3] (.inl 3 :: st) (sh, I, R) := (ev_eq f_209_717).trans rfl
set_option maxRecDepth 100000 in
theorem f_209_718 : fetch 209 718 = some (718, .iadd, 1, [], 0) := (fm_209 718).trans rfl
theorem u_209_718 {S : Scr} {d : Nat} {a0 a1 a2 a3 : AV} {st : List AV} {sh : Shp} {I : IM} {R : RM} {x y : Int} : ev S d 209 718 [a0, a1, a2, a3] (.inl y :: .inl x :: st) (sh, I, R) = ev S d 209 719 [a0, a1, a2, a3] (.inl (wr (x + y)) :: st) (sh, I, R) := (ev_eq f_209_718).trans rfl
set_option maxRecDepth 100000 in
theorem f_209_719 : fetch 209 719 = some (719, .iaload, 1, [], 0) := (fm_209 719).trans rfl
theorem u_209_719s {S : Scr} {d : Nat} {a0 a1 a2 a3 : AV} {st : List AV} {sh : Shp} {I : IM} {R : RM} {i : Int} (h0 : 0 ≤ i) (h1 : i < S.2) : ev S d 209 719 [a0, a1, a2, a3] (.inl i :: .inr (.inr 2) :: st) (sh, I, R) = ev S d 209 720 [a0, a1, a2, a3] (.inl (S.1 i) :: st) (sh, I, R) := (ev_eq f_209_719).trans (congrArg (fin S d 209) (if_pos ⟨h0, h1⟩))
set_option maxRecDepth 100000 in
theorem f_209_720 : fetch 209 720 = some (720, .invokevirtual 82, 3, [101, 3, 207], 0) := (fm_209 720).trans rfl
theorem u_209_720 {S : Scr} {d : Nat} {a0 a1 a2 a3 : AV} {st : List AV} {sh : Shp} {I : IM} {R : RM} {x0 : Int} {x1 : Int} {x2 : Int} {k : Nat} (h : tg sh k = 8) (hr : st.length ≤ 8) : ev S d 209 720 [a0, a1, a2, a3] (.inl x2 :: .inl x1 :: .inl x0 :: .inr (.inl k) :: st) (sh, I, R) = bnd (cl d 101 [.inr (.inl k), .inl x0, .inl x1, .inl x2] (sh, I, R)) (fun v M => ev S d 209 723 [a0, a1, a2, a3] (psh v st) M) := (ev_eq f_209_720).trans (congrArg (fin S d 209) (if_pos ⟨h, rfl, hr⟩))
set_option maxRecDepth 100000 in
theorem f_209_723 : fetch 209 723 = some (723, .aload_n 2, 1, [2], 0) := (fm_209 723).trans rfl
theorem u_209_723 {S : Scr} {d : Nat} {a0 a1 a3 : AV} {st : List AV} {sh : Shp} {I : IM} {R : RM} {x : Nat} : ev S d 209 723 [a0, a1, .inr (.inl x), a3] st (sh, I, R) = ev S d 209 724 [a0, a1, .inr (.inl x), a3] (.inr (.inl x) :: st) (sh, I, R) := (ev_eq f_209_723).trans rfl
set_option maxRecDepth 100000 in
theorem f_209_724 : fetch 209 724 = some (724, .aload_n 0, 1, [0], 0) := (fm_209 724).trans rfl
theorem u_209_724s {S : Scr} {d : Nat} {a1 a2 a3 : AV} {st : List AV} {sh : Shp} {I : IM} {R : RM} : ev S d 209 724 [.inr (.inr 2), a1, a2, a3] st (sh, I, R) = ev S d 209 725 [.inr (.inr 2), a1, a2, a3] (.inr (.inr 2) :: st) (sh, I, R) := (ev_eq f_209_724).trans rfl
set_option maxRecDepth 100000 in
theorem f_209_725 : fetch 209 725 = some (725, .iload_n 3, 1, [3], 0) := (fm_209 725).trans rfl
theorem u_209_725 {S : Scr} {d : Nat} {a0 a1 a2 : AV} {st : List AV} {sh : Shp} {I : IM} {R : RM} {x : Int} : ev S d 209 725 [a0, a1, a2, .inl x] st (sh, I, R) = ev S d 209 726 [a0, a1, a2, .inl x] (.inl x :: st) (sh, I, R) := (ev_eq f_209_725).trans rfl
set_option maxRecDepth 100000 in
theorem f_209_726 : fetch 209 726 = some (726, .iconst 1, 1, [], 1) := (fm_209 726).trans rfl
theorem u_209_726 {S : Scr} {d : Nat} {a0 a1 a2 a3 : AV} {st : List AV} {sh : Shp} {I : IM} {R : RM} : ev S d 209 726 [a0, a1, a2, a3] st (sh, I, R) = ev S d 209 727 [a0, a1, a2, a3] (.inl 1 :: st) (sh, I, R) := (ev_eq f_209_726).trans rfl
set_option maxRecDepth 100000 in
theorem f_209_727 : fetch 209 727 = some (727, .iadd, 1, [], 0) := (fm_209 727).trans rfl
theorem u_209_727 {S : Scr} {d : Nat} {a0 a1 a2 a3 : AV} {st : List AV} {sh : Shp} {I : IM} {R : RM} {x y : Int} : ev S d 209 727 [a0, a1, a2, a3] (.inl y :: .inl x :: st) (sh, I, R) = ev S d 209 728 [a0, a1, a2, a3] (.inl (wr (x + y)) :: st) (sh, I, R) := (ev_eq f_209_727).trans rfl
set_option maxRecDepth 100000 in
theorem f_209_728 : fetch 209 728 = some (728, .iaload, 1, [], 0) := (fm_209 728).trans rfl
theorem u_209_728s {S : Scr} {d : Nat} {a0 a1 a2 a3 : AV} {st : List AV} {sh : Shp} {I : IM} {R : RM} {i : Int} (h0 : 0 ≤ i) (h1 : i < S.2) : ev S d 209 728 [a0, a1, a2, a3] (.inl i :: .inr (.inr 2) :: st) (sh, I, R) = ev S d 209 729 [a0, a1, a2, a3] (.inl (S.1 i) :: st) (sh, I, R) := (ev_eq f_209_728).trans (congrArg (fin S d 209) (if_pos ⟨h0, h1⟩))
set_option maxRecDepth 100000 in
theorem f_209_729 : fetch 209 729 = some (729, .aload_n 0, 1, [0], 0) := (fm_209 729).trans rfl
theorem u_209_729s {S : Scr} {d : Nat} {a1 a2 a3 : AV} {st : List AV} {sh : Shp} {I : IM} {R : RM} : ev S d 209 729 [.inr (.inr 2), a1, a2, a3] st (sh, I, R) = ev S d 209 730 [.inr (.inr 2), a1, a2, a3] (.inr (.inr 2) :: st) (sh, I, R) := (ev_eq f_209_729).trans rfl
set_option maxRecDepth 100000 in
theorem f_209_730 : fetch 209 730 = some (730, .iload_n 3, 1, [3], 0) := (fm_209 730).trans rfl
theorem u_209_730 {S : Scr} {d : Nat} {a0 a1 a2 : AV} {st : List AV} {sh : Shp} {I : IM} {R : RM} {x : Int} : ev S d 209 730 [a0, a1, a2, .inl x] st (sh, I, R) = ev S d 209 731 [a0, a1, a2, .inl x] (.inl x :: st) (sh, I, R) := (ev_eq f_209_730).trans rfl
set_option maxRecDepth 100000 in
theorem f_209_731 : fetch 209 731 = some (731, .iconst 2, 1, [], 2) := (fm_209 731).trans rfl
theorem u_209_731 {S : Scr} {d : Nat} {a0 a1 a2 a3 : AV} {st : List AV} {sh : Shp} {I : IM} {R : RM} : ev S d 209 731 [a0, a1, a2, a3] st (sh, I, R) = ev S d 209 732 [a0, a1, a2, a3] (.inl 2 :: st) (sh, I, R) := (ev_eq f_209_731).trans rfl
set_option maxRecDepth 100000 in
theorem f_209_732 : fetch 209 732 = some (732, .iadd, 1, [], 0) := (fm_209 732).trans rfl
theorem u_209_732 {S : Scr} {d : Nat} {a0 a1 a2 a3 : AV} {st : List AV} {sh : Shp} {I : IM} {R : RM} {x y : Int} : ev S d 209 732 [a0, a1, a2, a3] (.inl y :: .inl x :: st) (sh, I, R) = ev S d 209 733 [a0, a1, a2, a3] (.inl (wr (x + y)) :: st) (sh, I, R) := (ev_eq f_209_732).trans rfl
set_option maxRecDepth 100000 in
theorem f_209_733 : fetch 209 733 = some (733, .iaload, 1, [], 0) := (fm_209 733).trans rfl
theorem u_209_733s {S : Scr} {d : Nat} {a0 a1 a2 a3 : AV} {st : List AV} {sh : Shp} {I : IM} {R : RM} {i : Int} (h0 : 0 ≤ i) (h1 : i < S.2) : ev S d 209 733 [a0, a1, a2, a3] (.inl i :: .inr (.inr 2) :: st) (sh, I, R) = ev S d 209 734 [a0, a1, a2, a3] (.inl (S.1 i) :: st) (sh, I, R) := (ev_eq f_209_733).trans (congrArg (fin S d 209) (if_pos ⟨h0, h1⟩))
set_option maxRecDepth 100000 in
theorem f_209_734 : fetch 209 734 = some (734, .aload_n 0, 1, [0], 0) := (fm_209 734).trans rfl
theorem u_209_734s {S : Scr} {d : Nat} {a1 a2 a3 : AV} {st : List AV} {sh : Shp} {I : IM} {R : RM} : ev S d 209 734 [.inr (.inr 2), a1, a2, a3] st (sh, I, R) = ev S d 209 735 [.inr (.inr 2), a1, a2, a3] (.inr (.inr 2) :: st) (sh, I, R) := (ev_eq f_209_734).trans rfl
set_option maxRecDepth 100000 in
theorem f_209_735 : fetch 209 735 = some (735, .iload_n 3, 1, [3], 0) := (fm_209 735).trans rfl
theorem u_209_735 {S : Scr} {d : Nat} {a0 a1 a2 : AV} {st : List AV} {sh : Shp} {I : IM} {R : RM} {x : Int} : ev S d 209 735 [a0, a1, a2, .inl x] st (sh, I, R) = ev S d 209 736 [a0, a1, a2, .inl x] (.inl x :: st) (sh, I, R) := (ev_eq f_209_735).trans rfl
set_option maxRecDepth 100000 in
theorem f_209_736 : fetch 209 736 = some (736, .iconst 3, 1, [], 3) := (fm_209 736).trans rfl
theorem u_209_736 {S : Scr} {d : Nat} {a0 a1 a2 a3 : AV} {st : List AV} {sh : Shp} {I : IM} {R : RM} : ev S d 209 736 [a0, a1, a2, a3] st (sh, I, R) = ev S d 209 737 [a0, a1, a2, a3] (.inl 3 :: st) (sh, I, R) := (ev_eq f_209_736).trans rfl
set_option maxRecDepth 100000 in
theorem f_209_737 : fetch 209 737 = some (737, .iadd, 1, [], 0) := (fm_209 737).trans rfl
theorem u_209_737 {S : Scr} {d : Nat} {a0 a1 a2 a3 : AV} {st : List AV} {sh : Shp} {I : IM} {R : RM} {x y : Int} : ev S d 209 737 [a0, a1, a2, a3] (.inl y :: .inl x :: st) (sh, I, R) = ev S d 209 738 [a0, a1, a2, a3] (.inl (wr (x + y)) :: st) (sh, I, R) := (ev_eq f_209_737).trans rfl
set_option maxRecDepth 100000 in
theorem f_209_738 : fetch 209 738 = some (738, .iaload, 1, [], 0) := (fm_209 738).trans rfl
theorem u_209_738s {S : Scr} {d : Nat} {a0 a1 a2 a3 : AV} {st : List AV} {sh : Shp} {I : IM} {R : RM} {i : Int} (h0 : 0 ≤ i) (h1 : i < S.2) : ev S d 209 738 [a0, a1, a2, a3] (.inl i :: .inr (.inr 2) :: st) (sh, I, R) = ev S d 209 739 [a0, a1, a2, a3] (.inl (S.1 i) :: st) (sh, I, R) := (ev_eq f_209_738).trans (congrArg (fin S d 209) (if_pos ⟨h0, h1⟩))
set_option maxRecDepth 100000 in
theorem f_209_739 : fetch 209 739 = some (739, .invokevirtual 85, 3, [171, 3, 208], 0) := (fm_209 739).trans rfl
theorem u_209_739 {S : Scr} {d : Nat} {a0 a1 a2 a3 : AV} {st : List AV} {sh : Shp} {I : IM} {R : RM} {x0 : Int} {x1 : Int} {x2 : Int} {k : Nat} (h : tg sh k = 9) (hr : st.length ≤ 8) : ev S d 209 739 [a0, a1, a2, a3] (.inl x2 :: .inl x1 :: .inl x0 :: .inr (.inl k) :: st) (sh, I, R) = bnd (cl d 171 [.inr (.inl k), .inl x0, .inl x1, .inl x2] (sh, I, R)) (fun v M => ev S d 209 742 [a0, a1, a2, a3] (psh v st) M) := (ev_eq f_209_739).trans (congrArg (fin S d 209) (if_pos ⟨h, rfl, hr⟩))
set_option maxRecDepth 100000 in
theorem f_209_742 : fetch 209 742 = some (742, .if_icmp .eq 430, 3, [1172], 0) := (fm_209 742).trans rfl
theorem u_209_742 {S : Scr} {d : Nat} {a0 a1 a2 a3 : AV} {st : List AV} {sh : Shp} {I : IM} {R : RM} {x y : Int} : ev S d 209 742 [a0, a1, a2, a3] (.inl y :: .inl x :: st) (sh, I, R) = if x = y then ev S d 209 1172 [a0, a1, a2, a3] st (sh, I, R) else ev S d 209 745 [a0, a1, a2, a3] st (sh, I, R) := (ev_eq f_209_742).trans fin_icmp_eq
set_option maxRecDepth 100000 in
theorem f_209_745 : fetch 209 745 = some (745, .iconst 0, 1, [], 0) := (fm_209 745).trans rfl
theorem u_209_745 {S : Scr} {d : Nat} {a0 a1 a2 a3 : AV} {st : List AV} {sh : Shp} {I : IM} {R : RM} : ev S d 209 745 [a0, a1, a2, a3] st (sh, I, R) = ev S d 209 746 [a0, a1, a2, a3] (.inl 0 :: st) (sh, I, R) := (ev_eq f_209_745).trans rfl
set_option maxRecDepth 100000 in
theorem f_209_746 : fetch 209 746 = some (746, .ireturn, 1, [1], 0) := (fm_209 746).trans rfl
theorem u_209_746 {S : Scr} {d : Nat} {a0 a1 a2 a3 : AV} {sh : Shp} {I : IM} {R : RM} {x : Int} (h : x = 0 ∨ x = 1) : ev S d 209 746 [a0, a1, a2, a3] [.inl x] (sh, I, R) = some (some (.inl x), (sh, I, R)) := (ev_eq f_209_746).trans (fin_iret1 h)
set_option maxRecDepth 100000 in
theorem f_209_747 : fetch 209 747 = some (747, .aload_n 1, 1, [1], 0) := (fm_209 747).trans rfl
theorem u_209_747 {S : Scr} {d : Nat} {a0 a2 a3 : AV} {st : List AV} {sh : Shp} {I : IM} {R : RM} {x : Nat} : ev S d 209 747 [a0, .inr (.inl x), a2, a3] st (sh, I, R) = ev S d 209 748 [a0, .inr (.inl x), a2, a3] (.inr (.inl x) :: st) (sh, I, R) := (ev_eq f_209_747).trans rfl
set_option maxRecDepth 100000 in
theorem f_209_748 : fetch 209 748 = some (748, .aload_n 0, 1, [0], 0) := (fm_209 748).trans rfl
theorem u_209_748s {S : Scr} {d : Nat} {a1 a2 a3 : AV} {st : List AV} {sh : Shp} {I : IM} {R : RM} : ev S d 209 748 [.inr (.inr 2), a1, a2, a3] st (sh, I, R) = ev S d 209 749 [.inr (.inr 2), a1, a2, a3] (.inr (.inr 2) :: st) (sh, I, R) := (ev_eq f_209_748).trans rfl
set_option maxRecDepth 100000 in
theorem f_209_749 : fetch 209 749 = some (749, .iload_n 3, 1, [3], 0) := (fm_209 749).trans rfl
theorem u_209_749 {S : Scr} {d : Nat} {a0 a1 a2 : AV} {st : List AV} {sh : Shp} {I : IM} {R : RM} {x : Int} : ev S d 209 749 [a0, a1, a2, .inl x] st (sh, I, R) = ev S d 209 750 [a0, a1, a2, .inl x] (.inl x :: st) (sh, I, R) := (ev_eq f_209_749).trans rfl
set_option maxRecDepth 100000 in
theorem f_209_750 : fetch 209 750 = some (750, .iconst 1, 1, [], 1) := (fm_209 750).trans rfl
theorem u_209_750 {S : Scr} {d : Nat} {a0 a1 a2 a3 : AV} {st : List AV} {sh : Shp} {I : IM} {R : RM} : ev S d 209 750 [a0, a1, a2, a3] st (sh, I, R) = ev S d 209 751 [a0, a1, a2, a3] (.inl 1 :: st) (sh, I, R) := (ev_eq f_209_750).trans rfl
set_option maxRecDepth 100000 in
theorem f_209_751 : fetch 209 751 = some (751, .iadd, 1, [], 0) := (fm_209 751).trans rfl
theorem u_209_751 {S : Scr} {d : Nat} {a0 a1 a2 a3 : AV} {st : List AV} {sh : Shp} {I : IM} {R : RM} {x y : Int} : ev S d 209 751 [a0, a1, a2, a3] (.inl y :: .inl x :: st) (sh, I, R) = ev S d 209 752 [a0, a1, a2, a3] (.inl (wr (x + y)) :: st) (sh, I, R) := (ev_eq f_209_751).trans rfl
set_option maxRecDepth 100000 in
theorem f_209_752 : fetch 209 752 = some (752, .iaload, 1, [], 0) := (fm_209 752).trans rfl
theorem u_209_752s {S : Scr} {d : Nat} {a0 a1 a2 a3 : AV} {st : List AV} {sh : Shp} {I : IM} {R : RM} {i : Int} (h0 : 0 ≤ i) (h1 : i < S.2) : ev S d 209 752 [a0, a1, a2, a3] (.inl i :: .inr (.inr 2) :: st) (sh, I, R) = ev S d 209 753 [a0, a1, a2, a3] (.inl (S.1 i) :: st) (sh, I, R) := (ev_eq f_209_752).trans (congrArg (fin S d 209) (if_pos ⟨h0, h1⟩))
set_option maxRecDepth 100000 in
theorem f_209_753 : fetch 209 753 = some (753, .aload_n 0, 1, [0], 0) := (fm_209 753).trans rfl
theorem u_209_753s {S : Scr} {d : Nat} {a1 a2 a3 : AV} {st : List AV} {sh : Shp} {I : IM} {R : RM} : ev S d 209 753 [.inr (.inr 2), a1, a2, a3] st (sh, I, R) = ev S d 209 754 [.inr (.inr 2), a1, a2, a3] (.inr (.inr 2) :: st) (sh, I, R) := (ev_eq f_209_753).trans rfl
set_option maxRecDepth 100000 in
theorem f_209_754 : fetch 209 754 = some (754, .iload_n 3, 1, [3], 0) := (fm_209 754).trans rfl
theorem u_209_754 {S : Scr} {d : Nat} {a0 a1 a2 : AV} {st : List AV} {sh : Shp} {I : IM} {R : RM} {x : Int} : ev S d 209 754 [a0, a1, a2, .inl x] st (sh, I, R) = ev S d 209 755 [a0, a1, a2, .inl x] (.inl x :: st) (sh, I, R) := (ev_eq f_209_754).trans rfl
set_option maxRecDepth 100000 in
theorem f_209_755 : fetch 209 755 = some (755, .iconst 2, 1, [], 2) := (fm_209 755).trans rfl
theorem u_209_755 {S : Scr} {d : Nat} {a0 a1 a2 a3 : AV} {st : List AV} {sh : Shp} {I : IM} {R : RM} : ev S d 209 755 [a0, a1, a2, a3] st (sh, I, R) = ev S d 209 756 [a0, a1, a2, a3] (.inl 2 :: st) (sh, I, R) := (ev_eq f_209_755).trans rfl
set_option maxRecDepth 100000 in
theorem f_209_756 : fetch 209 756 = some (756, .iadd, 1, [], 0) := (fm_209 756).trans rfl
theorem u_209_756 {S : Scr} {d : Nat} {a0 a1 a2 a3 : AV} {st : List AV} {sh : Shp} {I : IM} {R : RM} {x y : Int} : ev S d 209 756 [a0, a1, a2, a3] (.inl y :: .inl x :: st) (sh, I, R) = ev S d 209 757 [a0, a1, a2, a3] (.inl (wr (x + y)) :: st) (sh, I, R) := (ev_eq f_209_756).trans rfl
set_option maxRecDepth 100000 in
theorem f_209_757 : fetch 209 757 = some (757, .iaload, 1, [], 0) := (fm_209 757).trans rfl
theorem u_209_757s {S : Scr} {d : Nat} {a0 a1 a2 a3 : AV} {st : List AV} {sh : Shp} {I : IM} {R : RM} {i : Int} (h0 : 0 ≤ i) (h1 : i < S.2) : ev S d 209 757 [a0, a1, a2, a3] (.inl i :: .inr (.inr 2) :: st) (sh, I, R) = ev S d 209 758 [a0, a1, a2, a3] (.inl (S.1 i) :: st) (sh, I, R) := (ev_eq f_209_757).trans (congrArg (fin S d 209) (if_pos ⟨h0, h1⟩))
set_option maxRecDepth 100000 in
theorem f_209_758 : fetch 209 758 = some (758, .invokevirtual 86, 3, [102, 2, 209], 0) := (fm_209 758).trans rfl
theorem u_209_758 {S : Scr} {d : Nat} {a0 a1 a2 a3 : AV} {st : List AV} {sh : Shp} {I : IM} {R : RM} {x0 : Int} {x1 : Int} {k : Nat} (h : tg sh k = 8) (hr : st.length ≤ 8) : ev S d 209 758 [a0, a1, a2, a3] (.inl x1 :: .inl x0 :: .inr (.inl k) :: st) (sh, I, R) = bnd (cl d 102 [.inr (.inl k), .inl x0, .inl x1] (sh, I, R)) (fun v M => ev S d 209 761 [a0, a1, a2, a3] (psh v st) M) := (ev_eq f_209_758).trans (congrArg (fin S d 209) (if_pos ⟨h, rfl, hr⟩))
set_option maxRecDepth 100000 in
theorem f_209_761 : fetch 209 761 = some (761, .aload_n 2, 1, [2], 0) := (fm_209 761).trans rfl
theorem u_209_761 {S : Scr} {d : Nat} {a0 a1 a3 : AV} {st : List AV} {sh : Shp} {I : IM} {R : RM} {x : Nat} : ev S d 209 761 [a0, a1, .inr (.inl x), a3] st (sh, I, R) = ev S d 209 762 [a0, a1, .inr (.inl x), a3] (.inr (.inl x) :: st) (sh, I, R) := (ev_eq f_209_761).trans rfl
set_option maxRecDepth 100000 in
theorem f_209_762 : fetch 209 762 = some (762, .aload_n 0, 1, [0], 0) := (fm_209 762).trans rfl
theorem u_209_762s {S : Scr} {d : Nat} {a1 a2 a3 : AV} {st : List AV} {sh : Shp} {I : IM} {R : RM} : ev S d 209 762 [.inr (.inr 2), a1, a2, a3] st (sh, I, R) = ev S d 209 763 [.inr (.inr 2), a1, a2, a3] (.inr (.inr 2) :: st) (sh, I, R) := (ev_eq f_209_762).trans rfl
set_option maxRecDepth 100000 in
theorem f_209_763 : fetch 209 763 = some (763, .iload_n 3, 1, [3], 0) := (fm_209 763).trans rfl
theorem u_209_763 {S : Scr} {d : Nat} {a0 a1 a2 : AV} {st : List AV} {sh : Shp} {I : IM} {R : RM} {x : Int} : ev S d 209 763 [a0, a1, a2, .inl x] st (sh, I, R) = ev S d 209 764 [a0, a1, a2, .inl x] (.inl x :: st) (sh, I, R) := (ev_eq f_209_763).trans rfl
set_option maxRecDepth 100000 in
theorem f_209_764 : fetch 209 764 = some (764, .iconst 1, 1, [], 1) := (fm_209 764).trans rfl
theorem u_209_764 {S : Scr} {d : Nat} {a0 a1 a2 a3 : AV} {st : List AV} {sh : Shp} {I : IM} {R : RM} : ev S d 209 764 [a0, a1, a2, a3] st (sh, I, R) = ev S d 209 765 [a0, a1, a2, a3] (.inl 1 :: st) (sh, I, R) := (ev_eq f_209_764).trans rfl
set_option maxRecDepth 100000 in
theorem f_209_765 : fetch 209 765 = some (765, .iadd, 1, [], 0) := (fm_209 765).trans rfl
theorem u_209_765 {S : Scr} {d : Nat} {a0 a1 a2 a3 : AV} {st : List AV} {sh : Shp} {I : IM} {R : RM} {x y : Int} : ev S d 209 765 [a0, a1, a2, a3] (.inl y :: .inl x :: st) (sh, I, R) = ev S d 209 766 [a0, a1, a2, a3] (.inl (wr (x + y)) :: st) (sh, I, R) := (ev_eq f_209_765).trans rfl
set_option maxRecDepth 100000 in
theorem f_209_766 : fetch 209 766 = some (766, .iaload, 1, [], 0) := (fm_209 766).trans rfl
theorem u_209_766s {S : Scr} {d : Nat} {a0 a1 a2 a3 : AV} {st : List AV} {sh : Shp} {I : IM} {R : RM} {i : Int} (h0 : 0 ≤ i) (h1 : i < S.2) : ev S d 209 766 [a0, a1, a2, a3] (.inl i :: .inr (.inr 2) :: st) (sh, I, R) = ev S d 209 767 [a0, a1, a2, a3] (.inl (S.1 i) :: st) (sh, I, R) := (ev_eq f_209_766).trans (congrArg (fin S d 209) (if_pos ⟨h0, h1⟩))
set_option maxRecDepth 100000 in
theorem f_209_767 : fetch 209 767 = some (767, .aload_n 0, 1, [0], 0) := (fm_209 767).trans rfl
theorem u_209_767s {S : Scr} {d : Nat} {a1 a2 a3 : AV} {st : List AV} {sh : Shp} {I : IM} {R : RM} : ev S d 209 767 [.inr (.inr 2), a1, a2, a3] st (sh, I, R) = ev S d 209 768 [.inr (.inr 2), a1, a2, a3] (.inr (.inr 2) :: st) (sh, I, R) := (ev_eq f_209_767).trans rfl
set_option maxRecDepth 100000 in
theorem f_209_768 : fetch 209 768 = some (768, .iload_n 3, 1, [3], 0) := (fm_209 768).trans rfl
theorem u_209_768 {S : Scr} {d : Nat} {a0 a1 a2 : AV} {st : List AV} {sh : Shp} {I : IM} {R : RM} {x : Int} : ev S d 209 768 [a0, a1, a2, .inl x] st (sh, I, R) = ev S d 209 769 [a0, a1, a2, .inl x] (.inl x :: st) (sh, I, R) := (ev_eq f_209_768).trans rfl
set_option maxRecDepth 100000 in
theorem f_209_769 : fetch 209 769 = some (769, .iconst 2, 1, [], 2) := (fm_209 769).trans rfl
theorem u_209_769 {S : Scr} {d : Nat} {a0 a1 a2 a3 : AV} {st : List AV} {sh : Shp} {I : IM} {R : RM} : ev S d 209 769 [a0, a1, a2, a3] st (sh, I, R) = ev S d 209 770 [a0, a1, a2, a3] (.inl 2 :: st) (sh, I, R) := (ev_eq f_209_769).trans rfl
set_option maxRecDepth 100000 in
theorem f_209_770 : fetch 209 770 = some (770, .iadd, 1, [], 0) := (fm_209 770).trans rfl
theorem u_209_770 {S : Scr} {d : Nat} {a0 a1 a2 a3 : AV} {st : List AV} {sh : Shp} {I : IM} {R : RM} {x y : Int} : ev S d 209 770 [a0, a1, a2, a3] (.inl y :: .inl x :: st) (sh, I, R) = ev S d 209 771 [a0, a1, a2, a3] (.inl (wr (x + y)) :: st) (sh, I, R) := (ev_eq f_209_770).trans rfl
set_option maxRecDepth 100000 in
theorem f_209_771 : fetch 209 771 = some (771, .iaload, 1, [], 0) := (fm_209 771).trans rfl
theorem u_209_771s {S : Scr} {d : Nat} {a0 a1 a2 a3 : AV} {st : List AV} {sh : Shp} {I : IM} {R : RM} {i : Int} (h0 : 0 ≤ i) (h1 : i < S.2) : ev S d 209 771 [a0, a1, a2, a3] (.inl i :: .inr (.inr 2) :: st) (sh, I, R) = ev S d 209 772 [a0, a1, a2, a3] (.inl (S.1 i) :: st) (sh, I, R) := (ev_eq f_209_771).trans (congrArg (fin S d 209) (if_pos ⟨h0, h1⟩))
set_option maxRecDepth 100000 in
theorem f_209_772 : fetch 209 772 = some (772, .invokevirtual 89, 3, [172, 2, 210], 0) := (fm_209 772).trans rfl
theorem u_209_772 {S : Scr} {d : Nat} {a0 a1 a2 a3 : AV} {st : List AV} {sh : Shp} {I : IM} {R : RM} {x0 : Int} {x1 : Int} {k : Nat} (h : tg sh k = 9) (hr : st.length ≤ 8) : ev S d 209 772 [a0, a1, a2, a3] (.inl x1 :: .inl x0 :: .inr (.inl k) :: st) (sh, I, R) = bnd (cl d 172 [.inr (.inl k), .inl x0, .inl x1] (sh, I, R)) (fun v M => ev S d 209 775 [a0, a1, a2, a3] (psh v st) M) := (ev_eq f_209_772).trans (congrArg (fin S d 209) (if_pos ⟨h, rfl, hr⟩))
set_option maxRecDepth 100000 in
theorem f_209_775 : fetch 209 775 = some (775, .if_icmp .eq 397, 3, [1172], 0) := (fm_209 775).trans rfl
theorem u_209_775 {S : Scr} {d : Nat} {a0 a1 a2 a3 : AV} {st : List AV} {sh : Shp} {I : IM} {R : RM} {x y : Int} : ev S d 209 775 [a0, a1, a2, a3] (.inl y :: .inl x :: st) (sh, I, R) = if x = y then ev S d 209 1172 [a0, a1, a2, a3] st (sh, I, R) else ev S d 209 778 [a0, a1, a2, a3] st (sh, I, R) := (ev_eq f_209_775).trans fin_icmp_eq
set_option maxRecDepth 100000 in
theorem f_209_778 : fetch 209 778 = some (778, .iconst 0, 1, [], 0) := (fm_209 778).trans rfl
theorem u_209_778 {S : Scr} {d : Nat} {a0 a1 a2 a3 : AV} {st : List AV} {sh : Shp} {I : IM} {R : RM} : ev S d 209 778 [a0, a1, a2, a3] st (sh, I, R) = ev S d 209 779 [a0, a1, a2, a3] (.inl 0 :: st) (sh, I, R) := (ev_eq f_209_778).trans rfl
set_option maxRecDepth 100000 in
theorem f_209_779 : fetch 209 779 = some (779, .ireturn, 1, [1], 0) := (fm_209 779).trans rfl
theorem u_209_779 {S : Scr} {d : Nat} {a0 a1 a2 a3 : AV} {sh : Shp} {I : IM} {R : RM} {x : Int} (h : x = 0 ∨ x = 1) : ev S d 209 779 [a0, a1, a2, a3] [.inl x] (sh, I, R) = some (some (.inl x), (sh, I, R)) := (ev_eq f_209_779).trans (fin_iret1 h)
set_option maxRecDepth 100000 in
theorem f_209_780 : fetch 209 780 = some (780, .aload_n 1, 1, [1], 0) := (fm_209 780).trans rfl
theorem u_209_780 {S : Scr} {d : Nat} {a0 a2 a3 : AV} {st : List AV} {sh : Shp} {I : IM} {R : RM} {x : Nat} : ev S d 209 780 [a0, .inr (.inl x), a2, a3] st (sh, I, R) = ev S d 209 781 [a0, .inr (.inl x), a2, a3] (.inr (.inl x) :: st) (sh, I, R) := (ev_eq f_209_780).trans rfl
set_option maxRecDepth 100000 in
theorem f_209_781 : fetch 209 781 = some (781, .aload_n 0, 1, [0], 0) := (fm_209 781).trans rfl
theorem u_209_781s {S : Scr} {d : Nat} {a1 a2 a3 : AV} {st : List AV} {sh : Shp} {I : IM} {R : RM} : ev S d 209 781 [.inr (.inr 2), a1, a2, a3] st (sh, I, R) = ev S d 209 782 [.inr (.inr 2), a1, a2, a3] (.inr (.inr 2) :: st) (sh, I, R) := (ev_eq f_209_781).trans rfl
set_option maxRecDepth 100000 in
theorem f_209_782 : fetch 209 782 = some (782, .iload_n 3, 1, [3], 0) := (fm_209 782).trans rfl
theorem u_209_782 {S : Scr} {d : Nat} {a0 a1 a2 : AV} {st : List AV} {sh : Shp} {I : IM} {R : RM} {x : Int} : ev S d 209 782 [a0, a1, a2, .inl x] st (sh, I, R) = ev S d 209 783 [a0, a1, a2, .inl x] (.inl x :: st) (sh, I, R) := (ev_eq f_209_782).trans rfl
set_option maxRecDepth 100000 in
theorem f_209_783 : fetch 209 783 = some (783, .iconst 1, 1, [], 1) := (fm_209 783).trans rfl
theorem u_209_783 {S : Scr} {d : Nat} {a0 a1 a2 a3 : AV} {st : List AV} {sh : Shp} {I : IM} {R : RM} : ev S d 209 783 [a0, a1, a2, a3] st (sh, I, R) = ev S d 209 784 [a0, a1, a2, a3] (.inl 1 :: st) (sh, I, R) := (ev_eq f_209_783).trans rfl
set_option maxRecDepth 100000 in
theorem f_209_784 : fetch 209 784 = some (784, .iadd, 1, [], 0) := (fm_209 784).trans rfl
theorem u_209_784 {S : Scr} {d : Nat} {a0 a1 a2 a3 : AV} {st : List AV} {sh : Shp} {I : IM} {R : RM} {x y : Int} : ev S d 209 784 [a0, a1, a2, a3] (.inl y :: .inl x :: st) (sh, I, R) = ev S d 209 785 [a0, a1, a2, a3] (.inl (wr (x + y)) :: st) (sh, I, R) := (ev_eq f_209_784).trans rfl
set_option maxRecDepth 100000 in
theorem f_209_785 : fetch 209 785 = some (785, .iaload, 1, [], 0) := (fm_209 785).trans rfl
theorem u_209_785s {S : Scr} {d : Nat} {a0 a1 a2 a3 : AV} {st : List AV} {sh : Shp} {I : IM} {R : RM} {i : Int} (h0 : 0 ≤ i) (h1 : i < S.2) : ev S d 209 785 [a0, a1, a2, a3] (.inl i :: .inr (.inr 2) :: st) (sh, I, R) = ev S d 209 786 [a0, a1, a2, a3] (.inl (S.1 i) :: st) (sh, I, R) := (ev_eq f_209_785).trans (congrArg (fin S d 209) (if_pos ⟨h0, h1⟩))
set_option maxRecDepth 100000 in
theorem f_209_786 : fetch 209 786 = some (786, .aload_n 0, 1, [0], 0) := (fm_209 786).trans rfl
theorem u_209_786s {S : Scr} {d : Nat} {a1 a2 a3 : AV} {st : List AV} {sh : Shp} {I : IM} {R : RM} : ev S d 209 786 [.inr (.inr 2), a1, a2, a3] st (sh, I, R) = ev S d 209 787 [.inr (.inr 2), a1, a2, a3] (.inr (.inr 2) :: st) (sh, I, R) := (ev_eq f_209_786).trans rfl
set_option maxRecDepth 100000 in
theorem f_209_787 : fetch 209 787 = some (787, .iload_n 3, 1, [3], 0) := (fm_209 787).trans rfl
theorem u_209_787 {S : Scr} {d : Nat} {a0 a1 a2 : AV} {st : List AV} {sh : Shp} {I : IM} {R : RM} {x : Int} : ev S d 209 787 [a0, a1, a2, .inl x] st (sh, I, R) = ev S d 209 788 [a0, a1, a2, .inl x] (.inl x :: st) (sh, I, R) := (ev_eq f_209_787).trans rfl
set_option maxRecDepth 100000 in
theorem f_209_788 : fetch 209 788 = some (788, .iconst 2, 1, [], 2) := (fm_209 788).trans rfl
theorem u_209_788 {S : Scr} {d : Nat} {a0 a1 a2 a3 : AV} {st : List AV} {sh : Shp} {I : IM} {R : RM} : ev S d 209 788 [a0, a1, a2, a3] st (sh, I, R) = ev S d 209 789 [a0, a1, a2, a3] (.inl 2 :: st) (sh, I, R) := (ev_eq f_209_788).trans rfl
set_option maxRecDepth 100000 in
theorem f_209_789 : fetch 209 789 = some (789, .iadd, 1, [], 0) := (fm_209 789).trans rfl
theorem u_209_789 {S : Scr} {d : Nat} {a0 a1 a2 a3 : AV} {st : List AV} {sh : Shp} {I : IM} {R : RM} {x y : Int} : ev S d 209 789 [a0, a1, a2, a3] (.inl y :: .inl x :: st) (sh, I, R) = ev S d 209 790 [a0, a1, a2, a3] (.inl (wr (x + y)) :: st) (sh, I, R) := (ev_eq f_209_789).trans rfl
set_option maxRecDepth 100000 in
theorem f_209_790 : fetch 209 790 = some (790, .iaload, 1, [], 0) := (fm_209 790).trans rfl
theorem u_209_790s {S : Scr} {d : Nat} {a0 a1 a2 a3 : AV} {st : List AV} {sh : Shp} {I : IM} {R : RM} {i : Int} (h0 : 0 ≤ i) (h1 : i < S.2) : ev S d 209 790 [a0, a1, a2, a3] (.inl i :: .inr (.inr 2) :: st) (sh, I, R) = ev S d 209 791 [a0, a1, a2, a3] (.inl (S.1 i) :: st) (sh, I, R) := (ev_eq f_209_790).trans (congrArg (fin S d 209) (if_pos ⟨h0, h1⟩))
set_option maxRecDepth 100000 in
theorem f_209_791 : fetch 209 791 = some (791, .invokevirtual 90, 3, [103, 2, 211], 0) := (fm_209 791).trans rfl
theorem u_209_791 {S : Scr} {d : Nat} {a0 a1 a2 a3 : AV} {st : List AV} {sh : Shp} {I : IM} {R : RM} {x0 : Int} {x1 : Int} {k : Nat} (h : tg sh k = 8) (hr : st.length ≤ 8) : ev S d 209 791 [a0, a1, a2, a3] (.inl x1 :: .inl x0 :: .inr (.inl k) :: st) (sh, I, R) = bnd (cl d 103 [.inr (.inl k), .inl x0, .inl x1] (sh, I, R)) (fun v M => ev S d 209 794 [a0, a1, a2, a3] (psh v st) M) := (ev_eq f_209_791).trans (congrArg (fin S d 209) (if_pos ⟨h, rfl, hr⟩))
set_option maxRecDepth 100000 in
theorem f_209_794 : fetch 209 794 = some (794, .aload_n 2, 1, [2], 0) := (fm_209 794).trans rfl
theorem u_209_794 {S : Scr} {d : Nat} {a0 a1 a3 : AV} {st : List AV} {sh : Shp} {I : IM} {R : RM} {x : Nat} : ev S d 209 794 [a0, a1, .inr (.inl x), a3] st (sh, I, R) = ev S d 209 795 [a0, a1, .inr (.inl x), a3] (.inr (.inl x) :: st) (sh, I, R) := (ev_eq f_209_794).trans rfl
set_option maxRecDepth 100000 in
theorem f_209_795 : fetch 209 795 = some (795, .aload_n 0, 1, [0], 0) := (fm_209 795).trans rfl
theorem u_209_795s {S : Scr} {d : Nat} {a1 a2 a3 : AV} {st : List AV} {sh : Shp} {I : IM} {R : RM} : ev S d 209 795 [.inr (.inr 2), a1, a2, a3] st (sh, I, R) = ev S d 209 796 [.inr (.inr 2), a1, a2, a3] (.inr (.inr 2) :: st) (sh, I, R) := (ev_eq f_209_795).trans rfl
set_option maxRecDepth 100000 in
theorem f_209_796 : fetch 209 796 = some (796, .iload_n 3, 1, [3], 0) := (fm_209 796).trans rfl
theorem u_209_796 {S : Scr} {d : Nat} {a0 a1 a2 : AV} {st : List AV} {sh : Shp} {I : IM} {R : RM} {x : Int} : ev S d 209 796 [a0, a1, a2, .inl x] st (sh, I, R) = ev S d 209 797 [a0, a1, a2, .inl x] (.inl x :: st) (sh, I, R) := (ev_eq f_209_796).trans rfl
set_option maxRecDepth 100000 in
theorem f_209_797 : fetch 209 797 = some (797, .iconst 1, 1, [], 1) := (fm_209 797).trans rfl
theorem u_209_797 {S : Scr} {d : Nat} {a0 a1 a2 a3 : AV} {st : List AV} {sh : Shp} {I : IM} {R : RM} : ev S d 209 797 [a0, a1, a2, a3] st (sh, I, R) = ev S d 209 798 [a0, a1, a2, a3] (.inl 1 :: st) (sh, I, R) := (ev_eq f_209_797).trans rfl
set_option maxRecDepth 100000 in
theorem f_209_798 : fetch 209 798 = some (798, .iadd, 1, [], 0) := (fm_209 798).trans rfl
theorem u_209_798 {S : Scr} {d : Nat} {a0 a1 a2 a3 : AV} {st : List AV} {sh : Shp} {I : IM} {R : RM} {x y : Int} : ev S d 209 798 [a0, a1, a2, a3] (.inl y :: .inl x :: st) (sh, I, R) = ev S d 209 799 [a0, a1, a2, a3] (.inl (wr (x + y)) :: st) (sh, I, R) := (ev_eq f_209_798).trans rfl
set_option maxRecDepth 100000 in
theorem f_209_799 : fetch 209 799 = some (799, .iaload, 1, [], 0) := (fm_209 799).trans rfl
theorem u_209_799s {S : Scr} {d : Nat} {a0 a1 a2 a3 : AV} {st : List AV} {sh : Shp} {I : IM} {R : RM} {i : Int} (h0 : 0 ≤ i) (h1 : i < S.2) : ev S d 209 799 [a0, a1, a2, a3] (.inl i :: .inr (.inr 2) :: st) (sh, I, R) = ev S d 209 800 [a0, a1, a2, a3] (.inl (S.1 i) :: st) (sh, I, R) := (ev_eq f_209_799).trans (congrArg (fin S d 209) (if_pos ⟨h0, h1⟩))
set_option maxRecDepth 100000 in
theorem f_209_800 : fetch 209 800 = some (800, .aload_n 0, 1, [0], 0) := (fm_209 800).trans rfl
theorem u_209_800s {S : Scr} {d : Nat} {a1 a2 a3 : AV} {st : List AV} {sh : Shp} {I : IM} {R : RM} : ev S d 209 800 [.inr (.inr 2), a1, a2, a3] st (sh, I, R) = ev S d 209 801 [.inr (.inr 2), a1, a2, a3] (.inr (.inr 2) :: st) (sh, I, R) := (ev_eq f_209_800).trans rfl
set_option maxRecDepth 100000 in
theorem f_209_801 : fetch 209 801 = some (801, .iload_n 3, 1, [3], 0) := (fm_209 801).trans rfl
theorem u_209_801 {S : Scr} {d : Nat} {a0 a1 a2 : AV} {st : List AV} {sh : Shp} {I : IM} {R : RM} {x : Int} : ev S d 209 801 [a0, a1, a2, .inl x] st (sh, I, R) = ev S d 209 802 [a0, a1, a2, .inl x] (.inl x :: st) (sh, I, R) := (ev_eq f_209_801).trans rfl
set_option maxRecDepth 100000 in
theorem f_209_802 : fetch 209 802 = some (802, .iconst 2, 1, [], 2) := (fm_209 802).trans rfl
theorem u_209_802 {S : Scr} {d : Nat} {a0 a1 a2 a3 : AV} {st : List AV} {sh : Shp} {I : IM} {R : RM} : ev S d 209 802 [a0, a1, a2, a3] st (sh, I, R) = ev S d 209 803 [a0, a1, a2, a3] (.inl 2 :: st) (sh, I, R) := (ev_eq f_209_802).trans rfl
set_option maxRecDepth 100000 in
theorem f_209_803 : fetch 209 803 = some (803, .iadd, 1, [], 0) := (fm_209 803).trans rfl
theorem u_209_803 {S : Scr} {d : Nat} {a0 a1 a2 a3 : AV} {st : List AV} {sh : Shp} {I : IM} {R : RM} {x y : Int} : ev S d 209 803 [a0, a1, a2, a3] (.inl y :: .inl x :: st) (sh, I, R) = ev S d 209 804 [a0, a1, a2, a3] (.inl (wr (x + y)) :: st) (sh, I, R) := (ev_eq f_209_803).trans rfl
set_option maxRecDepth 100000 in
theorem f_209_804 : fetch 209 804 = some (804, .iaload, 1, [], 0) := (fm_209 804).trans rfl
theorem u_209_804s {S : Scr} {d : Nat} {a0 a1 a2 a3 : AV} {st : List AV} {sh : Shp} {I : IM} {R : RM} {i : Int} (h0 : 0 ≤ i) (h1 : i < S.2) : ev S d 209 804 [a0, a1, a2, a3] (.inl i :: .inr (.inr 2) :: st) (sh, I, R) = ev S d 209 805 [a0, a1, a2, a3] (.inl (S.1 i) :: st) (sh, I, R) := (ev_eq f_209_804).trans (congrArg (fin S d 209) (if_pos ⟨h0, h1⟩))
set_option maxRecDepth 100000 in
theorem f_209_805 : fetch 209 805 = some (805, .invokevirtual 93, 3, [177, 2, 212], 0) := (fm_209 805).trans rfl
theorem u_209_805 {S : Scr} {d : Nat} {a0 a1 a2 a3 : AV} {st : List AV} {sh : Shp} {I : IM} {R : RM} {x0 : Int} {x1 : Int} {k : Nat} (h : tg sh k = 9) (hr : st.length ≤ 8) : ev S d 209 805 [a0, a1, a2, a3] (.inl x1 :: .inl x0 :: .inr (.inl k) :: st) (sh, I, R) = bnd (cl d 177 [.inr (.inl k), .inl x0, .inl x1] (sh, I, R)) (fun v M => ev S d 209 808 [a0, a1, a2, a3] (psh v st) M) := (ev_eq f_209_805).trans (congrArg (fin S d 209) (if_pos ⟨h, rfl, hr⟩))
set_option maxRecDepth 100000 in
theorem f_209_808 : fetch 209 808 = some (808, .if_icmp .eq 364, 3, [1172], 0) := (fm_209 808).trans rfl
theorem u_209_808 {S : Scr} {d : Nat} {a0 a1 a2 a3 : AV} {st : List AV} {sh : Shp} {I : IM} {R : RM} {x y : Int} : ev S d 209 808 [a0, a1, a2, a3] (.inl y :: .inl x :: st) (sh, I, R) = if x = y then ev S d 209 1172 [a0, a1, a2, a3] st (sh, I, R) else ev S d 209 811 [a0, a1, a2, a3] st (sh, I, R) := (ev_eq f_209_808).trans fin_icmp_eq
set_option maxRecDepth 100000 in
theorem f_209_811 : fetch 209 811 = some (811, .iconst 0, 1, [], 0) := (fm_209 811).trans rfl
theorem u_209_811 {S : Scr} {d : Nat} {a0 a1 a2 a3 : AV} {st : List AV} {sh : Shp} {I : IM} {R : RM} : ev S d 209 811 [a0, a1, a2, a3] st (sh, I, R) = ev S d 209 812 [a0, a1, a2, a3] (.inl 0 :: st) (sh, I, R) := (ev_eq f_209_811).trans rfl
set_option maxRecDepth 100000 in
theorem f_209_812 : fetch 209 812 = some (812, .ireturn, 1, [1], 0) := (fm_209 812).trans rfl
theorem u_209_812 {S : Scr} {d : Nat} {a0 a1 a2 a3 : AV} {sh : Shp} {I : IM} {R : RM} {x : Int} (h : x = 0 ∨ x = 1) : ev S d 209 812 [a0, a1, a2, a3] [.inl x] (sh, I, R) = some (some (.inl x), (sh, I, R)) := (ev_eq f_209_812).trans (fin_iret1 h)
set_option maxRecDepth 100000 in
theorem f_209_813 : fetch 209 813 = some (813, .aload_n 1, 1, [1], 0) := (fm_209 813).trans rfl
theorem u_209_813 {S : Scr} {d : Nat} {a0 a2 a3 : AV} {st : List AV} {sh : Shp} {I : IM} {R : RM} {x : Nat} : ev S d 209 813 [a0, .inr (.inl x), a2, a3] st (sh, I, R) = ev S d 209 814 [a0, .inr (.inl x), a2, a3] (.inr (.inl x) :: st) (sh, I, R) := (ev_eq f_209_813).trans rfl
set_option maxRecDepth 100000 in
theorem f_209_814 : fetch 209 814 = some (814, .aload_n 0, 1, [0], 0) := (fm_209 814).trans rfl
theorem u_209_814s {S : Scr} {d : Nat} {a1 a2 a3 : AV} {st : List AV} {sh : Shp} {I : IM} {R : RM} : ev S d 209 814 [.inr (.inr 2), a1, a2, a3] st (sh, I, R) = ev S d 209 815 [.inr (.inr 2), a1, a2, a3] (.inr (.inr 2) :: st) (sh, I, R) := (ev_eq f_209_814).trans rfl
set_option maxRecDepth 100000 in
theorem f_209_815 : fetch 209 815 = some (815, .iload_n 3, 1, [3], 0) := (fm_209 815).trans rfl
theorem u_209_815 {S : Scr} {d : Nat} {a0 a1 a2 : AV} {st : List AV} {sh : Shp} {I : IM} {R : RM} {x : Int} : ev S d 209 815 [a0, a1, a2, .inl x] st (sh, I, R) = ev S d 209 816 [a0, a1, a2, .inl x] (.inl x :: st) (sh, I, R) := (ev_eq f_209_815).trans rfl
set_option maxRecDepth 100000 in
theorem f_209_816 : fetch 209 816 = some (816, .iconst 1, 1, [], 1) := (fm_209 816).trans rfl
theorem u_209_816 {S : Scr} {d : Nat} {a0 a1 a2 a3 : AV} {st : List AV} {sh : Shp} {I : IM} {R : RM} : ev S d 209 816 [a0, a1, a2, a3] st (sh, I, R) = ev S d 209 817 [a0, a1, a2, a3] (.inl 1 :: st) (sh, I, R) := (ev_eq f_209_816).trans rfl
set_option maxRecDepth 100000 in
theorem f_209_817 : fetch 209 817 = some (817, .iadd, 1, [], 0) := (fm_209 817).trans rfl
theorem u_209_817 {S : Scr} {d : Nat} {a0 a1 a2 a3 : AV} {st : List AV} {sh : Shp} {I : IM} {R : RM} {x y : Int} : ev S d 209 817 [a0, a1, a2, a3] (.inl y :: .inl x :: st) (sh, I, R) = ev S d 209 818 [a0, a1, a2, a3] (.inl (wr (x + y)) :: st) (sh, I, R) := (ev_eq f_209_817).trans rfl
set_option maxRecDepth 100000 in
theorem f_209_818 : fetch 209 818 = some (818, .iaload, 1, [], 0) := (fm_209 818).trans rfl
theorem u_209_818s {S : Scr} {d : Nat} {a0 a1 a2 a3 : AV} {st : List AV} {sh : Shp} {I : IM} {R : RM} {i : Int} (h0 : 0 ≤ i) (h1 : i < S.2) : ev S d 209 818 [a0, a1, a2, a3] (.inl i :: .inr (.inr 2) :: st) (sh, I, R) = ev S d 209 819 [a0, a1, a2, a3] (.inl (S.1 i) :: st) (sh, I, R) := (ev_eq f_209_818).trans (congrArg (fin S d 209) (if_pos ⟨h0, h1⟩))
set_option maxRecDepth 100000 in
theorem f_209_819 : fetch 209 819 = some (819, .invokevirtual 94, 3, [104, 1, 213], 0) := (fm_209 819).trans rfl
theorem u_209_819 {S : Scr} {d : Nat} {a0 a1 a2 a3 : AV} {st : List AV} {sh : Shp} {I : IM} {R : RM} {x0 : Int} {k : Nat} (h : tg sh k = 8) (hr : st.length ≤ 8) : ev S d 209 819 [a0, a1, a2, a3] (.inl x0 :: .inr (.inl k) :: st) (sh, I, R) = bnd (cl d 104 [.inr (.inl k), .inl x0] (sh, I, R)) (fun v M => ev S d 209 822 [a0, a1, a2, a3] (psh v st) M) := (ev_eq f_209_819).trans (congrArg (fin S d 209) (if_pos ⟨h, rfl, hr⟩))
set_option maxRecDepth 100000 in
theorem f_209_822 : fetch 209 822 = some (822, .aload_n 2, 1, [2], 0) := (fm_209 822).trans rfl
theorem u_209_822 {S : Scr} {d : Nat} {a0 a1 a3 : AV} {st : List AV} {sh : Shp} {I : IM} {R : RM} {x : Nat} : ev S d 209 822 [a0, a1, .inr (.inl x), a3] st (sh, I, R) = ev S d 209 823 [a0, a1, .inr (.inl x), a3] (.inr (.inl x) :: st) (sh, I, R) := (ev_eq f_209_822).trans rfl
set_option maxRecDepth 100000 in
theorem f_209_823 : fetch 209 823 = some (823, .aload_n 0, 1, [0], 0) := (fm_209 823).trans rfl
theorem u_209_823s {S : Scr} {d : Nat} {a1 a2 a3 : AV} {st : List AV} {sh : Shp} {I : IM} {R : RM} : ev S d 209 823 [.inr (.inr 2), a1, a2, a3] st (sh, I, R) = ev S d 209 824 [.inr (.inr 2), a1, a2, a3] (.inr (.inr 2) :: st) (sh, I, R) := (ev_eq f_209_823).trans rfl
set_option maxRecDepth 100000 in
theorem f_209_824 : fetch 209 824 = some (824, .iload_n 3, 1, [3], 0) := (fm_209 824).trans rfl
theorem u_209_824 {S : Scr} {d : Nat} {a0 a1 a2 : AV} {st : List AV} {sh : Shp} {I : IM} {R : RM} {x : Int} : ev S d 209 824 [a0, a1, a2, .inl x] st (sh, I, R) = ev S d 209 825 [a0, a1, a2, .inl x] (.inl x :: st) (sh, I, R) := (ev_eq f_209_824).trans rfl
set_option maxRecDepth 100000 in
theorem f_209_825 : fetch 209 825 = some (825, .iconst 1, 1, [], 1) := (fm_209 825).trans rfl
theorem u_209_825 {S : Scr} {d : Nat} {a0 a1 a2 a3 : AV} {st : List AV} {sh : Shp} {I : IM} {R : RM} : ev S d 209 825 [a0, a1, a2, a3] st (sh, I, R) = ev S d 209 826 [a0, a1, a2, a3] (.inl 1 :: st) (sh, I, R) := (ev_eq f_209_825).trans rfl
set_option maxRecDepth 100000 in
theorem f_209_826 : fetch 209 826 = some (826, .iadd, 1, [], 0) := (fm_209 826).trans rfl
theorem u_209_826 {S : Scr} {d : Nat} {a0 a1 a2 a3 : AV} {st : List AV} {sh : Shp} {I : IM} {R : RM} {x y : Int} : ev S d 209 826 [a0, a1, a2, a3] (.inl y :: .inl x :: st) (sh, I, R) = ev S d 209 827 [a0, a1, a2, a3] (.inl (wr (x + y)) :: st) (sh, I, R) := (ev_eq f_209_826).trans rfl
set_option maxRecDepth 100000 in
theorem f_209_827 : fetch 209 827 = some (827, .iaload, 1, [], 0) := (fm_209 827).trans rfl
theorem u_209_827s {S : Scr} {d : Nat} {a0 a1 a2 a3 : AV} {st : List AV} {sh : Shp} {I : IM} {R : RM} {i : Int} (h0 : 0 ≤ i) (h1 : i < S.2) : ev S d 209 827 [a0, a1, a2, a3] (.inl i :: .inr (.inr 2) :: st) (sh, I, R) = ev S d 209 828 [a0, a1, a2, a3] (.inl (S.1 i) :: st) (sh, I, R) := (ev_eq f_209_827).trans (congrArg (fin S d 209) (if_pos ⟨h0, h1⟩))
set_option maxRecDepth 100000 in
theorem f_209_828 : fetch 209 828 = some (828, .invokevirtual 97, 3, [187, 1, 214], 0) := (fm_209 828).trans rfl
theorem u_209_828 {S : Scr} {d : Nat} {a0 a1 a2 a3 : AV} {st : List AV} {sh : Shp} {I : IM} {R : RM} {x0 : Int} {k : Nat} (h : tg sh k = 9) (hr : st.length ≤ 8) : ev S d 209 828 [a0, a1, a2, a3] (.inl x0 :: .inr (.inl k) :: st) (sh, I, R) = bnd (cl d 187 [.inr (.inl k), .inl x0] (sh, I, R)) (fun v M => ev S d 209 831 [a0, a1, a2, a3] (psh v st) M) := (ev_eq f_209_828).trans (congrArg (fin S d 209) (if_pos ⟨h, rfl, hr⟩))
set_option maxRecDepth 100000 in
theorem f_209_831 : fetch 209 831 = some (831, .if_icmp .eq 341, 3, [1172], 0) := (fm_209 831).trans rfl
theorem u_209_831 {S : Scr} {d : Nat} {a0 a1 a2 a3 : AV} {st : List AV} {sh : Shp} {I : IM} {R : RM} {x y : Int} : ev S d 209 831 [a0, a1, a2, a3] (.inl y :: .inl x :: st) (sh, I, R) = if x = y then ev S d 209 1172 [a0, a1, a2, a3] st (sh, I, R) else ev S d 209 834 [a0, a1, a2, a3] st (sh, I, R) := (ev_eq f_209_831).trans fin_icmp_eq
set_option maxRecDepth 100000 in
theorem f_209_834 : fetch 209 834 = some (834, .iconst 0, 1, [], 0) := (fm_209 834).trans rfl
theorem u_209_834 {S : Scr} {d : Nat} {a0 a1 a2 a3 : AV} {st : List AV} {sh : Shp} {I : IM} {R : RM} : ev S d 209 834 [a0, a1, a2, a3] st (sh, I, R) = ev S d 209 835 [a0, a1, a2, a3] (.inl 0 :: st) (sh, I, R) := (ev_eq f_209_834).trans rfl
set_option maxRecDepth 100000 in
theorem f_209_835 : fetch 209 835 = some (835, .ireturn, 1, [1], 0) := (fm_209 835).trans rfl
theorem u_209_835 {S : Scr} {d : Nat} {a0 a1 a2 a3 : AV} {sh : Shp} {I : IM} {R : RM} {x : Int} (h : x = 0 ∨ x = 1) : ev S d 209 835 [a0, a1, a2, a3] [.inl x] (sh, I, R) = some (some (.inl x), (sh, I, R)) := (ev_eq f_209_835).trans (fin_iret1 h)
set_option maxRecDepth 100000 in
theorem f_209_836 : fetch 209 836 = some (836, .aload_n 1, 1, [1], 0) := (fm_209 836).trans rfl
theorem u_209_836 {S : Scr} {d : Nat} {a0 a2 a3 : AV} {st : List AV} {sh : Shp} {I : IM} {R : RM} {x : Nat} : ev S d 209 836 [a0, .inr (.inl x), a2, a3] st (sh, I, R) = ev S d 209 837 [a0, .inr (.inl x), a2, a3] (.inr (.inl x) :: st) (sh, I, R) := (ev_eq f_209_836).trans rfl
set_option maxRecDepth 100000 in
theorem f_209_837 : fetch 209 837 = some (837, .aload_n 0, 1, [0], 0) := (fm_209 837).trans rfl
theorem u_209_837s {S : Scr} {d : Nat} {a1 a2 a3 : AV} {st : List AV} {sh : Shp} {I : IM} {R : RM} : ev S d 209 837 [.inr (.inr 2), a1, a2, a3] st (sh, I, R) = ev S d 209 838 [.inr (.inr 2), a1, a2, a3] (.inr (.inr 2) :: st) (sh, I, R) := (ev_eq f_209_837).trans rfl
set_option maxRecDepth 100000 in
theorem f_209_838 : fetch 209 838 = some (838, .iload_n 3, 1, [3], 0) := (fm_209 838).trans rfl
theorem u_209_838 {S : Scr} {d : Nat} {a0 a1 a2 : AV} {st : List AV} {sh : Shp} {I : IM} {R : RM} {x : Int} : ev S d 209 838 [a0, a1, a2, .inl x] st (sh, I, R) = ev S d 209 839 [a0, a1, a2, .inl x] (.inl x :: st) (sh, I, R) := (ev_eq f_209_838).trans rfl
set_option maxRecDepth 100000 in
theorem f_209_839 : fetch 209 839 = some (839, .iconst 1, 1, [], 1) := (fm_209 839).trans rfl
theorem u_209_839 {S : Scr} {d : Nat} {a0 a1 a2 a3 : AV} {st : List AV} {sh : Shp} {I : IM} {R : RM} : ev S d 209 839 [a0, a1, a2, a3] st (sh, I, R) = ev S d 209 840 [a0, a1, a2, a3] (.inl 1 :: st) (sh, I, R) := (ev_eq f_209_839).trans rfl
set_option maxRecDepth 100000 in
theorem f_209_840 : fetch 209 840 = some (840, .iadd, 1, [], 0) := (fm_209 840).trans rfl
theorem u_209_840 {S : Scr} {d : Nat} {a0 a1 a2 a3 : AV} {st : List AV} {sh : Shp} {I : IM} {R : RM} {x y : Int} : ev S d 209 840 [a0, a1, a2, a3] (.inl y :: .inl x :: st) (sh, I, R) = ev S d 209 841 [a0, a1, a2, a3] (.inl (wr (x + y)) :: st) (sh, I, R) := (ev_eq f_209_840).trans rfl
set_option maxRecDepth 100000 in
theorem f_209_841 : fetch 209 841 = some (841, .iaload, 1, [], 0) := (fm_209 841).trans rfl
theorem u_209_841s {S : Scr} {d : Nat} {a0 a1 a2 a3 : AV} {st : List AV} {sh : Shp} {I : IM} {R : RM} {i : Int} (h0 : 0 ≤ i) (h1 : i < S.2) : ev S d 209 841 [a0, a1, a2, a3] (.inl i :: .inr (.inr 2) :: st) (sh, I, R) = ev S d 209 842 [a0, a1, a2, a3] (.inl (S.1 i) :: st) (sh, I, R) := (ev_eq f_209_841).trans (congrArg (fin S d 209) (if_pos ⟨h0, h1⟩))
set_option maxRecDepth 100000 in
theorem f_209_842 : fetch 209 842 = some (842, .aload_n 0, 1, [0], 0) := (fm_209 842).trans rfl
theorem u_209_842s {S : Scr} {d : Nat} {a1 a2 a3 : AV} {st : List AV} {sh : Shp} {I : IM} {R : RM} : ev S d 209 842 [.inr (.inr 2), a1, a2, a3] st (sh, I, R) = ev S d 209 843 [.inr (.inr 2), a1, a2, a3] (.inr (.inr 2) :: st) (sh, I, R) := (ev_eq f_209_842).trans rfl
set_option maxRecDepth 100000 in
theorem f_209_843 : fetch 209 843 = some (843, .iload_n 3, 1, [3], 0) := (fm_209 843).trans rfl
theorem u_209_843 {S : Scr} {d : Nat} {a0 a1 a2 : AV} {st : List AV} {sh : Shp} {I : IM} {R : RM} {x : Int} : ev S d 209 843 [a0, a1, a2, .inl x] st (sh, I, R) = ev S d 209 844 [a0, a1, a2, .inl x] (.inl x :: st) (sh, I, R) := (ev_eq f_209_843).trans rfl
set_option maxRecDepth 100000 in
theorem f_209_844 : fetch 209 844 = some (844, .iconst 2, 1, [], 2) := (fm_209 844).trans rfl
theorem u_209_844 {S : Scr} {d : Nat} {a0 a1 a2 a3 : AV} {st : List AV} {sh : Shp} {I : IM} {R : RM} : ev S d 209 844 [a0, a1, a2, a3] st (sh, I, R) = ev S d 209 845 [a0, a1, a2, a3] (.inl 2 :: st) (sh, I, R) := (ev_eq f_209_844).trans rfl
set_option maxRecDepth 100000 in
theorem f_209_845 : fetch 209 845 = some (845, .iadd, 1, [], 0) := (fm_209 845).trans rfl
theorem u_209_845 {S : Scr} {d : Nat} {a0 a1 a2 a3 : AV} {st : List AV} {sh : Shp} {I : IM} {R : RM} {x y : Int} : ev S d 209 845 [a0, a1, a2, a3] (.inl y :: .inl x :: st) (sh, I, R) = ev S d 209 846 [a0, a1, a2, a3] (.inl (wr (x + y)) :: st) (sh, I, R) := (ev_eq f_209_845).trans rfl
set_option maxRecDepth 100000 in
theorem f_209_846 : fetch 209 846 = some (846, .iaload, 1, [], 0) := (fm_209 846).trans rfl
theorem u_209_846s {S : Scr} {d : Nat} {a0 a1 a2 a3 : AV} {st : List AV} {sh : Shp} {I : IM} {R : RM} {i : Int} (h0 : 0 ≤ i) (h1 : i < S.2) : ev S d 209 846 [a0, a1, a2, a3] (.inl i :: .inr (.inr 2) :: st) (sh, I, R) = ev S d 209 847 [a0, a1, a2, a3] (.inl (S.1 i) :: st) (sh, I, R) := (ev_eq f_209_846).trans (congrArg (fin S d 209) (if_pos ⟨h0, h1⟩))
set_option maxRecDepth 100000 in
theorem f_209_847 : fetch 209 847 = some (847, .invokevirtual 98, 3, [105, 2, 215], 0) := (fm_209 847).trans rfl
theorem u_209_847 {S : Scr} {d : Nat} {a0 a1 a2 a3 : AV} {st : List AV} {sh : Shp} {I : IM} {R : RM} {x0 : Int} {x1 : Int} {k : Nat} (h : tg sh k = 8) (hr : st.length ≤ 8) : ev S d 209 847 [a0, a1, a2, a3] (.inl x1 :: .inl x0 :: .inr (.inl k) :: st) (sh, I, R) = bnd (cl d 105 [.inr (.inl k), .inl x0, .inl x1] (sh, I, R)) (fun v M => ev S d 209 850 [a0, a1, a2, a3] (psh v st) M) := (ev_eq f_209_847).trans (congrArg (fin S d 209) (if_pos ⟨h, rfl, hr⟩))
set_option maxRecDepth 100000 in
theorem f_209_850 : fetch 209 850 = some (850, .aload_n 2, 1, [2], 0) := (fm_209 850).trans rfl
theorem u_209_850 {S : Scr} {d : Nat} {a0 a1 a3 : AV} {st : List AV} {sh : Shp} {I : IM} {R : RM} {x : Nat} : ev S d 209 850 [a0, a1, .inr (.inl x), a3] st (sh, I, R) = ev S d 209 851 [a0, a1, .inr (.inl x), a3] (.inr (.inl x) :: st) (sh, I, R) := (ev_eq f_209_850).trans rfl
set_option maxRecDepth 100000 in
theorem f_209_851 : fetch 209 851 = some (851, .aload_n 0, 1, [0], 0) := (fm_209 851).trans rfl
theorem u_209_851s {S : Scr} {d : Nat} {a1 a2 a3 : AV} {st : List AV} {sh : Shp} {I : IM} {R : RM} : ev S d 209 851 [.inr (.inr 2), a1, a2, a3] st (sh, I, R) = ev S d 209 852 [.inr (.inr 2), a1, a2, a3] (.inr (.inr 2) :: st) (sh, I, R) := (ev_eq f_209_851).trans rfl
set_option maxRecDepth 100000 in
theorem f_209_852 : fetch 209 852 = some (852, .iload_n 3, 1, [3], 0) := (fm_209 852).trans rfl
theorem u_209_852 {S : Scr} {d : Nat} {a0 a1 a2 : AV} {st : List AV} {sh : Shp} {I : IM} {R : RM} {x : Int} : ev S d 209 852 [a0, a1, a2, .inl x] st (sh, I, R) = ev S d 209 853 [a0, a1, a2, .inl x] (.inl x :: st) (sh, I, R) := (ev_eq f_209_852).trans rfl
set_option maxRecDepth 100000 in
theorem f_209_853 : fetch 209 853 = some (853, .iconst 1, 1, [], 1) := (fm_209 853).trans rfl
theorem u_209_853 {S : Scr} {d : Nat} {a0 a1 a2 a3 : AV} {st : List AV} {sh : Shp} {I : IM} {R : RM} : ev S d 209 853 [a0, a1, a2, a3] st (sh, I, R) = ev S d 209 854 [a0, a1, a2, a3] (.inl 1 :: st) (sh, I, R) := (ev_eq f_209_853).trans rfl
set_option maxRecDepth 100000 in
theorem f_209_854 : fetch 209 854 = some (854, .iadd, 1, [], 0) := (fm_209 854).trans rfl
theorem u_209_854 {S : Scr} {d : Nat} {a0 a1 a2 a3 : AV} {st : List AV} {sh : Shp} {I : IM} {R : RM} {x y : Int} : ev S d 209 854 [a0, a1, a2, a3] (.inl y :: .inl x :: st) (sh, I, R) = ev S d 209 855 [a0, a1, a2, a3] (.inl (wr (x + y)) :: st) (sh, I, R) := (ev_eq f_209_854).trans rfl
set_option maxRecDepth 100000 in
theorem f_209_855 : fetch 209 855 = some (855, .iaload, 1, [], 0) := (fm_209 855).trans rfl
theorem u_209_855s {S : Scr} {d : Nat} {a0 a1 a2 a3 : AV} {st : List AV} {sh : Shp} {I : IM} {R : RM} {i : Int} (h0 : 0 ≤ i) (h1 : i < S.2) : ev S d 209 855 [a0, a1, a2, a3] (.inl i :: .inr (.inr 2) :: st) (sh, I, R) = ev S d 209 856 [a0, a1, a2, a3] (.inl (S.1 i) :: st) (sh, I, R) := (ev_eq f_209_855).trans (congrArg (fin S d 209) (if_pos ⟨h0, h1⟩))
set_option maxRecDepth 100000 in
theorem f_209_856 : fetch 209 856 = some (856, .aload_n 0, 1, [0], 0) := (fm_209 856).trans rfl
theorem u_209_856s {S : Scr} {d : Nat} {a1 a2 a3 : AV} {st : List AV} {sh : Shp} {I : IM} {R : RM} : ev S d 209 856 [.inr (.inr 2), a1, a2, a3] st (sh, I, R) = ev S d 209 857 [.inr (.inr 2), a1, a2, a3] (.inr (.inr 2) :: st) (sh, I, R) := (ev_eq f_209_856).trans rfl
set_option maxRecDepth 100000 in
theorem f_209_857 : fetch 209 857 = some (857, .iload_n 3, 1, [3], 0) := (fm_209 857).trans rfl
theorem u_209_857 {S : Scr} {d : Nat} {a0 a1 a2 : AV} {st : List AV} {sh : Shp} {I : IM} {R : RM} {x : Int} : ev S d 209 857 [a0, a1, a2, .inl x] st (sh, I, R) = ev S d 209 858 [a0, a1, a2, .inl x] (.inl x :: st) (sh, I, R) := (ev_eq f_209_857).trans rfl
set_option maxRecDepth 100000 in
theorem f_209_858 : fetch 209 858 = some (858, .iconst 2, 1, [], 2) := (fm_209 858).trans rfl
theorem u_209_858 {S : Scr} {d : Nat} {a0 a1 a2 a3 : AV} {st : List AV} {sh : Shp} {I : IM} {R : RM} : ev S d 209 858 [a0, a1, a2, a3] st (sh, I, R) = ev S d 209 859 [a0, a1, a2, a3] (.inl 2 :: st) (sh, I, R) := (ev_eq f_209_858).trans rfl
set_option maxRecDepth 100000 in
theorem f_209_859 : fetch 209 859 = some (859, .iadd, 1, [], 0) := (fm_209 859).trans rfl
theorem u_209_859 {S : Scr} {d : Nat} {a0 a1 a2 a3 : AV} {st : List AV} {sh : Shp} {I : IM} {R : RM} {x y : Int} : ev S d 209 859 [a0, a1, a2, a3] (.inl y :: .inl x :: st) (sh, I, R) = ev S d 209 860 [a0, a1, a2, a3] (.inl (wr (x + y)) :: st) (sh, I, R) := (ev_eq f_209_859).trans rfl
set_option maxRecDepth 100000 in
theorem f_209_860 : fetch 209 860 = some (860, .iaload, 1, [], 0) := (fm_209 860).trans rfl
theorem u_209_860s {S : Scr} {d : Nat} {a0 a1 a2 a3 : AV} {st : List AV} {sh : Shp} {I : IM} {R : RM} {i : Int} (h0 : 0 ≤ i) (h1 : i < S.2) : ev S d 209 860 [a0, a1, a2, a3] (.inl i :: .inr (.inr 2) :: st) (sh, I, R) = ev S d 209 861 [a0, a1, a2, a3] (.inl (S.1 i) :: st) (sh, I, R) := (ev_eq f_209_860).trans (congrArg (fin S d 209) (if_pos ⟨h0, h1⟩))
set_option maxRecDepth 100000 in
theorem f_209_861 : fetch 209 861 = some (861, .invokevirtual 101, 3, [188, 2, 216], 0) := (fm_209 861).trans rfl
theorem u_209_861 {S : Scr} {d : Nat} {a0 a1 a2 a3 : AV} {st : List AV} {sh : Shp} {I : IM} {R : RM} {x0 : Int} {x1 : Int} {k : Nat} (h : tg sh k = 9) (hr : st.length ≤ 8) : ev S d 209 861 [a0, a1, a2, a3] (.inl x1 :: .inl x0 :: .inr (.inl k) :: st) (sh, I, R) = bnd (cl d 188 [.inr (.inl k), .inl x0, .inl x1] (sh, I, R)) (fun v M => ev S d 209 864 [a0, a1, a2, a3] (psh v st) M) := (ev_eq f_209_861).trans (congrArg (fin S d 209) (if_pos ⟨h, rfl, hr⟩))
set_option maxRecDepth 100000 in
theorem f_209_864 : fetch 209 864 = some (864, .if_icmp .eq 308, 3, [1172], 0) := (fm_209 864).trans rfl
theorem u_209_864 {S : Scr} {d : Nat} {a0 a1 a2 a3 : AV} {st : List AV} {sh : Shp} {I : IM} {R : RM} {x y : Int} : ev S d 209 864 [a0, a1, a2, a3] (.inl y :: .inl x :: st) (sh, I, R) = if x = y then ev S d 209 1172 [a0, a1, a2, a3] st (sh, I, R) else ev S d 209 867 [a0, a1, a2, a3] st (sh, I, R) := (ev_eq f_209_864).trans fin_icmp_eq
set_option maxRecDepth 100000 in
theorem f_209_867 : fetch 209 867 = some (867, .iconst 0, 1, [], 0) := (fm_209 867).trans rfl
theorem u_209_867 {S : Scr} {d : Nat} {a0 a1 a2 a3 : AV} {st : List AV} {sh : Shp} {I : IM} {R : RM} : ev S d 209 867 [a0, a1, a2, a3] st (sh, I, R) = ev S d 209 868 [a0, a1, a2, a3] (.inl 0 :: st) (sh, I, R) := (ev_eq f_209_867).trans rfl
set_option maxRecDepth 100000 in
theorem f_209_868 : fetch 209 868 = some (868, .ireturn, 1, [1], 0) := (fm_209 868).trans rfl
theorem u_209_868 {S : Scr} {d : Nat} {a0 a1 a2 a3 : AV} {sh : Shp} {I : IM} {R : RM} {x : Int} (h : x = 0 ∨ x = 1) : ev S d 209 868 [a0, a1, a2, a3] [.inl x] (sh, I, R) = some (some (.inl x), (sh, I, R)) := (ev_eq f_209_868).trans (fin_iret1 h)
set_option maxRecDepth 100000 in
theorem f_209_869 : fetch 209 869 = some (869, .aload_n 1, 1, [1], 0) := (fm_209 869).trans rfl
theorem u_209_869 {S : Scr} {d : Nat} {a0 a2 a3 : AV} {st : List AV} {sh : Shp} {I : IM} {R : RM} {x : Nat} : ev S d 209 869 [a0, .inr (.inl x), a2, a3] st (sh, I, R) = ev S d 209 870 [a0, .inr (.inl x), a2, a3] (.inr (.inl x) :: st) (sh, I, R) := (ev_eq f_209_869).trans rfl
set_option maxRecDepth 100000 in
theorem f_209_870 : fetch 209 870 = some (870, .aload_n 0, 1, [0], 0) := (fm_209 870).trans rfl
theorem u_209_870s {S : Scr} {d : Nat} {a1 a2 a3 : AV} {st : List AV} {sh : Shp} {I : IM} {R : RM} : ev S d 209 870 [.inr (.inr 2), a1, a2, a3] st (sh, I, R) = ev S d 209 871 [.inr (.inr 2), a1, a2, a3] (.inr (.inr 2) :: st) (sh, I, R) := (ev_eq f_209_870).trans rfl
set_option maxRecDepth 100000 in
theorem f_209_871 : fetch 209 871 = some (871, .iload_n 3, 1, [3], 0) := (fm_209 871).trans rfl
theorem u_209_871 {S : Scr} {d : Nat} {a0 a1 a2 : AV} {st : List AV} {sh : Shp} {I : IM} {R : RM} {x : Int} : ev S d 209 871 [a0, a1, a2, .inl x] st (sh, I, R) = ev S d 209 872 [a0, a1, a2, .inl x] (.inl x :: st) (sh, I, R) := (ev_eq f_209_871).trans rfl
set_option maxRecDepth 100000 in
theorem f_209_872 : fetch 209 872 = some (872, .iconst 1, 1, [], 1) := (fm_209 872).trans rfl
theorem u_209_872 {S : Scr} {d : Nat} {a0 a1 a2 a3 : AV} {st : List AV} {sh : Shp} {I : IM} {R : RM} : ev S d 209 872 [a0, a1, a2, a3] st (sh, I, R) = ev S d 209 873 [a0, a1, a2, a3] (.inl 1 :: st) (sh, I, R) := (ev_eq f_209_872).trans rfl
set_option maxRecDepth 100000 in
theorem f_209_873 : fetch 209 873 = some (873, .iadd, 1, [], 0) := (fm_209 873).trans rfl
theorem u_209_873 {S : Scr} {d : Nat} {a0 a1 a2 a3 : AV} {st : List AV} {sh : Shp} {I : IM} {R : RM} {x y : Int} : ev S d 209 873 [a0, a1, a2, a3] (.inl y :: .inl x :: st) (sh, I, R) = ev S d 209 874 [a0, a1, a2, a3] (.inl (wr (x + y)) :: st) (sh, I, R) := (ev_eq f_209_873).trans rfl
set_option maxRecDepth 100000 in
theorem f_209_874 : fetch 209 874 = some (874, .iaload, 1, [], 0) := (fm_209 874).trans rfl
theorem u_209_874s {S : Scr} {d : Nat} {a0 a1 a2 a3 : AV} {st : List AV} {sh : Shp} {I : IM} {R : RM} {i : Int} (h0 : 0 ≤ i) (h1 : i < S.2) : ev S d 209 874 [a0, a1, a2, a3] (.inl i :: .inr (.inr 2) :: st) (sh, I, R) = ev S d 209 875 [a0, a1, a2, a3] (.inl (S.1 i) :: st) (sh, I, R) := (ev_eq f_209_874).trans (congrArg (fin S d 209) (if_pos ⟨h0, h1⟩))
set_option maxRecDepth 100000 in
theorem f_209_875 : fetch 209 875 = some (875, .aload_n 0, 1, [0], 0) := (fm_209 875).trans rfl
theorem u_209_875s {S : Scr} {d : Nat} {a1 a2 a3 : AV} {st : List AV} {sh : Shp} {I : IM} {R : RM} : ev S d 209 875 [.inr (.inr 2), a1, a2, a3] st (sh, I, R) = ev S d 209 876 [.inr (.inr 2), a1, a2, a3] (.inr (.inr 2) :: st) (sh, I, R) := (ev_eq f_209_875).trans rfl
set_option maxRecDepth 100000 in
theorem f_209_876 : fetch 209 876 = some (876, .iload_n 3, 1, [3], 0) := (fm_209 876).trans rfl
theorem u_209_876 {S : Scr} {d : Nat} {a0 a1 a2 : AV} {st : List AV} {sh : Shp} {I : IM} {R : RM} {x : Int} : ev S d 209 876 [a0, a1, a2, .inl x] st (sh, I, R) = ev S d 209 877 [a0, a1, a2, .inl x] (.inl x :: st) (sh, I, R) := (ev_eq f_209_876).trans rfl
set_option maxRecDepth 100000 in
theorem f_209_877 : fetch 209 877 = some (877, .iconst 2, 1, [], 2) := (fm_209 877).trans rfl
theorem u_209_877 {S : Scr} {d : Nat} {a0 a1 a2 a3 : AV} {st : List AV} {sh : Shp} {I : IM} {R : RM} : ev S d 209 877 [a0, a1, a2, a3] st (sh, I, R) = ev S d 209 878 [a0, a1, a2, a3] (.inl 2 :: st) (sh, I, R) := (ev_eq f_209_877).trans rfl
set_option maxRecDepth 100000 in
theorem f_209_878 : fetch 209 878 = some (878, .iadd, 1, [], 0) := (fm_209 878).trans rfl
theorem u_209_878 {S : Scr} {d : Nat} {a0 a1 a2 a3 : AV} {st : List AV} {sh : Shp} {I : IM} {R : RM} {x y : Int} : ev S d 209 878 [a0, a1, a2, a3] (.inl y :: .inl x :: st) (sh, I, R) = ev S d 209 879 [a0, a1, a2, a3] (.inl (wr (x + y)) :: st) (sh, I, R) := (ev_eq f_209_878).trans rfl
set_option maxRecDepth 100000 in
theorem f_209_879 : fetch 209 879 = some (879, .iaload, 1, [], 0) := (fm_209 879).trans rfl
theorem u_209_879s {S : Scr} {d : Nat} {a0 a1 a2 a3 : AV} {st : List AV} {sh : Shp} {I : IM} {R : RM} {i : Int} (h0 : 0 ≤ i) (h1 : i < S.2) : ev S d 209 879 [a0, a1, a2, a3] (.inl i :: .inr (.inr 2) :: st) (sh, I, R) = ev S d 209 880 [a0, a1, a2, a3] (.inl (S.1 i) :: st) (sh, I, R) := (ev_eq f_209_879).trans (congrArg (fin S d 209) (if_pos ⟨h0, h1⟩))
set_option maxRecDepth 100000 in
theorem f_209_880 : fetch 209 880 = some (880, .invokevirtual 102, 3, [106, 2, 217], 0) := (fm_209 880).trans rfl
theorem u_209_880 {S : Scr} {d : Nat} {a0 a1 a2 a3 : AV} {st : List AV} {sh : Shp} {I : IM} {R : RM} {x0 : Int} {x1 : Int} {k : Nat} (h : tg sh k = 8) (hr : st.length ≤ 8) : ev S d 209 880 [a0, a1, a2, a3] (.inl x1 :: .inl x0 :: .inr (.inl k) :: st) (sh, I, R) = bnd (cl d 106 [.inr (.inl k), .inl x0, .inl x1] (sh, I, R)) (fun v M => ev S d 209 883 [a0, a1, a2, a3] (psh v st) M) := (ev_eq f_209_880).trans (congrArg (fin S d 209) (if_pos ⟨h, rfl, hr⟩))
set_option maxRecDepth 100000 in
theorem f_209_883 : fetch 209 883 = some (883, .aload_n 2, 1, [2], 0) := (fm_209 883).trans rfl
theorem u_209_883 {S : Scr} {d : Nat} {a0 a1 a3 : AV} {st : List AV} {sh : Shp} {I : IM} {R : RM} {x : Nat} : ev S d 209 883 [a0, a1, .inr (.inl x), a3] st (sh, I, R) = ev S d 209 884 [a0, a1, .inr (.inl x), a3] (.inr (.inl x) :: st) (sh, I, R) := (ev_eq f_209_883).trans rfl
set_option maxRecDepth 100000 in
theorem f_209_884 : fetch 209 884 = some (884, .aload_n 0, 1, [0], 0) := (fm_209 884).trans rfl
theorem u_209_884s {S : Scr} {d : Nat} {a1 a2 a3 : AV} {st : List AV} {sh : Shp} {I : IM} {R : RM} : ev S d 209 884 [.inr (.inr 2), a1, a2, a3] st (sh, I, R) = ev S d 209 885 [.inr (.inr 2), a1, a2, a3] (.inr (.inr 2) :: st) (sh, I, R) := (ev_eq f_209_884).trans rfl
set_option maxRecDepth 100000 in
theorem f_209_885 : fetch 209 885 = some (885, .iload_n 3, 1, [3], 0) := (fm_209 885).trans rfl
theorem u_209_885 {S : Scr} {d : Nat} {a0 a1 a2 : AV} {st : List AV} {sh : Shp} {I : IM} {R : RM} {x : Int} : ev S d 209 885 [a0, a1, a2, .inl x] st (sh, I, R) = ev S d 209 886 [a0, a1, a2, .inl x] (.inl x :: st) (sh, I, R) := (ev_eq f_209_885).trans rfl
set_option maxRecDepth 100000 in
theorem f_209_886 : fetch 209 886 = some (886, .iconst 1, 1, [], 1) := (fm_209 886).trans rfl
theorem u_209_886 {S : Scr} {d : Nat} {a0 a1 a2 a3 : AV} {st : List AV} {sh : Shp} {I : IM} {R : RM} : ev S d 209 886 [a0, a1, a2, a3] st (sh, I, R) = ev S d 209 887 [a0, a1, a2, a3] (.inl 1 :: st) (sh, I, R) := (ev_eq f_209_886).trans rfl
set_option maxRecDepth 100000 in
theorem f_209_887 : fetch 209 887 = some (887, .iadd, 1, [], 0) := (fm_209 887).trans rfl
theorem u_209_887 {S : Scr} {d : Nat} {a0 a1 a2 a3 : AV} {st : List AV} {sh : Shp} {I : IM} {R : RM} {x y : Int} : ev S d 209 887 [a0, a1, a2, a3] (.inl y :: .inl x :: st) (sh, I, R) = ev S d 209 888 [a0, a1, a2, a3] (.inl (wr (x + y)) :: st) (sh, I, R) := (ev_eq f_209_887).trans rfl
set_option maxRecDepth 100000 in
theorem f_209_888 : fetch 209 888 = some (888, .iaload, 1, [], 0) := (fm_209 888).trans rfl
theorem u_209_888s {S : Scr} {d : Nat} {a0 a1 a2 a3 : AV} {st : List AV} {sh : Shp} {I : IM} {R : RM} {i : Int} (h0 : 0 ≤ i) (h1 : i < S.2) : ev S d 209 888 [a0, a1, a2, a3] (.inl i :: .inr (.inr 2) :: st) (sh, I, R) = ev S d 209 889 [a0, a1, a2, a3] (.inl (S.1 i) :: st) (sh, I, R) := (ev_eq f_209_888).trans (congrArg (fin S d 209) (if_pos ⟨h0, h1⟩))
set_option maxRecDepth 100000 in
theorem f_209_889 : fetch 209 889 = some (889, .aload_n 0, 1, [0], 0) := (fm_209 889).trans rfl
theorem u_209_889s {S : Scr} {d : Nat} {a1 a2 a3 : AV} {st : List AV} {sh : Shp} {I : IM} {R : RM} : ev S d 209 889 [.inr (.inr 2), a1, a2, a3] st (sh, I, R) = ev S d 209 890 [.inr (.inr 2), a1, a2, a3] (.inr (.inr 2) :: st) (sh, I, R) := (ev_eq f_209_889).trans rfl
set_option maxRecDepth 100000 in
theorem f_209_890 : fetch 209 890 = some (890, .iload_n 3, 1, [3], 0) := (fm_209 890).trans rfl
theorem u_209_890 {S : Scr} {d : Nat} {a0 a1 a2 : AV} {st : List AV} {sh : Shp} {I : IM} {R : RM} {x : Int} : ev S d 209 890 [a0, a1, a2, .inl x] st (sh, I, R) = ev S d 209 891 [a0, a1, a2, .inl x] (.inl x :: st) (sh, I, R) := (ev_eq f_209_890).trans rfl
set_option maxRecDepth 100000 in
theorem f_209_891 : fetch 209 891 = some (891, .iconst 2, 1, [], 2) := (fm_209 891).trans rfl
theorem u_209_891 {S : Scr} {d : Nat} {a0 a1 a2 a3 : AV} {st : List AV} {sh : Shp} {I : IM} {R : RM} : ev S d 209 891 [a0, a1, a2, a3] st (sh, I, R) = ev S d 209 892 [a0, a1, a2, a3] (.inl 2 :: st) (sh, I, R) := (ev_eq f_209_891).trans rfl
set_option maxRecDepth 100000 in
theorem f_209_892 : fetch 209 892 = some (892, .iadd, 1, [], 0) := (fm_209 892).trans rfl
theorem u_209_892 {S : Scr} {d : Nat} {a0 a1 a2 a3 : AV} {st : List AV} {sh : Shp} {I : IM} {R : RM} {x y : Int} : ev S d 209 892 [a0, a1, a2, a3] (.inl y :: .inl x :: st) (sh, I, R) = ev S d 209 893 [a0, a1, a2, a3] (.inl (wr (x + y)) :: st) (sh, I, R) := (ev_eq f_209_892).trans rfl
set_option maxRecDepth 100000 in
theorem f_209_893 : fetch 209 893 = some (893, .iaload, 1, [], 0) := (fm_209 893).trans rfl
theorem u_209_893s {S : Scr} {d : Nat} {a0 a1 a2 a3 : AV} {st : List AV} {sh : Shp} {I : IM} {R : RM} {i : Int} (h0 : 0 ≤ i) (h1 : i < S.2) : ev S d 209 893 [a0, a1, a2, a3] (.inl i :: .inr (.inr 2) :: st) (sh, I, R) = ev S d 209 894 [a0, a1, a2, a3] (.inl (S.1 i) :: st) (sh, I, R) := (ev_eq f_209_893).trans (congrArg (fin S d 209) (if_pos ⟨h0, h1⟩))
set_option maxRecDepth 100000 in
theorem f_209_894 : fetch 209 894 = some (894, .invokevirtual 105, 3, [189, 2, 218], 0) := (fm_209 894).trans rfl
theorem u_209_894 {S : Scr} {d : Nat} {a0 a1 a2 a3 : AV} {st : List AV} {sh : Shp} {I : IM} {R : RM} {x0 : Int} {x1 : Int} {k : Nat} (h : tg sh k = 9) (hr : st.length ≤ 8) : ev S d 209 894 [a0, a1, a2, a3] (.inl x1 :: .inl x0 :: .inr (.inl k) :: st) (sh, I, R) = bnd (cl d 189 [.inr (.inl k), .inl x0, .inl x1] (sh, I, R)) (fun v M => ev S d 209 897 [a0, a1, a2, a3] (psh v st) M) := (ev_eq f_209_894).trans (congrArg (fin S d 209) (if_pos ⟨h, rfl, hr⟩))
set_option maxRecDepth 100000 in
theorem f_209_897 : fetch 209 897 = some (897, .if_icmp .eq 275, 3, [1172], 0) := (fm_209 897).trans rfl
theorem u_209_897 {S : Scr} {d : Nat} {a0 a1 a2 a3 : AV} {st : List AV} {sh : Shp} {I : IM} {R : RM} {x y : Int} : ev S d 209 897 [a0, a1, a2, a3] (.inl y :: .inl x :: st) (sh, I, R) = if x = y then ev S d 209 1172 [a0, a1, a2, a3] st (sh, I, R) else ev S d 209 900 [a0, a1, a2, a3] st (sh, I, R) := (ev_eq f_209_897).trans fin_icmp_eq
set_option maxRecDepth 100000 in
theorem f_209_900 : fetch 209 900 = some (900, .iconst 0, 1, [], 0) := (fm_209 900).trans rfl
theorem u_209_900 {S : Scr} {d : Nat} {a0 a1 a2 a3 : AV} {st : List AV} {sh : Shp} {I : IM} {R : RM} : ev S d 209 900 [a0, a1, a2, a3] st (sh, I, R) = ev S d 209 901 [a0, a1, a2, a3] (.inl 0 :: st) (sh, I, R) := (ev_eq f_209_900).trans rfl
set_option maxRecDepth 100000 in
theorem f_209_901 : fetch 209 901 = some (901, .ireturn, 1, [1], 0) := (fm_209 901).trans rfl
theorem u_209_901 {S : Scr} {d : Nat} {a0 a1 a2 a3 : AV} {sh : Shp} {I : IM} {R : RM} {x : Int} (h : x = 0 ∨ x = 1) : ev S d 209 901 [a0, a1, a2, a3] [.inl x] (sh, I, R) = some (some (.inl x), (sh, I, R)) := (ev_eq f_209_901).trans (fin_iret1 h)
set_option maxRecDepth 100000 in
theorem f_209_902 : fetch 209 902 = some (902, .aload_n 1, 1, [1], 0) := (fm_209 902).trans rfl
theorem u_209_902 {S : Scr} {d : Nat} {a0 a2 a3 : AV} {st : List AV} {sh : Shp} {I : IM} {R : RM} {x : Nat} : ev S d 209 902 [a0, .inr (.inl x), a2, a3] st (sh, I, R) = ev S d 209 903 [a0, .inr (.inl x), a2, a3] (.inr (.inl x) :: st) (sh, I, R) := (ev_eq f_209_902).trans rfl
set_option maxRecDepth 100000 in
theorem f_209_903 : fetch 209 903 = some (903, .aload_n 0, 1, [0], 0) := (fm_209 903).trans rfl
theorem u_209_903s {S : Scr} {d : Nat} {a1 a2 a3 : AV} {st : List AV} {sh : Shp} {I : IM} {R : RM} : ev S d 209 903 [.inr (.inr 2), a1, a2, a3] st (sh, I, R) = ev S d 209 904 [.inr (.inr 2), a1, a2, a3] (.inr (.inr 2) :: st) (sh, I, R) := (ev_eq f_209_903).trans rfl
set_option maxRecDepth 100000 in
theorem f_209_904 : fetch 209 904 = some (904, .iload_n 3, 1, [3], 0) := (fm_209 904).trans rfl
theorem u_209_904 {S : Scr} {d : Nat} {a0 a1 a2 : AV} {st : List AV} {sh : Shp} {I : IM} {R : RM} {x : Int} : ev S d 209 904 [a0, a1, a2, .inl x] st (sh, I, R) = ev S d 209 905 [a0, a1, a2, .inl x] (.inl x :: st) (sh, I, R) := (ev_eq f_209_904).trans rfl
set_option maxRecDepth 100000 in
theorem f_209_905 : fetch 209 905 = some (905, .iconst 1, 1, [], 1) := (fm_209 905).trans rfl
theorem u_209_905 {S : Scr} {d : Nat} {a0 a1 a2 a3 : AV} {st : List AV} {sh : Shp} {I : IM} {R : RM} : ev S d 209 905 [a0, a1, a2, a3] st (sh, I, R) = ev S d 209 906 [a0, a1, a2, a3] (.inl 1 :: st) (sh, I, R) := (ev_eq f_209_905).trans rfl
set_option maxRecDepth 100000 in
theorem f_209_906 : fetch 209 906 = some (906, .iadd, 1, [], 0) := (fm_209 906).trans rfl
theorem u_209_906 {S : Scr} {d : Nat} {a0 a1 a2 a3 : AV} {st : List AV} {sh : Shp} {I : IM} {R : RM} {x y : Int} : ev S d 209 906 [a0, a1, a2, a3] (.inl y :: .inl x :: st) (sh, I, R) = ev S d 209 907 [a0, a1, a2, a3] (.inl (wr (x + y)) :: st) (sh, I, R) := (ev_eq f_209_906).trans rfl
set_option maxRecDepth 100000 in
theorem f_209_907 : fetch 209 907 = some (907, .iaload, 1, [], 0) := (fm_209 907).trans rfl
theorem u_209_907s {S : Scr} {d : Nat} {a0 a1 a2 a3 : AV} {st : List AV} {sh : Shp} {I : IM} {R : RM} {i : Int} (h0 : 0 ≤ i) (h1 : i < S.2) : ev S d 209 907 [a0, a1, a2, a3] (.inl i :: .inr (.inr 2) :: st) (sh, I, R) = ev S d 209 908 [a0, a1, a2, a3] (.inl (S.1 i) :: st) (sh, I, R) := (ev_eq f_209_907).trans (congrArg (fin S d 209) (if_pos ⟨h0, h1⟩))
set_option maxRecDepth 100000 in
theorem f_209_908 : fetch 209 908 = some (908, .aload_n 0, 1, [0], 0) := (fm_209 908).trans rfl
theorem u_209_908s {S : Scr} {d : Nat} {a1 a2 a3 : AV} {st : List AV} {sh : Shp} {I : IM} {R : RM} : ev S d 209 908 [.inr (.inr 2), a1, a2, a3] st (sh, I, R) = ev S d 209 909 [.inr (.inr 2), a1, a2, a3] (.inr (.inr 2) :: st) (sh, I, R) := (ev_eq f_209_908).trans rfl
set_option maxRecDepth 100000 in
theorem f_209_909 : fetch 209 909 = some (909, .iload_n 3, 1, [3], 0) := (fm_209 909).trans rfl
theorem u_209_909 {S : Scr} {d : Nat} {a0 a1 a2 : AV} {st : List AV} {sh : Shp} {I : IM} {R : RM} {x : Int} : ev S d 209 909 [a0, a1, a2, .inl x] st (sh, I, R) = ev S d 209 910 [a0, a1, a2, .inl x] (.inl x :: st) (sh, I, R) := (ev_eq f_209_909).trans rfl
set_option maxRecDepth 100000 in
theorem f_209_910 : fetch 209 910 = some (910, .iconst 2, 1, [], 2) := (fm_209 910).trans rfl
theorem u_209_910 {S : Scr} {d : Nat} {a0 a1 a2 a3 : AV} {st : List AV} {sh : Shp} {I : IM} {R : RM} : ev S d 209 910 [a0, a1, a2, a3] st (sh, I, R) = ev S d 209 911 [a0, a1, a2, a3] (.inl 2 :: st) (sh, I, R) := (ev_eq f_209_910).trans rfl
set_option maxRecDepth 100000 in
theorem f_209_911 : fetch 209 911 = some (911, .iadd, 1, [], 0) := (fm_209 911).trans rfl
theorem u_209_911 {S : Scr} {d : Nat} {a0 a1 a2 a3 : AV} {st : List AV} {sh : Shp} {I : IM} {R : RM} {x y : Int} : ev S d 209 911 [a0, a1, a2, a3] (.inl y :: .inl x :: st) (sh, I, R) = ev S d 209 912 [a0, a1, a2, a3] (.inl (wr (x + y)) :: st) (sh, I, R) := (ev_eq f_209_911).trans rfl
set_option maxRecDepth 100000 in
theorem f_209_912 : fetch 209 912 = some (912, .iaload, 1, [], 0) := (fm_209 912).trans rfl
theorem u_209_912s {S : Scr} {d : Nat} {a0 a1 a2 a3 : AV} {st : List AV} {sh : Shp} {I : IM} {R : RM} {i : Int} (h0 : 0 ≤ i) (h1 : i < S.2) : ev S d 209 912 [a0, a1, a2, a3] (.inl i :: .inr (.inr 2) :: st) (sh, I, R) = ev S d 209 913 [a0, a1, a2, a3] (.inl (S.1 i) :: st) (sh, I, R) := (ev_eq f_209_912).trans (congrArg (fin S d 209) (if_pos ⟨h0, h1⟩))
set_option maxRecDepth 100000 in
theorem f_209_913 : fetch 209 913 = some (913, .invokevirtual 106, 3, [107, 2, 219], 0) := (fm_209 913).trans rfl
theorem u_209_913 {S : Scr} {d : Nat} {a0 a1 a2 a3 : AV} {st : List AV} {sh : Shp} {I : IM} {R : RM} {x0 : Int} {x1 : Int} {k : Nat} (h : tg sh k = 8) (hr : st.length ≤ 8) : ev S d 209 913 [a0, a1, a2, a3] (.inl x1 :: .inl x0 :: .inr (.inl k) :: st) (sh, I, R) = bnd (cl d 107 [.inr (.inl k), .inl x0, .inl x1] (sh, I, R)) (fun v M => ev S d 209 916 [a0, a1, a2, a3] (psh v st) M) := (ev_eq f_209_913).trans (congrArg (fin S d 209) (if_pos ⟨h, rfl, hr⟩))
set_option maxRecDepth 100000 in
theorem f_209_916 : fetch 209 916 = some (916, .aload_n 2, 1, [2], 0) := (fm_209 916).trans rfl
theorem u_209_916 {S : Scr} {d : Nat} {a0 a1 a3 : AV} {st : List AV} {sh : Shp} {I : IM} {R : RM} {x : Nat} : ev S d 209 916 [a0, a1, .inr (.inl x), a3] st (sh, I, R) = ev S d 209 917 [a0, a1, .inr (.inl x), a3] (.inr (.inl x) :: st) (sh, I, R) := (ev_eq f_209_916).trans rfl
set_option maxRecDepth 100000 in
theorem f_209_917 : fetch 209 917 = some (917, .aload_n 0, 1, [0], 0) := (fm_209 917).trans rfl
theorem u_209_917s {S : Scr} {d : Nat} {a1 a2 a3 : AV} {st : List AV} {sh : Shp} {I : IM} {R : RM} : ev S d 209 917 [.inr (.inr 2), a1, a2, a3] st (sh, I, R) = ev S d 209 918 [.inr (.inr 2), a1, a2, a3] (.inr (.inr 2) :: st) (sh, I, R) := (ev_eq f_209_917).trans rfl
set_option maxRecDepth 100000 in
theorem f_209_918 : fetch 209 918 = some (918, .iload_n 3, 1, [3], 0) := (fm_209 918).trans rfl
theorem u_209_918 {S : Scr} {d : Nat} {a0 a1 a2 : AV} {st : List AV} {sh : Shp} {I : IM} {R : RM} {x : Int} : ev S d 209 918 [a0, a1, a2, .inl x] st (sh, I, R) = ev S d 209 919 [a0, a1, a2, .inl x] (.inl x :: st) (sh, I, R) := (ev_eq f_209_918).trans rfl
set_option maxRecDepth 100000 in
theorem f_209_919 : fetch 209 919 = some (919, .iconst 1, 1, [], 1) := (fm_209 919).trans rfl
theorem u_209_919 {S : Scr} {d : Nat} {a0 a1 a2 a3 : AV} {st : List AV} {sh : Shp} {I : IM} {R : RM} : ev S d 209 919 [a0, a1, a2, a3] st (sh, I, R) = ev S d 209 920 [a0, a1, a2, a3] (.inl 1 :: st) (sh, I, R) := (ev_eq f_209_919).trans rfl
set_option maxRecDepth 100000 in
theorem f_209_920 : fetch 209 920 = some (920, .iadd, 1, [], 0) := (fm_209 920).trans rfl
theorem u_209_920 {S : Scr} {d : Nat} {a0 a1 a2 a3 : AV} {st : List AV} {sh : Shp} {I : IM} {R : RM} {x y : Int} : ev S d 209 920 [a0, a1, a2, a3] (.inl y :: .inl x :: st) (sh, I, R) = ev S d 209 921 [a0, a1, a2, a3] (.inl (wr (x + y)) :: st) (sh, I, R) := (ev_eq f_209_920).trans rfl
set_option maxRecDepth 100000 in
theorem f_209_921 : fetch 209 921 = some (921, .iaload, 1, [], 0) := (fm_209 921).trans rfl
theorem u_209_921s {S : Scr} {d : Nat} {a0 a1 a2 a3 : AV} {st : List AV} {sh : Shp} {I : IM} {R : RM} {i : Int} (h0 : 0 ≤ i) (h1 : i < S.2) : ev S d 209 921 [a0, a1, a2, a3] (.inl i :: .inr (.inr 2) :: st) (sh, I, R) = ev S d 209 922 [a0, a1, a2, a3] (.inl (S.1 i) :: st) (sh, I, R) := (ev_eq f_209_921).trans (congrArg (fin S d 209) (if_pos ⟨h0, h1⟩))
set_option maxRecDepth 100000 in
theorem f_209_922 : fetch 209 922 = some (922, .aload_n 0, 1, [0], 0) := (fm_209 922).trans rfl
theorem u_209_922s {S : Scr} {d : Nat} {a1 a2 a3 : AV} {st : List AV} {sh : Shp} {I : IM} {R : RM} : ev S d 209 922 [.inr (.inr 2), a1, a2, a3] st (sh, I, R) = ev S d 209 923 [.inr (.inr 2), a1, a2, a3] (.inr (.inr 2) :: st) (sh, I, R) := (ev_eq f_209_922).trans rfl
set_option maxRecDepth 100000 in
theorem f_209_923 : fetch 209 923 = some (923, .iload_n 3, 1, [3], 0) := (fm_209 923).trans rfl
theorem u_209_923 {S : Scr} {d : Nat} {a0 a1 a2 : AV} {st : List AV} {sh : Shp} {I : IM} {R : RM} {x : Int} : ev S d 209 923 [a0, a1, a2, .inl x] st (sh, I, R) = ev S d 209 924 [a0, a1, a2, .inl x] (.inl x :: st) (sh, I, R) := (ev_eq f_209_923).trans rfl
set_option maxRecDepth 100000 in
theorem f_209_924 : fetch 209 924 = some (924, .iconst 2, 1, [], 2) := (fm_209 924).trans rfl
theorem u_209_924 {S : Scr} {d : Nat} {a0 a1 a2 a3 : AV} {st : List AV} {sh : Shp} {I : IM} {R : RM} : ev S d 209 924 [a0, a1, a2, a3] st (sh, I, R) = ev S d 209 925 [a0, a1, a2, a3] (.inl 2 :: st) (sh, I, R) := (ev_eq f_209_924).trans rfl
set_option maxRecDepth 100000 in
theorem f_209_925 : fetch 209 925 = some (925, .iadd, 1, [], 0) := (fm_209 925).trans rfl
theorem u_209_925 {S : Scr} {d : Nat} {a0 a1 a2 a3 : AV} {st : List AV} {sh : Shp} {I : IM} {R : RM} {x y : Int} : ev S d 209 925 [a0, a1, a2, a3] (.inl y :: .inl x :: st) (sh, I, R) = ev S d 209 926 [a0, a1, a2, a3] (.inl (wr (x + y)) :: st) (sh, I, R) := (ev_eq f_209_925).trans rfl
set_option maxRecDepth 100000 in
theorem f_209_926 : fetch 209 926 = some (926, .iaload, 1, [], 0) := (fm_209 926).trans rfl
theorem u_209_926s {S : Scr} {d : Nat} {a0 a1 a2 a3 : AV} {st : List AV} {sh : Shp} {I : IM} {R : RM} {i : Int} (h0 : 0 ≤ i) (h1 : i < S.2) : ev S d 209 926 [a0, a1, a2, a3] (.inl i :: .inr (.inr 2) :: st) (sh, I, R) = ev S d 209 927 [a0, a1, a2, a3] (.inl (S.1 i) :: st) (sh, I, R) := (ev_eq f_209_926).trans (congrArg (fin S d 209) (if_pos ⟨h0, h1⟩))
set_option maxRecDepth 100000 in
theorem f_209_927 : fetch 209 927 = some (927, .invokevirtual 109, 3, [194, 2, 220], 0) := (fm_209 927).trans rfl
theorem u_209_927 {S : Scr} {d : Nat} {a0 a1 a2 a3 : AV} {st : List AV} {sh : Shp} {I : IM} {R : RM} {x0 : Int} {x1 : Int} {k : Nat} (h : tg sh k = 9) (hr : st.length ≤ 8) : ev S d 209 927 [a0, a1, a2, a3] (.inl x1 :: .inl x0 :: .inr (.inl k) :: st) (sh, I, R) = bnd (cl d 194 [.inr (.inl k), .inl x0, .inl x1] (sh, I, R)) (fun v M => ev S d 209 930 [a0, a1, a2, a3] (psh v st) M) := (ev_eq f_209_927).trans (congrArg (fin S d 209) (if_pos ⟨h, rfl, hr⟩))
set_option maxRecDepth 100000 in
theorem f_209_930 : fetch 209 930 = some (930, .if_icmp .eq 242, 3, [1172], 0) := (fm_209 930).trans rfl
theorem u_209_930 {S : Scr} {d : Nat} {a0 a1 a2 a3 : AV} {st : List AV} {sh : Shp} {I : IM} {R : RM} {x y : Int} : ev S d 209 930 [a0, a1, a2, a3] (.inl y :: .inl x :: st) (sh, I, R) = if x = y then ev S d 209 1172 [a0, a1, a2, a3] st (sh, I, R) else ev S d 209 933 [a0, a1, a2, a3] st (sh, I, R) := (ev_eq f_209_930).trans fin_icmp_eq
set_option maxRecDepth 100000 in
theorem f_209_933 : fetch 209 933 = some (933, .iconst 0, 1, [], 0) := (fm_209 933).trans rfl
theorem u_209_933 {S : Scr} {d : Nat} {a0 a1 a2 a3 : AV} {st : List AV} {sh : Shp} {I : IM} {R : RM} : ev S d 209 933 [a0, a1, a2, a3] st (sh, I, R) = ev S d 209 934 [a0, a1, a2, a3] (.inl 0 :: st) (sh, I, R) := (ev_eq f_209_933).trans rfl
set_option maxRecDepth 100000 in
theorem f_209_934 : fetch 209 934 = some (934, .ireturn, 1, [1], 0) := (fm_209 934).trans rfl
theorem u_209_934 {S : Scr} {d : Nat} {a0 a1 a2 a3 : AV} {sh : Shp} {I : IM} {R : RM} {x : Int} (h : x = 0 ∨ x = 1) : ev S d 209 934 [a0, a1, a2, a3] [.inl x] (sh, I, R) = some (some (.inl x), (sh, I, R)) := (ev_eq f_209_934).trans (fin_iret1 h)
set_option maxRecDepth 100000 in
theorem f_209_935 : fetch 209 935 = some (935, .aload_n 1, 1, [1], 0) := (fm_209 935).trans rfl
theorem u_209_935 {S : Scr} {d : Nat} {a0 a2 a3 : AV} {st : List AV} {sh : Shp} {I : IM} {R : RM} {x : Nat} : ev S d 209 935 [a0, .inr (.inl x), a2, a3] st (sh, I, R) = ev S d 209 936 [a0, .inr (.inl x), a2, a3] (.inr (.inl x) :: st) (sh, I, R) := (ev_eq f_209_935).trans rfl
set_option maxRecDepth 100000 in
theorem f_209_936 : fetch 209 936 = some (936, .aload_n 0, 1, [0], 0) := (fm_209 936).trans rfl
theorem u_209_936s {S : Scr} {d : Nat} {a1 a2 a3 : AV} {st : List AV} {sh : Shp} {I : IM} {R : RM} : ev S d 209 936 [.inr (.inr 2), a1, a2, a3] st (sh, I, R) = ev S d 209 937 [.inr (.inr 2), a1, a2, a3] (.inr (.inr 2) :: st) (sh, I, R) := (ev_eq f_209_936).trans rfl
set_option maxRecDepth 100000 in
theorem f_209_937 : fetch 209 937 = some (937, .iload_n 3, 1, [3], 0) := (fm_209 937).trans rfl
theorem u_209_937 {S : Scr} {d : Nat} {a0 a1 a2 : AV} {st : List AV} {sh : Shp} {I : IM} {R : RM} {x : Int} : ev S d 209 937 [a0, a1, a2, .inl x] st (sh, I, R) = ev S d 209 938 [a0, a1, a2, .inl x] (.inl x :: st) (sh, I, R) := (ev_eq f_209_937).trans rfl
set_option maxRecDepth 100000 in
theorem f_209_938 : fetch 209 938 = some (938, .iconst 1, 1, [], 1) := (fm_209 938).trans rfl
theorem u_209_938 {S : Scr} {d : Nat} {a0 a1 a2 a3 : AV} {st : List AV} {sh : Shp} {I : IM} {R : RM} : ev S d 209 938 [a0, a1, a2, a3] st (sh, I, R) = ev S d 209 939 [a0, a1, a2, a3] (.inl 1 :: st) (sh, I, R) := (ev_eq f_209_938).trans rfl
set_option maxRecDepth 100000 in
theorem f_209_939 : fetch 209 939 = some (939, .iadd, 1, [], 0) := (fm_209 939).trans rfl
theorem u_209_939 {S : Scr} {d : Nat} {a0 a1 a2 a3 : AV} {st : List AV} {sh : Shp} {I : IM} {R : RM} {x y : Int} : ev S d 209 939 [a0, a1, a2, a3] (.inl y :: .inl x :: st) (sh, I, R) = ev S d 209 940 [a0, a1, a2, a3] (.inl (wr (x + y)) :: st) (sh, I, R) := (ev_eq f_209_939).trans rfl
set_option maxRecDepth 100000 in
theorem f_209_940 : fetch 209 940 = some (940, .iaload, 1, [], 0) := (fm_209 940).trans rfl
theorem u_209_940s {S : Scr} {d : Nat} {a0 a1 a2 a3 : AV} {st : List AV} {sh : Shp} {I : IM} {R : RM} {i : Int} (h0 : 0 ≤ i) (h1 : i < S.2) : ev S d 209 940 [a0, a1, a2, a3] (.inl i :: .inr (.inr 2) :: st) (sh, I, R) = ev S d 209 941 [a0, a1, a2, a3] (.inl (S.1 i) :: st) (sh, I, R) := (ev_eq f_209_940).trans (congrArg (fin S d 209) (if_pos ⟨h0, h1⟩))
set_option maxRecDepth 100000 in
theorem f_209_941 : fetch 209 941 = some (941, .aload_n 0, 1, [0], 0) := (fm_209 941).trans rfl
theorem u_209_941s {S : Scr} {d : Nat} {a1 a2 a3 : AV} {st : List AV} {sh : Shp} {I : IM} {R : RM} : ev S d 209 941 [.inr (.inr 2), a1, a2, a3] st (sh, I, R) = ev S d 209 942 [.inr (.inr 2), a1, a2, a3] (.inr (.inr 2) :: st) (sh, I, R) := (ev_eq f_209_941).trans rfl
set_option maxRecDepth 100000 in
theorem f_209_942 : fetch 209 942 = some (942, .iload_n 3, 1, [3], 0) := (fm_209 942).trans rfl
theorem u_209_942 {S : Scr} {d : Nat} {a0 a1 a2 : AV} {st : List AV} {sh : Shp} {I : IM} {R : RM} {x : Int} : ev S d 209 942 [a0, a1, a2, .inl x] st (sh, I, R) = ev S d 209 943 [a0, a1, a2, .inl x] (.inl x :: st) (sh, I, R) := (ev_eq f_209_942).trans rfl
set_option maxRecDepth 100000 in
theorem f_209_943 : fetch 209 943 = some (943, .iconst 2, 1, [], 2) := (fm_209 943).trans rfl
theorem u_209_943 {S : Scr} {d : Nat} {a0 a1 a2 a3 : AV} {st : List AV} {sh : Shp} {I : IM} {R : RM} : ev S d 209 943 [a0, a1, a2, a3] st (sh, I, R) = ev S d 209 944 [a0, a1, a2, a3] (.inl 2 :: st) (sh, I, R) := (ev_eq f_209_943).trans rfl
set_option maxRecDepth 100000 in
theorem f_209_944 : fetch 209 944 = some (944, .iadd, 1, [], 0) := (fm_209 944).trans rfl
theorem u_209_944 {S : Scr} {d : Nat} {a0 a1 a2 a3 : AV} {st : List AV} {sh : Shp} {I : IM} {R : RM} {x y : Int} : ev S d 209 944 [a0, a1, a2, a3] (.inl y :: .inl x :: st) (sh, I, R) = ev S d 209 945 [a0, a1, a2, a3] (.inl (wr (x + y)) :: st) (sh, I, R) := (ev_eq f_209_944).trans rfl
set_option maxRecDepth 100000 in
theorem f_209_945 : fetch 209 945 = some (945, .iaload, 1, [], 0) := (fm_209 945).trans rfl
theorem u_209_945s {S : Scr} {d : Nat} {a0 a1 a2 a3 : AV} {st : List AV} {sh : Shp} {I : IM} {R : RM} {i : Int} (h0 : 0 ≤ i) (h1 : i < S.2) : ev S d 209 945 [a0, a1, a2, a3] (.inl i :: .inr (.inr 2) :: st) (sh, I, R) = ev S d 209 946 [a0, a1, a2, a3] (.inl (S.1 i) :: st) (sh, I, R) := (ev_eq f_209_945).trans (congrArg (fin S d 209) (if_pos ⟨h0, h1⟩))
set_option maxRecDepth 100000 in
theorem f_209_946 : fetch 209 946 = some (946, .invokevirtual 110, 3, [108, 2, 221], 0) := (fm_209 946).trans rfl
theorem u_209_946 {S : Scr} {d : Nat} {a0 a1 a2 a3 : AV} {st : List AV} {sh : Shp} {I : IM} {R : RM} {x0 : Int} {x1 : Int} {k : Nat} (h : tg sh k = 8) (hr : st.length ≤ 8) : ev S d 209 946 [a0, a1, a2, a3] (.inl x1 :: .inl x0 :: .inr (.inl k) :: st) (sh, I, R) = bnd (cl d 108 [.inr (.inl k), .inl x0, .inl x1] (sh, I, R)) (fun v M => ev S d 209 949 [a0, a1, a2, a3] (psh v st) M) := (ev_eq f_209_946).trans (congrArg (fin S d 209) (if_pos ⟨h, rfl, hr⟩))
set_option maxRecDepth 100000 in
theorem f_209_949 : fetch 209 949 = some (949, .aload_n 2, 1, [2], 0) := (fm_209 949).trans rfl
theorem u_209_949 {S : Scr} {d : Nat} {a0 a1 a3 : AV} {st : List AV} {sh : Shp} {I : IM} {R : RM} {x : Nat} : ev S d 209 949 [a0, a1, .inr (.inl x), a3] st (sh, I, R) = ev S d 209 950 [a0, a1, .inr (.inl x), a3] (.inr (.inl x) :: st) (sh, I, R) := (ev_eq f_209_949).trans rfl
set_option maxRecDepth 100000 in
theorem f_209_950 : fetch 209 950 = some (950, .aload_n 0, 1, [0], 0) := (fm_209 950).trans rfl
theorem u_209_950s {S : Scr} {d : Nat} {a1 a2 a3 : AV} {st : List AV} {sh : Shp} {I : IM} {R : RM} : ev S d 209 950 [.inr (.inr 2), a1, a2, a3] st (sh, I, R) = ev S d 209 951 [.inr (.inr 2), a1, a2, a3] (.inr (.inr 2) :: st) (sh, I, R) := (ev_eq f_209_950).trans rfl
set_option maxRecDepth 100000 in
theorem f_209_951 : fetch 209 951 = some (951, .iload_n 3, 1, [3], 0) := (fm_209 951).trans rfl
theorem u_209_951 {S : Scr} {d : Nat} {a0 a1 a2 : AV} {st : List AV} {sh : Shp} {I : IM} {R : RM} {x : Int} : ev S d 209 951 [a0, a1, a2, .inl x] st (sh, I, R) = ev S d 209 952 [a0, a1, a2, .inl x] (.inl x :: st) (sh, I, R) := (ev_eq f_209_951).trans rfl
set_option maxRecDepth 100000 in
theorem f_209_952 : fetch 209 952 = some (952, .iconst 1, 1, [], 1) := (fm_209 952).trans rfl
theorem u_209_952 {S : Scr} {d : Nat} {a0 a1 a2 a3 : AV} {st : List AV} {sh : Shp} {I : IM} {R : RM} : ev S d 209 952 [a0, a1, a2, a3] st (sh, I, R) = ev S d 209 953 [a0, a1, a2, a3] (.inl 1 :: st) (sh, I, R) := (ev_eq f_209_952).trans rfl
set_option maxRecDepth 100000 in
theorem f_209_953 : fetch 209 953 = some (953, .iadd, 1, [], 0) := (fm_209 953).trans rfl
theorem u_209_953 {S : Scr} {d : Nat} {a0 a1 a2 a3 : AV} {st : List AV} {sh : Shp} {I : IM} {R : RM} {x y : Int} : ev S d 209 953 [a0, a1, a2, a3] (.inl y :: .inl x :: st) (sh, I, R) = ev S d 209 954 [a0, a1, a2, a3] (.inl (wr (x + y)) :: st) (sh, I, R) := (ev_eq f_209_953).trans rfl
set_option maxRecDepth 100000 in
theorem f_209_954 : fetch 209 954 = some (954, .iaload, 1, [], 0) := (fm_209 954).trans rfl
theorem u_209_954s {S : Scr} {d : Nat} {a0 a1 a2 a3 : AV} {st : List AV} {sh : Shp} {I : IM} {R : RM} {i : Int} (h0 : 0 ≤ i) (h1 : i < S.2) : ev S d 209 954 [a0, a1, a2, a3] (.inl i :: .inr (.inr 2) :: st) (sh, I, R) = ev S d 209 955 [a0, a1, a2, a3] (.inl (S.1 i) :: st) (sh, I, R) := (ev_eq f_209_954).trans (congrArg (fin S d 209) (if_pos ⟨h0, h1⟩))
set_option maxRecDepth 100000 in
theorem f_209_955 : fetch 209 955 = some (955, .aload_n 0, 1, [0], 0) := (fm_209 955).trans rfl
theorem u_209_955s {S : Scr} {d : Nat} {a1 a2 a3 : AV} {st : List AV} {sh : Shp} {I : IM} {R : RM} : ev S d 209 955 [.inr (.inr 2), a1, a2, a3] st (sh, I, R) = ev S d 209 956 [.inr (.inr 2), a1, a2, a3] (.inr (.inr 2) :: st) (sh, I, R) := (ev_eq f_209_955).trans rfl
set_option maxRecDepth 100000 in
theorem f_209_956 : fetch 209 956 = some (956, .iload_n 3, 1, [3], 0) := (fm_209 956).trans rfl
theorem u_209_956 {S : Scr} {d : Nat} {a0 a1 a2 : AV} {st : List AV} {sh : Shp} {I : IM} {R : RM} {x : Int} : ev S d 209 956 [a0, a1, a2, .inl x] st (sh, I, R) = ev S d 209 957 [a0, a1, a2, .inl x] (.inl x :: st) (sh, I, R) := (ev_eq f_209_956).trans rfl
set_option maxRecDepth 100000 in
theorem f_209_957 : fetch 209 957 = some (957, .iconst 2, 1, [], 2) := (fm_209 957).trans rfl
theorem u_209_957 {S : Scr} {d : Nat} {a0 a1 a2 a3 : AV} {st : List AV} {sh : Shp} {I : IM} {R : RM} : ev S d 209 957 [a0, a1, a2, a3] st (sh, I, R) = ev S d 209 958 [a0, a1, a2, a3] (.inl 2 :: st) (sh, I, R) := (ev_eq f_209_957).trans rfl
set_option maxRecDepth 100000 in
theorem f_209_958 : fetch 209 958 = some (958, .iadd, 1, [], 0) := (fm_209 958).trans rfl
theorem u_209_958 {S : Scr} {d : Nat} {a0 a1 a2 a3 : AV} {st : List AV} {sh : Shp} {I : IM} {R : RM} {x y : Int} : ev S d 209 958 [a0, a1, a2, a3] (.inl y :: .inl x :: st) (sh, I, R) = ev S d 209 959 [a0, a1, a2, a3] (.inl (wr (x + y)) :: st) (sh, I, R) := (ev_eq f_209_958).trans rfl
set_option maxRecDepth 100000 in
theorem f_209_959 : fetch 209 959 = some (959, .iaload, 1, [], 0) := (fm_209 959).trans rfl
theorem u_209_959s {S : Scr} {d : Nat} {a0 a1 a2 a3 : AV} {st : List AV} {sh : Shp} {I : IM} {R : RM} {i : Int} (h0 : 0 ≤ i) (h1 : i < S.2) : ev S d 209 959 [a0, a1, a2, a3] (.inl i :: .inr (.inr 2) :: st) (sh, I, R) = ev S d 209 960 [a0, a1, a2, a3] (.inl (S.1 i) :: st) (sh, I, R) := (ev_eq f_209_959).trans (congrArg (fin S d 209) (if_pos ⟨h0, h1⟩))
set_option maxRecDepth 100000 in
theorem f_209_960 : fetch 209 960 = some (960, .invokevirtual 113, 3, [195, 2, 222], 0) := (fm_209 960).trans rfl
theorem u_209_960 {S : Scr} {d : Nat} {a0 a1 a2 a3 : AV} {st : List AV} {sh : Shp} {I : IM} {R : RM} {x0 : Int} {x1 : Int} {k : Nat} (h : tg sh k = 9) (hr : st.length ≤ 8) : ev S d 209 960 [a0, a1, a2, a3] (.inl x1 :: .inl x0 :: .inr (.inl k) :: st) (sh, I, R) = bnd (cl d 195 [.inr (.inl k), .inl x0, .inl x1] (sh, I, R)) (fun v M => ev S d 209 963 [a0, a1, a2, a3] (psh v st) M) := (ev_eq f_209_960).trans (congrArg (fin S d 209) (if_pos ⟨h, rfl, hr⟩))
set_option maxRecDepth 100000 in
theorem f_209_963 : fetch 209 963 = some (963, .if_icmp .eq 209, 3, [1172], 0) := (fm_209 963).trans rfl
theorem u_209_963 {S : Scr} {d : Nat} {a0 a1 a2 a3 : AV} {st : List AV} {sh : Shp} {I : IM} {R : RM} {x y : Int} : ev S d 209 963 [a0, a1, a2, a3] (.inl y :: .inl x :: st) (sh, I, R) = if x = y then ev S d 209 1172 [a0, a1, a2, a3] st (sh, I, R) else ev S d 209 966 [a0, a1, a2, a3] st (sh, I, R) := (ev_eq f_209_963).trans fin_icmp_eq
set_option maxRecDepth 100000 in
theorem f_209_966 : fetch 209 966 = some (966, .iconst 0, 1, [], 0) := (fm_209 966).trans rfl
theorem u_209_966 {S : Scr} {d : Nat} {a0 a1 a2 a3 : AV} {st : List AV} {sh : Shp} {I : IM} {R : RM} : ev S d 209 966 [a0, a1, a2, a3] st (sh, I, R) = ev S d 209 967 [a0, a1, a2, a3] (.inl 0 :: st) (sh, I, R) := (ev_eq f_209_966).trans rfl
set_option maxRecDepth 100000 in
theorem f_209_967 : fetch 209 967 = some (967, .ireturn, 1, [1], 0) := (fm_209 967).trans rfl
theorem u_209_967 {S : Scr} {d : Nat} {a0 a1 a2 a3 : AV} {sh : Shp} {I : IM} {R : RM} {x : Int} (h : x = 0 ∨ x = 1) : ev S d 209 967 [a0, a1, a2, a3] [.inl x] (sh, I, R) = some (some (.inl x), (sh, I, R)) := (ev_eq f_209_967).trans (fin_iret1 h)
set_option maxRecDepth 100000 in
theorem f_209_968 : fetch 209 968 = some (968, .aload_n 1, 1, [1], 0) := (fm_209 968).trans rfl
theorem u_209_968 {S : Scr} {d : Nat} {a0 a2 a3 : AV} {st : List AV} {sh : Shp} {I : IM} {R : RM} {x : Nat} : ev S d 209 968 [a0, .inr (.inl x), a2, a3] st (sh, I, R) = ev S d 209 969 [a0, .inr (.inl x), a2, a3] (.inr (.inl x) :: st) (sh, I, R) := (ev_eq f_209_968).trans rfl
set_option maxRecDepth 100000 in
theorem f_209_969 : fetch 209 969 = some (969, .aload_n 0, 1, [0], 0) := (fm_209 969).trans rfl
theorem u_209_969s {S : Scr} {d : Nat} {a1 a2 a3 : AV} {st : List AV} {sh : Shp} {I : IM} {R : RM} : ev S d 209 969 [.inr (.inr 2), a1, a2, a3] st (sh, I, R) = ev S d 209 970 [.inr (.inr 2), a1, a2, a3] (.inr (.inr 2) :: st) (sh, I, R) := (ev_eq f_209_969).trans rfl
set_option maxRecDepth 100000 in
theorem f_209_970 : fetch 209 970 = some (970, .iload_n 3, 1, [3], 0) := (fm_209 970).trans rfl
theorem u_209_970 {S : Scr} {d : Nat} {a0 a1 a2 : AV} {st : List AV} {sh : Shp} {I : IM} {R : RM} {x : Int} : ev S d 209 970 [a0, a1, a2, .inl x] st (sh, I, R) = ev S d 209 971 [a0, a1, a2, .inl x] (.inl x :: st) (sh, I, R) := (ev_eq f_209_970).trans rfl
set_option maxRecDepth 100000 in
theorem f_209_971 : fetch 209 971 = some (971, .iconst 1, 1, [], 1) := (fm_209 971).trans rfl
theorem u_209_971 {S : Scr} {d : Nat} {a0 a1 a2 a3 : AV} {st : List AV} {sh : Shp} {I : IM} {R : RM} : ev S d 209 971 [a0, a1, a2, a3] st (sh, I, R) = ev S d 209 972 [a0, a1, a2, a3] (.inl 1 :: st) (sh, I, R) := (ev_eq f_209_971).trans rfl
set_option maxRecDepth 100000 in
theorem f_209_972 : fetch 209 972 = some (972, .iadd, 1, [], 0) := (fm_209 972).trans rfl
theorem u_209_972 {S : Scr} {d : Nat} {a0 a1 a2 a3 : AV} {st : List AV} {sh : Shp} {I : IM} {R : RM} {x y : Int} : ev S d 209 972 [a0, a1, a2, a3] (.inl y :: .inl x :: st) (sh, I, R) = ev S d 209 973 [a0, a1, a2, a3] (.inl (wr (x + y)) :: st) (sh, I, R) := (ev_eq f_209_972).trans rfl
set_option maxRecDepth 100000 in
theorem f_209_973 : fetch 209 973 = some (973, .iaload, 1, [], 0) := (fm_209 973).trans rfl
theorem u_209_973s {S : Scr} {d : Nat} {a0 a1 a2 a3 : AV} {st : List AV} {sh : Shp} {I : IM} {R : RM} {i : Int} (h0 : 0 ≤ i) (h1 : i < S.2) : ev S d 209 973 [a0, a1, a2, a3] (.inl i :: .inr (.inr 2) :: st) (sh, I, R) = ev S d 209 974 [a0, a1, a2, a3] (.inl (S.1 i) :: st) (sh, I, R) := (ev_eq f_209_973).trans (congrArg (fin S d 209) (if_pos ⟨h0, h1⟩))
set_option maxRecDepth 100000 in
theorem f_209_974 : fetch 209 974 = some (974, .aload_n 0, 1, [0], 0) := (fm_209 974).trans rfl
theorem u_209_974s {S : Scr} {d : Nat} {a1 a2 a3 : AV} {st : List AV} {sh : Shp} {I : IM} {R : RM} : ev S d 209 974 [.inr (.inr 2), a1, a2, a3] st (sh, I, R) = ev S d 209 975 [.inr (.inr 2), a1, a2, a3] (.inr (.inr 2) :: st) (sh, I, R) := (ev_eq f_209_974).trans rfl
set_option maxRecDepth 100000 in
theorem f_209_975 : fetch 209 975 = some (975, .iload_n 3, 1, [3], 0) := (fm_209 975).trans rfl
theorem u_209_975 {S : Scr} {d : Nat} {a0 a1 a2 : AV} {st : List AV} {sh : Shp} {I : IM} {R : RM} {x : Int} : ev S d 209 975 [a0, a1, a2, .inl x] st (sh, I, R) = ev S d 209 976 [a0, a1, a2, .inl x] (.inl x :: st) (sh, I, R) := (ev_eq f_209_975).trans rfl
set_option maxRecDepth 100000 in
theorem f_209_976 : fetch 209 976 = some (976, .iconst 2, 1, [], 2) := (fm_209 976).trans rfl
theorem u_209_976 {S : Scr} {d : Nat} {a0 a1 a2 a3 : AV} {st : List AV} {sh : Shp} {I : IM} {R : RM} : ev S d 209 976 [a0, a1, a2, a3] st (sh, I, R) = ev S d 209 977 [a0, a1, a2, a3] (.inl 2 :: st) (sh, I, R) := (ev_eq f_209_976).trans rfl
set_option maxRecDepth 100000 in
theorem f_209_977 : fetch 209 977 = some (977, .iadd, 1, [], 0) := (fm_209 977).trans rfl
theorem u_209_977 {S : Scr} {d : Nat} {a0 a1 a2 a3 : AV} {st : List AV} {sh : Shp} {I : IM} {R : RM} {x y : Int} : ev S d 209 977 [a0, a1, a2, a3] (.inl y :: .inl x :: st) (sh, I, R) = ev S d 209 978 [a0, a1, a2, a3] (.inl (wr (x + y)) :: st) (sh, I, R) := (ev_eq f_209_977).trans rfl
set_option maxRecDepth 100000 in
theorem f_209_978 : fetch 209 978 = some (978, .iaload, 1, [], 0) := (fm_209 978).trans rfl
theorem u_209_978s {S : Scr} {d : Nat} {a0 a1 a2 a3 : AV} {st : List AV} {sh : Shp} {I : IM} {R : RM} {i : Int} (h0 : 0 ≤ i) (h1 : i < S.2) : ev S d 209 978 [a0, a1, a2, a3] (.inl i :: .inr (.inr 2) :: st) (sh, I, R) = ev S d 209 979 [a0, a1, a2, a3] (.inl (S.1 i) :: st) (sh, I, R) := (ev_eq f_209_978).trans (congrArg (fin S d 209) (if_pos ⟨h0, h1⟩))
set_option maxRecDepth 100000 in
theorem f_209_979 : fetch 209 979 = some (979, .invokevirtual 114, 3, [109, 2, 223], 0) := (fm_209 979).trans rfl
theorem u_209_979 {S : Scr} {d : Nat} {a0 a1 a2 a3 : AV} {st : List AV} {sh : Shp} {I : IM} {R : RM} {x0 : Int} {x1 : Int} {k : Nat} (h : tg sh k = 8) (hr : st.length ≤ 8) : ev S d 209 979 [a0, a1, a2, a3] (.inl x1 :: .inl x0 :: .inr (.inl k) :: st) (sh, I, R) = bnd (cl d 109 [.inr (.inl k), .inl x0, .inl x1] (sh, I, R)) (fun v M => ev S d 209 982 [a0, a1, a2, a3] (psh v st) M) := (ev_eq f_209_979).trans (congrArg (fin S d 209) (if_pos ⟨h, rfl, hr⟩))
set_option maxRecDepth 100000 in
theorem f_209_982 : fetch 209 982 = some (982, .aload_n 2, 1, [2], 0) := (fm_209 982).trans rfl
theorem u_209_982 {S : Scr} {d : Nat} {a0 a1 a3 : AV} {st : List AV} {sh : Shp} {I : IM} {R : RM} {x : Nat} : ev S d 209 982 [a0, a1, .inr (.inl x), a3] st (sh, I, R) = ev S d 209 983 [a0, a1, .inr (.inl x), a3] (.inr (.inl x) :: st) (sh, I, R) := (ev_eq f_209_982).trans rfl
set_option maxRecDepth 100000 in
theorem f_209_983 : fetch 209 983 = some (983, .aload_n 0, 1, [0], 0) := (fm_209 983).trans rfl
theorem u_209_983s {S : Scr} {d : Nat} {a1 a2 a3 : AV} {st : List AV} {sh : Shp} {I : IM} {R : RM} : ev S d 209 983 [.inr (.inr 2), a1, a2, a3] st (sh, I, R) = ev S d 209 984 [.inr (.inr 2), a1, a2, a3] (.inr (.inr 2) :: st) (sh, I, R) := (ev_eq f_209_983).trans rfl
set_option maxRecDepth 100000 in
theorem f_209_984 : fetch 209 984 = some (984, .iload_n 3, 1, [3], 0) := (fm_209 984).trans rfl
theorem u_209_984 {S : Scr} {d : Nat} {a0 a1 a2 : AV} {st : List AV} {sh : Shp} {I : IM} {R : RM} {x : Int} : ev S d 209 984 [a0, a1, a2, .inl x] st (sh, I, R) = ev S d 209 985 [a0, a1, a2, .inl x] (.inl x :: st) (sh, I, R) := (ev_eq f_209_984).trans rfl
set_option maxRecDepth 100000 in
theorem f_209_985 : fetch 209 985 = some (985, .iconst 1, 1, [], 1) := (fm_209 985).trans rfl
theorem u_209_985 {S : Scr} {d : Nat} {a0 a1 a2 a3 : AV} {st : List AV} {sh : Shp} {I : IM} {R : RM} : ev S d 209 985 [a0, a1, a2, a3] st (sh, I, R) = ev S d 209 986 [a0, a1, a2, a3] (.inl 1 :: st) (sh, I, R) := (ev_eq f_209_985).trans rfl
set_option maxRecDepth 100000 in
theorem f_209_986 : fetch 209 986 = some (986, .iadd, 1, [], 0) := (fm_209 986).trans rfl
theorem u_209_986 {S : Scr} {d : Nat} {a0 a1 a2 a3 : AV} {st : List AV} {sh : Shp} {I : IM} {R : RM} {x y : Int} : ev S d 209 986 [a0, a1, a2, a3] (.inl y :: .inl x :: st) (sh, I, R) = ev S d 209 987 [a0, a1, a2, a3] (.inl (wr (x + y)) :: st) (sh, I, R) := (ev_eq f_209_986).trans rfl
set_option maxRecDepth 100000 in
theorem f_209_987 : fetch 209 987 = some (987, .iaload, 1, [], 0) := (fm_209 987).trans rfl
theorem u_209_987s {S : Scr} {d : Nat} {a0 a1 a2 a3 : AV} {st : List AV} {sh : Shp} {I : IM} {R : RM} {i : Int} (h0 : 0 ≤ i) (h1 : i < S.2) : ev S d 209 987 [a0, a1, a2, a3] (.inl i :: .inr (.inr 2) :: st) (sh, I, R) = ev S d 209 988 [a0, a1, a2, a3] (.inl (S.1 i) :: st) (sh, I, R) := (ev_eq f_209_987).trans (congrArg (fin S d 209) (if_pos ⟨h0, h1⟩))
set_option maxRecDepth 100000 in
theorem f_209_988 : fetch 209 988 = some (988, .aload_n 0, 1, [0], 0) := (fm_209 988).trans rfl
theorem u_209_988s {S : Scr} {d : Nat} {a1 a2 a3 : AV} {st : List AV} {sh : Shp} {I : IM} {R : RM} : ev S d 209 988 [.inr (.inr 2), a1, a2, a3] st (sh, I, R) = ev S d 209 989 [.inr (.inr 2), a1, a2, a3] (.inr (.inr 2) :: st) (sh, I, R) := (ev_eq f_209_988).trans rfl
set_option maxRecDepth 100000 in
theorem f_209_989 : fetch 209 989 = some (989, .iload_n 3, 1, [3], 0) := (fm_209 989).trans rfl
theorem u_209_989 {S : Scr} {d : Nat} {a0 a1 a2 : AV} {st : List AV} {sh : Shp} {I : IM} {R : RM} {x : Int} : ev S d 209 989 [a0, a1, a2, .inl x] st (sh, I, R) = ev S d 209 990 [a0, a1, a2, .inl x] (.inl x :: st) (sh, I, R) := (ev_eq f_209_989).trans rfl
set_option maxRecDepth 100000 in
theorem f_209_990 : fetch 209 990 = some (990, .iconst 2, 1, [], 2) := (fm_209 990).trans rfl
theorem u_209_990 {S : Scr} {d : Nat} {a0 a1 a2 a3 : AV} {st : List AV} {sh : Shp} {I : IM} {R : RM} : ev S d 209 990 [a0, a1, a2, a3] st (sh, I, R) = ev S d 209 991 [a0, a1, a2, a3] (.inl 2 :: st) (sh, I, R) := (ev_eq f_209_990).trans rfl
set_option maxRecDepth 100000 in
theorem f_209_991 : fetch 209 991 = some (991, .iadd, 1, [], 0) := (fm_209 991).trans rfl
theorem u_209_991 {S : Scr} {d : Nat} {a0 a1 a2 a3 : AV} {st : List AV} {sh : Shp} {I : IM} {R : RM} {x y : Int} : ev S d 209 991 [a0, a1, a2, a3] (.inl y :: .inl x :: st) (sh, I, R) = ev S d 209 992 [a0, a1, a2, a3] (.inl (wr (x + y)) :: st) (sh, I, R) := (ev_eq f_209_991).trans rfl
set_option maxRecDepth 100000 in
theorem f_209_992 : fetch 209 992 = some (992, .iaload, 1, [], 0) := (fm_209 992).trans rfl
theorem u_209_992s {S : Scr} {d : Nat} {a0 a1 a2 a3 : AV} {st : List AV} {sh : Shp} {I : IM} {R : RM} {i : Int} (h0 : 0 ≤ i) (h1 : i < S.2) : ev S d 209 992 [a0, a1, a2, a3] (.inl i :: .inr (.inr 2) :: st) (sh, I, R) = ev S d 209 993 [a0, a1, a2, a3] (.inl (S.1 i) :: st) (sh, I, R) := (ev_eq f_209_992).trans (congrArg (fin S d 209) (if_pos ⟨h0, h1⟩))
set_option maxRecDepth 100000 in
theorem f_209_993 : fetch 209 993 = some (993, .invokevirtual 117, 3, [198, 2, 224], 0) := (fm_209 993).trans rfl
theorem u_209_993 {S : Scr} {d : Nat} {a0 a1 a2 a3 : AV} {st : List AV} {sh : Shp} {I : IM} {R : RM} {x0 : Int} {x1 : Int} {k : Nat} (h : tg sh k = 9) (hr : st.length ≤ 8) : ev S d 209 993 [a0, a1, a2, a3] (.inl x1 :: .inl x0 :: .inr (.inl k) :: st) (sh, I, R) = bnd (cl d 198 [.inr (.inl k), .inl x0, .inl x1] (sh, I, R)) (fun v M => ev S d 209 996 [a0, a1, a2, a3] (psh v st) M) := (ev_eq f_209_993).trans (congrArg (fin S d 209) (if_pos ⟨h, rfl, hr⟩))
set_option maxRecDepth 100000 in
theorem f_209_996 : fetch 209 996 = some (996, .if_icmp .eq 176, 3, [1172], 0) := (fm_209 996).trans rfl
theorem u_209_996 {S : Scr} {d : Nat} {a0 a1 a2 a3 : AV} {st : List AV} {sh : Shp} {I : IM} {R : RM} {x y : Int} : ev S d 209 996 [a0, a1, a2, a3] (.inl y :: .inl x :: st) (sh, I, R) = if x = y then ev S d 209 1172 [a0, a1, a2, a3] st (sh, I, R) else ev S d 209 999 [a0, a1, a2, a3] st (sh, I, R) := (ev_eq f_209_996).trans fin_icmp_eq
set_option maxRecDepth 100000 in
theorem f_209_999 : fetch 209 999 = some (999, .iconst 0, 1, [], 0) := (fm_209 999).trans rfl
theorem u_209_999 {S : Scr} {d : Nat} {a0 a1 a2 a3 : AV} {st : List AV} {sh : Shp} {I : IM} {R : RM} : ev S d 209 999 [a0, a1, a2, a3] st (sh, I, R) = ev S d 209 1000 [a0, a1, a2, a3] (.inl 0 :: st) (sh, I, R) := (ev_eq f_209_999).trans rfl
set_option maxRecDepth 100000 in
theorem f_209_1000 : fetch 209 1000 = some (1000, .ireturn, 1, [1], 0) := (fm_209 1000).trans rfl
theorem u_209_1000 {S : Scr} {d : Nat} {a0 a1 a2 a3 : AV} {sh : Shp} {I : IM} {R : RM} {x : Int} (h : x = 0 ∨ x = 1) : ev S d 209 1000 [a0, a1, a2, a3] [.inl x] (sh, I, R) = some (some (.inl x), (sh, I, R)) := (ev_eq f_209_1000).trans (fin_iret1 h)
set_option maxRecDepth 100000 in
theorem f_209_1001 : fetch 209 1001 = some (1001, .aload_n 1, 1, [1], 0) := (fm_209 1001).trans rfl
theorem u_209_1001 {S : Scr} {d : Nat} {a0 a2 a3 : AV} {st : List AV} {sh : Shp} {I : IM} {R : RM} {x : Nat} : ev S d 209 1001 [a0, .inr (.inl x), a2, a3] st (sh, I, R) = ev S d 209 1002 [a0, .inr (.inl x), a2, a3] (.inr (.inl x) :: st) (sh, I, R) := (ev_eq f_209_1001).trans rfl
set_option maxRecDepth 100000 in
theorem f_209_1002 : fetch 209 1002 = some (1002, .aload_n 0, 1, [0], 0) := (fm_209 1002).trans rfl
theorem u_209_1002s {S : Scr} {d : Nat} {a1 a2 a3 : AV} {st : List AV} {sh : Shp} {I : IM} {R : RM} : ev S d 209 1002 [.inr (.inr 2), a1, a2, a3] st (sh, I, R) = ev S d 209 1003 [.inr (.inr 2), a1, a2, a3] (.inr (.inr 2) :: st) (sh, I, R) := (ev_eq f_209_1002).trans rfl
set_option maxRecDepth 100000 in
theorem f_209_1003 : fetch 209 1003 = some (1003, .iload_n 3, 1, [3], 0) := (fm_209 1003).trans rfl
theorem u_209_1003 {S : Scr} {d : Nat} {a0 a1 a2 : AV} {st : List AV} {sh : Shp} {I : IM} {R : RM} {x : Int} : ev S d 209 1003 [a0, a1, a2, .inl x] st (sh, I, R) = ev S d 209 1004 [a0, a1, a2, .inl x] (.inl x :: st) (sh, I, R) := (ev_eq f_209_1003).trans rfl
set_option maxRecDepth 100000 in
theorem f_209_1004 : fetch 209 1004 = some (1004, .iconst 1, 1, [], 1) := (fm_209 1004).trans rfl
theorem u_209_1004 {S : Scr} {d : Nat} {a0 a1 a2 a3 : AV} {st : List AV} {sh : Shp} {I : IM} {R : RM} : ev S d 209 1004 [a0, a1, a2, a3] st (sh, I, R) = ev S d 209 1005 [a0, a1, a2, a3] (.inl 1 :: st) (sh, I, R) := (ev_eq f_209_1004).trans rfl
set_option maxRecDepth 100000 in
theorem f_209_1005 : fetch 209 1005 = some (1005, .iadd, 1, [], 0) := (fm_209 1005).trans rfl
theorem u_209_1005 {S : Scr} {d : Nat} {a0 a1 a2 a3 : AV} {st : List AV} {sh : Shp} {I : IM} {R : RM} {x y : Int} : ev S d 209 1005 [a0, a1, a2, a3] (.inl y :: .inl x :: st) (sh, I, R) = ev S d 209 1006 [a0, a1, a2, a3] (.inl (wr (x + y)) :: st) (sh, I, R) := (ev_eq f_209_1005).trans rfl
set_option maxRecDepth 100000 in
theorem f_209_1006 : fetch 209 1006 = some (1006, .iaload, 1, [], 0) := (fm_209 1006).trans rfl
theorem u_209_1006s {S : Scr} {d : Nat} {a0 a1 a2 a3 : AV} {st : List AV} {sh : Shp} {I : IM} {R : RM} {i : Int} (h0 : 0 ≤ i) (h1 : i < S.2) : ev S d 209 1006 [a0, a1, a2, a3] (.inl i :: .inr (.inr 2) :: st) (sh, I, R) = ev S d 209 1007 [a0, a1, a2, a3] (.inl (S.1 i) :: st) (sh, I, R) := (ev_eq f_209_1006).trans (congrArg (fin S d 209) (if_pos ⟨h0, h1⟩))
set_option maxRecDepth 100000 in
theorem f_209_1007 : fetch 209 1007 = some (1007, .aload_n 0, 1, [0], 0) := (fm_209 1007).trans rfl
theorem u_209_1007s {S : Scr} {d : Nat} {a1 a2 a3 : AV} {st : List AV} {sh : Shp} {I : IM} {R : RM} : ev S d 209 1007 [.inr (.inr 2), a1, a2, a3] st (sh, I, R) = ev S d 209 1008 [.inr (.inr 2), a1, a2, a3] (.inr (.inr 2) :: st) (sh, I, R) := (ev_eq f_209_1007).trans rfl
set_option maxRecDepth 100000 in
theorem f_209_1008 : fetch 209 1008 = some (1008, .iload_n 3, 1, [3], 0) := (fm_209 1008).trans rfl
theorem u_209_1008 {S : Scr} {d : Nat} {a0 a1 a2 : AV} {st : List AV} {sh : Shp} {I : IM} {R : RM} {x : Int} : ev S d 209 1008 [a0, a1, a2, .inl x] st (sh, I, R) = ev S d 209 1009 [a0, a1, a2, .inl x] (.inl x :: st) (sh, I, R) := (ev_eq f_209_1008).trans rfl
set_option maxRecDepth 100000 in
theorem f_209_1009 : fetch 209 1009 = some (1009, .iconst 2, 1, [], 2) := (fm_209 1009).trans rfl
theorem u_209_1009 {S : Scr} {d : Nat} {a0 a1 a2 a3 : AV} {st : List AV} {sh : Shp} {I : IM} {R : RM} : ev S d 209 1009 [a0, a1, a2, a3] st (sh, I, R) = ev S d 209 1010 [a0, a1, a2, a3] (.inl 2 :: st) (sh, I, R) := (ev_eq f_209_1009).trans rfl
set_option maxRecDepth 100000 in
theorem f_209_1010 : fetch 209 1010 = some (1010, .iadd, 1, [], 0) := (fm_209 1010).trans rfl
theorem u_209_1010 {S : Scr} {d : Nat} {a0 a1 a2 a3 : AV} {st : List AV} {sh : Shp} {I : IM} {R : RM} {x y : Int} : ev S d 209 1010 [a0, a1, a2, a3] (.inl y :: .inl x :: st) (sh, I, R) = ev S d 209 1011 [a0, a1, a2, a3] (.inl (wr (x + y)) :: st) (sh, I, R) := (ev_eq f_209_1010).trans rfl
set_option maxRecDepth 100000 in
theorem f_209_1011 : fetch 209 1011 = some (1011, .iaload, 1, [], 0) := (fm_209 1011).trans rfl
theorem u_209_1011s {S : Scr} {d : Nat} {a0 a1 a2 a3 : AV} {st : List AV} {sh : Shp} {I : IM} {R : RM} {i : Int} (h0 : 0 ≤ i) (h1 : i < S.2) : ev S d 209 1011 [a0, a1, a2, a3] (.inl i :: .inr (.inr 2) :: st) (sh, I, R) = ev S d 209 1012 [a0, a1, a2, a3] (.inl (S.1 i) :: st) (sh, I, R) := (ev_eq f_209_1011).trans (congrArg (fin S d 209) (if_pos ⟨h0, h1⟩))
set_option maxRecDepth 100000 in
theorem f_209_1012 : fetch 209 1012 = some (1012, .invokevirtual 118, 3, [110, 2, 225], 0) := (fm_209 1012).trans rfl
theorem u_209_1012 {S : Scr} {d : Nat} {a0 a1 a2 a3 : AV} {st : List AV} {sh : Shp} {I : IM} {R : RM} {x0 : Int} {x1 : Int} {k : Nat} (h : tg sh k = 8) (hr : st.length ≤ 8) : ev S d 209 1012 [a0, a1, a2, a3] (.inl x1 :: .inl x0 :: .inr (.inl k) :: st) (sh, I, R) = bnd (cl d 110 [.inr (.inl k), .inl x0, .inl x1] (sh, I, R)) (fun v M => ev S d 209 1015 [a0, a1, a2, a3] (psh v st) M) := (ev_eq f_209_1012).trans (congrArg (fin S d 209) (if_pos ⟨h, rfl, hr⟩))
set_option maxRecDepth 100000 in
theorem f_209_1015 : fetch 209 1015 = some (1015, .aload_n 2, 1, [2], 0) := (fm_209 1015).trans rfl
theorem u_209_1015 {S : Scr} {d : Nat} {a0 a1 a3 : AV} {st : List AV} {sh : Shp} {I : IM} {R : RM} {x : Nat} : ev S d 209 1015 [a0, a1, .inr (.inl x), a3] st (sh, I, R) = ev S d 209 1016 [a0, a1, .inr (.inl x), a3] (.inr (.inl x) :: st) (sh, I, R) := (ev_eq f_209_1015).trans rfl
set_option maxRecDepth 100000 in
theorem f_209_1016 : fetch 209 1016 = some (1016, .aload_n 0, 1, [0], 0) := (fm_209 1016).trans rfl
theorem u_209_1016s {S : Scr} {d : Nat} {a1 a2 a3 : AV} {st : List AV} {sh : Shp} {I : IM} {R : RM} : ev S d 209 1016 [.inr (.inr 2), a1, a2, a3] st (sh, I, R) = ev S d 209 1017 [.inr (.inr 2), a1, a2, a3] (.inr (.inr 2) :: st) (sh, I, R) := (ev_eq f_209_1016).trans rfl
set_option maxRecDepth 100000 in
theorem f_209_1017 : fetch 209 1017 = some (1017, .iload_n 3, 1, [3], 0) := (fm_209 1017).trans rfl
theorem u_209_1017 {S : Scr} {d : Nat} {a0 a1 a2 : AV} {st : List AV} {sh : Shp} {I : IM} {R : RM} {x : Int} : ev S d 209 1017 [a0, a1, a2, .inl x] st (sh, I, R) = ev S d 209 1018 [a0, a1, a2, .inl x] (.inl x :: st) (sh, I, R) := (ev_eq f_209_1017).trans rfl
set_option maxRecDepth 100000 in
theorem f_209_1018 : fetch 209 1018 = some (1018, .iconst 1, 1, [], 1) := (fm_209 1018).trans rfl
theorem u_209_1018 {S : Scr} {d : Nat} {a0 a1 a2 a3 : AV} {st : List AV} {sh : Shp} {I : IM} {R : RM} : ev S d 209 1018 [a0, a1, a2, a3] st (sh, I, R) = ev S d 209 1019 [a0, a1, a2, a3] (.inl 1 :: st) (sh, I, R) := (ev_eq f_209_1018).trans rfl
set_option maxRecDepth 100000 in
theorem f_209_1019 : fetch 209 1019 = some (1019, .iadd, 1, [], 0) := (fm_209 1019).trans rfl
theorem u_209_1019 {S : Scr} {d : Nat} {a0 a1 a2 a3 : AV} {st : List AV} {sh : Shp} {I : IM} {R : RM} {x y : Int} : ev S d 209 1019 [a0, a1, a2, a3] (.inl y :: .inl x :: st) (sh, I, R) = ev S d 209 1020 [a0, a1, a2, a3] (.inl (wr (x + y)) :: st) (sh, I, R) := (ev_eq f_209_1019).trans rfl
set_option maxRecDepth 100000 in
theorem f_209_1020 : fetch 209 1020 = some (1020, .iaload, 1, [], 0) := (fm_209 1020).trans rfl
theorem u_209_1020s {S : Scr} {d : Nat} {a0 a1 a2 a3 : AV} {st : List AV} {sh : Shp} {I : IM} {R : RM} {i : Int} (h0 : 0 ≤ i) (h1 : i < S.2) : ev S d 209 1020 [a0, a1, a2, a3] (.inl i :: .inr (.inr 2) :: st) (sh, I, R) = ev S d 209 1021 [a0, a1, a2, a3] (.inl (S.1 i) :: st) (sh, I, R) := (ev_eq f_209_1020).trans (congrArg (fin S d 209) (if_pos ⟨h0, h1⟩))
set_option maxRecDepth 100000 in
theorem f_209_1021 : fetch 209 1021 = some (1021, .aload_n 0, 1, [0], 0) := (fm_209 1021).trans rfl
theorem u_209_1021s {S : Scr} {d : Nat} {a1 a2 a3 : AV} {st : List AV} {sh : Shp} {I : IM} {R : RM} : ev S d 209 1021 [.inr (.inr 2), a1, a2, a3] st (sh, I, R) = ev S d 209 1022 [.inr (.inr 2), a1, a2, a3] (.inr (.inr 2) :: st) (sh, I, R) := (ev_eq f_209_1021).trans rfl
set_option maxRecDepth 100000 in
theorem f_209_1022 : fetch 209 1022 = some (1022, .iload_n 3, 1, [3], 0) := (fm_209 1022).trans rfl
theorem u_209_1022 {S : Scr} {d : Nat} {a0 a1 a2 : AV} {st : List AV} {sh : Shp} {I : IM} {R : RM} {x : Int} : ev S d 209 1022 [a0, a1, a2, .inl x] st (sh, I, R) = ev S d 209 1023 [a0, a1, a2, .inl x] (.inl x :: st) (sh, I, R) := (ev_eq f_209_1022).trans rfl
set_option maxRecDepth 100000 in
theorem f_209_1023 : fetch 209 1023 = some (1023, .iconst 2, 1, [], 2) := (fm_209 1023).trans rfl
theorem u_209_1023 {S : Scr} {d : Nat} {a0 a1 a2 a3 : AV} {st : List AV} {sh : Shp} {I : IM} {R : RM} : ev S d 209 1023 [a0, a1, a2, a3] st (sh, I, R) = ev S d 209 1024 [a0, a1, a2, a3] (.inl 2 :: st) (sh, I, R) := (ev_eq f_209_1023).trans rfl
set_option maxRecDepth 100000 in
theorem f_209_1024 : fetch 209 1024 = some (1024, .iadd, 1, [], 0) := (fm_209 1024).trans rfl
theorem u_209_1024 {S : Scr} {d : Nat} {a0 a1 a2 a3 : AV} {st : List AV} {sh : Shp} {I : IM} {R : RM} {x y : Int} : ev S d 209 1024 [a0, a1, a2, a3] (.inl y :: .inl x :: st) (sh, I, R) = ev S d 209 1025 [a0, a1, a2, a3] (.inl (wr (x + y)) :: st) (sh, I, R) := (ev_eq f_209_1024).trans rfl
set_option maxRecDepth 100000 in
theorem f_209_1025 : fetch 209 1025 = some (1025, .iaload, 1, [], 0) := (fm_209 1025).trans rfl
theorem u_209_1025s {S : Scr} {d : Nat} {a0 a1 a2 a3 : AV} {st : List AV} {sh : Shp} {I : IM} {R : RM} {i : Int} (h0 : 0 ≤ i) (h1 : i < S.2) : ev S d 209 1025 [a0, a1, a2, a3] (.inl i :: .inr (.inr 2) :: st) (sh, I, R) = ev S d 209 1026 [a0, a1, a2, a3] (.inl (S.1 i) :: st) (sh, I, R) := (ev_eq f_209_1025).trans (congrArg (fin S d 209) (if_pos ⟨h0, h1⟩))
set_option maxRecDepth 100000 in
theorem f_209_1026 : fetch 209 1026 = some (1026, .invokevirtual 121, 3, [199, 2, 226], 0) := (fm_209 1026).trans rfl
theorem u_209_1026 {S : Scr} {d : Nat} {a0 a1 a2 a3 : AV} {st : List AV} {sh : Shp} {I : IM} {R : RM} {x0 : Int} {x1 : Int} {k : Nat} (h : tg sh k = 9) (hr : st.length ≤ 8) : ev S d 209 1026 [a0, a1, a2, a3] (.inl x1 :: .inl x0 :: .inr (.inl k) :: st) (sh, I, R) = bnd (cl d 199 [.inr (.inl k), .inl x0, .inl x1] (sh, I, R)) (fun v M => ev S d 209 1029 [a0, a1, a2, a3] (psh v st) M) := (ev_eq f_209_1026).trans (congrArg (fin S d 209) (if_pos ⟨h, rfl, hr⟩))
set_option maxRecDepth 100000 in
theorem f_209_1029 : fetch 209 1029 = some (1029, .if_icmp .eq 143, 3, [1172], 0) := (fm_209 1029).trans rfl
theorem u_209_1029 {S : Scr} {d : Nat} {a0 a1 a2 a3 : AV} {st : List AV} {sh : Shp} {I : IM} {R : RM} {x y : Int} : ev S d 209 1029 [a0, a1, a2, a3] (.inl y :: .inl x :: st) (sh, I, R) = if x = y then ev S d 209 1172 [a0, a1, a2, a3] st (sh, I, R) else ev S d 209 1032 [a0, a1, a2, a3] st (sh, I, R) := (ev_eq f_209_1029).trans fin_icmp_eq
set_option maxRecDepth 100000 in
theorem f_209_1032 : fetch 209 1032 = some (1032, .iconst 0, 1, [], 0) := (fm_209 1032).trans rfl
theorem u_209_1032 {S : Scr} {d : Nat} {a0 a1 a2 a3 : AV} {st : List AV} {sh : Shp} {I : IM} {R : RM} : ev S d 209 1032 [a0, a1, a2, a3] st (sh, I, R) = ev S d 209 1033 [a0, a1, a2, a3] (.inl 0 :: st) (sh, I, R) := (ev_eq f_209_1032).trans rfl
set_option maxRecDepth 100000 in
theorem f_209_1033 : fetch 209 1033 = some (1033, .ireturn, 1, [1], 0) := (fm_209 1033).trans rfl
theorem u_209_1033 {S : Scr} {d : Nat} {a0 a1 a2 a3 : AV} {sh : Shp} {I : IM} {R : RM} {x : Int} (h : x = 0 ∨ x = 1) : ev S d 209 1033 [a0, a1, a2, a3] [.inl x] (sh, I, R) = some (some (.inl x), (sh, I, R)) := (ev_eq f_209_1033).trans (fin_iret1 h)
set_option maxRecDepth 100000 in
theorem f_209_1034 : fetch 209 1034 = some (1034, .aload_n 1, 1, [1], 0) := (fm_209 1034).trans rfl
theorem u_209_1034 {S : Scr} {d : Nat} {a0 a2 a3 : AV} {st : List AV} {sh : Shp} {I : IM} {R : RM} {x : Nat} : ev S d 209 1034 [a0, .inr (.inl x), a2, a3] st (sh, I, R) = ev S d 209 1035 [a0, .inr (.inl x), a2, a3] (.inr (.inl x) :: st) (sh, I, R) := (ev_eq f_209_1034).trans rfl
set_option maxRecDepth 100000 in
theorem f_209_1035 : fetch 209 1035 = some (1035, .invokevirtual 122, 3, [111, 0, 227], 0) := (fm_209 1035).trans rfl
theorem u_209_1035 {S : Scr} {d : Nat} {a0 a1 a2 a3 : AV} {st : List AV} {sh : Shp} {I : IM} {R : RM} {k : Nat} (h : tg sh k = 8) (hr : st.length ≤ 8) : ev S d 209 1035 [a0, a1, a2, a3] (.inr (.inl k) :: st) (sh, I, R) = bnd (cl d 111 [.inr (.inl k)] (sh, I, R)) (fun v M => ev S d 209 1038 [a0, a1, a2, a3] (psh v st) M) := (ev_eq f_209_1035).trans (congrArg (fin S d 209) (if_pos ⟨h, rfl, hr⟩))
set_option maxRecDepth 100000 in
theorem f_209_1038 : fetch 209 1038 = some (1038, .aload_n 2, 1, [2], 0) := (fm_209 1038).trans rfl
theorem u_209_1038 {S : Scr} {d : Nat} {a0 a1 a3 : AV} {st : List AV} {sh : Shp} {I : IM} {R : RM} {x : Nat} : ev S d 209 1038 [a0, a1, .inr (.inl x), a3] st (sh, I, R) = ev S d 209 1039 [a0, a1, .inr (.inl x), a3] (.inr (.inl x) :: st) (sh, I, R) := (ev_eq f_209_1038).trans rfl
set_option maxRecDepth 100000 in
theorem f_209_1039 : fetch 209 1039 = some (1039, .invokevirtual 125, 3, [200, 0, 228], 0) := (fm_209 1039).trans rfl
theorem u_209_1039 {S : Scr} {d : Nat} {a0 a1 a2 a3 : AV} {st : List AV} {sh : Shp} {I : IM} {R : RM} {k : Nat} (h : tg sh k = 9) (hr : st.length ≤ 8) : ev S d 209 1039 [a0, a1, a2, a3] (.inr (.inl k) :: st) (sh, I, R) = bnd (cl d 200 [.inr (.inl k)] (sh, I, R)) (fun v M => ev S d 209 1042 [a0, a1, a2, a3] (psh v st) M) := (ev_eq f_209_1039).trans (congrArg (fin S d 209) (if_pos ⟨h, rfl, hr⟩))
set_option maxRecDepth 100000 in
theorem f_209_1042 : fetch 209 1042 = some (1042, .if_icmp .eq 130, 3, [1172], 0) := (fm_209 1042).trans rfl
theorem u_209_1042 {S : Scr} {d : Nat} {a0 a1 a2 a3 : AV} {st : List AV} {sh : Shp} {I : IM} {R : RM} {x y : Int} : ev S d 209 1042 [a0, a1, a2, a3] (.inl y :: .inl x :: st) (sh, I, R) = if x = y then ev S d 209 1172 [a0, a1, a2, a3] st (sh, I, R) else ev S d 209 1045 [a0, a1, a2, a3] st (sh, I, R) := (ev_eq f_209_1042).trans fin_icmp_eq
set_option maxRecDepth 100000 in
theorem f_209_1045 : fetch 209 1045 = some (1045, .iconst 0, 1, [], 0) := (fm_209 1045).trans rfl
theorem u_209_1045 {S : Scr} {d : Nat} {a0 a1 a2 a3 : AV} {st : List AV} {sh : Shp} {I : IM} {R : RM} : ev S d 209 1045 [a0, a1, a2, a3] st (sh, I, R) = ev S d 209 1046 [a0, a1, a2, a3] (.inl 0 :: st) (sh, I, R) := (ev_eq f_209_1045).trans rfl
set_option maxRecDepth 100000 in
theorem f_209_1046 : fetch 209 1046 = some (1046, .ireturn, 1, [1], 0) := (fm_209 1046).trans rfl
theorem u_209_1046 {S : Scr} {d : Nat} {a0 a1 a2 a3 : AV} {sh : Shp} {I : IM} {R : RM} {x : Int} (h : x = 0 ∨ x = 1) : ev S d 209 1046 [a0, a1, a2, a3] [.inl x] (sh, I, R) = some (some (.inl x), (sh, I, R)) := (ev_eq f_209_1046).trans (fin_iret1 h)
set_option maxRecDepth 100000 in
theorem f_209_1047 : fetch 209 1047 = some (1047, .aload_n 1, 1, [1], 0) := (fm_209 1047).trans rfl
theorem u_209_1047 {S : Scr} {d : Nat} {a0 a2 a3 : AV} {st : List AV} {sh : Shp} {I : IM} {R : RM} {x : Nat} : ev S d 209 1047 [a0, .inr (.inl x), a2, a3] st (sh, I, R) = ev S d 209 1048 [a0, .inr (.inl x), a2, a3] (.inr (.inl x) :: st) (sh, I, R) := (ev_eq f_209_1047).trans rfl
set_option maxRecDepth 100000 in
theorem f_209_1048 : fetch 209 1048 = some (1048, .invokevirtual 126, 3, [112, 0, 229], 0) := (fm_209 1048).trans rfl
theorem u_209_1048 {S : Scr} {d : Nat} {a0 a1 a2 a3 : AV} {st : List AV} {sh : Shp} {I : IM} {R : RM} {k : Nat} (h : tg sh k = 8) (hr : st.length ≤ 8) : ev S d 209 1048 [a0, a1, a2, a3] (.inr (.inl k) :: st) (sh, I, R) = bnd (cl d 112 [.inr (.inl k)] (sh, I, R)) (fun v M => ev S d 209 1051 [a0, a1, a2, a3] (psh v st) M) := (ev_eq f_209_1048).trans (congrArg (fin S d 209) (if_pos ⟨h, rfl, hr⟩))
set_option maxRecDepth 100000 in
theorem f_209_1051 : fetch 209 1051 = some (1051, .aload_n 2, 1, [2], 0) := (fm_209 1051).trans rfl
theorem u_209_1051 {S : Scr} {d : Nat} {a0 a1 a3 : AV} {st : List AV} {sh : Shp} {I : IM} {R : RM} {x : Nat} : ev S d 209 1051 [a0, a1, .inr (.inl x), a3] st (sh, I, R) = ev S d 209 1052 [a0, a1, .inr (.inl x), a3] (.inr (.inl x) :: st) (sh, I, R) := (ev_eq f_209_1051).trans rfl
set_option maxRecDepth 100000 in
theorem f_209_1052 : fetch 209 1052 = some (1052, .invokevirtual 129, 3, [201, 0, 230], 0) := (fm_209 1052).trans rfl
theorem u_209_1052 {S : Scr} {d : Nat} {a0 a1 a2 a3 : AV} {st : List AV} {sh : Shp} {I : IM} {R : RM} {k : Nat} (h : tg sh k = 9) (hr : st.length ≤ 8) : ev S d 209 1052 [a0, a1, a2, a3] (.inr (.inl k) :: st) (sh, I, R) = bnd (cl d 201 [.inr (.inl k)] (sh, I, R)) (fun v M => ev S d 209 1055 [a0, a1, a2, a3] (psh v st) M) := (ev_eq f_209_1052).trans (congrArg (fin S d 209) (if_pos ⟨h, rfl, hr⟩))
set_option maxRecDepth 100000 in
theorem f_209_1055 : fetch 209 1055 = some (1055, .if_icmp .eq 117, 3, [1172], 0) := (fm_209 1055).trans rfl
theorem u_209_1055 {S : Scr} {d : Nat} {a0 a1 a2 a3 : AV} {st : List AV} {sh : Shp} {I : IM} {R : RM} {x y : Int} : ev S d 209 1055 [a0, a1, a2, a3] (.inl y :: .inl x :: st) (sh, I, R) = if x = y then ev S d 209 1172 [a0, a1, a2, a3] st (sh, I, R) else ev S d 209 1058 [a0, a1, a2, a3] st (sh, I, R) := (ev_eq f_209_1055).trans fin_icmp_eq
set_option maxRecDepth 100000 in
theorem f_209_1058 : fetch 209 1058 = some (1058, .iconst 0, 1, [], 0) := (fm_209 1058).trans rfl
theorem u_209_1058 {S : Scr} {d : Nat} {a0 a1 a2 a3 : AV} {st : List AV} {sh : Shp} {I : IM} {R : RM} : ev S d 209 1058 [a0, a1, a2, a3] st (sh, I, R) = ev S d 209 1059 [a0, a1, a2, a3] (.inl 0 :: st) (sh, I, R) := (ev_eq f_209_1058).trans rfl
set_option maxRecDepth 100000 in
theorem f_209_1059 : fetch 209 1059 = some (1059, .ireturn, 1, [1], 0) := (fm_209 1059).trans rfl
theorem u_209_1059 {S : Scr} {d : Nat} {a0 a1 a2 a3 : AV} {sh : Shp} {I : IM} {R : RM} {x : Int} (h : x = 0 ∨ x = 1) : ev S d 209 1059 [a0, a1, a2, a3] [.inl x] (sh, I, R) = some (some (.inl x), (sh, I, R)) := (ev_eq f_209_1059).trans (fin_iret1 h)
set_option maxRecDepth 100000 in
theorem f_209_1060 : fetch 209 1060 = some (1060, .aload_n 1, 1, [1], 0) := (fm_209 1060).trans rfl
theorem u_209_1060 {S : Scr} {d : Nat} {a0 a2 a3 : AV} {st : List AV} {sh : Shp} {I : IM} {R : RM} {x : Nat} : ev S d 209 1060 [a0, .inr (.inl x), a2, a3] st (sh, I, R) = ev S d 209 1061 [a0, .inr (.inl x), a2, a3] (.inr (.inl x) :: st) (sh, I, R) := (ev_eq f_209_1060).trans rfl
set_option maxRecDepth 100000 in
theorem f_209_1061 : fetch 209 1061 = some (1061, .aload_n 0, 1, [0], 0) := (fm_209 1061).trans rfl
theorem u_209_1061s {S : Scr} {d : Nat} {a1 a2 a3 : AV} {st : List AV} {sh : Shp} {I : IM} {R : RM} : ev S d 209 1061 [.inr (.inr 2), a1, a2, a3] st (sh, I, R) = ev S d 209 1062 [.inr (.inr 2), a1, a2, a3] (.inr (.inr 2) :: st) (sh, I, R) := (ev_eq f_209_1061).trans rfl
set_option maxRecDepth 100000 in
theorem f_209_1062 : fetch 209 1062 = some (1062, .iload_n 3, 1, [3], 0) := (fm_209 1062).trans rfl
theorem u_209_1062 {S : Scr} {d : Nat} {a0 a1 a2 : AV} {st : List AV} {sh : Shp} {I : IM} {R : RM} {x : Int} : ev S d 209 1062 [a0, a1, a2, .inl x] st (sh, I, R) = ev S d 209 1063 [a0, a1, a2, .inl x] (.inl x :: st) (sh, I, R) := (ev_eq f_209_1062).trans rfl
set_option maxRecDepth 100000 in
theorem f_209_1063 : fetch 209 1063 = some (1063, .iconst 1, 1, [], 1) := (fm_209 1063).trans rfl
theorem u_209_1063 {S : Scr} {d : Nat} {a0 a1 a2 a3 : AV} {st : List AV} {sh : Shp} {I : IM} {R : RM} : ev S d 209 1063 [a0, a1, a2, a3] st (sh, I, R) = ev S d 209 1064 [a0, a1, a2, a3] (.inl 1 :: st) (sh, I, R) := (ev_eq f_209_1063).trans rfl
set_option maxRecDepth 100000 in
theorem f_209_1064 : fetch 209 1064 = some (1064, .iadd, 1, [], 0) := (fm_209 1064).trans rfl
theorem u_209_1064 {S : Scr} {d : Nat} {a0 a1 a2 a3 : AV} {st : List AV} {sh : Shp} {I : IM} {R : RM} {x y : Int} : ev S d 209 1064 [a0, a1, a2, a3] (.inl y :: .inl x :: st) (sh, I, R) = ev S d 209 1065 [a0, a1, a2, a3] (.inl (wr (x + y)) :: st) (sh, I, R) := (ev_eq f_209_1064).trans rfl
set_option maxRecDepth 100000 in
theorem f_209_1065 : fetch 209 1065 = some (1065, .iaload, 1, [], 0) := (fm_209 1065).trans rfl
theorem u_209_1065s {S : Scr} {d : Nat} {a0 a1 a2 a3 : AV} {st : List AV} {sh : Shp} {I : IM} {R : RM} {i : Int} (h0 : 0 ≤ i) (h1 : i < S.2) : ev S d 209 1065 [a0, a1, a2, a3] (.inl i :: .inr (.inr 2) :: st) (sh, I, R) = ev S d 209 1066 [a0, a1, a2, a3] (.inl (S.1 i) :: st) (sh, I, R) := (ev_eq f_209_1065).trans (congrArg (fin S d 209) (if_pos ⟨h0, h1⟩))
set_option maxRecDepth 100000 in
theorem f_209_1066 : fetch 209 1066 = some (1066, .aload_n 0, 1, [0], 0) := (fm_209 1066).trans rfl
theorem u_209_1066s {S : Scr} {d : Nat} {a1 a2 a3 : AV} {st : List AV} {sh : Shp} {I : IM} {R : RM} : ev S d 209 1066 [.inr (.inr 2), a1, a2, a3] st (sh, I, R) = ev S d 209 1067 [.inr (.inr 2), a1, a2, a3] (.inr (.inr 2) :: st) (sh, I, R) := (ev_eq f_209_1066).trans rfl
set_option maxRecDepth 100000 in
theorem f_209_1067 : fetch 209 1067 = some (1067, .iload_n 3, 1, [3], 0) := (fm_209 1067).trans rfl
theorem u_209_1067 {S : Scr} {d : Nat} {a0 a1 a2 : AV} {st : List AV} {sh : Shp} {I : IM} {R : RM} {x : Int} : ev S d 209 1067 [a0, a1, a2, .inl x] st (sh, I, R) = ev S d 209 1068 [a0, a1, a2, .inl x] (.inl x :: st) (sh, I, R) := (ev_eq f_209_1067).trans rfl
set_option maxRecDepth 100000 in
theorem f_209_1068 : fetch 209 1068 = some (1068, .iconst 2, 1, [], 2) := (fm_209 1068).trans rfl
theorem u_209_1068 {S : Scr} {d : Nat} {a0 a1 a2 a3 : AV} {st : List AV} {sh : Shp} {I : IM} {R : RM} : ev S d 209 1068 [a0, a1, a2, a3] st (sh, I, R) = ev S d 209 1069 [a0, a1, a2, a3] (.inl 2 :: st) (sh, I, R) := (ev_eq f_209_1068).trans rfl
set_option maxRecDepth 100000 in
theorem f_209_1069 : fetch 209 1069 = some (1069, .iadd, 1, [], 0) := (fm_209 1069).trans rfl
theorem u_209_1069 {S : Scr} {d : Nat} {a0 a1 a2 a3 : AV} {st : List AV} {sh : Shp} {I : IM} {R : RM} {x y : Int} : ev S d 209 1069 [a0, a1, a2, a3] (.inl y :: .inl x :: st) (sh, I, R) = ev S d 209 1070 [a0, a1, a2, a3] (.inl (wr (x + y)) :: st) (sh, I, R) := (ev_eq f_209_1069).trans rfl
set_option maxRecDepth 100000 in
theorem f_209_1070 : fetch 209 1070 = some (1070, .iaload, 1, [], 0) := (fm_209 1070).trans rfl
theorem u_209_1070s {S : Scr} {d : Nat} {a0 a1 a2 a3 : AV} {st : List AV} {sh : Shp} {I : IM} {R : RM} {i : Int} (h0 : 0 ≤ i) (h1 : i < S.2) : ev S d 209 1070 [a0, a1, a2, a3] (.inl i :: .inr (.inr 2) :: st) (sh, I, R) = ev S d 209 1071 [a0, a1, a2, a3] (.inl (S.1 i) :: st) (sh, I, R) := (ev_eq f_209_1070).trans (congrArg (fin S d 209) (if_pos ⟨h0, h1⟩))
set_option maxRecDepth 100000 in
theorem f_209_1071 : fetch 209 1071 = some (1071, .invokevirtual 130, 3, [113, 2, 231], 0) := (fm_209 1071).trans rfl
theorem u_209_1071 {S : Scr} {d : Nat} {a0 a1 a2 a3 : AV} {st : List AV} {sh : Shp} {I : IM} {R : RM} {x0 : Int} {x1 : Int} {k : Nat} (h : tg sh k = 8) (hr : st.length ≤ 8) : ev S d 209 1071 [a0, a1, a2, a3] (.inl x1 :: .inl x0 :: .inr (.inl k) :: st) (sh, I, R) = bnd (cl d 113 [.inr (.inl k), .inl x0, .inl x1] (sh, I, R)) (fun v M => ev S d 209 1074 [a0, a1, a2, a3] (psh v st) M) := (ev_eq f_209_1071).trans (congrArg (fin S d 209) (if_pos ⟨h, rfl, hr⟩))
set_option maxRecDepth 100000 in
theorem f_209_1074 : fetch 209 1074 = some (1074, .aload_n 2, 1, [2], 0) := (fm_209 1074).trans rfl
theorem u_209_1074 {S : Scr} {d : Nat} {a0 a1 a3 : AV} {st : List AV} {sh : Shp} {I : IM} {R : RM} {x : Nat} : ev S d 209 1074 [a0, a1, .inr (.inl x), a3] st (sh, I, R) = ev S d 209 1075 [a0, a1, .inr (.inl x), a3] (.inr (.inl x) :: st) (sh, I, R) := (ev_eq f_209_1074).trans rfl
set_option maxRecDepth 100000 in
theorem f_209_1075 : fetch 209 1075 = some (1075, .aload_n 0, 1, [0], 0) := (fm_209 1075).trans rfl
theorem u_209_1075s {S : Scr} {d : Nat} {a1 a2 a3 : AV} {st : List AV} {sh : Shp} {I : IM} {R : RM} : ev S d 209 1075 [.inr (.inr 2), a1, a2, a3] st (sh, I, R) = ev S d 209 1076 [.inr (.inr 2), a1, a2, a3] (.inr (.inr 2) :: st) (sh, I, R) := (ev_eq f_209_1075).trans rfl
set_option maxRecDepth 100000 in
theorem f_209_1076 : fetch 209 1076 = some (1076, .iload_n 3, 1, [3], 0) := (fm_209 1076).trans rfl
theorem u_209_1076 {S : Scr} {d : Nat} {a0 a1 a2 : AV} {st : List AV} {sh : Shp} {I : IM} {R : RM} {x : Int} : ev S d 209 1076 [a0, a1, a2, .inl x] st (sh, I, R) = ev S d 209 1077 [a0, a1, a2, .inl x] (.inl x :: st) (sh, I, R) := (ev_eq f_209_1076).trans rfl
set_option maxRecDepth 100000 in
theorem f_209_1077 : fetch 209 1077 = some (1077, .iconst 1, 1, [], 1) := (fm_209 1077).trans rfl
theorem u_209_1077 {S : Scr} {d : Nat} {a0 a1 a2 a3 : AV} {st : List AV} {sh : Shp} {I : IM} {R : RM} : ev S d 209 1077 [a0, a1, a2, a3] st (sh, I, R) = ev S d 209 1078 [a0, a1, a2, a3] (.inl 1 :: st) (sh, I, R) := (ev_eq f_209_1077).trans rfl
set_option maxRecDepth 100000 in
theorem f_209_1078 : fetch 209 1078 = some (1078, .iadd, 1, [], 0) := (fm_209 1078).trans rfl
theorem u_209_1078 {S : Scr} {d : Nat} {a0 a1 a2 a3 : AV} {st : List AV} {sh : Shp} {I : IM} {R : RM} {x y : Int} : ev S d 209 1078 [a0, a1, a2, a3] (.inl y :: .inl x :: st) (sh, I, R) = ev S d 209 1079 [a0, a1, a2, a3] (.inl (wr (x + y)) :: st) (sh, I, R) := (ev_eq f_209_1078).trans rfl
set_option maxRecDepth 100000 in
theorem f_209_1079 : fetch 209 1079 = some (1079, .iaload, 1, [], 0) := (fm_209 1079).trans rfl
theorem u_209_1079s {S : Scr} {d : Nat} {a0 a1 a2 a3 : AV} {st : List AV} {sh : Shp} {I : IM} {R : RM} {i : Int} (h0 : 0 ≤ i) (h1 : i < S.2) : ev S d 209 1079 [a0, a1, a2, a3] (.inl i :: .inr (.inr 2) :: st) (sh, I, R) = ev S d 209 1080 [a0, a1, a2, a3] (.inl (S.1 i) :: st) (sh, I, R) := (ev_eq f_209_1079).trans (congrArg (fin S d 209) (if_pos ⟨h0, h1⟩))
set_option maxRecDepth 100000 in
theorem f_209_1080 : fetch 209 1080 = some (1080, .aload_n 0, 1, [0], 0) := (fm_209 1080).trans rfl
theorem u_209_1080s {S : Scr} {d : Nat} {a1 a2 a3 : AV} {st : List AV} {sh : Shp} {I : IM} {R : RM} : ev S d 209 1080 [.inr (.inr 2), a1, a2, a3] st (sh, I, R) = ev S d 209 1081 [.inr (.inr 2), a1, a2, a3] (.inr (.inr 2) :: st) (sh, I, R) := (ev_eq f_209_1080).trans rfl
set_option maxRecDepth 100000 in
theorem f_209_1081 : fetch 209 1081 = some (1081, .iload_n 3, 1, [3], 0) := (fm_209 1081).trans rfl
theorem u_209_1081 {S : Scr} {d : Nat} {a0 a1 a2 : AV} {st : List AV} {sh : Shp} {I : IM} {R : RM} {x : Int} : ev S d 209 1081 [a0, a1, a2, .inl x] st (sh, I, R) = ev S d 209 1082 [a0, a1, a2, .inl x] (.inl x :: st) (sh, I, R) := (ev_eq f_209_1081).trans rfl
set_option maxRecDepth 100000 in
theorem f_209_1082 : fetch 209 1082 = some (1082, .iconst 2, 1, [], 2) := (fm_209 1082).trans rfl
theorem u_209_1082 {S : Scr} {d : Nat} {a0 a1 a2 a3 : AV} {st : List AV} {sh : Shp} {I : IM} {R : RM} : ev S d 209 1082 [a0, a1, a2, a3] st (sh, I, R) = ev S d 209 1083 [a0, a1, a2, a3] (.inl 2 :: st) (sh, I, R) := (ev_eq f_209_1082).trans rfl
set_option maxRecDepth 100000 in
theorem f_209_1083 : fetch 209 1083 = some (1083, .iadd, 1, [], 0) := (fm_209 1083).trans rfl
theorem u_209_1083 {S : Scr} {d : Nat} {a0 a1 a2 a3 : AV} {st : List AV} {sh : Shp} {I : IM} {R : RM} {x y : Int} : ev S d 209 1083 [a0, a1, a2, a3] (.inl y :: .inl x :: st) (sh, I, R) = ev S d 209 1084 [a0, a1, a2, a3] (.inl (wr (x + y)) :: st) (sh, I, R) := (ev_eq f_209_1083).trans rfl
set_option maxRecDepth 100000 in
theorem f_209_1084 : fetch 209 1084 = some (1084, .iaload, 1, [], 0) := (fm_209 1084).trans rfl
theorem u_209_1084s {S : Scr} {d : Nat} {a0 a1 a2 a3 : AV} {st : List AV} {sh : Shp} {I : IM} {R : RM} {i : Int} (h0 : 0 ≤ i) (h1 : i < S.2) : ev S d 209 1084 [a0, a1, a2, a3] (.inl i :: .inr (.inr 2) :: st) (sh, I, R) = ev S d 209 1085 [a0, a1, a2, a3] (.inl (S.1 i) :: st) (sh, I, R) := (ev_eq f_209_1084).trans (congrArg (fin S d 209) (if_pos ⟨h0, h1⟩))
set_option maxRecDepth 100000 in
theorem f_209_1085 : fetch 209 1085 = some (1085, .invokevirtual 133, 3, [203, 2, 232], 0) := (fm_209 1085).trans rfl
theorem u_209_1085 {S : Scr} {d : Nat} {a0 a1 a2 a3 : AV} {st : List AV} {sh : Shp} {I : IM} {R : RM} {x0 : Int} {x1 : Int} {k : Nat} (h : tg sh k = 9) (hr : st.length ≤ 8) : ev S d 209 1085 [a0, a1, a2, a3] (.inl x1 :: .inl x0 :: .inr (.inl k) :: st) (sh, I, R) = bnd (cl d 203 [.inr (.inl k), .inl x0, .inl x1] (sh, I, R)) (fun v M => ev S d 209 1088 [a0, a1, a2, a3] (psh v st) M) := (ev_eq f_209_1085).trans (congrArg (fin S d 209) (if_pos ⟨h, rfl, hr⟩))
set_option maxRecDepth 100000 in
theorem f_209_1088 : fetch 209 1088 = some (1088, .if_icmp .eq 84, 3, [1172], 0) := (fm_209 1088).trans rfl
theorem u_209_1088 {S : Scr} {d : Nat} {a0 a1 a2 a3 : AV} {st : List AV} {sh : Shp} {I : IM} {R : RM} {x y : Int} : ev S d 209 1088 [a0, a1, a2, a3] (.inl y :: .inl x :: st) (sh, I, R) = if x = y then ev S d 209 1172 [a0, a1, a2, a3] st (sh, I, R) else ev S d 209 1091 [a0, a1, a2, a3] st (sh, I, R) := (ev_eq f_209_1088).trans fin_icmp_eq
set_option maxRecDepth 100000 in
theorem f_209_1091 : fetch 209 1091 = some (1091, .iconst 0, 1, [], 0) := (fm_209 1091).trans rfl
theorem u_209_1091 {S : Scr} {d : Nat} {a0 a1 a2 a3 : AV} {st : List AV} {sh : Shp} {I : IM} {R : RM} : ev S d 209 1091 [a0, a1, a2, a3] st (sh, I, R) = ev S d 209 1092 [a0, a1, a2, a3] (.inl 0 :: st) (sh, I, R) := (ev_eq f_209_1091).trans rfl
set_option maxRecDepth 100000 in
theorem f_209_1092 : fetch 209 1092 = some (1092, .ireturn, 1, [1], 0) := (fm_209 1092).trans rfl
theorem u_209_1092 {S : Scr} {d : Nat} {a0 a1 a2 a3 : AV} {sh : Shp} {I : IM} {R : RM} {x : Int} (h : x = 0 ∨ x = 1) : ev S d 209 1092 [a0, a1, a2, a3] [.inl x] (sh, I, R) = some (some (.inl x), (sh, I, R)) := (ev_eq f_209_1092).trans (fin_iret1 h)
set_option maxRecDepth 100000 in
theorem f_209_1093 : fetch 209 1093 = some (1093, .aload_n 1, 1, [1], 0) := (fm_209 1093).trans rfl
theorem u_209_1093 {S : Scr} {d : Nat} {a0 a2 a3 : AV} {st : List AV} {sh : Shp} {I : IM} {R : RM} {x : Nat} : ev S d 209 1093 [a0, .inr (.inl x), a2, a3] st (sh, I, R) = ev S d 209 1094 [a0, .inr (.inl x), a2, a3] (.inr (.inl x) :: st) (sh, I, R) := (ev_eq f_209_1093).trans rfl
set_option maxRecDepth 100000 in
theorem f_209_1094 : fetch 209 1094 = some (1094, .aload_n 0, 1, [0], 0) := (fm_209 1094).trans rfl
theorem u_209_1094s {S : Scr} {d : Nat} {a1 a2 a3 : AV} {st : List AV} {sh : Shp} {I : IM} {R : RM} : ev S d 209 1094 [.inr (.inr 2), a1, a2, a3] st (sh, I, R) = ev S d 209 1095 [.inr (.inr 2), a1, a2, a3] (.inr (.inr 2) :: st) (sh, I, R) := (ev_eq f_209_1094).trans rfl
set_option maxRecDepth 100000 in
theorem f_209_1095 : fetch 209 1095 = some (1095, .iload_n 3, 1, [3], 0) := (fm_209 1095).trans rfl
theorem u_209_1095 {S : Scr} {d : Nat} {a0 a1 a2 : AV} {st : List AV} {sh : Shp} {I : IM} {R : RM} {x : Int} : ev S d 209 1095 [a0, a1, a2, .inl x] st (sh, I, R) = ev S d 209 1096 [a0, a1, a2, .inl x] (.inl x :: st) (sh, I, R) := (ev_eq f_209_1095).trans rfl
set_option maxRecDepth 100000 in
theorem f_209_1096 : fetch 209 1096 = some (1096, .iconst 1, 1, [], 1) := (fm_209 1096).trans rfl
theorem u_209_1096 {S : Scr} {d : Nat} {a0 a1 a2 a3 : AV} {st : List AV} {sh : Shp} {I : IM} {R : RM} : ev S d 209 1096 [a0, a1, a2, a3] st (sh, I, R) = ev S d 209 1097 [a0, a1, a2, a3] (.inl 1 :: st) (sh, I, R) := (ev_eq f_209_1096).trans rfl
set_option maxRecDepth 100000 in
theorem f_209_1097 : fetch 209 1097 = some (1097, .iadd, 1, [], 0) := (fm_209 1097).trans rfl
theorem u_209_1097 {S : Scr} {d : Nat} {a0 a1 a2 a3 : AV} {st : List AV} {sh : Shp} {I : IM} {R : RM} {x y : Int} : ev S d 209 1097 [a0, a1, a2, a3] (.inl y :: .inl x :: st) (sh, I, R) = ev S d 209 1098 [a0, a1, a2, a3] (.inl (wr (x + y)) :: st) (sh, I, R) := (ev_eq f_209_1097).trans rfl
set_option maxRecDepth 100000 in
theorem f_209_1098 : fetch 209 1098 = some (1098, .iaload, 1, [], 0) := (fm_209 1098).trans rfl
theorem u_209_1098s {S : Scr} {d : Nat} {a0 a1 a2 a3 : AV} {st : List AV} {sh : Shp} {I : IM} {R : RM} {i : Int} (h0 : 0 ≤ i) (h1 : i < S.2) : ev S d 209 1098 [a0, a1, a2, a3] (.inl i :: .inr (.inr 2) :: st) (sh, I, R) = ev S d 209 1099 [a0, a1, a2, a3] (.inl (S.1 i) :: st) (sh, I, R) := (ev_eq f_209_1098).trans (congrArg (fin S d 209) (if_pos ⟨h0, h1⟩))
set_option maxRecDepth 100000 in
theorem f_209_1099 : fetch 209 1099 = some (1099, .invokevirtual 134, 3, [114, 1, 233], 0) := (fm_209 1099).trans rfl
theorem u_209_1099 {S : Scr} {d : Nat} {a0 a1 a2 a3 : AV} {st : List AV} {sh : Shp} {I : IM} {R : RM} {x0 : Int} {k : Nat} (h : tg sh k = 8) (hr : st.length ≤ 8) : ev S d 209 1099 [a0, a1, a2, a3] (.inl x0 :: .inr (.inl k) :: st) (sh, I, R) = bnd (cl d 114 [.inr (.inl k), .inl x0] (sh, I, R)) (fun v M => ev S d 209 1102 [a0, a1, a2, a3] (psh v st) M) := (ev_eq f_209_1099).trans (congrArg (fin S d 209) (if_pos ⟨h, rfl, hr⟩))
set_option maxRecDepth 100000 in
theorem f_209_1102 : fetch 209 1102 = some (1102, .aload_n 2, 1, [2], 0) := (fm_209 1102).trans rfl
theorem u_209_1102 {S : Scr} {d : Nat} {a0 a1 a3 : AV} {st : List AV} {sh : Shp} {I : IM} {R : RM} {x : Nat} : ev S d 209 1102 [a0, a1, .inr (.inl x), a3] st (sh, I, R) = ev S d 209 1103 [a0, a1, .inr (.inl x), a3] (.inr (.inl x) :: st) (sh, I, R) := (ev_eq f_209_1102).trans rfl
set_option maxRecDepth 100000 in
theorem f_209_1103 : fetch 209 1103 = some (1103, .aload_n 0, 1, [0], 0) := (fm_209 1103).trans rfl
theorem u_209_1103s {S : Scr} {d : Nat} {a1 a2 a3 : AV} {st : List AV} {sh : Shp} {I : IM} {R : RM} : ev S d 209 1103 [.inr (.inr 2), a1, a2, a3] st (sh, I, R) = ev S d 209 1104 [.inr (.inr 2), a1, a2, a3] (.inr (.inr 2) :: st) (sh, I, R) := (ev_eq f_209_1103).trans rfl
set_option maxRecDepth 100000 in
theorem f_209_1104 : fetch 209 1104 = some (1104, .iload_n 3, 1, [3], 0) := (fm_209 1104).trans rfl
theorem u_209_1104 {S : Scr} {d : Nat} {a0 a1 a2 : AV} {st : List AV} {sh : Shp} {I : IM} {R : RM} {x : Int} : ev S d 209 1104 [a0, a1, a2, .inl x] st (sh, I, R) = ev S d 209 1105 [a0, a1, a2, .inl x] (.inl x :: st) (sh, I, R) := (ev_eq f_209_1104).trans rfl
set_option maxRecDepth 100000 in
theorem f_209_1105 : fetch 209 1105 = some (1105, .iconst 1, 1, [], 1) := (fm_209 1105).trans rfl
theorem u_209_1105 {S : Scr} {d : Nat} {a0 a1 a2 a3 : AV} {st : List AV} {sh : Shp} {I : IM} {R : RM} : ev S d 209 1105 [a0, a1, a2, a3] st (sh, I, R) = ev S d 209 1106 [a0, a1, a2, a3] (.inl 1 :: st) (sh, I, R) := (ev_eq f_209_1105).trans rfl
set_option maxRecDepth 100000 in
theorem f_209_1106 : fetch 209 1106 = some (1106, .iadd, 1, [], 0) := (fm_209 1106).trans rfl
theorem u_209_1106 {S : Scr} {d : Nat} {a0 a1 a2 a3 : AV} {st : List AV} {sh : Shp} {I : IM} {R : RM} {x y : Int} : ev S d 209 1106 [a0, a1, a2, a3] (.inl y :: .inl x :: st) (sh, I, R) = ev S d 209 1107 [a0, a1, a2, a3] (.inl (wr (x + y)) :: st) (sh, I, R) := (ev_eq f_209_1106).trans rfl
set_option maxRecDepth 100000 in
theorem f_209_1107 : fetch 209 1107 = some (1107, .iaload, 1, [], 0) := (fm_209 1107).trans rfl
theorem u_209_1107s {S : Scr} {d : Nat} {a0 a1 a2 a3 : AV} {st : List AV} {sh : Shp} {I : IM} {R : RM} {i : Int} (h0 : 0 ≤ i) (h1 : i < S.2) : ev S d 209 1107 [a0, a1, a2, a3] (.inl i :: .inr (.inr 2) :: st) (sh, I, R) = ev S d 209 1108 [a0, a1, a2, a3] (.inl (S.1 i) :: st) (sh, I, R) := (ev_eq f_209_1107).trans (congrArg (fin S d 209) (if_pos ⟨h0, h1⟩))
set_option maxRecDepth 100000 in
theorem f_209_1108 : fetch 209 1108 = some (1108, .invokevirtual 137, 3, [204, 1, 234], 0) := (fm_209 1108).trans rfl
theorem u_209_1108 {S : Scr} {d : Nat} {a0 a1 a2 a3 : AV} {st : List AV} {sh : Shp} {I : IM} {R : RM} {x0 : Int} {k : Nat} (h : tg sh k = 9) (hr : st.length ≤ 8) : ev S d 209 1108 [a0, a1, a2, a3] (.inl x0 :: .inr (.inl k) :: st) (sh, I, R) = bnd (cl d 204 [.inr (.inl k), .inl x0] (sh, I, R)) (fun v M => ev S d 209 1111 [a0, a1, a2, a3] (psh v st) M) := (ev_eq f_209_1108).trans (congrArg (fin S d 209) (if_pos ⟨h, rfl, hr⟩))
set_option maxRecDepth 100000 in
theorem f_209_1111 : fetch 209 1111 = some (1111, .if_icmp .eq 61, 3, [1172], 0) := (fm_209 1111).trans rfl
theorem u_209_1111 {S : Scr} {d : Nat} {a0 a1 a2 a3 : AV} {st : List AV} {sh : Shp} {I : IM} {R : RM} {x y : Int} : ev S d 209 1111 [a0, a1, a2, a3] (.inl y :: .inl x :: st) (sh, I, R) = if x = y then ev S d 209 1172 [a0, a1, a2, a3] st (sh, I, R) else ev S d 209 1114 [a0, a1, a2, a3] st (sh, I, R) := (ev_eq f_209_1111).trans fin_icmp_eq
set_option maxRecDepth 100000 in
theorem f_209_1114 : fetch 209 1114 = some (1114, .iconst 0, 1, [], 0) := (fm_209 1114).trans rfl
theorem u_209_1114 {S : Scr} {d : Nat} {a0 a1 a2 a3 : AV} {st : List AV} {sh : Shp} {I : IM} {R : RM} : ev S d 209 1114 [a0, a1, a2, a3] st (sh, I, R) = ev S d 209 1115 [a0, a1, a2, a3] (.inl 0 :: st) (sh, I, R) := (ev_eq f_209_1114).trans rfl
set_option maxRecDepth 100000 in
theorem f_209_1115 : fetch 209 1115 = some (1115, .ireturn, 1, [1], 0) := (fm_209 1115).trans rfl
theorem u_209_1115 {S : Scr} {d : Nat} {a0 a1 a2 a3 : AV} {sh : Shp} {I : IM} {R : RM} {x : Int} (h : x = 0 ∨ x = 1) : ev S d 209 1115 [a0, a1, a2, a3] [.inl x] (sh, I, R) = some (some (.inl x), (sh, I, R)) := (ev_eq f_209_1115).trans (fin_iret1 h)
set_option maxRecDepth 100000 in
theorem f_209_1116 : fetch 209 1116 = some (1116, .aload_n 1, 1, [1], 0) := (fm_209 1116).trans rfl
theorem u_209_1116 {S : Scr} {d : Nat} {a0 a2 a3 : AV} {st : List AV} {sh : Shp} {I : IM} {R : RM} {x : Nat} : ev S d 209 1116 [a0, .inr (.inl x), a2, a3] st (sh, I, R) = ev S d 209 1117 [a0, .inr (.inl x), a2, a3] (.inr (.inl x) :: st) (sh, I, R) := (ev_eq f_209_1116).trans rfl
set_option maxRecDepth 100000 in
theorem f_209_1117 : fetch 209 1117 = some (1117, .aload_n 0, 1, [0], 0) := (fm_209 1117).trans rfl
theorem u_209_1117s {S : Scr} {d : Nat} {a1 a2 a3 : AV} {st : List AV} {sh : Shp} {I : IM} {R : RM} : ev S d 209 1117 [.inr (.inr 2), a1, a2, a3] st (sh, I, R) = ev S d 209 1118 [.inr (.inr 2), a1, a2, a3] (.inr (.inr 2) :: st) (sh, I, R) := (ev_eq f_209_1117).trans rfl
set_option maxRecDepth 100000 in
theorem f_209_1118 : fetch 209 1118 = some (1118, .iload_n 3, 1, [3], 0) := (fm_209 1118).trans rfl
theorem u_209_1118 {S : Scr} {d : Nat} {a0 a1 a2 : AV} {st : List AV} {sh : Shp} {I : IM} {R : RM} {x : Int} : ev S d 209 1118 [a0, a1, a2, .inl x] st (sh, I, R) = ev S d 209 1119 [a0, a1, a2, .inl x] (.inl x :: st) (sh, I, R) := (ev_eq f_209_1118).trans rfl
set_option maxRecDepth 100000 in
theorem f_209_1119 : fetch 209 1119 = some (1119, .iconst 1, 1, [], 1) := (fm_209 1119).trans rfl
theorem u_209_1119 {S : Scr} {d : Nat} {a0 a1 a2 a3 : AV} {st : List AV} {sh : Shp} {I : IM} {R : RM} : ev S d 209 1119 [a0, a1, a2, a3] st (sh, I, R) = ev S d 209 1120 [a0, a1, a2, a3] (.inl 1 :: st) (sh, I, R) := (ev_eq f_209_1119).trans rfl
set_option maxRecDepth 100000 in
theorem f_209_1120 : fetch 209 1120 = some (1120, .iadd, 1, [], 0) := (fm_209 1120).trans rfl
theorem u_209_1120 {S : Scr} {d : Nat} {a0 a1 a2 a3 : AV} {st : List AV} {sh : Shp} {I : IM} {R : RM} {x y : Int} : ev S d 209 1120 [a0, a1, a2, a3] (.inl y :: .inl x :: st) (sh, I, R) = ev S d 209 1121 [a0, a1, a2, a3] (.inl (wr (x + y)) :: st) (sh, I, R) := (ev_eq f_209_1120).trans rfl
set_option maxRecDepth 100000 in
theorem f_209_1121 : fetch 209 1121 = some (1121, .iaload, 1, [], 0) := (fm_209 1121).trans rfl
theorem u_209_1121s {S : Scr} {d : Nat} {a0 a1 a2 a3 : AV} {st : List AV} {sh : Shp} {I : IM} {R : RM} {i : Int} (h0 : 0 ≤ i) (h1 : i < S.2) : ev S d 209 1121 [a0, a1, a2, a3] (.inl i :: .inr (.inr 2) :: st) (sh, I, R) = ev S d 209 1122 [a0, a1, a2, a3] (.inl (S.1 i) :: st) (sh, I, R) := (ev_eq f_209_1121).trans (congrArg (fin S d 209) (if_pos ⟨h0, h1⟩))
set_option maxRecDepth 100000 in
theorem f_209_1122 : fetch 209 1122 = some (1122, .aload_n 0, 1, [0], 0) := (fm_209 1122).trans rfl
theorem u_209_1122s {S : Scr} {d : Nat} {a1 a2 a3 : AV} {st : List AV} {sh : Shp} {I : IM} {R : RM} : ev S d 209 1122 [.inr (.inr 2), a1, a2, a3] st (sh, I, R) = ev S d 209 1123 [.inr (.inr 2), a1, a2, a3] (.inr (.inr 2) :: st) (sh, I, R) := (ev_eq f_209_1122).trans rfl
set_option maxRecDepth 100000 in
theorem f_209_1123 : fetch 209 1123 = some (1123, .iload_n 3, 1, [3], 0) := (fm_209 1123).trans rfl
theorem u_209_1123 {S : Scr} {d : Nat} {a0 a1 a2 : AV} {st : List AV} {sh : Shp} {I : IM} {R : RM} {x : Int} : ev S d 209 1123 [a0, a1, a2, .inl x] st (sh, I, R) = ev S d 209 1124 [a0, a1, a2, .inl x] (.inl x :: st) (sh, I, R) := (ev_eq f_209_1123).trans rfl
set_option maxRecDepth 100000 in
theorem f_209_1124 : fetch 209 1124 = some (1124, .iconst 2, 1, [], 2) := (fm_209 1124).trans rfl
theorem u_209_1124 {S : Scr} {d : Nat} {a0 a1 a2 a3 : AV} {st : List AV} {sh : Shp} {I : IM} {R : RM} : ev S d 209 1124 [a0, a1, a2, a3] st (sh, I, R) = ev S d 209 1125 [a0, a1, a2, a3] (.inl 2 :: st) (sh, I, R) := (ev_eq f_209_1124).trans rfl
set_option maxRecDepth 100000 in
theorem f_209_1125 : fetch 209 1125 = some (1125, .iadd, 1, [], 0) := (fm_209 1125).trans rfl
theorem u_209_1125 {S : Scr} {d : Nat} {a0 a1 a2 a3 : AV} {st : List AV} {sh : Shp} {I : IM} {R : RM} {x y : Int} : ev S d 209 1125 [a0, a1, a2, a3] (.inl y :: .inl x :: st) (sh, I, R) = ev S d 209 1126 [a0, a1, a2, a3] (.inl (wr (x + y)) :: st) (sh, I, R) := (ev_eq f_209_1125).trans rfl
set_option maxRecDepth 100000 in
theorem f_209_1126 : fetch 209 1126 = some (1126, .iaload, 1, [], 0) := (fm_209 1126).trans rfl
theorem u_209_1126s {S : Scr} {d : Nat} {a0 a1 a2 a3 : AV} {st : List AV} {sh : Shp} {I : IM} {R : RM} {i : Int} (h0 : 0 ≤ i) (h1 : i < S.2) : ev S d 209 1126 [a0, a1, a2, a3] (.inl i :: .inr (.inr 2) :: st) (sh, I, R) = ev S d 209 1127 [a0, a1, a2, a3] (.inl (S.1 i) :: st) (sh, I, R) := (ev_eq f_209_1126).trans (congrArg (fin S d 209) (if_pos ⟨h0, h1⟩))
set_option maxRecDepth 100000 in
theorem f_209_1127 : fetch 209 1127 = some (1127, .invokevirtual 138, 3, [115, 2, 235], 0) := (fm_209 1127).trans rfl
theorem u_209_1127 {S : Scr} {d : Nat} {a0 a1 a2 a3 : AV} {st : List AV} {sh : Shp} {I : IM} {R : RM} {x0 : Int} {x1 : Int} {k : Nat} (h : tg sh k = 8) (hr : st.length ≤ 8) : ev S d 209 1127 [a0, a1, a2, a3] (.inl x1 :: .inl x0 :: .inr (.inl k) :: st) (sh, I, R) = bnd (cl d 115 [.inr (.inl k), .inl x0, .inl x1] (sh, I, R)) (fun v M => ev S d 209 1130 [a0, a1, a2, a3] (psh v st) M) := (ev_eq f_209_1127).trans (congrArg (fin S d 209) (if_pos ⟨h, rfl, hr⟩))
set_option maxRecDepth 100000 in
theorem f_209_1130 : fetch 209 1130 = some (1130, .aload_n 2, 1, [2], 0) := (fm_209 1130).trans rfl
theorem u_209_1130 {S : Scr} {d : Nat} {a0 a1 a3 : AV} {st : List AV} {sh : Shp} {I : IM} {R : RM} {x : Nat} : ev S d 209 1130 [a0, a1, .inr (.inl x), a3] st (sh, I, R) = ev S d 209 1131 [a0, a1, .inr (.inl x), a3] (.inr (.inl x) :: st) (sh, I, R) := (ev_eq f_209_1130).trans rfl
set_option maxRecDepth 100000 in
theorem f_209_1131 : fetch 209 1131 = some (1131, .aload_n 0, 1, [0], 0) := (fm_209 1131).trans rfl
theorem u_209_1131s {S : Scr} {d : Nat} {a1 a2 a3 : AV} {st : List AV} {sh : Shp} {I : IM} {R : RM} : ev S d 209 1131 [.inr (.inr 2), a1, a2, a3] st (sh, I, R) = ev S d 209 1132 [.inr (.inr 2), a1, a2, a3] (.inr (.inr 2) :: st) (sh, I, R) := (ev_eq f_209_1131).trans rfl
set_option maxRecDepth 100000 in
theorem f_209_1132 : fetch 209 1132 = some (1132, .iload_n 3, 1, [3], 0) := (fm_209 1132).trans rfl
theorem u_209_1132 {S : Scr} {d : Nat} {a0 a1 a2 : AV} {st : List AV} {sh : Shp} {I : IM} {R : RM} {x : Int} : ev S d 209 1132 [a0, a1, a2, .inl x] st (sh, I, R) = ev S d 209 1133 [a0, a1, a2, .inl x] (.inl x :: st) (sh, I, R) := (ev_eq f_209_1132).trans rfl
set_option maxRecDepth 100000 in
theorem f_209_1133 : fetch 209 1133 = some (1133, .iconst 1, 1, [], 1) := (fm_209 1133).trans rfl
theorem u_209_1133 {S : Scr} {d : Nat} {a0 a1 a2 a3 : AV} {st : List AV} {sh : Shp} {I : IM} {R : RM} : ev S d 209 1133 [a0, a1, a2, a3] st (sh, I, R) = ev S d 209 1134 [a0, a1, a2, a3] (.inl 1 :: st) (sh, I, R) := (ev_eq f_209_1133).trans rfl
set_option maxRecDepth 100000 in
theorem f_209_1134 : fetch 209 1134 = some (1134, .iadd, 1, [], 0) := (fm_209 1134).trans rfl
theorem u_209_1134 {S : Scr} {d : Nat} {a0 a1 a2 a3 : AV} {st : List AV} {sh : Shp} {I : IM} {R : RM} {x y : Int} : ev S d 209 1134 [a0, a1, a2, a3] (.inl y :: .inl x :: st) (sh, I, R) = ev S d 209 1135 [a0, a1, a2, a3] (.inl (wr (x + y)) :: st) (sh, I, R) := (ev_eq f_209_1134).trans rfl
set_option maxRecDepth 100000 in
theorem f_209_1135 : fetch 209 1135 = some (1135, .iaload, 1, [], 0) := (fm_209 1135).trans rfl
theorem u_209_1135s {S : Scr} {d : Nat} {a0 a1 a2 a3 : AV} {st : List AV} {sh : Shp} {I : IM} {R : RM} {i : Int} (h0 : 0 ≤ i) (h1 : i < S.2) : ev S d 209 1135 [a0, a1, a2, a3] (.inl i :: .inr (.inr 2) :: st) (sh, I, R) = ev S d 209 1136 [a0, a1, a2, a3] (.inl (S.1 i) :: st) (sh, I, R) := (ev_eq f_209_1135).trans (congrArg (fin S d 209) (if_pos ⟨h0, h1⟩))
set_option maxRecDepth 100000 in
theorem f_209_1136 : fetch 209 1136 = some (1136, .aload_n 0, 1, [0], 0) := (fm_209 1136).trans rfl
theorem u_209_1136s {S : Scr} {d : Nat} {a1 a2 a3 : AV} {st : List AV} {sh : Shp} {I : IM} {R : RM} : ev S d 209 1136 [.inr (.inr 2), a1, a2, a3] st (sh, I, R) = ev S d 209 1137 [.inr (.inr 2), a1, a2, a3] (.inr (.inr 2) :: st) (sh, I, R) := (ev_eq f_209_1136).trans rfl
set_option maxRecDepth 100000 in
theorem f_209_1137 : fetch 209 1137 = some (1137, .iload_n 3, 1, [3], 0) := (fm_209 1137).trans rfl
theorem u_209_1137 {S : Scr} {d : Nat} {a0 a1 a2 : AV} {st : List AV} {sh : Shp} {I : IM} {R : RM} {x : Int} : ev S d 209 1137 [a0, a1, a2, .inl x] st (sh, I, R) = ev S d 209 1138 [a0, a1, a2, .inl x] (.inl x :: st) (sh, I, R) := (ev_eq f_209_1137).trans rfl
set_option maxRecDepth 100000 in
theorem f_209_1138 : fetch 209 1138 = some (1138, .iconst 2, 1, [], 2) := (fm_209 1138).trans rfl
theorem u_209_1138 {S : Scr} {d : Nat} {a0 a1 a2 a3 : AV} {st : List AV} {sh : Shp} {I : IM} {R : RM} : ev S d 209 1138 [a0, a1, a2, a3] st (sh, I, R) = ev S d 209 1139 [a0, a1, a2, a3] (.inl 2 :: st) (sh, I, R) := (ev_eq f_209_1138).trans rfl
set_option maxRecDepth 100000 in
theorem f_209_1139 : fetch 209 1139 = some (1139, .iadd, 1, [], 0) := (fm_209 1139).trans rfl
theorem u_209_1139 {S : Scr} {d : Nat} {a0 a1 a2 a3 : AV} {st : List AV} {sh : Shp} {I : IM} {R : RM} {x y : Int} : ev S d 209 1139 [a0, a1, a2, a3] (.inl y :: .inl x :: st) (sh, I, R) = ev S d 209 1140 [a0, a1, a2, a3] (.inl (wr (x + y)) :: st) (sh, I, R) := (ev_eq f_209_1139).trans rfl
set_option maxRecDepth 100000 in
theorem f_209_1140 : fetch 209 1140 = some (1140, .iaload, 1, [], 0) := (fm_209 1140).trans rfl
theorem u_209_1140s {S : Scr} {d : Nat} {a0 a1 a2 a3 : AV} {st : List AV} {sh : Shp} {I : IM} {R : RM} {i : Int} (h0 : 0 ≤ i) (h1 : i < S.2) : ev S d 209 1140 [a0, a1, a2, a3] (.inl i :: .inr (.inr 2) :: st) (sh, I, R) = ev S d 209 1141 [a0, a1, a2, a3] (.inl (S.1 i) :: st) (sh, I, R) := (ev_eq f_209_1140).trans (congrArg (fin S d 209) (if_pos ⟨h0, h1⟩))
set_option maxRecDepth 100000 in
theorem f_209_1141 : fetch 209 1141 = some (1141, .invokevirtual 141, 3, [205, 2, 236], 0) := (fm_209 1141).trans rfl
theorem u_209_1141 {S : Scr} {d : Nat} {a0 a1 a2 a3 : AV} {st : List AV} {sh : Shp} {I : IM} {R : RM} {x0 : Int} {x1 : Int} {k : Nat} (h : tg sh k = 9) (hr : st.length ≤ 8) : ev S d 209 1141 [a0, a1, a2, a3] (.inl x1 :: .inl x0 :: .inr (.inl k) :: st) (sh, I, R) = bnd (cl d 205 [.inr (.inl k), .inl x0, .inl x1] (sh, I, R)) (fun v M => ev S d 209 1144 [a0, a1, a2, a3] (psh v st) M) := (ev_eq f_209_1141).trans (congrArg (fin S d 209) (if_pos ⟨h, rfl, hr⟩))
set_option maxRecDepth 100000 in
theorem f_209_1144 : fetch 209 1144 = some (1144, .if_icmp .eq 28, 3, [1172], 0) := (fm_209 1144).trans rfl
theorem u_209_1144 {S : Scr} {d : Nat} {a0 a1 a2 a3 : AV} {st : List AV} {sh : Shp} {I : IM} {R : RM} {x y : Int} : ev S d 209 1144 [a0, a1, a2, a3] (.inl y :: .inl x :: st) (sh, I, R) = if x = y then ev S d 209 1172 [a0, a1, a2, a3] st (sh, I, R) else ev S d 209 1147 [a0, a1, a2, a3] st (sh, I, R) := (ev_eq f_209_1144).trans fin_icmp_eq
set_option maxRecDepth 100000 in
theorem f_209_1147 : fetch 209 1147 = some (1147, .iconst 0, 1, [], 0) := (fm_209 1147).trans rfl
theorem u_209_1147 {S : Scr} {d : Nat} {a0 a1 a2 a3 : AV} {st : List AV} {sh : Shp} {I : IM} {R : RM} : ev S d 209 1147 [a0, a1, a2, a3] st (sh, I, R) = ev S d 209 1148 [a0, a1, a2, a3] (.inl 0 :: st) (sh, I, R) := (ev_eq f_209_1147).trans rfl
set_option maxRecDepth 100000 in
theorem f_209_1148 : fetch 209 1148 = some (1148, .ireturn, 1, [1], 0) := (fm_209 1148).trans rfl
theorem u_209_1148 {S : Scr} {d : Nat} {a0 a1 a2 a3 : AV} {sh : Shp} {I : IM} {R : RM} {x : Int} (h : x = 0 ∨ x = 1) : ev S d 209 1148 [a0, a1, a2, a3] [.inl x] (sh, I, R) = some (some (.inl x), (sh, I, R)) := (ev_eq f_209_1148).trans (fin_iret1 h)
set_option maxRecDepth 100000 in
theorem f_209_1149 : fetch 209 1149 = some (1149, .aload_n 1, 1, [1], 0) := (fm_209 1149).trans rfl
theorem u_209_1149 {S : Scr} {d : Nat} {a0 a2 a3 : AV} {st : List AV} {sh : Shp} {I : IM} {R : RM} {x : Nat} : ev S d 209 1149 [a0, .inr (.inl x), a2, a3] st (sh, I, R) = ev S d 209 1150 [a0, .inr (.inl x), a2, a3] (.inr (.inl x) :: st) (sh, I, R) := (ev_eq f_209_1149).trans rfl
set_option maxRecDepth 100000 in
theorem f_209_1150 : fetch 209 1150 = some (1150, .aload_n 0, 1, [0], 0) := (fm_209 1150).trans rfl
theorem u_209_1150s {S : Scr} {d : Nat} {a1 a2 a3 : AV} {st : List AV} {sh : Shp} {I : IM} {R : RM} : ev S d 209 1150 [.inr (.inr 2), a1, a2, a3] st (sh, I, R) = ev S d 209 1151 [.inr (.inr 2), a1, a2, a3] (.inr (.inr 2) :: st) (sh, I, R) := (ev_eq f_209_1150).trans rfl
set_option maxRecDepth 100000 in
theorem f_209_1151 : fetch 209 1151 = some (1151, .iload_n 3, 1, [3], 0) := (fm_209 1151).trans rfl
theorem u_209_1151 {S : Scr} {d : Nat} {a0 a1 a2 : AV} {st : List AV} {sh : Shp} {I : IM} {R : RM} {x : Int} : ev S d 209 1151 [a0, a1, a2, .inl x] st (sh, I, R) = ev S d 209 1152 [a0, a1, a2, .inl x] (.inl x :: st) (sh, I, R) := (ev_eq f_209_1151).trans rfl
set_option maxRecDepth 100000 in
theorem f_209_1152 : fetch 209 1152 = some (1152, .iconst 1, 1, [], 1) := (fm_209 1152).trans rfl
theorem u_209_1152 {S : Scr} {d : Nat} {a0 a1 a2 a3 : AV} {st : List AV} {sh : Shp} {I : IM} {R : RM} : ev S d 209 1152 [a0, a1, a2, a3] st (sh, I, R) = ev S d 209 1153 [a0, a1, a2, a3] (.inl 1 :: st) (sh, I, R) := (ev_eq f_209_1152).trans rfl
set_option maxRecDepth 100000 in
theorem f_209_1153 : fetch 209 1153 = some (1153, .iadd, 1, [], 0) := (fm_209 1153).trans rfl
theorem u_209_1153 {S : Scr} {d : Nat} {a0 a1 a2 a3 : AV} {st : List AV} {sh : Shp} {I : IM} {R : RM} {x y : Int} : ev S d 209 1153 [a0, a1, a2, a3] (.inl y :: .inl x :: st) (sh, I, R) = ev S d 209 1154 [a0, a1, a2, a3] (.inl (wr (x + y)) :: st) (sh, I, R) := (ev_eq f_209_1153).trans rfl
set_option maxRecDepth 100000 in
theorem f_209_1154 : fetch 209 1154 = some (1154, .iaload, 1, [], 0) := (fm_209 1154).trans rfl
theorem u_209_1154s {S : Scr} {d : Nat} {a0 a1 a2 a3 : AV} {st : List AV} {sh : Shp} {I : IM} {R : RM} {i : Int} (h0 : 0 ≤ i) (h1 : i < S.2) : ev S d 209 1154 [a0, a1, a2, a3] (.inl i :: .inr (.inr 2) :: st) (sh, I, R) = ev S d 209 1155 [a0, a1, a2, a3] (.inl (S.1 i) :: st) (sh, I, R) := (ev_eq f_209_1154).trans (congrArg (fin S d 209) (if_pos ⟨h0, h1⟩))
set_option maxRecDepth 100000 in
theorem f_209_1155 : fetch 209 1155 = some (1155, .invokevirtual 142, 3, [116, 1, 237], 0) := (fm_209 1155).trans rfl
theorem u_209_1155 {S : Scr} {d : Nat} {a0 a1 a2 a3 : AV} {st : List AV} {sh : Shp} {I : IM} {R : RM} {x0 : Int} {k : Nat} (h : tg sh k = 8) (hr : st.length ≤ 8) : ev S d 209 1155 [a0, a1, a2, a3] (.inl x0 :: .inr (.inl k) :: st) (sh, I, R) = bnd (cl d 116 [.inr (.inl k), .inl x0] (sh, I, R)) (fun v M => ev S d 209 1158 [a0, a1, a2, a3] (psh v st) M) := (ev_eq f_209_1155).trans (congrArg (fin S d 209) (if_pos ⟨h, rfl, hr⟩))
set_option maxRecDepth 100000 in
theorem f_209_1158 : fetch 209 1158 = some (1158, .aload_n 2, 1, [2], 0) := (fm_209 1158).trans rfl
theorem u_209_1158 {S : Scr} {d : Nat} {a0 a1 a3 : AV} {st : List AV} {sh : Shp} {I : IM} {R : RM} {x : Nat} : ev S d 209 1158 [a0, a1, .inr (.inl x), a3] st (sh, I, R) = ev S d 209 1159 [a0, a1, .inr (.inl x), a3] (.inr (.inl x) :: st) (sh, I, R) := (ev_eq f_209_1158).trans rfl
set_option maxRecDepth 100000 in
theorem f_209_1159 : fetch 209 1159 = some (1159, .aload_n 0, 1, [0], 0) := (fm_209 1159).trans rfl
theorem u_209_1159s {S : Scr} {d : Nat} {a1 a2 a3 : AV} {st : List AV} {sh : Shp} {I : IM} {R : RM} : ev S d 209 1159 [.inr (.inr 2), a1, a2, a3] st (sh, I, R) = ev S d 209 1160 [.inr (.inr 2), a1, a2, a3] (.inr (.inr 2) :: st) (sh, I, R) := (ev_eq f_209_1159).trans rfl
set_option maxRecDepth 100000 in
theorem f_209_1160 : fetch 209 1160 = some (1160, .iload_n 3, 1, [3], 0) := (fm_209 1160).trans rfl
theorem u_209_1160 {S : Scr} {d : Nat} {a0 a1 a2 : AV} {st : List AV} {sh : Shp} {I : IM} {R : RM} {x : Int} : ev S d 209 1160 [a0, a1, a2, .inl x] st (sh, I, R) = ev S d 209 1161 [a0, a1, a2, .inl x] (.inl x :: st) (sh, I, R) := (ev_eq f_209_1160).trans rfl
set_option maxRecDepth 100000 in
theorem f_209_1161 : fetch 209 1161 = some (1161, .iconst 1, 1, [], 1) := (fm_209 1161).trans rfl
theorem u_209_1161 {S : Scr} {d : Nat} {a0 a1 a2 a3 : AV} {st : List AV} {sh : Shp} {I : IM} {R : RM} : ev S d 209 1161 [a0, a1, a2, a3] st (sh, I, R) = ev S d 209 1162 [a0, a1, a2, a3] (.inl 1 :: st) (sh, I, R) := (ev_eq f_209_1161).trans rfl
set_option maxRecDepth 100000 in
theorem f_209_1162 : fetch 209 1162 = some (1162, .iadd, 1, [], 0) := (fm_209 1162).trans rfl
theorem u_209_1162 {S : Scr} {d : Nat} {a0 a1 a2 a3 : AV} {st : List AV} {sh : Shp} {I : IM} {R : RM} {x y : Int} : ev S d 209 1162 [a0, a1, a2, a3] (.inl y :: .inl x :: st) (sh, I, R) = ev S d 209 1163 [a0, a1, a2, a3] (.inl (wr (x + y)) :: st) (sh, I, R) := (ev_eq f_209_1162).trans rfl
set_option maxRecDepth 100000 in
theorem f_209_1163 : fetch 209 1163 = some (1163, .iaload, 1, [], 0) := (fm_209 1163).trans rfl
theorem u_209_1163s {S : Scr} {d : Nat} {a0 a1 a2 a3 : AV} {st : List AV} {sh : Shp} {I : IM} {R : RM} {i : Int} (h0 : 0 ≤ i) (h1 : i < S.2) : ev S d 209 1163 [a0, a1, a2, a3] (.inl i :: .inr (.inr 2) :: st) (sh, I, R) = ev S d 209 1164 [a0, a1, a2, a3] (.inl (S.1 i) :: st) (sh, I, R) := (ev_eq f_209_1163).trans (congrArg (fin S d 209) (if_pos ⟨h0, h1⟩))
set_option maxRecDepth 100000 in
theorem f_209_1164 : fetch 209 1164 = some (1164, .invokevirtual 145, 3, [207, 1, 238], 0) := (fm_209 1164).trans rfl
theorem u_209_1164 {S : Scr} {d : Nat} {a0 a1 a2 a3 : AV} {st : List AV} {sh : Shp} {I : IM} {R : RM} {x0 : Int} {k : Nat} (h : tg sh k = 9) (hr : st.length ≤ 8) : ev S d 209 1164 [a0, a1, a2, a3] (.inl x0 :: .inr (.inl k) :: st) (sh, I, R) = bnd (cl d 207 [.inr (.inl k), .inl x0] (sh, I, R)) (fun v M => ev S d 209 1167 [a0, a1, a2, a3] (psh v st) M) := (ev_eq f_209_1164).trans (congrArg (fin S d 209) (if_pos ⟨h, rfl, hr⟩))
set_option maxRecDepth 100000 in
theorem f_209_1167 : fetch 209 1167 = some (1167, .if_icmp .eq 5, 3, [1172], 0) := (fm_209 1167).trans rfl
theorem u_209_1167 {S : Scr} {d : Nat} {a0 a1 a2 a3 : AV} {st : List AV} {sh : Shp} {I : IM} {R : RM} {x y : Int} : ev S d 209 1167 [a0, a1, a2, a3] (.inl y :: .inl x :: st) (sh, I, R) = if x = y then ev S d 209 1172 [a0, a1, a2, a3] st (sh, I, R) else ev S d 209 1170 [a0, a1, a2, a3] st (sh, I, R) := (ev_eq f_209_1167).trans fin_icmp_eq
set_option maxRecDepth 100000 in
theorem f_209_1170 : fetch 209 1170 = some (1170, .iconst 0, 1, [], 0) := (fm_209 1170).trans rfl
theorem u_209_1170 {S : Scr} {d : Nat} {a0 a1 a2 a3 : AV} {st : List AV} {sh : Shp} {I : IM} {R : RM} : ev S d 209 1170 [a0, a1, a2, a3] st (sh, I, R) = ev S d 209 1171 [a0, a1, a2, a3] (.inl 0 :: st) (sh, I, R) := (ev_eq f_209_1170).trans rfl
set_option maxRecDepth 100000 in
theorem f_209_1171 : fetch 209 1171 = some (1171, .ireturn, 1, [1], 0) := (fm_209 1171).trans rfl
theorem u_209_1171 {S : Scr} {d : Nat} {a0 a1 a2 a3 : AV} {sh : Shp} {I : IM} {R : RM} {x : Int} (h : x = 0 ∨ x = 1) : ev S d 209 1171 [a0, a1, a2, a3] [.inl x] (sh, I, R) = some (some (.inl x), (sh, I, R)) := (ev_eq f_209_1171).trans (fin_iret1 h)
set_option maxRecDepth 100000 in
theorem f_209_1172 : fetch 209 1172 = some (1172, .iinc 3 5, 3, [3], 5) := (fm_209 1172).trans rfl
theorem u_209_1172 {S : Scr} {d : Nat} {a0 a1 a2 : AV} {st : List AV} {sh : Shp} {I : IM} {R : RM} {x : Int} : ev S d 209 1172 [a0, a1, a2, .inl x] st (sh, I, R) = ev S d 209 1175 [a0, a1, a2, .inl (wr (x + 5))] st (sh, I, R) := (ev_eq f_209_1172).trans rfl
set_option maxRecDepth 100000 in
theorem f_209_1175 : fetch 209 1175 = some (1175, .goto (-1157), 3, [18], 0) := (fm_209 1175).trans rfl
theorem u_209_1175 {S : Scr} {d : Nat} {a0 a1 a2 a3 : AV} {st : List AV} {sh : Shp} {I : IM} {R : RM} : ev S d 209 1175 [a0, a1, a2, a3] st (sh, I, R) = ev S d 209 18 [a0, a1, a2, a3] st (sh, I, R) := (ev_eq f_209_1175).trans rfl
set_option maxRecDepth 100000 in
theorem f_209_1178 : fetch 209 1178 = some (1178, .iconst 1, 1, [], 1) := (fm_209 1178).trans rfl
theorem u_209_1178 {S : Scr} {d : Nat} {a0 a1 a2 a3 : AV} {st : List AV} {sh : Shp} {I : IM} {R : RM} : ev S d 209 1178 [a0, a1, a2, a3] st (sh, I, R) = ev S d 209 1179 [a0, a1, a2, a3] (.inl 1 :: st) (sh, I, R) := (ev_eq f_209_1178).trans rfl
set_option maxRecDepth 100000 in
theorem f_209_1179 : fetch 209 1179 = some (1179, .ireturn, 1, [1], 0) := (fm_209 1179).trans rfl
theorem u_209_1179 {S : Scr} {d : Nat} {a0 a1 a2 a3 : AV} {sh : Shp} {I : IM} {R : RM} {x : Int} (h : x = 0 ∨ x = 1) : ev S d 209 1179 [a0, a1, a2, a3] [.inl x] (sh, I, R) = some (some (.inl x), (sh, I, R)) := (ev_eq f_209_1179).trans (fin_iret1 h)
