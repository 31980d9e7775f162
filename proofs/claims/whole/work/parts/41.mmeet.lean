/-! THE MODEL: what would be saved; meeting without telling -/
section MW
variable {sh : Shp} {R : RM} {I : IM} {d : Nat} {w : WD} {t m : List Int} {c v : Int}
theorem mnone_loop (hX : MX sh R) : ∀ (k j : Nat) (I : IM), j + k = 30 → (∀ i : Nat, i < j → I 400 (i : Int) = -1) → ∃ I', ev S0 d 164 7 [.inr (.inl 392), .inl (j : Int)] [] (sh, I, R) = some (none, (sh, I', R)) ∧ (∀ i : Nat, i < 30 → I' 400 (i : Int) = -1) ∧ ∀ k, k ≠ 400 → I' k = I k := by
  obtain ⟨t9, r9, tg_, lg⟩ := hX.1
  obtain ⟨r8, t8, l8⟩ := hX.g 8 400 30 (by decide)
  intro k
  induction k with
  | zero =>
    intro j I hj h
    have hc : (30 : Int) ≤ (j : Int) := by omega
    refine ⟨I, ?_, fun i hi => h i (by omega), fun _ _ => rfl⟩
    simp (disch := first | assumption | omega | exact Nat.le_of_ble_eq_true rfl | decide) only [u_164_7, u_164_8, u_164_10, u_164_26, hc, if_true]
  | succ k ih =>
    intro j I hj h
    have hc : ¬ (30 : Int) ≤ (j : Int) := by omega
    obtain ⟨I', h1, h2, h3⟩ := ih (j + 1) (up I 400 (j : Int) (-1)) (by omega) (fun i hi => by
      by_cases hij : i = j
      · subst hij; exact ups
      · rw [upj (by omega)]; exact h i (by omega))
    refine ⟨I', ?_, h2, fun k hk => by rw [h3 k hk, upf hk]⟩
    rw [u_164_7]
    simp (disch := first | assumption | omega | exact Nat.le_of_ble_eq_true rfl | decide) only [u_164_8, u_164_10, u_164_13, u_164_14, u_164_17, u_164_18, u_164_19, u_164_20, u_164_23, hc, if_false, r8, rv_some, wrN, h1]
theorem m_none (hX : MX sh R) : ∃ I', cl (d + 1) 164 [.inr (.inl 392)] (sh, I, R) = some (none, (sh, I', R)) ∧ isMm I' [] ∧ FrT I I' := by
  obtain ⟨t9, r9, tg_, lg⟩ := hX.1
  obtain ⟨I', h1, h2, h3⟩ := mnone_loop (d := d) hX 30 0 (up I 392 10 0) (by omega) (fun i hi => by omega)
  refine ⟨I', ?_, ⟨?_, fun i hi => h2 i hi, fun j x hx => by cases hx⟩, ⟨fun k a b c e => ?_, fun z a b => ?_⟩⟩
  · have h1 : ev S0 d 164 7 [.inr (.inl 392), .inl 0] [] (sh, up I 392 10 0, R) = some (none, (sh, I', R)) := h1
    rw [c_164]
    simp (disch := first | assumption | omega | exact Nat.le_of_ble_eq_true rfl | decide) only [u_164_0, u_164_1, u_164_2, u_164_5, u_164_6, h1]
  · rw [h3 _ (by decide), ups]; rfl
  · rw [h3 _ c, upf a]
  · rw [h3 _ (by decide), upj a]
theorem m_isSaved (hX : MX sh R) (hw : okW w) (hW : isM I 393 w) {o : Int} (ho : o = -1 ∨ liv w o) : ∃ I', cl (d + 40) 176 [.inr (.inl 392), .inl o] (sh, I, R) = some (some (.inl (if (thr w o).2.length ≤ 200 then 1 else 0)), (sh, I', R)) ∧ isOut I' (thr w o).2 ∧ FrT I I' := by
  obtain ⟨t9, r9, tg_, lg⟩ := hX.1
  obtain ⟨I1, f1, f2, f3⟩ := m_none (I := I) (d := d + 38) hX
  have W1 : isM (up I1 392 12 0) 393 w := hW.cong (by rw [upf (by decide)]; exact f3.1 _ (by decide) (by decide) (by decide) (by decide))
  obtain ⟨I2, g1, g2, g3, g4⟩ := m_tobj (d := d + 5) hX hw 31 (up I1 392 12 0) ([], []) o W1 (f2.cong (upj (by decide)) (upf (by decide)) (upf (by decide))) ⟨ups, fun j c _ hc => by cases hc⟩ (okm_nil w) (by simp) (by simp) ho
  have g1 : cl (d + 39) 175 [.inr (.inl 392), .inl o] (sh, up I1 392 12 0, R) = some (none, (sh, I2, R)) := g1
  have g3 : isOut I2 (thr w o).2 := g3
  have g30 := g3.1
  refine ⟨I2, ?_, g3, f3.tr (FrT.tr ⟨fun k a _ _ _ => upf a, fun z _ b => upj b⟩ g4)⟩
  rw [c_176]
  by_cases hl : (thr w o).2.length ≤ 200
  · have hgt : ¬ (200 : Int) < ((thr w o).2.length : Int) := by omega
    rw [if_pos hl]
    simp (disch := first | assumption | omega | exact Nat.le_of_ble_eq_true rfl | decide) only [u_176_0, u_176_1, u_176_4, u_176_5, u_176_6, u_176_9, u_176_10, u_176_11, u_176_14, u_176_15, u_176_18, u_176_21, u_176_24, u_176_25, u_176_28, u_176_29, f1, g1, bnd_some, psh_none, g30, hgt, if_false]
  · have hgt : (200 : Int) < ((thr w o).2.length : Int) := by omega
    rw [if_neg hl]
    simp (disch := first | assumption | omega | exact Nat.le_of_ble_eq_true rfl | decide) only [u_176_0, u_176_1, u_176_4, u_176_5, u_176_6, u_176_9, u_176_10, u_176_11, u_176_14, u_176_15, u_176_18, u_176_21, u_176_24, u_176_25, u_176_28, u_176_29, f1, g1, bnd_some, psh_none, g30, hgt, if_true]
theorem walk_m1 (w : WD) (f : Nat) (s : List Int × List Int) : (walk w (f + 1) (-1) s).1 = s.1 := by
  unfold walk
  rw [if_pos rfl]
theorem walk_old (w : WD) (f : Nat) (s : List Int × List Int) {o : Int} (h1 : ¬ o = -1) (h : ¬ idm s.1 o = -1) : (walk w (f + 1) o s).1 = s.1 := by
  unfold walk
  rw [if_neg h1, if_pos h]
theorem mall_loop (hX : MX sh R) (hw : okW w) {f i : Nat} (hi : i < 30) (hk : (w.1 i).1 ≠ 0)
    (hM : ∀ (I : IM) (s : List Int × List Int) (r : Int), isM I 393 w → isMm I s.1 → okm w s.1 → 30 < s.1.length + (f + 1) → liv w r → idm s.1 r = -1 → ∃ I', cl (d + 1) 166 [.inr (.inl 392), .inl r] (sh, I, R) = some (none, (sh, I', R)) ∧ isMm I' (walk w (f + 1) r s).1 ∧ FrT I I')
    {s0 : List Int × List Int} (hm0 : okm w s0.1) (hn0 : 30 < s0.1.length + (f + 1)) (hn1 : 1 ≤ s0.1.length) :
    ∀ (k j : Nat) (I : IM) (a3 : AV), j + k = (w.1 i).2.2.1.length → isM I 393 w → isMm I (((w.1 i).2.2.1.take j).foldl (fun s r => walk w (f + 1) r s) s0).1 → ∃ I', ev S0 (d + 1) 166 7 [.inr (.inl 392), .inl (i : Int), .inl (j : Int), a3] [] (sh, I, R) = some (none, (sh, I', R)) ∧ isMm I' ((w.1 i).2.2.1.foldl (fun s r => walk w (f + 1) r s) s0).1 ∧ FrT I I' := by
  obtain ⟨t9, r9, tg_, lg⟩ := hX.1
  obtain ⟨r8, t8, l8⟩ := hX.g 8 400 30 (by decide)
  have hok := hw.1 i hi
  have h6 := hok.2.2.2.2.2.2.2.1
  have hrs : ∀ r ∈ (w.1 i).2.2.1, r = -1 ∨ liv w r := fun r hr => by
    rcases hok.2.2.2.2.2.2.2.2.2.2.2.1 r hr with q | ⟨b, rfl, hb, hbk⟩
    · exact Or.inl q
    · exact Or.inr (liv_of hb hbk)
  intro k
  induction k with
  | zero =>
    intro j I a3 hj hW h1
    have y20 := ((hW.1 i hi).2 hk).2.1.1
    have hc : ((w.1 i).2.2.1.length : Int) ≤ (j : Int) := by omega
    rw [List.take_of_length_le (by omega)] at h1
    refine ⟨I, ?_, h1, FrT.rf⟩
    simp (disch := first | assumption | omega | exact Nat.le_of_ble_eq_true rfl | decide) only [u_166_7, u_166_8, u_166_9, u_166_12, u_166_14, u_166_15, u_166_16, u_166_17, u_166_51, r9, rv_some, wrI, y20, hc, if_true]
  | succ k ih =>
    intro j I a3 hj hW h1
    have y2 := ((hW.1 i hi).2 hk).2.1
    have y20 := y2.1
    have hjl : j < (w.1 i).2.2.1.length := by omega
    have hc : ¬ ((w.1 i).2.2.1.length : Int) ≤ (j : Int) := by omega
    obtain ⟨g, -⟩ := foldl_grow (n := 30 - (f + 1)) (F := fun s r => walk w (f + 1) r s) (fun s r q1 q2 q3 => walk_grow hw (f + 1) r s q1 (by omega) q3) ((w.1 i).2.2.1.take j) s0 (fun r hr => hrs r (List.mem_of_mem_take hr)) hm0 (by omega)
    have hgl := g.2.1.length_le
    have hst : ((w.1 i).2.2.1.take (j + 1)).foldl (fun s r => walk w (f + 1) r s) s0 = walk w (f + 1) ((w.1 i).2.2.1[j]) (((w.1 i).2.2.1.take j).foldl (fun s r => walk w (f + 1) r s) s0) := by
      rw [List.take_succ_eq_append_getElem hjl, List.foldl_append]; rfl
    have hro := m_refOf (I := I) (d := d) (i := j) hX.1 hi (by omega)
    rw [y2.at hjl] at hro
    have hrl := hrs _ (List.getElem_mem hjl)
    generalize hS : ((w.1 i).2.2.1.take j).foldl (fun s r => walk w (f + 1) r s) s0 = s at h1 g hgl hst
    generalize hr : (w.1 i).2.2.1[j] = r at hro hrl hst
    by_cases hm1 : r = -1
    · obtain ⟨I3, f1, f2, f4⟩ := ih (j + 1) I (.inl r) (by omega) hW (by rw [hst, hm1, walk_m1]; exact h1)
      refine ⟨I3, ?_, f2, f4⟩
      have hlt : r < 0 := by omega
      rw [u_166_7]
      simp (disch := first | assumption | omega | exact Nat.le_of_ble_eq_true rfl | decide) only [u_166_8, u_166_9, u_166_12, u_166_14, u_166_15, u_166_16, u_166_17, u_166_20, u_166_21, u_166_22, u_166_23, u_166_26, u_166_27, u_166_28, u_166_31, u_166_32, u_166_35, u_166_36, u_166_37, u_166_40, u_166_41, u_166_42, u_166_45, u_166_48, r9, rv_some, wrI, y20, hc, if_false, hro, bnd_some, psh_some, hlt, if_true, n1, f1]
    · have hl := hrl.resolve_left hm1
      obtain ⟨b, rfl, hb, hbk⟩ := liv_nat hl
      have hlt : ¬ (b : Int) < 0 := by omega
      have hid := h1.2.1 b hb
      rcases idm_spec s.1 (b : Int) with ⟨q1, q2⟩ | ⟨x, q1, q2, q3, q4⟩
      · obtain ⟨I2, e1, e2, e4⟩ := hM I s (b : Int) hW h1 g.1 (by omega) hl q1
        obtain ⟨I3, f1, f2, f4⟩ := ih (j + 1) I2 (.inl (b : Int)) (by omega) (hW.cong (e4.1 _ (by decide) (by decide) (by decide) (by decide))) (by rw [hst]; exact e2)
        refine ⟨I3, ?_, f2, e4.tr f4⟩
        rw [q1] at hid
        have hge : ¬ (0 : Int) ≤ -1 := by decide
        rw [u_166_7]
        simp (disch := first | assumption | omega | exact Nat.le_of_ble_eq_true rfl | decide) only [u_166_8, u_166_9, u_166_12, u_166_14, u_166_15, u_166_16, u_166_17, u_166_20, u_166_21, u_166_22, u_166_23, u_166_26, u_166_27, u_166_28, u_166_31, u_166_32, u_166_35, u_166_36, u_166_37, u_166_40, u_166_41, u_166_42, u_166_45, u_166_48, r9, r8, rv_some, wrI, y20, hc, if_false, hro, bnd_some, psh_some, psh_none, hlt, hid, hge, e1, n1, f1]
      · obtain ⟨I3, f1, f2, f4⟩ := ih (j + 1) I (.inl (b : Int)) (by omega) hW (by rw [hst, walk_old w f s hm1 (by omega)]; exact h1)
        refine ⟨I3, ?_, f2, f4⟩
        rw [q1] at hid
        have hge : (0 : Int) ≤ (x : Int) := by omega
        rw [u_166_7]
        simp (disch := first | assumption | omega | exact Nat.le_of_ble_eq_true rfl | decide) only [u_166_8, u_166_9, u_166_12, u_166_14, u_166_15, u_166_16, u_166_17, u_166_20, u_166_21, u_166_22, u_166_23, u_166_26, u_166_27, u_166_28, u_166_31, u_166_32, u_166_35, u_166_36, u_166_37, u_166_40, u_166_41, u_166_42, u_166_45, u_166_48, r9, r8, rv_some, wrI, y20, hc, if_false, if_true, hro, bnd_some, psh_some, psh_none, hlt, hid, hge, n1, f1]
theorem m_all (hX : MX sh R) (hw : okW w) : ∀ (f : Nat) (I : IM) (s : List Int × List Int) (o : Int), isM I 393 w → isMm I s.1 → okm w s.1 → 30 < s.1.length + f → liv w o → idm s.1 o = -1 → ∃ I', cl (d + f + 2) 166 [.inr (.inl 392), .inl o] (sh, I, R) = some (none, (sh, I', R)) ∧ isMm I' (walk w f o s).1 ∧ FrT I I' := by
  obtain ⟨t9, r9, tg_, lg⟩ := hX.1
  intro f
  induction f with
  | zero => intro I s o _ _ h hn; have := okm_len h; omega
  | succ f ih =>
    intro I s o hW h1 h hn ho q1
    have q2 := idm_not.mp q1
    have hnew := okm_new h ho q2
    rw [show d + (f + 1) + 2 = d + f + 2 + 1 by omega, c_166]
    obtain ⟨i, rfl, hi, hk⟩ := liv_nat ho
    obtain ⟨f, rfl⟩ : ∃ f' : Nat, f = f' + 1 := ⟨f - 1, by omega⟩
    unfold walk
    rw [if_neg (by omega), if_neg (fun q => q q1), Int.toNat_natCast]
    obtain ⟨I1, b1, b2, b3, b4⟩ := m_meets (d := d + (f + 1) + 1) hX h1 hi q2 hnew
    have W1 : isM I1 393 w := hW.cong (b3 _ (by decide) (by decide) (by decide))
    obtain ⟨I3, e1, e2, e4⟩ := mall_loop (d := d + (f + 1) + 1) (i := i) hX hw hi hk ih (s0 := (s.1 ++ [(i : Int)], s.2 ++ hdN w (w.1 i))) (okm_app h ho q2) (by dsimp only; rw [List.length_append]; simp only [List.length_cons, List.length_nil]; omega) (by dsimp only; rw [List.length_append]; simp only [List.length_cons, List.length_nil]; omega) (w.1 i).2.2.1.length 0 I1 (.inr (.inr 1)) (by omega) W1 b2
    have e1 : ev S0 (d + (f + 1) + 2) 166 7 [.inr (.inl 392), .inl (i : Int), .inl 0, .inr (.inr 1)] [] (sh, I1, R) = some (none, (sh, I3, R)) := e1
    have hb : FrT I I1 := ⟨fun k a b c _ => b3 k a b c, fun z a _ => b4 z a⟩
    refine ⟨I3, ?_, e2, hb.tr e4⟩
    simp (disch := first | assumption | omega | exact Nat.le_of_ble_eq_true rfl | decide) only [u_166_0, u_166_1, u_166_2, u_166_5, u_166_6, b1, bnd_some, psh_none, e1]
end MW
