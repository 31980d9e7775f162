/-! STEPS OF ev -/
theorem bnd_some {v : Option AV} {M : Mem} {k : Option AV → Mem → Option Res} : bnd (some (v, M)) k = k v M := rfl
theorem psh_some {x : AV} {r : List AV} : psh (some x) r = x :: r := rfl
theorem psh_none {r : List AV} : psh none r = r := rfl
theorem rv_some {k : Nat} : rv (some k) = .inr (.inl k) := rfl
theorem rv_none : rv none = .inr (.inr 0) := rfl
section FINS
variable {S : Scr} {d mid t n : Nat} {ls st : List AV} {M : Mem} {x y : Int}
theorem fin_ite {c : Prop} (hd : Decidable c) {a b : Act} : fin S d mid (if c then a else b) = if c then fin S d mid a else fin S d mid b := by
  split <;> rfl
theorem fin_icmp_eq : fin S d mid (p_icmp .eq t n ls (.inl y :: .inl x :: st) M) = if x = y then ev S d mid t ls st M else ev S d mid n ls st M := by
  show fin S d mid (if (x == y) = true then go t ls st M else go n ls st M) = _
  by_cases h : x = y
  · rw [if_pos h, if_pos (beq_iff_eq.mpr h)]; rfl
  · rw [if_neg h, if_neg (fun q => h (beq_iff_eq.mp q))]; rfl
theorem fin_icmp_ne : fin S d mid (p_icmp .ne t n ls (.inl y :: .inl x :: st) M) = if ¬ x = y then ev S d mid t ls st M else ev S d mid n ls st M := by
  show fin S d mid (if (x != y) = true then go t ls st M else go n ls st M) = _
  by_cases h : x = y
  · rw [if_neg (Classical.not_not.mpr h), if_neg (fun q => (bne_iff_ne.mp q) h)]; rfl
  · rw [if_pos h, if_pos (bne_iff_ne.mpr h)]; rfl
theorem fin_icmp_lt : fin S d mid (p_icmp .lt t n ls (.inl y :: .inl x :: st) M) = if x < y then ev S d mid t ls st M else ev S d mid n ls st M := by
  show fin S d mid (if (decide (x < y)) = true then go t ls st M else go n ls st M) = _
  by_cases h : x < y
  · rw [if_pos h, if_pos (decide_eq_true h)]; rfl
  · rw [if_neg h, if_neg (fun q => h (of_decide_eq_true q))]; rfl
theorem fin_icmp_ge : fin S d mid (p_icmp .ge t n ls (.inl y :: .inl x :: st) M) = if y ≤ x then ev S d mid t ls st M else ev S d mid n ls st M := by
  show fin S d mid (if (decide (y ≤ x)) = true then go t ls st M else go n ls st M) = _
  by_cases h : y ≤ x
  · rw [if_pos h, if_pos (decide_eq_true h)]; rfl
  · rw [if_neg h, if_neg (fun q => h (of_decide_eq_true q))]; rfl
theorem fin_icmp_gt : fin S d mid (p_icmp .gt t n ls (.inl y :: .inl x :: st) M) = if y < x then ev S d mid t ls st M else ev S d mid n ls st M := by
  show fin S d mid (if (decide (y < x)) = true then go t ls st M else go n ls st M) = _
  by_cases h : y < x
  · rw [if_pos h, if_pos (decide_eq_true h)]; rfl
  · rw [if_neg h, if_neg (fun q => h (of_decide_eq_true q))]; rfl
theorem fin_icmp_le : fin S d mid (p_icmp .le t n ls (.inl y :: .inl x :: st) M) = if x ≤ y then ev S d mid t ls st M else ev S d mid n ls st M := by
  show fin S d mid (if (decide (x ≤ y)) = true then go t ls st M else go n ls st M) = _
  by_cases h : x ≤ y
  · rw [if_pos h, if_pos (decide_eq_true h)]; rfl
  · rw [if_neg h, if_neg (fun q => h (of_decide_eq_true q))]; rfl
theorem fin_if_eq : fin S d mid (p_if .eq t n ls (.inl x :: st) M) = if x = 0 then ev S d mid t ls st M else ev S d mid n ls st M := fin_icmp_eq (y := 0)
theorem fin_if_ne : fin S d mid (p_if .ne t n ls (.inl x :: st) M) = if ¬ x = 0 then ev S d mid t ls st M else ev S d mid n ls st M := fin_icmp_ne (y := 0)
theorem fin_if_lt : fin S d mid (p_if .lt t n ls (.inl x :: st) M) = if x < 0 then ev S d mid t ls st M else ev S d mid n ls st M := fin_icmp_lt (y := 0)
theorem fin_if_ge : fin S d mid (p_if .ge t n ls (.inl x :: st) M) = if 0 ≤ x then ev S d mid t ls st M else ev S d mid n ls st M := fin_icmp_ge (y := 0)
theorem fin_if_gt : fin S d mid (p_if .gt t n ls (.inl x :: st) M) = if 0 < x then ev S d mid t ls st M else ev S d mid n ls st M := fin_icmp_gt (y := 0)
theorem fin_if_le : fin S d mid (p_if .le t n ls (.inl x :: st) M) = if x ≤ 0 then ev S d mid t ls st M else ev S d mid n ls st M := fin_icmp_le (y := 0)
theorem fin_iret0 : fin S d mid (p_iret 0 [.inl x] M) = some (some (.inl x), M) := by
  unfold p_iret
  dsimp only
  rw [if_neg (fun q => absurd q.1 (by decide))]
  rfl
theorem fin_iret1 (h : x = 0 ∨ x = 1) : fin S d mid (p_iret 1 [.inl x] M) = some (some (.inl x), M) := by
  unfold p_iret
  dsimp only
  rw [if_neg (fun q => q.2 h)]
  rfl
theorem cl_eq {as : List AV} (h : as.length ≤ maxOf mid) : cl (d + 1) mid as M = ev S0 d mid 0 (ini mid as) [] M := if_pos h
theorem ev_sw {D v w : Nat} {r : List Nat} : ev S d mid (swt D x (v :: w :: r)) ls st M = if x = (v : Int) then ev S d mid w ls st M else ev S d mid (swt D x r) ls st M := by
  show ev S d mid (if x = (v : Int) then w else swt D x r) ls st M = _
  split <;> rfl
theorem ev_sw0 {D : Nat} : ev S d mid (swt D x []) ls st M = ev S d mid D ls st M := rfl
end FINS
