/-! BITS -/
def bs (f : Nat → Bool) : Nat := sumN (fun i => if f i then 2 ^ i else 0) 30
theorem bsn_lt (f : Nat → Bool) : ∀ n, sumN (fun i => if f i then 2 ^ i else 0) n < 2 ^ n
  | 0 => Nat.lt_of_sub_ne_zero (by show 1 - 0 ≠ 0; decide)
  | n + 1 => by
    have h := bsn_lt f n
    show sumN _ n + (if f n then 2 ^ n else 0) < _
    rw [Nat.pow_succ]
    split <;> omega
theorem bsn_bit (f : Nat → Bool) : ∀ n i, (sumN (fun i => if f i then 2 ^ i else 0) n).testBit i = (decide (i < n) && f i)
  | 0, i => by simp [sumN]
  | n + 1, i => by
    have h := bsn_lt f n
    have hb := bsn_bit f n
    show (sumN _ n + (if f n then 2 ^ n else 0)).testBit i = _
    by_cases hf : f n = true
    · rw [if_pos hf, Nat.add_comm]
      by_cases h1 : i < n
      · rw [Nat.testBit_two_pow_add_gt h1, hb i]
        simp [h1, Nat.lt_succ_of_lt h1]
      · by_cases h2 : i = n
        · subst h2
          rw [Nat.testBit_two_pow_add_eq, hb i]
          simp [hf]
        · have h3 : 2 ^ n + sumN (fun i => if f i then 2 ^ i else 0) n < 2 ^ i := by
            have : 2 ^ (n + 1) ≤ 2 ^ i := Nat.pow_le_pow_right (by decide) (by omega)
            rw [Nat.pow_succ] at this
            omega
          rw [Nat.testBit_lt_two_pow h3]
          have h4 : ¬ i < n + 1 := by omega
          simp [h4]
    · rw [if_neg hf, Nat.add_zero, hb i]
      by_cases h1 : i < n
      · simp [h1, Nat.lt_succ_of_lt h1]
      · by_cases h2 : i = n
        · subst h2
          simp [hf]
        · have h4 : ¬ i < n + 1 := by omega
          simp [h1, h4]
theorem bs_bit (f : Nat → Bool) (i : Nat) : (bs f).testBit i = (decide (i < 30) && f i) := bsn_bit f 30 i
theorem bs_lt (f : Nat → Bool) : bs f < 1073741824 := bsn_lt f 30
theorem bs_eq {f : Nat → Bool} {n : Nat} (h : ∀ i, n.testBit i = (decide (i < 30) && f i)) : n = bs f := Nat.eq_of_testBit_eq (fun i => by rw [h, bs_bit])
theorem bs_congr {f g : Nat → Bool} (h : ∀ i, i < 30 → f i = g i) : bs f = bs g := bs_eq (fun i => by
  rw [bs_bit]
  by_cases hi : i < 30
  · rw [h i hi]
  · simp [hi])
theorem bs_inj {f g : Nat → Bool} : ((bs f : Nat) : Int) = ((bs g : Nat) : Int) ↔ ∀ i, i < 30 → f i = g i := by
  refine ⟨fun h i hi => ?_, fun h => by rw [bs_congr h]⟩
  have h : bs f = bs g := by omega
  have := bs_bit f i
  rw [h, bs_bit] at this
  simpa [hi] using this.symm
theorem bs_zero : bs (fun _ => false) = 0 := rfl
theorem bs_nil {f : Nat → Bool} : ((bs f : Nat) : Int) = 0 ↔ ∀ i, i < 30 → f i = false := by
  have := bs_inj (f := f) (g := fun _ => false)
  rw [bs_zero] at this
  exact this
theorem bvN {n : Nat} (h : n < 2147483648) : (Int32.ofInt (n : Int)).toBitVec.toNat = n := by
  rw [Int32.toBitVec_ofInt, BitVec.ofInt_natCast, BitVec.toNat_ofNat]
  exact Nat.mod_eq_of_lt (by omega)
theorem toI {x : Int32} {n : Nat} (h : x.toBitVec.toNat = n) (hn : n < 2147483648) : x.toInt = (n : Int) := by
  rw [← Int32.toInt_toBitVec, BitVec.toInt_eq_toNat_of_lt (by rw [h]; omega), h]
theorem b_or {a b : Nat} (ha : a < 1073741824) (hb : b < 1073741824) : b32 (fun x y => x ||| y) (a : Int) (b : Int) = ((a ||| b : Nat) : Int) := by
  unfold b32
  refine toI ?_ (Nat.lt_trans (Nat.or_lt_two_pow (n := 30) ha hb) (by decide))
  rw [Int32.toBitVec_or, BitVec.toNat_or, bvN (by omega), bvN (by omega)]
theorem b_and {a b : Nat} (ha : a < 2147483648) (hb : b < 2147483648) : b32 (fun x y => x &&& y) (a : Int) (b : Int) = ((a &&& b : Nat) : Int) := by
  unfold b32
  refine toI ?_ (Nat.lt_of_le_of_lt Nat.and_le_left ha)
  rw [Int32.toBitVec_and, BitVec.toNat_and, bvN (by omega), bvN (by omega)]
theorem bs_or (f g : Nat → Bool) : b32 (fun x y => x ||| y) ((bs f : Nat) : Int) ((bs g : Nat) : Int) = ((bs (fun i => f i || g i) : Nat) : Int) := by
  rw [b_or (bs_lt f) (bs_lt g)]
  congr 1
  refine bs_eq (fun i => ?_)
  rw [Nat.testBit_or, bs_bit, bs_bit]
  cases decide (i < 30) <;> simp
theorem bs_and (f g : Nat → Bool) : b32 (fun x y => x &&& y) ((bs f : Nat) : Int) ((bs g : Nat) : Int) = ((bs (fun i => f i && g i) : Nat) : Int) := by
  have := bs_lt f
  have := bs_lt g
  rw [b_and (by omega) (by omega)]
  congr 1
  refine bs_eq (fun i => ?_)
  rw [Nat.testBit_and, bs_bit, bs_bit]
  cases decide (i < 30) <;> simp
theorem bs_diff (f g : Nat → Bool) : b32 (fun x y => x &&& y) ((bs f : Nat) : Int) (b32 (fun x y => x ^^^ y) ((bs g : Nat) : Int) (-1)) = ((bs (fun i => f i && !g i) : Nat) : Int) := by
  have h1 := bs_lt f
  have h2 := bs_lt g
  have key : bs f &&& (bs g ^^^ (2 ^ 32 - 1)) = bs (fun i => f i && !g i) := by
    refine bs_eq (fun i => ?_)
    rw [Nat.testBit_and, Nat.testBit_xor, bs_bit, bs_bit, Nat.testBit_two_pow_sub_one]
    by_cases hi : i < 30
    · have : i < 32 := by omega
      simp [hi, this]
    · simp [hi]
  unfold b32
  rw [Int32.ofInt_toInt]
  refine toI ?_ (Nat.lt_trans (bs_lt _) (by decide))
  rw [Int32.toBitVec_and, BitVec.toNat_and, Int32.toBitVec_xor, BitVec.toNat_xor, bvN (by omega), bvN (by omega), ← key]
  rfl
theorem b_shl : ∀ k : Nat, k < 30 → b32 (fun x y => x <<< (y &&& 31)) 1 (k : Int) = ((2 ^ k : Nat) : Int) := by decide +kernel
theorem bs_one {k : Nat} (hk : k < 30) : bs (fun i => decide (i = k)) = 2 ^ k := by
  refine (bs_eq (fun i => ?_)).symm
  rw [Nat.testBit_two_pow]
  by_cases hi : i = k
  · subst hi
    simp [hk]
  · have : ¬ k = i := fun q => hi q.symm
    simp [hi, this]
theorem bs_shl {k : Nat} (hk : k < 30) : b32 (fun x y => x <<< (y &&& 31)) 1 (k : Int) = ((bs (fun i => decide (i = k)) : Nat) : Int) := by rw [b_shl k hk, bs_one hk]
theorem b_sh : ∀ k : Nat, k < 30 → ((Int32.ofInt (k : Int) &&& 31).toBitVec.smod 32).toNat = k := by decide +kernel
theorem bs_shr (f : Nat → Bool) {k : Nat} (hk : k < 30) : b32 (fun x y => x &&& y) (b32 (fun x y => x >>> (y &&& 31)) ((bs f : Nat) : Int) (k : Int)) 1 = if f k then 1 else 0 := by
  have h1 := bs_lt f
  have e1 : b32 (fun x y => x >>> (y &&& 31)) ((bs f : Nat) : Int) (k : Int) = ((bs f >>> k : Nat) : Int) := by
    unfold b32
    rw [← Int32.toInt_toBitVec, Int32.toBitVec_shiftRight, BitVec.toInt_sshiftRight', b_sh k hk, Int32.toInt_toBitVec, toI (bvN (n := bs f) (by omega)) (by omega)]
    rfl
  have h3 : bs f >>> k ≤ bs f := by rw [Nat.shiftRight_eq_div_pow]; exact Nat.div_le_self _ _
  rw [e1]
  have := b_and (a := bs f >>> k) (b := 1) (by omega) (by decide)
  rw [show ((1 : Nat) : Int) = 1 from rfl] at this
  rw [this, Nat.and_one_is_mod]
  have h2 := bs_bit f k
  rw [Nat.testBit_eq_decide_div_mod_eq] at h2
  rw [Nat.shiftRight_eq_div_pow]
  simp only [hk, decide_true, Bool.true_and] at h2
  by_cases hf : f k = true
  · rw [hf] at h2
    have := of_decide_eq_true h2
    rw [if_pos hf]
    omega
  · have hf0 : f k = false := by simpa using hf
    rw [hf0] at h2
    have := of_decide_eq_false h2
    rw [if_neg hf]
    omega
/-! how many bits -/
theorem b_ushr {a c : Nat} (ha : a < 2147483648) (hc : c < 32) : b32 (fun x y => (x.toUInt32 >>> (y.toUInt32 &&& Int32.toUInt32 31)).toInt32) (a : Int) (c : Int) = ((a >>> c : Nat) : Int) := by
  have hle : a >>> c ≤ a := by rw [Nat.shiftRight_eq_div_pow]; exact Nat.div_le_self _ _
  have hs : ∀ c : Nat, c < 32 → ((Int32.ofInt (c : Int)).toUInt32 &&& Int32.toUInt32 31).toNat % 32 = c := by decide +kernel
  unfold b32
  refine toI ?_ (by omega)
  rw [UInt32.toBitVec_toInt32]
  show ((Int32.ofInt (a : Int)).toUInt32 >>> ((Int32.ofInt (c : Int)).toUInt32 &&& Int32.toUInt32 31)).toNat = _
  rw [UInt32.toNat_shiftRight, hs c hc]
  congr 1
  exact bvN ha
theorem and256 {a b m M : Nat} (ha : a < 256) (hm : m < 256) : (a + 256 * b) &&& (m + 256 * M) = (a &&& m) + 256 * (b &&& M) := by
  have h1 : ((a + 256 * b) &&& (m + 256 * M)) % 2 ^ 8 = _ := Nat.and_mod_two_pow
  have h2 : ((a + 256 * b) &&& (m + 256 * M)) / 2 ^ 8 = _ := Nat.and_div_two_pow
  rw [show (a + 256 * b) % 2 ^ 8 = a by omega, show (m + 256 * M) % 2 ^ 8 = m by omega] at h1
  rw [show (a + 256 * b) / 2 ^ 8 = b by omega, show (m + 256 * M) / 2 ^ 8 = M by omega] at h2
  omega
def cat4 (a b c e : Nat) : Nat := a + 256 * (b + 256 * (c + 256 * e))
theorem and4 {a b c e m : Nat} (ha : a < 256) (hb : b < 256) (hc : c < 256) (he : e < 256) (hm : m < 256) : cat4 a b c e &&& cat4 m m m m = cat4 (a &&& m) (b &&& m) (c &&& m) (e &&& m) := by
  unfold cat4
  rw [and256 ha hm, and256 hb hm, and256 hc hm]
def q1 (a : Nat) : Nat := a - ((a / 2) &&& 85)
def q2 (y : Nat) : Nat := (y &&& 51) + ((y / 4) &&& 51)
def q3 (z : Nat) : Nat := (z + z / 16) &&& 15
theorem q1_a : ∀ a < 256, ∀ c < 2, (a / 2 + 128 * c) &&& 85 = (a / 2) &&& 85 := by decide +kernel
theorem q1_b : ∀ a < 256, ((a / 2) &&& 85) ≤ a := by decide +kernel
theorem q2_a : ∀ y < 256, ∀ c < 4, (y / 4 + 64 * c) &&& 51 = (y / 4) &&& 51 := by decide +kernel
theorem q2_b : ∀ a < 256, q1 a < 256 ∧ q2 (q1 a) ≤ 68 ∧ q2 (q1 a) % 16 ≤ 4 := by decide +kernel
theorem q3_a : ∀ z < 69, ∀ c < 5, (z + z / 16 + 16 * c) &&& 15 = (z + z / 16) &&& 15 := by decide +kernel
def p8 (a : Nat) : Nat := sumN (fun i => a / 2 ^ i % 2) 8
theorem q3_b : ∀ a < 256, q3 (q2 (q1 a)) = p8 a ∧ p8 a ≤ 8 := by decide +kernel
theorem st1 {a b c e : Nat} (ha : a < 256) (hb : b < 256) (hc : c < 256) (he : e < 256) : cat4 a b c e - ((cat4 a b c e / 2) &&& 1431655765) = cat4 (q1 a) (q1 b) (q1 c) (q1 e) := by
  have h : cat4 a b c e / 2 = cat4 (a / 2 + 128 * (b % 2)) (b / 2 + 128 * (c % 2)) (c / 2 + 128 * (e % 2)) (e / 2 + 128 * 0) := by unfold cat4; omega
  rw [h, show 1431655765 = cat4 85 85 85 85 from rfl, and4 (by omega) (by omega) (by omega) (by omega) (by decide), q1_a a ha _ (by omega), q1_a b hb _ (by omega), q1_a c hc _ (by omega), q1_a e he _ (by omega)]
  have h1 := q1_b a ha
  have h2 := q1_b b hb
  have h3 := q1_b c hc
  have h4 := q1_b e he
  unfold cat4 q1
  omega
theorem st2 {a b c e : Nat} (ha : a < 256) (hb : b < 256) (hc : c < 256) (he : e < 256) : (cat4 a b c e &&& 858993459) + ((cat4 a b c e / 4) &&& 858993459) = cat4 (q2 a) (q2 b) (q2 c) (q2 e) := by
  have h : cat4 a b c e / 4 = cat4 (a / 4 + 64 * (b % 4)) (b / 4 + 64 * (c % 4)) (c / 4 + 64 * (e % 4)) (e / 4 + 64 * 0) := by unfold cat4; omega
  rw [h, show 858993459 = cat4 51 51 51 51 from rfl, and4 (by omega) (by omega) (by omega) (by omega) (by decide), and4 (by omega) (by omega) (by omega) (by omega) (by decide), q2_a a ha _ (by omega), q2_a b hb _ (by omega), q2_a c hc _ (by omega), q2_a e he _ (by omega)]
  unfold cat4 q2
  omega
theorem st3 {a b c e : Nat} (ha : a ≤ 68 ∧ a % 16 ≤ 4) (hb : b ≤ 68 ∧ b % 16 ≤ 4) (hc : c ≤ 68 ∧ c % 16 ≤ 4) (he : e ≤ 68 ∧ e % 16 ≤ 4) : (cat4 a b c e + cat4 a b c e / 16) &&& 252645135 = cat4 (q3 a) (q3 b) (q3 c) (q3 e) := by
  have h : cat4 a b c e + cat4 a b c e / 16 = cat4 (a + a / 16 + 16 * (b % 16)) (b + b / 16 + 16 * (c % 16)) (c + c / 16 + 16 * (e % 16)) (e + e / 16 + 16 * 0) := by unfold cat4; omega
  rw [h, show 252645135 = cat4 15 15 15 15 from rfl, and4 (by omega) (by omega) (by omega) (by omega) (by decide), q3_a a (by omega) _ (by omega), q3_a b (by omega) _ (by omega), q3_a c (by omega) _ (by omega), q3_a e (by omega) _ (by omega)]
  rfl
theorem p8_sum {a b c e : Nat} (ha : a < 256) (hb : b < 256) (hc : c < 256) (he : e < 64) : sumN (fun i => cat4 a b c e / 2 ^ i % 2) 30 = p8 a + p8 b + p8 c + p8 e := by
  have t : ∀ i, i < 8 → cat4 a b c e / 2 ^ i % 2 = a / 2 ^ i % 2 ∧ cat4 a b c e / 2 ^ (8 + i) % 2 = b / 2 ^ i % 2 ∧ cat4 a b c e / 2 ^ (16 + i) % 2 = c / 2 ^ i % 2 ∧ cat4 a b c e / 2 ^ (24 + i) % 2 = e / 2 ^ i % 2 := by
    intro i hi
    unfold cat4
    rcases (by omega : i = 0 ∨ i = 1 ∨ i = 2 ∨ i = 3 ∨ i = 4 ∨ i = 5 ∨ i = 6 ∨ i = 7) with q | q | q | q | q | q | q | q <;> subst q <;> simp only [Nat.reduceAdd, Nat.reducePow] <;> omega
  have e6 : e / 2 ^ 6 % 2 = 0 := by simp only [Nat.reducePow]; omega
  have e7 : e / 2 ^ 7 % 2 = 0 := by simp only [Nat.reducePow]; omega
  obtain ⟨a0, b0, c0, e0⟩ := t 0 (by decide)
  obtain ⟨a1, b1, c1, e1⟩ := t 1 (by decide)
  obtain ⟨a2, b2, c2, e2⟩ := t 2 (by decide)
  obtain ⟨a3, b3, c3, e3⟩ := t 3 (by decide)
  obtain ⟨a4, b4, c4, e4⟩ := t 4 (by decide)
  obtain ⟨a5, b5, c5, e5⟩ := t 5 (by decide)
  obtain ⟨a6, b6, c6, -⟩ := t 6 (by decide)
  obtain ⟨a7, b7, c7, -⟩ := t 7 (by decide)
  clear t
  unfold p8
  generalize cat4 a b c e = S at *
  simp only [sumN, Nat.reduceAdd] at *
  omega
theorem popc {n : Nat} (hn : n < 1073741824) {y1 y2 y3 y4 y5 : Nat} (h1 : y1 = n - ((n / 2) &&& 1431655765)) (h2 : y2 = (y1 &&& 858993459) + ((y1 / 4) &&& 858993459)) (h3 : y3 = (y2 + y2 / 16) &&& 252645135) (h4 : y4 = y3 + y3 / 256) (h5 : y5 = y4 + y4 / 65536) : y5 &&& 63 = sumN (fun i => n / 2 ^ i % 2) 30 ∧ y1 < 2147483648 ∧ y2 < 1500000000 ∧ y3 < 1000000000 ∧ y4 < 1100000000 := by
  obtain ⟨a, b, c, e, ha, hb, hc, he, rfl⟩ : ∃ a b c e, a < 256 ∧ b < 256 ∧ c < 256 ∧ e < 64 ∧ n = cat4 a b c e := ⟨n % 256, n / 256 % 256, n / 65536 % 256, n / 16777216, by omega, by omega, by omega, by omega, by unfold cat4; omega⟩
  obtain ⟨a1, a2, a3⟩ := q2_b a ha
  obtain ⟨b1, b2, b3⟩ := q2_b b hb
  obtain ⟨c1, c2, c3⟩ := q2_b c hc
  obtain ⟨e1, e2, e3⟩ := q2_b e (by omega)
  obtain ⟨a4, a5⟩ := q3_b a ha
  obtain ⟨b4, b5⟩ := q3_b b hb
  obtain ⟨c4, c5⟩ := q3_b c hc
  obtain ⟨e4, e5⟩ := q3_b e (by omega)
  rw [p8_sum ha hb hc he]
  rw [st1 ha hb hc (by omega)] at h1
  have hy1 : y1 < 2147483648 := by rw [h1]; have : q1 e ≤ e := Nat.sub_le _ _; unfold cat4; omega
  rw [h1, st2 a1 b1 c1 e1] at h2
  have hy2 : y2 < 1500000000 := by rw [h2]; unfold cat4; omega
  rw [h2, st3 ⟨a2, a3⟩ ⟨b2, b3⟩ ⟨c2, c3⟩ ⟨e2, e3⟩, a4, b4, c4, e4] at h3
  generalize p8 a = A at *
  generalize p8 b = B at *
  generalize p8 c = C at *
  generalize p8 e = E at *
  unfold cat4 at h3
  refine ⟨?_, hy1, hy2, by omega, by omega⟩
  rw [show (63 : Nat) = 2 ^ 6 - 1 from rfl, Nat.and_two_pow_sub_one_eq_mod]
  clear a4 b4 c4 e4 hy1 hy2 h1 h2 a1 a2 a3 b1 b2 b3 c1 c2 c3 e1 e2 e3 hn
  have g1 : y3 / 256 = B + 256 * C + 65536 * E := by omega
  have g2 : y4 = (A + B) + 256 * (B + C) + 65536 * (C + E + 256 * E) := by omega
  have g3 : y4 / 65536 = C + E + 256 * E := by omega
  omega
theorem pcf (f : Nat → Bool) : sumN (fun i => bs f / 2 ^ i % 2) 30 = sumN (fun i => if f i then 1 else 0) 30 := by
  have : ∀ n, n ≤ 30 → sumN (fun i => bs f / 2 ^ i % 2) n = sumN (fun i => if f i then 1 else 0) n := by
    intro n
    induction n with
    | zero => intro _; rfl
    | succ n ih =>
      intro hn
      show sumN _ n + _ = sumN _ n + _
      rw [ih (by omega)]
      congr 1
      dsimp only
      have h2 := bs_bit f n
      have hlt : n < 30 := by omega
      rw [Nat.testBit_eq_decide_div_mod_eq] at h2
      simp only [hlt, decide_true, Bool.true_and] at h2
      by_cases hf : f n = true
      · rw [hf] at h2
        have := of_decide_eq_true h2
        rw [if_pos hf]
        omega
      · have hf0 : f n = false := by simpa using hf
        rw [hf0] at h2
        have := of_decide_eq_false h2
        rw [if_neg hf]
        omega
  exact this 30 (Nat.le_refl _)
theorem wrP {a b : Nat} (h : a + b < 2147483648) : wr ((a : Int) + (b : Int)) = ((a + b : Nat) : Int) := by rw [wrI (by omega) (by omega)]; rfl
theorem wrM {a b : Nat} (h : b ≤ a) (h2 : a < 2147483648) : wr ((a : Int) - (b : Int)) = ((a - b : Nat) : Int) := by rw [wrI (by omega) (by omega)]; omega
theorem m_bitCount {sh : Shp} {R : RM} {I : IM} {d : Nat} (f : Nat → Bool) : cl (d + 1) 208 [.inl ((bs f : Nat) : Int)] (sh, I, R) = some (some (.inl ((sumN (fun i => if f i then 1 else 0) 30 : Nat) : Int)), (sh, I, R)) := by
  have hn := bs_lt f
  obtain ⟨r0, r1, r2, r3, r4⟩ := popc hn rfl rfl rfl rfl rfl
  rw [pcf] at r0
  have hle : (bs f / 2) &&& 1431655765 ≤ bs f / 2 := Nat.and_le_left
  have hle : (bs f / 2) &&& 1431655765 ≤ bs f := Nat.le_trans hle (Nat.div_le_self _ _)
  generalize hy1 : bs f - ((bs f / 2) &&& 1431655765) = y1 at *
  generalize hy2 : (y1 &&& 858993459) + ((y1 / 4) &&& 858993459) = y2 at *
  generalize hy3 : (y2 + y2 / 16) &&& 252645135 = y3 at *
  have k1 : bs f < 2147483648 := Nat.lt_trans hn (by decide)
  have k2 : bs f / 2 < 2147483648 := Nat.lt_of_le_of_lt (Nat.div_le_self _ _) k1
  have k3 : y1 / 4 < 2147483648 := Nat.lt_of_le_of_lt (Nat.div_le_self _ _) r1
  have k4 : y2 < 2147483648 := Nat.lt_trans r2 (by decide)
  have k5 : y2 + y2 / 16 < 2147483648 := by
    clear hy1 hy2 hy3 r0 r1 r3 r4 hle hn k1 k2 k3 k4
    omega
  have k6 : y3 < 2147483648 := Nat.lt_trans r3 (by decide)
  have k7 : y3 + y3 / 256 < 2147483648 := Nat.lt_trans r4 (by decide)
  have k8 : y3 + y3 / 256 + (y3 + y3 / 256) / 65536 < 2147483648 := by
    clear hy1 hy2 hy3 r0 r1 r2 r3 hle hn k1 k2 k3 k4 k5 k6 k7
    omega
  have k9 : (y1 &&& 858993459) + ((y1 / 4) &&& 858993459) < 2147483648 := by rw [hy2]; exact k4
  have e1 := b_ushr (a := bs f) (c := 1) k1 (by decide)
  rw [Nat.shiftRight_eq_div_pow] at e1
  have e2 := b_and (a := bs f / 2) (b := 1431655765) k2 (by decide)
  have e3 := wrM hle k1
  rw [hy1] at e3
  have e4 := b_and (a := y1) (b := 858993459) r1 (by decide)
  have e5 := b_ushr (a := y1) (c := 2) r1 (by decide)
  rw [Nat.shiftRight_eq_div_pow] at e5
  have e6 := b_and (a := y1 / 4) (b := 858993459) k3 (by decide)
  have e7 := wrP k9
  rw [hy2] at e7
  have e8 := b_ushr (a := y2) (c := 4) k4 (by decide)
  rw [Nat.shiftRight_eq_div_pow] at e8
  have e9 := wrP k5
  have e10 := b_and (a := y2 + y2 / 16) (b := 252645135) k5 (by decide)
  rw [hy3] at e10
  have e11 := b_ushr (a := y3) (c := 8) k6 (by decide)
  rw [Nat.shiftRight_eq_div_pow] at e11
  have e12 := wrP k7
  have e13 := b_ushr (a := y3 + y3 / 256) (c := 16) k7 (by decide)
  rw [Nat.shiftRight_eq_div_pow] at e13
  have e14 := wrP k8
  have e15 := b_and (a := y3 + y3 / 256 + (y3 + y3 / 256) / 65536) (b := 63) k8 (by decide)
  rw [r0] at e15
  simp only [Int.cast_ofNat_Int, Nat.reducePow] at e1 e2 e4 e5 e6 e8 e10 e11 e13 e15
  rw [c_208]
  simp only [u_208_0, u_208_1, u_208_2, u_208_3, u_208_4, u_208_7, u_208_8, u_208_9, u_208_10, u_208_11, u_208_14, u_208_15, u_208_16, u_208_17, u_208_18, u_208_21, u_208_22, u_208_23, u_208_24, u_208_25, u_208_26, u_208_27, u_208_28, u_208_29, u_208_32, u_208_33, u_208_34, u_208_35, u_208_36, u_208_38, u_208_39, u_208_40, u_208_41, u_208_42, u_208_43, u_208_45, u_208_46, u_208_47, u_208_48, u_208_49, u_208_51, u_208_52, e1, e2, e3, e4, e5, e6, e7, e8, e9, e10, e11, e12, e13, e14, e15]
