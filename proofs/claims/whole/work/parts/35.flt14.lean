/-! cut to whole ones -/
theorem fl_maskn {b k : Nat} (hb : b < 2 ^ 64) (hk : k ≤ 64) : lN b &&& (lN (2 ^ k - 1) ^^^ (-1)) = lN (b / 2 ^ k * 2 ^ k) := by
  have e1 : (-1 : Int64) = lN (2 ^ 64 - 1) := by decide
  rw [e1, fb_xorL, fb_andL]
  congr 1
  apply Nat.eq_of_testBit_eq
  intro i
  rw [Nat.testBit_and, Nat.testBit_xor, Nat.testBit_two_pow_sub_one, Nat.testBit_two_pow_sub_one, ← Nat.shiftLeft_eq, Nat.testBit_shiftLeft, Nat.testBit_div_two_pow]
  by_cases c : k ≤ i
  · rw [show i - k + k = i by omega]
    by_cases c2 : i < 64
    · simp [c, c2, show ¬ i < k by omega]
    · have : 2 ^ 64 ≤ 2 ^ i := Nat.pow_le_pow_right (by decide) (by omega)
      rw [Nat.testBit_lt_two_pow (show b < 2 ^ i by omega)]
      simp
  · simp [c, show i < k by omega, show i < 64 by omega]
theorem or_low (b k : Nat) : b ||| (2 ^ k - 1) = b / 2 ^ k * 2 ^ k + (2 ^ k - 1) := by
  have hk := Nat.two_pow_pos k
  have h1 : b / 2 ^ k * 2 ^ k + (2 ^ k - 1) = 2 ^ k * (b / 2 ^ k) ||| (2 ^ k - 1) := by
    rw [Nat.mul_comm]
    exact Nat.two_pow_add_eq_or_of_lt (by omega) _
  rw [h1]
  apply Nat.eq_of_testBit_eq
  intro i
  rw [Nat.testBit_or, Nat.testBit_or, Nat.testBit_two_pow_sub_one, Nat.mul_comm, ← Nat.shiftLeft_eq, Nat.testBit_shiftLeft, Nat.testBit_div_two_pow]
  by_cases c : k ≤ i
  · rw [show i - k + k = i by omega]
    simp [c]
  · simp [show i < k by omega]
theorem and_bit {b k : Nat} (hk : k < 63) : lN b &&& lN (2 ^ k) = 0 ↔ b / 2 ^ k % 2 = 0 := by
  rw [fb_andL]
  have hp : 2 ^ k < 2 ^ 63 := wb_lt2 hk
  have hle : b &&& 2 ^ k ≤ 2 ^ k := Nat.and_le_right
  have h1 := pk_lEQ (a := b &&& 2 ^ k) (b := 0) (by omega) (by decide)
  refine Iff.trans h1 ?_
  constructor
  · intro h
    have h2 : (b &&& 2 ^ k).testBit k = false := by rw [h]; simp
    rw [Nat.testBit_and, Nat.testBit_two_pow, Nat.testBit_eq_decide_div_mod_eq] at h2
    simp at h2
    omega
  · intro h
    apply Nat.eq_of_testBit_eq
    intro i
    rw [Nat.testBit_and, Nat.testBit_two_pow]
    by_cases c : k = i
    · subst c
      rw [Nat.testBit_eq_decide_div_mod_eq]
      simp [h]
    · simp [c]
theorem sx_expo {s : Bool} {a : Nat} (ha : a < 9223372036854775808) : fX2_exponent (sx s a) = iZ ((a / 4503599627370496 : Nat) - 1023) := by
  unfold fX2_exponent
  have e1 : ((lN a).toUInt64 >>> ((52 : Int32).toInt64.toUInt64 &&& Int64.toUInt64 63)).toInt64 = lN (a / 4503599627370496) := wb_shr (k := 52) (by omega) (by decide)
  rw [sx_mag ha, e1, lN_i, iZ_nI]
  exact iZ_sub _ 1023
/-- the place of the unit: 2^csh a is one -/
def csh (a : Nat) : Nat := 1075 - a / 4503599627370496
def tz (a : Nat) : Nat := if a < 4607182418800017408 then 0 else if 4841369599423283200 ≤ a then a else a - a % 2 ^ csh a
def aw (a : Nat) : Nat := if a < 4607182418800017408 then 4607182418800017408 else a - a % 2 ^ csh a + 2 ^ csh a
theorem csh_rng {a : Nat} (h : 4607182418800017408 ≤ a) (h2 : a < 4841369599423283200) : 1 ≤ csh a ∧ csh a ≤ 52 := by
  unfold csh
  omega
theorem sx_split {s : Bool} {a k : Nat} (hk : k ≤ 63) : ((if s then 9223372036854775808 else 0) + a) / 2 ^ k * 2 ^ k = (if s then 9223372036854775808 else 0) + (a - a % 2 ^ k) := by
  have hp := Nat.two_pow_pos k
  have h1 := Nat.div_add_mod a (2 ^ k)
  have e1 : 2 ^ 63 = 2 ^ k * 2 ^ (63 - k) := by rw [← Nat.pow_add]; congr 1; omega
  cases s
  · show (0 + a) / 2 ^ k * 2 ^ k = 0 + (a - a % 2 ^ k)
    rw [Nat.zero_add, Nat.zero_add, Nat.mul_comm]
    omega
  · show (2 ^ 63 + a) / 2 ^ k * 2 ^ k = 2 ^ 63 + (a - a % 2 ^ k)
    rw [e1, Nat.mul_add_div hp, Nat.add_mul, Nat.mul_comm (a / 2 ^ k)]
    rw [Nat.mul_comm (2 ^ (63 - k))]
    omega
theorem tail_shr {a : Nat} (h : 4607182418800017408 ≤ a) (h2 : a < 4841369599423283200) : ((4503599627370495 : Int64).toUInt64 >>> ((iZ ((a / 4503599627370496 : Nat) - 1023)).toInt64.toUInt64 &&& Int64.toUInt64 63)).toInt64 = lN (2 ^ csh a - 1) := by
  have h3 := csh_rng h h2
  have := fl_ushr (n := 4503599627370495) (z := (a / 4503599627370496 : Nat) - 1023) (by decide) (by omega) (by omega)
  refine Eq.trans this ?_
  have e2 : (((a / 4503599627370496 : Nat) : Int) - 1023).toNat = 52 - csh a := by unfold csh; omega
  rw [e2]
  have e3 : 2 ^ (52 - csh a) * 2 ^ csh a = 4503599627370496 := by rw [← Nat.pow_add, show 52 - csh a + csh a = 52 by omega]
  have hp := Nat.two_pow_pos (52 - csh a)
  have hq := Nat.two_pow_pos (csh a)
  rw [show 4503599627370495 / 2 ^ (52 - csh a) = 2 ^ csh a - 1 from by
    rw [Nat.div_eq_iff hp]
    have e4 : (2 ^ csh a - 1) * 2 ^ (52 - csh a) = 4503599627370496 - 2 ^ (52 - csh a) := by rw [Nat.sub_mul, Nat.one_mul, Nat.mul_comm, e3]
    rw [e4]
    have e5 : 2 ^ (52 - csh a) ≤ 4503599627370496 := by
      have := Nat.mul_le_mul_left (2 ^ (52 - csh a)) hq
      omega
    omega]
theorem fl_tz {s : Bool} {a : Nat} (ha : a < 9223372036854775808) : fX2_wholeToZero (sx s a) = sx s (tz a) := by
  unfold fX2_wholeToZero fX2_wholeToZero_5 tz
  rw [sx_expo ha]
  have k1 : iZ ((a / 4503599627370496 : Nat) - 1023) < 52 ↔ ((a / 4503599627370496 : Nat) : Int) - 1023 < 52 := iZ_lt (b := 52) (by omega) (by omega)
  have k2 : (0 : Int32) ≤ iZ ((a / 4503599627370496 : Nat) - 1023) ↔ 0 ≤ ((a / 4503599627370496 : Nat) : Int) - 1023 := iZ_le (a := 0) (by omega) (by omega)
  by_cases c1 : a < 4607182418800017408
  · rw [if_pos (k1.mpr (by omega)), if_neg (fun x => by have := k2.mp x; omega), if_pos c1]
    unfold fX2_signBit
    exact sx_sgn ha
  · rw [if_neg c1]
    by_cases c2 : 4841369599423283200 ≤ a
    · rw [if_neg (fun x => by have := k1.mp x; omega), if_pos c2]
    · have h3 := csh_rng (a := a) (by omega) (by omega)
      rw [if_pos (k1.mpr (by omega)), if_pos (k2.mpr (by omega)), if_neg c2, tail_shr (by omega) (by omega)]
      unfold sx
      rw [fl_maskn (by split <;> omega) (by omega), sx_split (by omega)]
theorem fl_aw {s : Bool} {a : Nat} (ha : a < 4841369599423283200) : fX2_wholeAway (sx s a) = sx s (aw a) := by
  have ha2 : a < 9223372036854775808 := by omega
  unfold fX2_wholeAway fX2_wholeAway_5 aw
  rw [sx_expo ha2]
  have k2 : (0 : Int32) ≤ iZ ((a / 4503599627370496 : Nat) - 1023) ↔ 0 ≤ ((a / 4503599627370496 : Nat) : Int) - 1023 := iZ_le (a := 0) (by omega) (by omega)
  by_cases c1 : a < 4607182418800017408
  · rw [if_neg (fun x => by have := k2.mp x; omega), if_pos c1]
    unfold fX2_signBit
    rw [sx_sgn ha2]
    exact sx_or (a := 4607182418800017408) (by decide)
  · have h3 := csh_rng (a := a) (by omega) ha
    have hq := Nat.two_pow_pos (csh a)
    rw [if_neg c1, if_pos (k2.mpr (by omega)), tail_shr (by omega) ha]
    unfold sx
    rw [fb_orL, or_low, sx_split (by omega), lN_1]
    congr 1
    omega
/-- a whole number below 2^53 as a measure -/
theorem fRd_i {a i : Nat} (h : 4607182418800017408 ≤ a) (h2 : a < 4841369599423283200) (hi : i * 2 ^ csh a = dg a - a % 2 ^ csh a ∨ i * 2 ^ csh a = dg a - a % 2 ^ csh a + 2 ^ csh a) : fRd i 0 false = a - dg a + i * 2 ^ csh a := by
  have h3 := csh_rng h h2
  have e1 := fRd_scale i (-(csh a : Int)) (csh a)
  rw [show -(csh a : Int) + (csh a : Int) = 0 by omega] at e1
  rw [← e1]
  have hd : dg a = 4503599627370496 + a % 4503599627370496 := by unfold dg; rw [if_neg (by omega)]
  have e2 : 2 ^ 52 = 2 ^ csh a * 2 ^ (52 - csh a) := by rw [← Nat.pow_add]; congr 1; omega
  have hq := Nat.two_pow_pos (csh a)
  have hml := Nat.mod_lt a hq
  have hple : 2 ^ csh a ≤ 2 ^ 52 := Nat.pow_le_pow_right (by decide) h3.2
  -- dg a and a leave the same rest
  have hr : a % 2 ^ csh a = a % 4503599627370496 % 2 ^ csh a := by
    have : (4503599627370496 : Nat) = 2 ^ 52 := by decide
    rw [this, e2, Nat.mod_mul_right_mod]
  have hrl : a % 2 ^ csh a ≤ a % 4503599627370496 := by rw [hr]; exact Nat.mod_le _ _
  have hdv : (dg a - a % 2 ^ csh a) + 2 ^ csh a ≤ 2 ^ 53 := by
    have h5 : a % 4503599627370496 - a % 2 ^ csh a = 2 ^ csh a * (a % 4503599627370496 / 2 ^ csh a) := by
      have := Nat.div_add_mod (a % 4503599627370496) (2 ^ csh a)
      rw [← hr] at this
      omega
    have h6 : a % 4503599627370496 / 2 ^ csh a < 2 ^ (52 - csh a) := by
      rw [Nat.div_lt_iff_lt_mul hq, Nat.mul_comm, ← e2]
      exact Nat.mod_lt _ (by decide)
    have h7 : 2 ^ csh a * (a % 4503599627370496 / 2 ^ csh a + 1) ≤ 2 ^ csh a * 2 ^ (52 - csh a) := Nat.mul_le_mul_left _ h6
    rw [Nat.mul_succ, ← e2] at h7
    omega
  have hx := fRd_exact (K := i * 2 ^ csh a) (F := a / 4503599627370496 - 1) (by omega) (by omega) (Or.inr (by omega)) (by omega)
  rw [show ((a / 4503599627370496 - 1 : Nat) : Int) - 1074 = -(csh a : Int) by unfold csh; omega] at hx
  rw [hx]
  omega
theorem i_mul {a : Nat} (h : 4607182418800017408 ≤ a) (h2 : a < 4841369599423283200) : dg a / 2 ^ csh a * 2 ^ csh a = dg a - a % 2 ^ csh a ∧ dg a % 2 ^ csh a = a % 2 ^ csh a ∧ a % 2 ^ csh a ≤ dg a ∧ dg a ≤ a ∧ (dg a / 2 ^ csh a % 2 = a / 2 ^ csh a % 2) := by
  have h3 := csh_rng h h2
  have hd : dg a = 4503599627370496 + a % 4503599627370496 := by unfold dg; rw [if_neg (by omega)]
  have e2 : 2 ^ 52 = 2 ^ csh a * 2 ^ (52 - csh a) := by rw [← Nat.pow_add]; congr 1; omega
  have hq := Nat.two_pow_pos (csh a)
  have ea : a = dg a + 4503599627370496 * (a / 4503599627370496 - 1) := by omega
  have ea2 : a = 2 ^ csh a * (2 ^ (52 - csh a) * (a / 4503599627370496 - 1)) + dg a := by
    rw [← Nat.mul_assoc, ← e2]
    omega
  have hm : dg a % 2 ^ csh a = a % 2 ^ csh a := by
    have := Nat.mul_add_mod (2 ^ csh a) (2 ^ (52 - csh a) * (a / 4503599627370496 - 1)) (dg a)
    rw [← ea2] at this
    exact this.symm
  have hdm := Nat.div_add_mod (dg a) (2 ^ csh a)
  have hle : dg a % 2 ^ csh a ≤ dg a := Nat.mod_le _ _
  refine ⟨?_, hm, by omega, by omega, ?_⟩
  · rw [Nat.mul_comm, ← hm]
    omega
  · have h5 := Nat.mul_add_div hq (2 ^ (52 - csh a) * (a / 4503599627370496 - 1)) (dg a)
    rw [← ea2] at h5
    rw [h5]
    have hev : (2 ^ (52 - csh a) * (a / 4503599627370496 - 1)) % 2 = 0 := by
      by_cases c : csh a = 52
      · have : a / 4503599627370496 = 1023 := by unfold csh at c; omega
        rw [this, c]
      · have : 2 ^ (52 - csh a) = 2 * 2 ^ (52 - csh a - 1) := by rw [← Nat.pow_succ']; congr 1; omega
        rw [this, Nat.mul_assoc, Nat.mul_mod_right]
    omega
