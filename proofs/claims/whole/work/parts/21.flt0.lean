/-! bits of 64 (the wb_, g_, fb_ families of the laws given for pasting) -/
theorem wb_tb (n : Nat) : (lN n).toBitVec = BitVec.ofNat 64 n := rfl
theorem wb_inj {a b : Int64} (h : a.toBitVec = b.toBitVec) : a = b := Int64.toBitVec_inj.mp h
theorem wb_tn {n : Nat} (h : n < 2 ^ 64) : (lN n).toBitVec.toNat = n := by rw [wb_tb, BitVec.toNat_ofNat, Nat.mod_eq_of_lt h]
theorem wb_of (x : Int64) : ∃ n, n < 2 ^ 64 ∧ x = lN n := ⟨x.toBitVec.toNat, x.toBitVec.isLt, wb_inj (by rw [wb_tb]; simp)⟩
theorem wb_of32 (x : Int32) : ∃ n, n < 2 ^ 32 ∧ x = nI n := ⟨x.toBitVec.toNat, x.toBitVec.isLt, Int32.toBitVec_inj.mp (by show _ = BitVec.ofNat 32 _; simp)⟩
theorem wb_c : ∀ k, k < 64 → ((nI k).toInt64 &&& 63) = lN k := by decide +kernel
theorem wb_cu : ∀ k, k < 64 → ((nI k).toInt64.toUInt64 &&& Int64.toUInt64 63) = UInt64.ofNat k := by decide +kernel
theorem wb_sm : ∀ k, k < 64 → (BitVec.ofNat 64 k).smod 64 = BitVec.ofNat 64 k := by decide +kernel
theorem wb_pw {a b : Nat} (h : a ≤ b) : 2 ^ b = 2 ^ a * 2 ^ (b - a) := by rw [← Nat.pow_add]; congr 1; omega
theorem wb_lt2 {a b : Nat} (h : a < b) : 2 ^ a < 2 ^ b := Nat.pow_lt_pow_right (by decide) h
theorem wb_mod (n : Nat) : lN n = lN (n % 2 ^ 64) := wb_inj (by rw [wb_tb, wb_tb]; apply BitVec.eq_of_toNat_eq; rw [BitVec.toNat_ofNat, BitVec.toNat_ofNat, Nat.mod_mod])
theorem wb_shr {n k : Nat} (hn : n < 2 ^ 64) (hk : k < 64) : ((lN n).toUInt64 >>> ((nI k).toInt64.toUInt64 &&& Int64.toUInt64 63)).toInt64 = lN (n / 2 ^ k) := by
  rw [wb_cu k hk]
  apply wb_inj
  apply BitVec.eq_of_toNat_eq
  show ((lN n).toUInt64 >>> UInt64.ofNat k).toNat = (BitVec.ofNat 64 _).toNat
  have h1 : (UInt64.ofNat k).toNat = k := by
    show (BitVec.ofNat 64 k).toNat = k
    rw [BitVec.toNat_ofNat, Nat.mod_eq_of_lt (by omega)]
  have h2 : (lN n).toUInt64.toNat = n := wb_tn hn
  rw [UInt64.toNat_shiftRight, h1, h2, Nat.mod_eq_of_lt hk, Nat.shiftRight_eq_div_pow, BitVec.toNat_ofNat, Nat.mod_eq_of_lt (Nat.lt_of_le_of_lt (Nat.div_le_self _ _) hn)]
theorem wb_shl (n : Nat) {k : Nat} (hk : k < 64) : lN n <<< ((nI k).toInt64 &&& 63) = lN (n * 2 ^ k) := by
  rw [wb_c k hk]
  apply wb_inj
  rw [Int64.toBitVec_shiftLeft, wb_tb, wb_tb, wb_tb, wb_sm k hk]
  apply BitVec.eq_of_toNat_eq
  rw [BitVec.shiftLeft_eq', BitVec.toNat_shiftLeft, BitVec.toNat_ofNat, BitVec.toNat_ofNat, BitVec.toNat_ofNat, Nat.mod_eq_of_lt (show k < 2 ^ 64 by omega), Nat.shiftLeft_eq, Nat.mul_mod, Nat.mod_mod, ← Nat.mul_mod]
theorem wb_and {a b : Nat} (ha : a < 2 ^ 64) (hb : b < 2 ^ 64) : lN a &&& lN b = lN (a &&& b) := by
  apply wb_inj
  rw [Int64.toBitVec_and, wb_tb, wb_tb, wb_tb]
  apply BitVec.eq_of_toNat_eq
  rw [BitVec.toNat_and, BitVec.toNat_ofNat, BitVec.toNat_ofNat, BitVec.toNat_ofNat, Nat.mod_eq_of_lt ha, Nat.mod_eq_of_lt hb, Nat.mod_eq_of_lt (Nat.and_lt_two_pow _ hb)]
theorem wb_or {a b : Nat} (ha : a < 2 ^ 64) (hb : b < 2 ^ 64) : lN a ||| lN b = lN (a ||| b) := by
  apply wb_inj
  rw [Int64.toBitVec_or, wb_tb, wb_tb, wb_tb]
  apply BitVec.eq_of_toNat_eq
  rw [BitVec.toNat_or, BitVec.toNat_ofNat, BitVec.toNat_ofNat, BitVec.toNat_ofNat, Nat.mod_eq_of_lt ha, Nat.mod_eq_of_lt hb, Nat.mod_eq_of_lt (Nat.or_lt_two_pow ha hb)]
theorem wb_mask {n k : Nat} (hn : n < 2 ^ 64) (hk : k < 64) : lN n &&& lN (2 ^ k - 1) = lN (n % 2 ^ k) := by
  rw [wb_and hn (by have := wb_lt2 hk; omega), Nat.and_two_pow_sub_one_eq_mod]
theorem wb_a1 {n : Nat} (hn : n < 2 ^ 64) : lN n &&& 1 = lN (n % 2) := wb_mask (k := 1) hn (by decide)
theorem wb_bit {n k : Nat} (hn : n < 2 ^ 64) (hk : k < 64) : ((lN n).toUInt64 >>> ((nI k).toInt64.toUInt64 &&& Int64.toUInt64 63)).toInt64 &&& 1 = lN (n / 2 ^ k % 2) := by
  rw [wb_shr hn hk, wb_a1 (Nat.lt_of_le_of_lt (Nat.div_le_self _ _) hn)]
theorem wb_xor {q k : Nat} (hk : k < 63) (h : 2 ^ k ≤ q) (h2 : q < 2 ^ (k + 1)) : lN q ^^^ lN (2 ^ k) = lN (q - 2 ^ k) := by
  obtain ⟨r, rfl⟩ : ∃ r, q = 2 ^ k + r := ⟨q - 2 ^ k, by omega⟩
  have hr : r < 2 ^ k := by rw [Nat.pow_succ] at h2; omega
  have hx : (2 ^ k + r) ^^^ 2 ^ k = r := by
    apply Nat.eq_of_testBit_eq
    intro i
    rw [Nat.testBit_xor, Nat.testBit_two_pow]
    rcases Nat.lt_trichotomy i k with h | h | h
    · rw [Nat.testBit_two_pow_add_gt h]
      simp [show ¬ k = i by omega]
    · subst h
      rw [Nat.testBit_two_pow_add_eq]
      simp
    · have a1 : 2 ^ (k + 1) ≤ 2 ^ i := Nat.pow_le_pow_right (by decide) h
      rw [Nat.testBit_lt_two_pow (show 2 ^ k + r < 2 ^ i by omega), Nat.testBit_lt_two_pow (show r < 2 ^ i by omega)]
      simp [show ¬ k = i by omega]
  have b1 := wb_lt2 (show k + 1 < 64 by omega)
  have b2 := wb_lt2 (show k < 64 by omega)
  apply wb_inj
  rw [Int64.toBitVec_xor, wb_tb, wb_tb, wb_tb]
  apply BitVec.eq_of_toNat_eq
  rw [BitVec.toNat_xor, BitVec.toNat_ofNat, BitVec.toNat_ofNat, BitVec.toNat_ofNat, Nat.mod_eq_of_lt (by omega : 2 ^ k + r < 2 ^ 64), Nat.mod_eq_of_lt b2, hx, Nat.add_sub_cancel_left, Nat.mod_eq_of_lt (by omega)]
theorem u_tn {n : Nat} (h : n < 2 ^ 64) : (UInt64.ofNat n).toNat = n := Nat.mod_eq_of_lt h
theorem g_and {a b c : Nat} (ha : a < 2 ^ 64) (hb : b < 2 ^ 64) (hc : a &&& b = c) : lN a &&& lN b = lN c := by
  subst hc
  have h : UInt64.ofNat a &&& UInt64.ofNat b = UInt64.ofNat (a &&& b) := UInt64.toNat_inj.mp (by rw [UInt64.toNat_and, u_tn ha, u_tn hb, u_tn (Nat.and_lt_two_pow a hb)])
  have h2 := congrArg UInt64.toInt64 h
  exact h2
theorem g_and1 {a : Nat} (ha : a < 2 ^ 64) : lN a &&& 1 = lN (a % 2) := g_and (b := 1) ha (by decide) (Nat.and_two_pow_sub_one_eq_mod a 1)
theorem g_mask {a s p : Nat} (hp : 2 ^ s = p) (hs : s < 64) (ha : a < 2 ^ 64) : lN a &&& lN (p - 1) = lN (a % p) := by
  subst hp
  have := Nat.pow_lt_pow_right (show 1 < 2 by decide) hs
  exact g_and ha (by omega) (Nat.and_two_pow_sub_one_eq_mod a s)
theorem fb_andL (a b : Nat) : lN a &&& lN b = lN (a &&& b) := by
  apply Int64.toBitVec_inj.1
  show BitVec.ofNat 64 a &&& BitVec.ofNat 64 b = BitVec.ofNat 64 (a &&& b)
  apply BitVec.eq_of_getLsbD_eq
  intro i hi
  simp [hi]
theorem fb_orL (a b : Nat) : lN a ||| lN b = lN (a ||| b) := by
  apply Int64.toBitVec_inj.1
  show BitVec.ofNat 64 a ||| BitVec.ofNat 64 b = BitVec.ofNat 64 (a ||| b)
  apply BitVec.eq_of_getLsbD_eq
  intro i hi
  simp [hi]
theorem fb_xorL (a b : Nat) : lN a ^^^ lN b = lN (a ^^^ b) := by
  apply Int64.toBitVec_inj.1
  show BitVec.ofNat 64 a ^^^ BitVec.ofNat 64 b = BitVec.ofNat 64 (a ^^^ b)
  apply BitVec.eq_of_getLsbD_eq
  intro i hi
  simp [hi]
theorem fb_maskL (n k : Nat) : lN n &&& lN (2 ^ k - 1) = lN (n % 2 ^ k) := by rw [fb_andL, Nat.and_two_pow_sub_one_eq_mod]
theorem fb_or_sumL {a k : Nat} (b : Nat) (h : a < 2 ^ k) : lN (2 ^ k * b) ||| lN a = lN (2 ^ k * b + a) := by rw [fb_orL, Nat.two_pow_add_eq_or_of_lt h]
/-! Int32 as iZ of a whole number -/
def iZ (z : Int) : Int32 := Int32.ofInt z
theorem iZ_nI (n : Nat) : nI n = iZ n := by
  show Int32.ofNat n = Int32.ofInt n
  exact (Int32.ofInt_eq_ofNat).symm
theorem iZ_add (a b : Int) : iZ a + iZ b = iZ (a + b) := (Int32.ofInt_add a b).symm
theorem iZ_sub (a b : Int) : iZ a - iZ b = iZ (a - b) := (Int32.ofInt_sub a b).symm
theorem iZ_mul (a b : Int) : iZ a * iZ b = iZ (a * b) := (Int32.ofInt_mul a b).symm
theorem iZ_neg (a : Int) : - iZ a = iZ (-a) := (Int32.ofInt_neg a).symm
theorem iZ_toInt {z : Int} (h : -2147483648 ≤ z) (h2 : z < 2147483648) : (iZ z).toInt = z := by
  show (Int32.ofInt z).toInt = z
  have e : Int32.size = 4294967296 := rfl
  rw [Int32.toInt_ofInt, e, Int.bmod_eq_of_le (by omega) (by omega)]
theorem iZ_le {a b : Int} (h : -2147483648 ≤ a ∧ a < 2147483648) (h2 : -2147483648 ≤ b ∧ b < 2147483648) : iZ a ≤ iZ b ↔ a ≤ b := by
  rw [Int32.le_iff_toInt_le, iZ_toInt h.1 h.2, iZ_toInt h2.1 h2.2]
theorem iZ_lt {a b : Int} (h : -2147483648 ≤ a ∧ a < 2147483648) (h2 : -2147483648 ≤ b ∧ b < 2147483648) : iZ a < iZ b ↔ a < b := by
  rw [Int32.lt_iff_toInt_lt, iZ_toInt h.1 h.2, iZ_toInt h2.1 h2.2]
theorem iZ_eq {a b : Int} (h : -2147483648 ≤ a ∧ a < 2147483648) (h2 : -2147483648 ≤ b ∧ b < 2147483648) : iZ a = iZ b ↔ a = b := by
  constructor
  · intro e
    have := congrArg Int32.toInt e
    rwa [iZ_toInt h.1 h.2, iZ_toInt h2.1 h2.2] at this
  · rintro rfl
    rfl
theorem iZ_l {z : Int} (h : 0 ≤ z) (h2 : z < 2147483648) : (iZ z).toInt64 = lN z.toNat := by
  obtain ⟨n, rfl⟩ := Int.eq_ofNat_of_zero_le h
  rw [← iZ_nI, nI_l (by omega)]
  rfl
theorem fl_shl (n : Nat) {z : Int} (h : 0 ≤ z) (h2 : z < 64) : lN n <<< ((iZ z).toInt64 &&& 63) = lN (n * 2 ^ z.toNat) := by
  obtain ⟨k, rfl⟩ := Int.eq_ofNat_of_zero_le h
  rw [← iZ_nI]
  exact wb_shl n (by omega)
theorem fl_ushr {n : Nat} (hn : n < 2 ^ 64) {z : Int} (h : 0 ≤ z) (h2 : z < 64) : ((lN n).toUInt64 >>> ((iZ z).toInt64.toUInt64 &&& Int64.toUInt64 63)).toInt64 = lN (n / 2 ^ z.toNat) := by
  obtain ⟨k, rfl⟩ := Int.eq_ofNat_of_zero_le h
  rw [← iZ_nI]
  exact wb_shr hn (by omega)
theorem fl_lI {a : Nat} (h : a < 2 ^ 63) : (lN a).toInt = (a : Int) := lg_ofNat_toInt h
theorem fl_shr {a : Nat} (ha : a < 2 ^ 63) {z : Int} (h : 0 ≤ z) (h2 : z < 64) : lN a >>> ((iZ z).toInt64 &&& 63) = lN (a / 2 ^ z.toNat) := by
  obtain ⟨k, rfl⟩ := Int.eq_ofNat_of_zero_le h
  rw [← iZ_nI, wb_c k (by omega)]
  have hd : a / 2 ^ k ≤ a := Nat.div_le_self _ _
  apply Int64.toInt_inj.mp
  have e : (lN a >>> lN k).toInt = (lN a).toInt >>> k := by
    have e1 : ((lN k).toBitVec.smod 64).toNat = k := by
      rw [wb_tb, wb_sm k (by omega), BitVec.toNat_ofNat, Nat.mod_eq_of_lt (by omega)]
    have e2 := BitVec.toInt_sshiftRight (x := (lN a).toBitVec) (n := ((lN k).toBitVec.smod 64).toNat)
    rw [e1] at e2
    show ((lN a).toBitVec.sshiftRight' ((lN k).toBitVec.smod 64)).toInt = (lN a).toBitVec.toInt >>> k
    rw [BitVec.sshiftRight', e1, e2]
  rw [e, Int.shiftRight_eq_div_pow, fl_lI ha, fl_lI (by show a / 2 ^ k < 2 ^ 63; omega)]
  rfl
theorem fl_neg {b : Nat} (h : b < 2 ^ 64) : lN b < 0 ↔ 2 ^ 63 ≤ b := by
  have c := BitVec.toInt_eq_toNat_cond (lN b).toBitVec
  rw [wb_tn h] at c
  rw [Int64.lt_iff_toInt_lt]
  show (lN b).toBitVec.toInt < 0 ↔ _
  rw [c]
  split <;> omega
theorem fl_minus {b : Nat} (h : b ≤ 2 ^ 64) : - lN b = lN (2 ^ 64 - b) := by
  apply Int64.toBitVec_inj.mp
  rw [Int64.toBitVec_neg, wb_tb, wb_tb]
  apply BitVec.eq_of_toNat_eq
  rw [BitVec.toNat_neg, BitVec.toNat_ofNat, BitVec.toNat_ofNat]
  rcases Nat.lt_or_ge b (2 ^ 64) with q | q
  · rw [Nat.mod_eq_of_lt q]
  · have : b = 2 ^ 64 := by omega
    subst this
    decide
/-! the number of bits; rounding -/
def nb (m : Nat) : Nat := if m = 0 then 0 else m.log2 + 1
theorem nb_0 : nb 0 = 0 := rfl
theorem nb_lt (m : Nat) : m < 2 ^ nb m := by
  unfold nb
  split
  · omega
  · exact Nat.lt_log2_self
theorem nb_pos {m : Nat} (h : 0 < m) : 0 < nb m := by
  unfold nb
  split <;> omega
theorem nb_ge {m : Nat} (h : 0 < m) : 2 ^ (nb m - 1) ≤ m := by
  unfold nb
  rw [if_neg (by omega)]
  exact Nat.log2_self_le (by omega)
theorem nb_uniq {m k : Nat} (h : 2 ^ k ≤ m) (h2 : m < 2 ^ (k + 1)) : nb m = k + 1 := by
  have h0 : 0 < m := Nat.lt_of_lt_of_le (Nat.two_pow_pos k) h
  have a := nb_lt m
  have b := nb_ge h0
  have c := nb_pos h0
  have d : k < nb m := (Nat.pow_lt_pow_iff_right (by decide : 1 < 2)).mp (Nat.lt_of_le_of_lt h a)
  have e : nb m - 1 < k + 1 := (Nat.pow_lt_pow_iff_right (by decide : 1 < 2)).mp (Nat.lt_of_le_of_lt b h2)
  omega
theorem nb_le {m k : Nat} (h : m < 2 ^ k) : nb m ≤ k := by
  rcases Nat.eq_zero_or_pos m with q | q
  · subst q; exact Nat.zero_le _
  · have b := nb_ge q
    have e : nb m - 1 < k := (Nat.pow_lt_pow_iff_right (by decide : 1 < 2)).mp (Nat.lt_of_le_of_lt b h)
    omega
theorem nb_gt {m k : Nat} (h : 2 ^ k ≤ m) : k < nb m :=
  (Nat.pow_lt_pow_iff_right (by decide : 1 < 2)).mp (Nat.lt_of_le_of_lt h (nb_lt m))
theorem nb_mul {m : Nat} (h : 0 < m) (k : Nat) : nb (m * 2 ^ k) = nb m + k := by
  have a := nb_lt m
  have b := nb_ge h
  have c := nb_pos h
  have e : nb m + k = (nb m - 1 + k) + 1 := by omega
  rw [e]
  apply nb_uniq
  · rw [Nat.pow_add]; exact Nat.mul_le_mul_right _ b
  · rw [← e, Nat.pow_add]; exact Nat.mul_lt_mul_of_pos_right a (Nat.two_pow_pos k)
theorem nb_div {m k : Nat} (h : k < nb m) : nb (m / 2 ^ k) = nb m - k := by
  have h0 : 0 < m := by
    rcases Nat.eq_zero_or_pos m with q | q
    · subst q; simp [nb] at h
    · exact q
  have a := nb_lt m
  have b := nb_ge h0
  have e : nb m - k = (nb m - 1 - k) + 1 := by omega
  rw [e]
  have p1 : 2 ^ (nb m - 1 - k) * 2 ^ k = 2 ^ (nb m - 1) := by rw [← Nat.pow_add]; congr 1; omega
  have p2 : 2 ^ (nb m - 1 - k + 1) * 2 ^ k = 2 ^ nb m := by rw [← Nat.pow_add]; congr 1; omega
  apply nb_uniq
  · rw [Nat.le_div_iff_mul_le (Nat.two_pow_pos k), p1]; exact b
  · rw [Nat.div_lt_iff_lt_mul (Nat.two_pow_pos k), p2]; exact a
theorem fl_ifc {α : Type} {c d : Prop} [Decidable c] [Decidable d] {x y : α} (h : c ↔ d) : (if c then x else y) = if d then x else y := by
  by_cases q : c
  · rw [if_pos q, if_pos (h.mp q)]
  · rw [if_neg q, if_neg (fun z => q (h.mpr z))]
def rn (m : Nat) (s : Bool) (k : Nat) : Nat := m / 2 ^ k + (if 2 ^ k < 2 * (m % 2 ^ k) ∨ (2 * (m % 2 ^ k) = 2 ^ k ∧ (s = true ∨ m / 2 ^ k % 2 = 1)) then 1 else 0)
theorem rn_0 (m : Nat) (s : Bool) : rn m s 0 = m := by
  unfold rn
  rw [Nat.pow_zero, Nat.mod_one, Nat.div_one, if_neg (by omega)]
  rfl
theorem rn_scale (m k j : Nat) : rn (m * 2 ^ j) false (k + j) = rn m false k := by
  unfold rn
  have hj := Nat.two_pow_pos j
  rw [Nat.pow_add, Nat.mul_div_mul_right _ _ hj, Nat.mul_mod_mul_right]
  have e1 : 2 * (m % 2 ^ k * 2 ^ j) = 2 * (m % 2 ^ k) * 2 ^ j := by rw [Nat.mul_assoc]
  rw [e1]
  have e2 : (2 ^ k * 2 ^ j < 2 * (m % 2 ^ k) * 2 ^ j) ↔ (2 ^ k < 2 * (m % 2 ^ k)) := Nat.mul_lt_mul_right hj
  have e3 : (2 * (m % 2 ^ k) * 2 ^ j = 2 ^ k * 2 ^ j) ↔ (2 * (m % 2 ^ k) = 2 ^ k) := Nat.mul_left_inj (by omega)
  congr 1
  apply fl_ifc
  rw [e2, e3]
theorem rn_up (m k j : Nat) : rn (m * 2 ^ (k + j)) false k = m * 2 ^ j := by
  have := rn_scale (m * 2 ^ j) 0 k
  rw [rn_0] at this
  rw [← this, Nat.zero_add, Nat.mul_assoc, ← Nat.pow_add, Nat.add_comm j k]
theorem rn_coarse (m : Nat) (s : Bool) (k j : Nat) : rn m s (k + 1 + j) = rn (m / 2 ^ j) (s || decide (m % 2 ^ j ≠ 0)) (k + 1) := by
  unfold rn
  have hj := Nat.two_pow_pos j
  have hk := Nat.two_pow_pos k
  have e0 : 2 ^ (k + 1 + j) = 2 ^ j * 2 ^ (k + 1) := by rw [← Nat.pow_add]; congr 1; omega
  rw [e0, ← Nat.div_div_eq_div_mul, Nat.mod_mul]
  have hb : m % 2 ^ j < 2 ^ j := Nat.mod_lt _ hj
  generalize m / 2 ^ j = A
  generalize hB : m % 2 ^ j = B at *
  generalize A / 2 ^ (k + 1) = C
  generalize A % 2 ^ (k + 1) = D
  rw [Nat.pow_succ]
  generalize 2 ^ j = P at *
  generalize 2 ^ k = H at *
  congr 1
  have c1 : (P * (H * 2) < 2 * (B + P * D)) ↔ (H < D ∨ (D = H ∧ 0 < B)) := by
    rcases Nat.lt_trichotomy D H with q | q | q
    · have : P * (D + 1) ≤ P * H := Nat.mul_le_mul_left _ q
      have e1 : P * (H * 2) = 2 * (P * H) := by rw [Nat.mul_comm H 2, Nat.mul_left_comm]
      rw [Nat.mul_succ] at this
      omega
    · subst q
      have e1 : P * (D * 2) = 2 * (P * D) := by rw [Nat.mul_comm D 2, Nat.mul_left_comm]
      omega
    · have : P * (H + 1) ≤ P * D := Nat.mul_le_mul_left _ q
      have e1 : P * (H * 2) = 2 * (P * H) := by rw [Nat.mul_comm H 2, Nat.mul_left_comm]
      rw [Nat.mul_succ] at this
      omega
  have c2 : (2 * (B + P * D) = P * (H * 2)) ↔ (D = H ∧ B = 0) := by
    rcases Nat.lt_trichotomy D H with q | q | q
    · have : P * (D + 1) ≤ P * H := Nat.mul_le_mul_left _ q
      have e1 : P * (H * 2) = 2 * (P * H) := by rw [Nat.mul_comm H 2, Nat.mul_left_comm]
      rw [Nat.mul_succ] at this
      omega
    · subst q
      have e1 : P * (D * 2) = 2 * (P * D) := by rw [Nat.mul_comm D 2, Nat.mul_left_comm]
      omega
    · have : P * (H + 1) ≤ P * D := Nat.mul_le_mul_left _ q
      have e1 : P * (H * 2) = 2 * (P * H) := by rw [Nat.mul_comm H 2, Nat.mul_left_comm]
      rw [Nat.mul_succ] at this
      omega
  apply fl_ifc
  rw [c1, c2]
  have c3 : (H * 2 < 2 * D) ↔ H < D := by omega
  have c4 : (2 * D = H * 2) ↔ D = H := by omega
  rw [c3, c4]
  have c5 : ((s || decide (B ≠ 0)) = true) ↔ (s = true ∨ B ≠ 0) := by simp
  rw [c5]
  constructor
  · rintro ((q | ⟨q, q2⟩) | ⟨⟨q, q2⟩, q3⟩)
    · exact Or.inl q
    · exact Or.inr ⟨q, Or.inl (Or.inr (by omega))⟩
    · exact Or.inr ⟨q, q3.elim (fun x => Or.inl (Or.inl x)) Or.inr⟩
  · rintro (q | ⟨q, (q2 | q2) | q2⟩)
    · exact Or.inl (Or.inl q)
    · rcases Nat.eq_zero_or_pos B with z | z
      · exact Or.inr ⟨⟨q, z⟩, Or.inl q2⟩
      · exact Or.inl (Or.inr ⟨q, z⟩)
    · exact Or.inl (Or.inr ⟨q, by omega⟩)
    · rcases Nat.eq_zero_or_pos B with z | z
      · exact Or.inr ⟨⟨q, z⟩, Or.inr q2⟩
      · exact Or.inl (Or.inr ⟨q, z⟩)
/-! the nearest fraction of p bits, exponents from least on: K * 2^(F + least) -/
def rdF (p : Nat) (least : Int) (m : Nat) (e : Int) : Nat := (e + nb m - p - least).toNat
def rdS (p : Nat) (least : Int) (m : Nat) (e : Int) : Int := rdF p least m e + least - e
def rdK (p : Nat) (least : Int) (m : Nat) (e : Int) (s : Bool) : Nat := rn (m * 2 ^ (- rdS p least m e).toNat) s (rdS p least m e).toNat
def fRd (m : Nat) (e : Int) (s : Bool) : Nat := if m = 0 then 0 else if 2045 < rdF 53 (-1074) m e then 9218868437227405312 else rdF 53 (-1074) m e * 4503599627370496 + rdK 53 (-1074) m e s
theorem rn_le {m k : Nat} {s : Bool} {b : Nat} (h : m < 2 ^ (k + b)) : rn m s k ≤ 2 ^ b := by
  unfold rn
  have : m / 2 ^ k < 2 ^ b := by
    rw [Nat.div_lt_iff_lt_mul (Nat.two_pow_pos k), ← Nat.pow_add, Nat.add_comm b k]; exact h
  split <;> omega
theorem rn_ge {m k : Nat} {s : Bool} {b : Nat} (h : 2 ^ (k + b) ≤ m) : 2 ^ b ≤ rn m s k := by
  unfold rn
  have : 2 ^ b ≤ m / 2 ^ k := by
    rw [Nat.le_div_iff_mul_le (Nat.two_pow_pos k), ← Nat.pow_add, Nat.add_comm b k]; exact h
  omega
theorem rdK_le {p : Nat} {least : Int} {m : Nat} {e : Int} {s : Bool} (hm : 0 < m) : rdK p least m e s ≤ 2 ^ p := by
  unfold rdK
  apply rn_le
  have h1 := nb_lt m
  have h2 : m * 2 ^ (- rdS p least m e).toNat < 2 ^ (nb m + (- rdS p least m e).toNat) := by
    rw [Nat.pow_add]; exact Nat.mul_lt_mul_of_pos_right h1 (Nat.two_pow_pos _)
  refine Nat.lt_of_lt_of_le h2 (Nat.pow_le_pow_right (by decide) ?_)
  unfold rdS rdF
  omega
theorem rdK_ge {p : Nat} {least : Int} {m : Nat} {e : Int} {s : Bool} (hm : 0 < m) (hp : 0 < p) (hF : 0 < rdF p least m e) : 2 ^ (p - 1) ≤ rdK p least m e s := by
  unfold rdK
  apply rn_ge
  have h1 := nb_ge hm
  have h3 := nb_pos hm
  have h2 : 2 ^ (nb m - 1 + (- rdS p least m e).toNat) ≤ m * 2 ^ (- rdS p least m e).toNat := by
    rw [Nat.pow_add]; exact Nat.mul_le_mul_right _ h1
  refine Nat.le_trans (Nat.pow_le_pow_right (by decide) ?_) h2
  unfold rdS
  unfold rdF at *
  omega
theorem fRd_lt (m : Nat) (e : Int) (s : Bool) : fRd m e s ≤ 9218868437227405312 := by
  unfold fRd
  split
  · omega
  · split
    · omega
    · have := rdK_le (p := 53) (least := -1074) (m := m) (e := e) (s := s) (by omega)
      have e2 : (2 : Nat) ^ 53 = 9007199254740992 := by decide
      omega
theorem rdF_scale {p : Nat} {least : Int} {m : Nat} {e : Int} (hm : 0 < m) (k : Nat) : rdF p least (m * 2 ^ k) e = rdF p least m (e + k) := by
  unfold rdF
  rw [nb_mul hm]
  congr 1
  omega
theorem rdK_scale {p : Nat} {least : Int} {m : Nat} {e : Int} (hm : 0 < m) (k : Nat) : rdK p least (m * 2 ^ k) e false = rdK p least m (e + k) false := by
  have hS : rdS p least (m * 2 ^ k) e = rdS p least m (e + k) + k := by
    unfold rdS
    rw [rdF_scale hm]
    omega
  unfold rdK
  rw [hS]
  generalize rdS p least m (e + k) = S
  rw [Nat.mul_assoc, ← Nat.pow_add]
  rcases Int.lt_or_le S 0 with q | q
  · rw [show S.toNat = 0 by omega, rn_0]
    rcases Int.lt_or_le (S + k) 0 with q2 | q2
    · rw [show (S + k).toNat = 0 by omega, rn_0]
      congr 2
      omega
    · have e1 : k + (-(S + k)).toNat = (S + k).toNat + (- S).toNat := by omega
      rw [e1, rn_up]
  · have e1 : k + (-(S + k)).toNat = k := by omega
    have e2 : (S + k).toNat = S.toNat + k := by omega
    have e3 : (- S).toNat = 0 := by omega
    rw [e1, e2, rn_scale, e3, Nat.pow_zero, Nat.mul_one]
theorem fRd_scale (m : Nat) (e : Int) (k : Nat) : fRd (m * 2 ^ k) e false = fRd m (e + k) false := by
  have hk := Nat.two_pow_pos k
  unfold fRd
  rcases Nat.eq_zero_or_pos m with q | q
  · subst q; simp
  · have : 0 < m * 2 ^ k := Nat.mul_pos q hk
    rw [if_neg (show ¬ m * 2 ^ k = 0 by omega), if_neg (show ¬ m = 0 by omega), rdF_scale q, rdK_scale q]
theorem rdF_coarse {p : Nat} {least : Int} {m : Nat} {e : Int} {k : Nat} (h : k < nb m) : rdF p least (m / 2 ^ k) (e + k) = rdF p least m e := by
  unfold rdF
  rw [nb_div h]
  congr 1
  omega
theorem rdK_coarse {p : Nat} {least : Int} {m : Nat} {e : Int} {s : Bool} {k : Nat} (h : p + k < nb m) : rdK p least (m / 2 ^ k) (e + k) (s || decide (m % 2 ^ k ≠ 0)) = rdK p least m e s := by
  have hS : rdS p least (m / 2 ^ k) (e + k) + k = rdS p least m e := by
    unfold rdS
    rw [rdF_coarse (by omega)]
    omega
  have hS2 : k + 1 ≤ rdS p least m e := by
    unfold rdS rdF
    omega
  unfold rdK
  rw [← hS]
  generalize hs : rdS p least (m / 2 ^ k) (e + k) = S
  have e1 : (- S).toNat = 0 := by omega
  have e2 : (-(S + k)).toNat = 0 := by omega
  have e3 : (S + k).toNat = (S.toNat - 1) + 1 + k := by omega
  have e4 : S.toNat = (S.toNat - 1) + 1 := by omega
  rw [e1, e2, e3, Nat.pow_zero, Nat.mul_one, Nat.mul_one, rn_coarse, ← e4]
theorem fRd_coarse {m : Nat} {e : Int} {s : Bool} {k : Nat} (h : 53 + k < nb m) : fRd (m / 2 ^ k) (e + k) (s || decide (m % 2 ^ k ≠ 0)) = fRd m e s := by
  have h0 : m ≠ 0 := by
    intro q
    subst q
    simp [nb] at h
  have h1 : m / 2 ^ k ≠ 0 := by
    intro q
    have := nb_div (m := m) (k := k) (by omega)
    rw [q, nb_0] at this
    omega
  unfold fRd
  rw [if_neg h0, if_neg h1, rdF_coarse (by omega), rdK_coarse h]
/-- two views that have the same coarser view round alike -/
theorem fRd_view {m n : Nat} {e f : Int} {s t : Bool} {j k : Nat} (hm : 53 + j < nb m) (hn : 53 + k < nb n) (he : e + j = f + k) (hd : m / 2 ^ j = n / 2 ^ k) (hs : (s || decide (m % 2 ^ j ≠ 0)) = (t || decide (n % 2 ^ k ≠ 0))) : fRd m e s = fRd n f t := by
  rw [← fRd_coarse hm, ← fRd_coarse hn, he, hd, hs]
theorem fRd_jam {m : Nat} {e : Int} {s : Bool} (h : 54 < nb m) : fRd (if s = true ∧ m % 2 = 0 then m + 1 else m) e false = fRd m e s := by
  by_cases c : s = true ∧ m % 2 = 0
  · rw [if_pos c]
    have h1 : nb (m + 1) = nb m := by
      have h0 : 0 < m := by
        rcases Nat.eq_zero_or_pos m with q | q
        · subst q; simp [nb] at h
        · exact q
      have a := nb_lt m
      have b := nb_ge h0
      have d : nb m = (nb m - 1) + 1 := by omega
      have ev : 2 ^ nb m = 2 * 2 ^ (nb m - 1) := by rw [← Nat.pow_succ']; congr 1
      rw [d]
      apply nb_uniq
      · omega
      · rw [← d]; omega
    refine fRd_view (j := 1) (k := 1) (by omega) (by omega) rfl ?_ ?_
    · omega
    · have e1 : (m + 1) % 2 ^ 1 ≠ 0 := by omega
      rw [c.1]
      simp only [Bool.true_or, Bool.false_or, decide_eq_true_eq]
      exact e1
  · rw [if_neg c]
    cases s with
    | false => rfl
    | true =>
      refine fRd_view (j := 1) (k := 1) (by omega) (by omega) rfl rfl ?_
      have e1 : m % 2 ^ 1 ≠ 0 := by simp at c; omega
      simp only [Bool.true_or, Bool.false_or, decide_eq_true_eq]
      exact e1
