/-! the class's nearest, the reference's nearest -/
theorem mxI_0 {z : Int} (h : -2147483648 ≤ z ∧ z < 2147483648) : mxI 0 (iZ z) = iZ (z.toNat : Int) := by
  unfold mxI
  by_cases c : 0 < z
  · rw [if_pos (show (0 : Int32) < iZ z from (iZ_lt (a := 0) (by omega) h).mpr c)]
    congr 1
    omega
  · rw [if_neg (show ¬ (0 : Int32) < iZ z from fun x => c ((iZ_lt (a := 0) (by omega) h).mp x)), show z.toNat = 0 by omega]
    rfl
theorem rn_small {m k : Nat} {s : Bool} (h : 2 * m < 2 ^ k) : rn m s k = 0 := by
  unfold rn
  rw [Nat.div_eq_of_lt (by omega), Nat.mod_eq_of_lt (by omega), if_neg (by omega)]
def wRd (w bias m : Nat) (e : Int) : Nat := if m = 0 then 0 else if 2 * bias ≤ rdF (w + 1) (1 - bias - w) m e then (2 * bias + 1) * 2 ^ w else rdF (w + 1) (1 - bias - w) m e * 2 ^ w + rdK (w + 1) (1 - bias - w) m e false
theorem wRd_52 (m : Nat) (e : Int) : wRd 52 1023 m e = fRd m e false := by
  unfold wRd fRd
  by_cases c : m = 0
  · rw [if_pos c, if_pos c]
  · rw [if_neg c, if_neg c]
    have e1 : (1 - ((1023 : Nat) : Int) - ((52 : Nat) : Int)) = -1074 := by decide
    rw [e1]
    by_cases d : 2045 < rdF 53 (-1074) m e
    · rw [if_pos (show 2 * 1023 ≤ rdF (52 + 1) (-1074) m e by exact d), if_pos d]
    · rw [if_neg (show ¬ 2 * 1023 ≤ rdF (52 + 1) (-1074) m e by exact d), if_neg d]
/-- the tail of the class's nearest: kept, rest and half are told -/
theorem cn_104 {w c : Nat} {fd : Int} {n : Nat} (hn : n < 2 ^ 63) (hc : 0 < c) (hc2 : c ≤ 63) : fX2_nearest_86 (nI w) (lN n) (iZ fd) (iZ c) (lN (n / 2 ^ c)) = fX2_nearest_135 (nI w) (iZ fd) (lN (rn n false c)) := by
  unfold fX2_nearest_86 fX2_nearest_96 fX2_nearest_104
  have hp : 2 ^ c = 2 * 2 ^ (c - 1) := by rw [← Nat.pow_succ']; congr 1; omega
  have hp2 : 2 ^ (c - 1) ≤ 2 ^ 62 := Nat.pow_le_pow_right (by decide) (by omega)
  have hdm := Nat.div_add_mod n (2 ^ c)
  have hml := Nat.mod_lt n (Nat.two_pow_pos c)
  have hd : n / 2 ^ c ≤ n := Nat.div_le_self _ _
  have e1 : lN n - (lN (n / 2 ^ c) <<< ((iZ c).toInt64 &&& 63)) = lN (n % 2 ^ c) := by
    rw [fl_shl _ (by omega) (by omega), Int.toNat_natCast, lN_sub (by rw [Nat.mul_comm]; omega)]
    congr 1
    rw [Nat.mul_comm]
    omega
  have e2 : (1 : Int64) <<< ((iZ c - 1).toInt64 &&& 63) = lN (2 ^ (c - 1)) := by
    rw [show iZ c - 1 = iZ ((c : Int) - 1) from iZ_sub c 1]
    have := fl_shl 1 (z := (c : Int) - 1) (by omega) (by omega)
    rw [Nat.one_mul, show ((c : Int) - 1).toNat = c - 1 by omega] at this
    exact this
  rw [e1, e2]
  have k1 : lN (2 ^ (c - 1)) < lN (n % 2 ^ c) ↔ 2 ^ c < 2 * (n % 2 ^ c) := by
    rw [pk_lLT (by omega) (by omega)]
    omega
  have k2 : lN (n % 2 ^ c) = lN (2 ^ (c - 1)) ↔ 2 * (n % 2 ^ c) = 2 ^ c := by
    rw [pk_lEQ (by omega) (by omega)]
    omega
  have k3 : lN (n / 2 ^ c) &&& 1 = 0 ↔ ¬ n / 2 ^ c % 2 = 1 := by
    rw [wb_a1 (by omega)]
    have := pk_lEQ (a := n / 2 ^ c % 2) (b := 0) (by omega) (by decide)
    constructor
    · intro x
      have := this.mp x
      omega
    · intro x
      exact this.mpr (by omega)
  unfold fX2_nearest_129
  have e3 : lN (n / 2 ^ c) + 1 = lN (n / 2 ^ c + 1) := lN_1 _
  rw [e3]
  by_cases c1 : 2 ^ c < 2 * (n % 2 ^ c)
  · rw [if_pos (k1.mpr c1), show rn n false c = n / 2 ^ c + 1 by unfold rn; rw [if_pos (Or.inl c1)]]
  · rw [if_neg (fun x => c1 (k1.mp x))]
    by_cases c2 : 2 * (n % 2 ^ c) = 2 ^ c
    · rw [if_pos (k2.mpr c2)]
      by_cases c3 : n / 2 ^ c % 2 = 1
      · rw [if_neg (fun x => (k3.mp x) c3), show rn n false c = n / 2 ^ c + 1 by unfold rn; rw [if_pos (Or.inr ⟨c2, Or.inr c3⟩)]]
      · rw [if_pos (k3.mpr c3), show rn n false c = n / 2 ^ c by unfold rn; rw [if_neg (by simp [c1, c2, c3])]; rfl]
    · rw [if_neg (fun x => c2 (k2.mp x)), show rn n false c = n / 2 ^ c by unfold rn; rw [if_neg (by simp [c1, c2])]; rfl]
theorem cn_g {J w bias : Nat} {z : Int} (h0 : 0 < J) (h : J < 2 ^ 63) (hw : 1 ≤ w) (hw2 : w ≤ 52) (hb : 1 ≤ bias) (hb2 : bias ≤ 1023) (hz : -100000 ≤ z ∧ z ≤ 100000) : fX2_nearest (lN J) (iZ z) (nI w) (nI bias) = lN (wRd w bias J z) := by
  have hn := nb_pos h0
  have hn2 : nb J ≤ 63 := nb_le h
  unfold fX2_nearest
  rw [if_pos (show (0 : Int64) < lN J from (pk_lLT (a := 0) (by decide) h).mpr h0), fl_nlz h0 h]
  have e1 : iZ (64 - nb J) - 1 = iZ ((63 - nb J : Nat) : Int) := by
    rw [show iZ (64 - nb J) - 1 = iZ (64 - nb J - 1) from iZ_sub _ 1]
    congr 1
    omega
  rw [e1]
  unfold fX2_nearest_16
  rw [fl_shl J (by omega) (by omega), Int.toNat_natCast]
  unfold fX2_nearest_22 fX2_nearest_34
  have e2 : iZ z - iZ ((63 - nb J : Nat) : Int) + 62 + nI bias = iZ (z + nb J - 1 + bias) := by
    rw [iZ_nI, iZ_sub, show iZ (z - ((63 - nb J : Nat) : Int)) + 62 = iZ (z - ((63 - nb J : Nat) : Int) + 62) from iZ_add _ 62, iZ_add]
    congr 1
    omega
  have e3 : 2 * nI bias + 1 = iZ (2 * bias + 1) := by
    rw [iZ_nI, show (2 : Int32) * iZ bias = iZ (2 * bias) from iZ_mul 2 bias]
    exact iZ_add _ 1
  rw [e2, e3]
  unfold fX2_nearest_42
  have hF : rdF (w + 1) (1 - bias - w) J z = (z + nb J - 2 + bias).toNat := by
    unfold rdF
    congr 1
    omega
  unfold wRd
  rw [if_neg (show ¬ J = 0 by omega), hF]
  by_cases c1 : z + nb J - 1 + bias < 2 * bias + 1
  · rw [if_pos ((iZ_lt (by omega) (by omega)).mpr c1), if_neg (show ¬ 2 * bias ≤ (z + nb J - 2 + bias).toNat by omega)]
    have e4 : (62 : Int32) - nI w + mxI 0 (1 - iZ (z + nb J - 1 + bias)) = iZ ((62 - w + (2 - z - nb J - bias).toNat : Nat) : Int) := by
      rw [show (1 : Int32) - iZ (z + nb J - 1 + bias) = iZ (1 - (z + nb J - 1 + bias)) from iZ_sub 1 _, mxI_0 (by omega), iZ_nI, show (62 : Int32) - iZ w = iZ (62 - w) from iZ_sub 62 w, iZ_add]
      congr 1
      omega
    rw [e4]
    have hS : rdS (w + 1) (1 - bias - w) J z = ((62 - w + (2 - z - nb J - bias).toNat : Nat) : Int) - ((63 - nb J : Nat) : Int) := by
      unfold rdS
      rw [hF]
      omega
    unfold fX2_nearest_70
    by_cases c2 : 62 - w + (2 - z - nb J - bias).toNat ≤ 63
    · rw [if_pos (show iZ ((62 - w + (2 - z - nb J - bias).toNat : Nat) : Int) ≤ 63 from (iZ_le (b := 63) (by omega) (by omega)).mpr (by omega))]
      have hR : J * 2 ^ (63 - nb J) < 2 ^ 63 := by
        have := Nat.mul_lt_mul_of_pos_right (nb_lt J) (Nat.two_pow_pos (63 - nb J))
        rw [← Nat.pow_add, show nb J + (63 - nb J) = 63 by omega] at this
        exact this
      generalize hcut : 62 - w + (2 - z - nb J - bias).toNat = cut at *
      rw [fl_ushr (by omega) (by omega) (by omega), Int.toNat_natCast, cn_104 hR (by omega) c2]
      have hK : rn (J * 2 ^ (63 - nb J)) false cut = rdK (w + 1) (1 - bias - w) J z false := by
        unfold rdK
        rw [hS]
        rcases Nat.lt_or_ge cut (63 - nb J) with d1 | d1
        · rw [show ((cut : Int) - ((63 - nb J : Nat) : Int)).toNat = 0 by omega, rn_0, show 63 - nb J = cut + (63 - nb J - cut) by omega, rn_up]
          congr 2
          omega
        · rw [show (-((cut : Int) - ((63 - nb J : Nat) : Int))).toNat = 0 by omega, Nat.pow_zero, Nat.mul_one, show cut = (cut - (63 - nb J)) + (63 - nb J) by omega, rn_scale]
          congr 1
          omega
      rw [hK]
      unfold fX2_nearest_135
      rw [show iZ (z + nb J - 1 + bias) - 1 = iZ (z + nb J - 1 + bias - 1) from iZ_sub _ 1, mxI_0 (by omega), iZ_l (by omega) (by omega), iZ_nI w, fl_shl _ (by omega) (by omega), lN_add]
      congr 2
      rw [Int.toNat_natCast, Int.toNat_natCast]
      congr 2
      omega
    · rw [if_neg (show ¬ iZ ((62 - w + (2 - z - nb J - bias).toNat : Nat) : Int) ≤ 63 from fun x => c2 (by have := (iZ_le (b := 63) (by omega) (by omega)).mp x; omega))]
      have hK : rdK (w + 1) (1 - bias - w) J z false = 0 := by
        unfold rdK
        rw [hS]
        apply rn_small
        rw [show (-(((62 - w + (2 - z - nb J - bias).toNat : Nat) : Int) - ((63 - nb J : Nat) : Int))).toNat = 0 by omega, Nat.pow_zero, Nat.mul_one]
        have h1 := nb_lt J
        have h2 : 2 ^ (nb J + 1) ≤ 2 ^ (((62 - w + (2 - z - nb J - bias).toNat : Nat) : Int) - ((63 - nb J : Nat) : Int)).toNat := Nat.pow_le_pow_right (by decide) (by omega)
        rw [Nat.pow_succ] at h2
        omega
      rw [hK, show (z + nb J - 2 + bias).toNat = 0 by omega, Nat.zero_mul]
      rfl
  · rw [if_neg (fun x => c1 ((iZ_lt (by omega) (by omega)).mp x)), if_pos (show 2 * bias ≤ (z + nb J - 2 + bias).toNat by omega), iZ_l (by omega) (by omega), iZ_nI w, fl_shl _ (by omega) (by omega)]
    congr 2
theorem fl_cn {J : Nat} {z : Int} (h : J < 2 ^ 63) (hz : -100000 ≤ z ∧ z ≤ 100000) : fX2_nearest (lN J) (iZ z) 52 1023 = lN (fRd J z false) := by
  rcases Nat.eq_zero_or_pos J with d1 | d1
  · subst d1
    unfold fX2_nearest
    rw [if_neg (by decide)]
    rfl
  · rw [← wRd_52]
    exact cn_g (w := 52) (bias := 1023) d1 h (by decide) (by decide) (by decide) (by decide) hz
