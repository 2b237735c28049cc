/-! numbers of measures -/
def cvN (a : Nat) : Nat := if 0 ≤ un a then dg a * 2 ^ (un a).toNat else dg a / 2 ^ (- un a).toNat
theorem cvN_lt {a : Nat} (h : un a ≤ 10) : cvN a < 9223372036854775808 := by
  unfold cvN
  have hd := dg_lt a
  split
  · have h1 : 2 ^ (un a).toNat ≤ 2 ^ 10 := Nat.pow_le_pow_right (by decide) (by omega)
    have h2 : dg a * 2 ^ (un a).toNat ≤ dg a * 2 ^ 10 := Nat.mul_le_mul_left _ h1
    omega
  · have := Nat.div_le_self (dg a) (2 ^ (- un a).toNat)
    omega
theorem cvN_0 {a : Nat} (h : un a < -52) : cvN a = 0 := by
  unfold cvN
  rw [if_neg (by omega)]
  apply Nat.div_eq_of_lt
  have hd := dg_lt a
  have h1 : 2 ^ 53 ≤ 2 ^ (- un a).toNat := Nat.pow_le_pow_right (by decide) (by omega)
  omega
def sgn64 (s : Bool) (n : Nat) : Int64 := if s then - lN n else lN n
theorem un_div {a : Nat} (h : 4503599627370496 ≤ a) : un a = (a / 4503599627370496 : Nat) - 1075 := by
  unfold un
  rw [if_neg (by omega)]
theorem un_low {a : Nat} (h : a < 4503599627370496) : un a = -1074 := by
  unfold un
  rw [if_pos h]
theorem nb_53 {a : Nat} (h : 4503599627370496 ≤ a) : nb (dg a) = 53 := by
  have hd := dg_lt a
  have h2 : 4503599627370496 ≤ dg a := by unfold dg; rw [if_neg (by omega)]; omega
  exact nb_uniq (k := 52) h2 hd
theorem fl_cutv {s : Bool} {a : Nat} (ha : a < 9223372036854775808) : fX2_cut (sx s a) = if 10 < un a then (if s then (-9223372036854775808) else 9223372036854775807) else sgn64 s (cvN a) := by
  unfold fX2_cut fX2_cut_5
  rw [sx_expo ha]
  have hu := un_rng ha
  have hq : a / 4503599627370496 < 2048 := by omega
  have k1 : (0 : Int32) ≤ iZ ((a / 4503599627370496 : Nat) - 1023) ↔ (0 : Int) ≤ (a / 4503599627370496 : Nat) - 1023 := iZ_le (a := 0) (by omega) (by omega)
  have k2 : iZ ((a / 4503599627370496 : Nat) - 1023) ≤ (62 : Int32) ↔ ((a / 4503599627370496 : Nat) : Int) - 1023 ≤ 62 := iZ_le (b := 62) (by omega) (by omega)
  have kn : (if 0 ≤ sx s a then (9223372036854775807 : Int64) else (-9223372036854775808)) = if s then (-9223372036854775808) else 9223372036854775807 := by
    cases s with
    | false => rw [if_pos ((sx_nneg ha).mpr rfl)]; rfl
    | true => rw [if_neg (sx_ng ha)]; rfl
  rw [kn]
  by_cases c1 : 1023 ≤ a / 4503599627370496
  · have hn : 4503599627370496 ≤ a := by omega
    have hd := un_div hn
    rw [if_pos (k1.mpr (by omega))]
    by_cases c2 : a / 4503599627370496 ≤ 1085
    · rw [if_pos (k2.mpr (by omega)), if_neg (show ¬ 10 < un a by omega)]
      have e58 : ∀ n, fX2_cut_58 (sx s a) (lN n) = sgn64 s n := by
        intro n
        unfold fX2_cut_58 sgn64
        cases s with
        | false => rw [if_pos ((sx_nneg ha).mpr rfl)]; rfl
        | true => rw [if_neg (sx_ng ha)]; rfl
      have eu : iZ ((a / 4503599627370496 : Nat) - 1023) - 52 = iZ (un a) := by
        rw [show iZ ((a / 4503599627370496 : Nat) - 1023) - 52 = iZ ((a / 4503599627370496 : Nat) - 1023 - 52) from iZ_sub _ 52]
        congr 1
        omega
      have es : fX2_significand (sx s a) = lN (dg a) := by
        rw [sx_sig (by omega) ha, nb_53 hn, Nat.sub_self, Nat.pow_zero, Nat.mul_one]
      have hdg := dg_lt a
      unfold fX2_cut_38
      rw [eu, es]
      unfold cvN
      have k3 : (0 : Int32) ≤ iZ (un a) ↔ (0 : Int) ≤ un a := iZ_le (a := 0) (by omega) (by omega)
      by_cases c3 : 0 ≤ un a
      · rw [if_pos (k3.mpr c3), if_pos c3, fl_shl _ c3 (by omega), e58]
      · rw [if_neg (fun h => c3 (k3.mp h)), if_neg c3, iZ_neg, fl_ushr (by omega) (by omega) (by omega), e58]
    · rw [if_neg (fun h => by have := k2.mp h; omega), if_pos (show 10 < un a by omega)]
  · rw [if_neg (fun h => by have := k1.mp h; omega)]
    have h52 : un a < -52 := by
      by_cases c : 4503599627370496 ≤ a
      · rw [un_div c]; omega
      · rw [un_low (by omega)]; omega
    rw [if_neg (show ¬ 10 < un a by omega), cvN_0 h52]
    cases s <;> rfl
theorem inf_un {a : Nat} (h : a = 9218868437227405312) : un a = 972 := by subst h; decide
theorem fl_tow {s : Bool} {a : Nat} {l m : Int64} (ha : a < 9223372036854775808) : fX12_towards (sx s a) l m = if 10 < un a then (if s then l else m) else fX12_towards_106 l m (sgn64 s (cvN a)) := by
  unfold fX12_towards fX12_towards_6 fX12_towards_12 fX12_towards_26
  rw [sx_digits ha, sx_unit ha]
  have hu := un_rng ha
  have k1 : iZ (un a) ≤ (10 : Int32) ↔ un a ≤ 10 := iZ_le (b := 10) (by omega) (by omega)
  have e0 : ∀ v n, fX12_towards_31 (sx s a) l m v n 1 = if s then l else m := by
    intro v n
    unfold fX12_towards_31 fX12_towards_72
    rw [if_neg (show ¬ (1 : Int32) = 0 by decide), if_neg (show ¬ (1 : Int32) = 0 by decide)]
    cases s with
    | false => rw [if_pos ((sx_nneg ha).mpr rfl)]; rfl
    | true => rw [if_neg (sx_ng ha)]; rfl
  have e1 : ∀ n, fX12_towards_72 (sx s a) l m 0 (lN n) = fX12_towards_106 l m (sgn64 s n) := by
    intro n
    unfold fX12_towards_72 sgn64
    rw [if_pos rfl]
    cases s with
    | false => rw [if_pos ((sx_nneg ha).mpr rfl)]; rfl
    | true => rw [if_neg (sx_ng ha)]; rfl
  by_cases c1 : un a ≤ 10
  · have hni : fX12_isInfinite (sx s a) = 0 := by
      rw [(sx_inf ha).2, (sx_inf ha).1]
      intro h
      have := inf_un h
      omega
    rw [if_pos hni, if_pos (k1.mpr c1), if_neg (show ¬ 10 < un a by omega)]
    unfold fX12_towards_31
    rw [if_pos rfl]
    have k2 : iZ (un a) < (0 : Int32) ↔ un a < 0 := iZ_lt (b := 0) (by omega) (by omega)
    have k3 : (-60 : Int32) ≤ iZ (un a) ↔ (-60 : Int) ≤ un a := by rw [show (-60 : Int32) = iZ (-60) by decide]; exact iZ_le (by omega) (by omega)
    have hdg := dg_lt a
    by_cases c2 : un a < 0
    · rw [if_pos (k2.mpr c2)]
      by_cases c3 : -60 ≤ un a
      · rw [if_pos (k3.mpr c3), iZ_neg, fl_shr (by omega) (by omega) (by omega), e1]
        unfold cvN
        rw [if_neg (show ¬ 0 ≤ un a by omega)]
      · rw [if_neg (fun h => c3 (k3.mp h)), cvN_0 (by omega)]
        exact e1 0
    · rw [if_neg (fun h => c2 (k2.mp h)), fl_shl _ (by omega) (by omega), e1]
      unfold cvN
      rw [if_pos (show 0 ≤ un a by omega)]
  · rw [if_neg (fun h => c1 (k1.mp h)), e0, if_pos (show 10 < un a by omega)]
    split <;> rfl
theorem tow_106 (t : Int64) : fX12_towards_106 (-9223372036854775808) 9223372036854775807 t = t := by
  unfold fX12_towards_106
  have h1 := Int64.le_toInt t
  have h2 := Int64.toInt_lt t
  have e1 : (-9223372036854775808 : Int64).toInt = -9223372036854775808 := by decide
  have e2 : (9223372036854775807 : Int64).toInt = 9223372036854775807 := by decide
  rw [if_pos (by rw [Int64.le_iff_toInt_le, e1]; omega), if_pos (by rw [Int64.le_iff_toInt_le, e2]; omega)]
theorem fl_tow64 (x : Int64) : fX12_towards x (-9223372036854775808) 9223372036854775807 = fX2_cut x := by
  obtain ⟨s1_, a1_, ha1_, rfl⟩ := sx_of x
  rw [fl_tow ha1_, fl_cutv ha1_, tow_106]
theorem tow_w (t : Int64) : fX12_towards_106 (-2147483648) 2147483647 t = fX11_within32 t := by
  unfold fX12_towards_106 fX11_within32 mxJ mnJ
  have e1 : (-2147483648 : Int64).toInt = -2147483648 := by decide
  have e2 : (2147483647 : Int64).toInt = 2147483647 := by decide
  by_cases c1 : (-2147483648 : Int64) ≤ t
  · rw [if_pos c1]
    by_cases c2 : t ≤ 2147483647
    · rw [if_pos c2]
      by_cases c3 : t < 2147483647
      · rw [if_pos c3]
        rw [if_neg]
        rw [Int64.lt_iff_toInt_lt]
        rw [Int64.le_iff_toInt_le] at c1
        omega
      · rw [if_neg c3, if_neg (show ¬ (2147483647 : Int64) < -2147483648 by decide)]
        rw [Int64.lt_iff_toInt_lt] at c3
        rw [Int64.le_iff_toInt_le] at c2
        exact Int64.toInt_inj.mp (by omega)
    · rw [if_neg c2, if_neg (show ¬ t < 2147483647 from fun h => c2 (by rw [Int64.lt_iff_toInt_lt] at h; rw [Int64.le_iff_toInt_le]; omega)), if_neg (show ¬ (2147483647 : Int64) < -2147483648 by decide)]
  · rw [if_neg c1]
    have c2 : t < 2147483647 := by
      rw [Int64.le_iff_toInt_le] at c1
      rw [Int64.lt_iff_toInt_lt]
      omega
    rw [if_pos c2, if_pos]
    rw [Int64.le_iff_toInt_le] at c1
    rw [Int64.lt_iff_toInt_lt]
    omega
theorem fl_tow32 (x : Int64) : fX12_towards x (-2147483648) 2147483647 = fX11_within32 (fX2_cut x) := by
  obtain ⟨s1_, a1_, ha1_, rfl⟩ := sx_of x
  rw [fl_tow ha1_, fl_cutv ha1_]
  split
  · cases s1_ <;> decide
  · rw [tow_w]
theorem sgn64_int {s : Bool} {n : Nat} (h : n < 9223372036854775808) : (sgn64 s n).toInt = if s then - (n : Int) else n := by
  unfold sgn64
  cases s with
  | false => exact fl_lI h
  | true =>
    show (- lN n).toInt = - (n : Int)
    by_cases c : n = 0
    · subst c; decide
    · have e : - lN n = sx true (9223372036854775808 - n) := by
        rw [fl_minus (by omega)]
        show _ = lN (9223372036854775808 + (9223372036854775808 - n))
        congr 1
        omega
      rw [e, sx_toInt (by omega)]
      simp only [if_true]
      omega
theorem hu_eq {d : Int} {s : Nat} (h : 1 ≤ s) : (2 * d + 2 ^ s) / 2 ^ (s + 1) = (d + 2 ^ (s - 1)) / 2 ^ s := by
  have e : (2 : Int) ^ s = 2 * 2 ^ (s - 1) := by
    rw [show s = (s - 1) + 1 by omega, Int.pow_succ, Nat.add_sub_cancel]
    omega
  have e2 : (2 : Int) ^ (s + 1) = 2 * 2 ^ s := by rw [Int.pow_succ]; omega
  rw [e2, show 2 * d + 2 ^ s = 2 * (d + 2 ^ (s - 1)) by rw [e]; omega]
  exact Int.mul_ediv_mul_of_pos _ _ (by decide)
