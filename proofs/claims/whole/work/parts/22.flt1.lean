/-! leading zeros, number of bits -/
theorem lz_73 {v : Nat} {z : Int} (h0 : 0 < v) (h : v < 4) : fJ6_numberOfLeadingZeros_0f7a4_73 (nI v) (iZ z) = iZ (z + 1 - nb v) := by
  unfold fJ6_numberOfLeadingZeros_0f7a4_73
  rw [pk_ushrN (by omega) 1 1 (by decide), iZ_nI, iZ_sub]
  have : v = 1 ∨ v = 2 ∨ v = 3 := by omega
  rcases this with r | r | r
  · subst r
    have : nb 1 = 1 := by decide
    rw [this]; congr 1; omega
  · subst r
    have : nb 2 = 2 := by decide
    rw [this]; congr 1; omega
  · subst r
    have : nb 3 = 2 := by decide
    rw [this]; congr 1; omega
theorem lz_61 {v : Nat} {z : Int} (h0 : 0 < v) (h : v < 16) : fJ6_numberOfLeadingZeros_0f7a4_61 (nI v) (iZ z) = iZ (z + 1 - nb v) := by
  unfold fJ6_numberOfLeadingZeros_0f7a4_61
  by_cases c : v < 4
  · rw [if_pos (show nI v < 4 from (nI_ltI (b := 4) (by omega) (by decide)).mpr c), lz_73 h0 c]
  · rw [if_neg (show ¬ nI v < 4 from fun x => c ((nI_ltI (b := 4) (by omega) (by decide)).mp x))]
    unfold fJ6_numberOfLeadingZeros_0f7a4_69
    have e := nb_div (m := v) (k := 2) (nb_gt (by omega))
    have e3 : 2 < nb v := nb_gt (by omega)
    rw [pk_ushrN (by omega) 2 2 (by decide), show (-2 : Int32) = iZ (-2) by decide, iZ_add, lz_73 (by omega) (by omega), e]
    congr 1
    omega
theorem lz_48 {v : Nat} {z : Int} (h0 : 0 < v) (h : v < 256) : fJ6_numberOfLeadingZeros_0f7a4_48 (nI v) (iZ z) = iZ (z + 1 - nb v) := by
  unfold fJ6_numberOfLeadingZeros_0f7a4_48
  by_cases c : v < 16
  · rw [if_pos (show nI v < 16 from (nI_ltI (b := 16) (by omega) (by decide)).mpr c), lz_61 h0 c]
  · rw [if_neg (show ¬ nI v < 16 from fun x => c ((nI_ltI (b := 16) (by omega) (by decide)).mp x))]
    unfold fJ6_numberOfLeadingZeros_0f7a4_57
    have e := nb_div (m := v) (k := 4) (nb_gt (by omega))
    have e3 : 4 < nb v := nb_gt (by omega)
    rw [pk_ushrN (by omega) 4 4 (by decide), show (-4 : Int32) = iZ (-4) by decide, iZ_add, lz_61 (by omega) (by omega), e]
    congr 1
    omega
theorem lz_33 {v : Nat} {z : Int} (h0 : 0 < v) (h : v < 65536) : fJ6_numberOfLeadingZeros_0f7a4_33 (nI v) (iZ z) = iZ (z + 1 - nb v) := by
  unfold fJ6_numberOfLeadingZeros_0f7a4_33
  by_cases c : v < 256
  · rw [if_pos (show nI v < 256 from (nI_ltI (b := 256) (by omega) (by decide)).mpr c), lz_48 h0 c]
  · rw [if_neg (show ¬ nI v < 256 from fun x => c ((nI_ltI (b := 256) (by omega) (by decide)).mp x))]
    unfold fJ6_numberOfLeadingZeros_0f7a4_43
    have e := nb_div (m := v) (k := 8) (nb_gt (by omega))
    have e3 : 8 < nb v := nb_gt (by omega)
    rw [pk_ushrN (by omega) 8 8 (by decide), show (-8 : Int32) = iZ (-8) by decide, iZ_add, lz_48 (by omega) (by omega), e]
    congr 1
    omega
theorem lz_32 {v : Nat} (h0 : 0 < v) (h : v < 2147483648) : fJ6_numberOfLeadingZeros_0f7a4 (nI v) = iZ (32 - nb v) := by
  unfold fJ6_numberOfLeadingZeros_0f7a4
  rw [if_pos (show (0 : Int32) < nI v from (nI_ltI (a := 0) (by decide) (by omega)).mpr h0)]
  by_cases c : v < 65536
  · rw [if_pos (show nI v < 65536 from (nI_ltI (b := 65536) (by omega) (by decide)).mpr c)]
    exact lz_33 (z := 31) h0 c
  · rw [if_neg (show ¬ nI v < 65536 from fun x => c ((nI_ltI (b := 65536) (by omega) (by decide)).mp x))]
    unfold fJ6_numberOfLeadingZeros_0f7a4_28
    have e := nb_div (m := v) (k := 16) (nb_gt (by omega))
    have e3 : 16 < nb v := nb_gt (by omega)
    rw [pk_ushrN (by omega) 16 16 (by decide), show (31 : Int32) + (-16) = iZ 15 by decide, lz_33 (by omega) (by omega), e]
    congr 1
    omega
theorem fl_nlz {m : Nat} (h0 : 0 < m) (h : m < 2 ^ 63) : fJ13_numberOfLeadingZeros_95d88 (lN m) = iZ (64 - nb m) := by
  unfold fJ13_numberOfLeadingZeros_95d88 fJ13_numberOfLeadingZeros_95d88_6
  have e0 : ((lN m).toUInt64 >>> ((32 : Int32).toInt64.toUInt64 &&& Int64.toUInt64 63)).toInt64 = lN (m / 4294967296) := wb_shr (k := 32) (by omega) (by decide)
  rw [e0, lN_i, lN_i]
  by_cases c : m < 4294967296
  · rw [if_pos (show nI (m / 4294967296) = 0 by rw [Nat.div_eq_of_lt c]; rfl)]
    by_cases c2 : m < 2147483648
    · rw [lz_32 h0 c2, show (32 : Int32) = iZ 32 from rfl, iZ_add]
      congr 1
      omega
    · have e1 : nb m = 32 := nb_uniq (by omega) (by omega)
      have e2 : nI m < 0 := by
        have := BitVec.toInt_eq_toNat_cond (nI m).toBitVec
        rw [pk_tn c] at this
        rw [Int32.lt_iff_toInt_lt]
        show (nI m).toBitVec.toInt < 0
        rw [this, if_neg (by omega)]
        omega
      unfold fJ6_numberOfLeadingZeros_0f7a4
      have e3 : ¬ (0 : Int32) < nI m := by
        rw [Int32.lt_iff_toInt_lt] at *
        have : (0 : Int32).toInt = 0 := by decide
        omega
      have e4 : ¬ nI m = 0 := by
        intro z
        rw [z] at e2
        exact absurd e2 (by decide)
      rw [if_neg e3, if_neg e4, e1]
      decide
  · have c1 : 0 < m / 4294967296 := by omega
    rw [if_neg (nI_ne0 c1 (by omega)), lz_32 c1 (by omega)]
    have e := nb_div (m := m) (k := 32) (nb_gt (by omega))
    have e3 : 32 < nb m := nb_gt (by omega)
    rw [show (4294967296 : Nat) = 2 ^ 32 by decide, e]
    congr 1
    omega
theorem bo_0 {m : Nat} {q : Nat} {z : Int} (h0 : 0 < m) (h : m < 2 ^ 63) : fX12_bitsOf_9 (q + 1) (lN m) (iZ z) 0 = some (iZ (z + 1)) := by
  unfold fX12_bitsOf_9
  rw [if_pos (by decide), if_neg (show ¬ lN m = 0 from fun x => by have := (pk_lEQ (b := 0) h (by decide)).mp x; omega)]
  exact congrArg some (iZ_add z 1)
theorem bo_s {m b : Nat} {q : Nat} {z : Int} (h : m < 2 ^ 63) (hb : 0 < b) (hb2 : b < 64) : fX12_bitsOf_9 (q + 1) (lN m) (iZ z) (nI b) = if m / 2 ^ b = 0 then fX12_bitsOf_9 q (lN m) (iZ z) (nI (b / 2)) else fX12_bitsOf_9 q (lN (m / 2 ^ b)) (iZ (z + b)) (nI (b / 2)) := by
  have hd : m / 2 ^ b ≤ m := Nat.div_le_self _ _
  rw [fX12_bitsOf_9, if_neg (nI_nle hb (by omega)), wb_shr (by omega) hb2]
  have e1 : nI b / 2 = nI (b / 2) := pk_div (d := 2) (by omega) (by decide) (by decide)
  by_cases c : m / 2 ^ b = 0
  · rw [if_pos c, if_pos (show lN (m / 2 ^ b) = 0 by rw [c]; rfl)]
    unfold fX12_bitsOf_38 fX12_bitsOf_44
    rw [e1]
  · rw [if_neg c, if_neg (show ¬ lN (m / 2 ^ b) = 0 from fun x => by have := (pk_lEQ (b := 0) (by omega) (by decide)).mp x; omega)]
    unfold fX12_bitsOf_33 fX12_bitsOf_38 fX12_bitsOf_44
    rw [e1, wb_shr (by omega) hb2, iZ_nI b, iZ_add]
theorem bo_j : ∀ (j q m : Nat) (z : Int), j < 6 → 0 < m → m < 2 ^ 63 → m < 2 ^ 2 ^ (j + 1) → fX12_bitsOf_9 (q + j + 2) (lN m) (iZ z) (nI (2 ^ j)) = some (iZ (z + nb m))
  | 0, q, m, z, _, h0, h, h2 => by
    have h4 : m < 4 := h2
    rw [show q + 0 + 2 = (q + 1) + 1 by omega, bo_s h (by decide) (by decide), show 2 ^ 0 / 2 = 0 by decide]
    have : m = 1 ∨ m = 2 ∨ m = 3 := by omega
    rcases this with r | r | r
    · subst r
      rw [if_pos (by decide), show nI 0 = 0 from rfl, bo_0 (by decide) (by decide), show nb 1 = 1 by decide]
      rfl
    · subst r
      rw [if_neg (by decide), show nI 0 = 0 from rfl, bo_0 (by decide) (by decide), show nb 2 = 2 by decide]
      congr 2
      omega
    · subst r
      rw [if_neg (by decide), show nI 0 = 0 from rfl, bo_0 (by decide) (by decide), show nb 3 = 2 by decide]
      congr 2
      omega
  | j + 1, q, m, z, hj, h0, h, h2 => by
    have b1 : 2 ^ (j + 1) ≤ 2 ^ 5 := Nat.pow_le_pow_right (by decide) (by omega)
    have b2 : 0 < 2 ^ (j + 1) := Nat.two_pow_pos _
    have e1 : 2 ^ (j + 1) / 2 = 2 ^ j := by rw [Nat.pow_succ]; omega
    rw [show q + (j + 1) + 2 = (q + j + 2) + 1 by omega, bo_s h b2 (by omega), e1]
    by_cases c : m / 2 ^ 2 ^ (j + 1) = 0
    · rw [if_pos c]
      apply bo_j j q m z (by omega) h0 h
      exact (Nat.div_eq_zero_iff_lt (Nat.two_pow_pos _)).mp c
    · have c2 : 2 ^ 2 ^ (j + 1) ≤ m := by
        rcases Nat.lt_or_ge m (2 ^ 2 ^ (j + 1)) with r | r
        · exact absurd (Nat.div_eq_of_lt r) c
        · exact r
      have hd : m / 2 ^ 2 ^ (j + 1) ≤ m := Nat.div_le_self _ _
      have h3 : m / 2 ^ 2 ^ (j + 1) < 2 ^ 2 ^ (j + 1) := by
        rw [Nat.div_lt_iff_lt_mul (Nat.two_pow_pos _), ← Nat.pow_add]
        have : 2 ^ (j + 1) + 2 ^ (j + 1) = 2 ^ (j + 1 + 1) := by rw [Nat.pow_succ 2 (j + 1)]; omega
        rw [this]
        exact h2
      have g := nb_gt c2
      rw [if_neg c, bo_j j q (m / 2 ^ 2 ^ (j + 1)) (z + (2 ^ (j + 1) : Nat)) (by omega) (Nat.pos_of_ne_zero c) (by omega) h3, nb_div g]
      congr 2
      omega
theorem fl_bitsOf {m : Nat} (h : m < 2 ^ 63) : fX12_bitsOf (lN m) = some (iZ (nb m)) := by
  rcases Nat.eq_zero_or_pos m with r | r
  · subst r
    decide +kernel
  · have := bo_j 5 1 m 0 (by decide) r h (Nat.lt_trans h (by decide))
    rw [Int.zero_add] at this
    exact this
