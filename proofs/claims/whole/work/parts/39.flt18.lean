/-! rounded, step, exponent, singled -/
theorem shr_int {x : Int64} {k : Nat} (hk : k < 64) : (x >>> ((nI k).toInt64 &&& 63)).toInt = x.toInt / 2 ^ k := by
  rw [fl_shrI x hk, Int.shiftRight_eq_div_pow]
  norm_cast
theorem p2_int {k : Nat} (hk : k < 63) : (lN (2 ^ k)).toInt = 2 ^ k := by
  have h : 2 ^ k < 2 ^ 63 := wb_lt2 hk
  rw [fl_lI (by omega)]
  norm_cast
theorem add_int {x y : Int64} (h : -9223372036854775808 ≤ x.toInt + y.toInt) (h2 : x.toInt + y.toInt < 9223372036854775808) : (x + y).toInt = x.toInt + y.toInt := by
  rw [Int64.toInt_add]
  apply Int.bmod_eq_of_le <;> omega
theorem one_shl {k : Nat} (hk : k < 63) : (1 : Int64) <<< ((nI k).toInt64 &&& 63) = lN (2 ^ k) := by
  have := wb_shl 1 (k := k) (by omega)
  rw [Nat.one_mul] at this
  exact this
theorem p2_le {k : Nat} (h : k ≤ 54) : (2 : Int) ^ k ≤ 18014398509481984 := by
  have h1 : 2 ^ k ≤ 2 ^ 54 := Nat.pow_le_pow_right (by decide) h
  have h2 : ((2 ^ k : Nat) : Int) ≤ ((2 ^ 54 : Nat) : Int) := Int.ofNat_le.mpr h1
  rw [Int.natCast_pow] at h2
  exact h2
theorem p2_pos (k : Nat) : (0 : Int) < 2 ^ k := Int.pow_pos (by decide)
theorem rd_60 {s : Bool} {d k : Nat} (hd : d < 9007199254740992) (h1 : 1 ≤ k) (hk : k ≤ 54) : (fX12_rounded_60 (nI k) (sgn64 s (2 * d))).toInt = ((if s then - (d : Int) else d) + 2 ^ (k - 1)) / 2 ^ k := by
  unfold fX12_rounded_60
  have p1 := p2_le hk
  have p0 := p2_pos k
  have e1 : nI k + 1 = nI (k + 1) := by
    rw [iZ_nI, iZ_nI]
    refine (iZ_add k 1).trans ?_
    congr 1
  have hi : (sgn64 s (2 * d)).toInt = 2 * (if s then - (d : Int) else d) := by
    rw [sgn64_int (by omega)]
    cases s <;> simp <;> omega
  have hb : -9007199254740992 < (if s then - (d : Int) else d) ∧ (if s then - (d : Int) else d) < 9007199254740992 := by
    cases s <;> simp <;> omega
  rw [e1, one_shl (by omega), shr_int (by omega), add_int, hi, p2_int (by omega), hu_eq h1]
  · rw [hi, p2_int (by omega)]
    omega
  · rw [hi, p2_int (by omega)]
    omega
theorem hu_46 {s : Bool} {d k : Nat} (hd : d < 9007199254740992) (h1 : 1 ≤ k) (hk : k ≤ 54) : (fX2_halfUp_46 (nI k) (sgn64 s d)).toInt = ((if s then - (d : Int) else d) + 2 ^ (k - 1)) / 2 ^ k := by
  unfold fX2_halfUp_46
  have p1 := p2_le (show k - 1 ≤ 54 by omega)
  have p0 := p2_pos (k - 1)
  have e1 : nI k - 1 = nI (k - 1) := by
    rw [iZ_nI, iZ_nI]
    refine (iZ_sub k 1).trans ?_
    congr 1
    omega
  have hi : (sgn64 s d).toInt = (if s then - (d : Int) else d) := sgn64_int (by omega)
  have hb : -9007199254740992 < (if s then - (d : Int) else d) ∧ (if s then - (d : Int) else d) < 9007199254740992 := by
    cases s <;> simp <;> omega
  rw [e1, one_shl (by omega), shr_int (by omega), add_int, hi, p2_int (by omega)]
  · rw [hi, p2_int (by omega)]
    omega
  · rw [hi, p2_int (by omega)]
    omega
theorem fl_rnd (x : Int64) (hx : fX2_isLost x = 0) : fX12_rounded x = fX2_halfUp x := by
  obtain ⟨s1_, a1_, ha1_, rfl⟩ := sx_of x
  have hl := (sx_lost ha1_).1.mp hx
  have hu := un_rng ha1_
  have hdg := dg_lt a1_
  unfold fX12_rounded fX12_rounded_14 fX2_halfUp fX2_halfUp_5
  rw [fl_tow64, sx_unit ha1_, sx_expo ha1_]
  have hq : a1_ / 4503599627370496 < 2048 := by omega
  have k1 : (-1 : Int32) ≤ iZ ((a1_ / 4503599627370496 : Nat) - 1023) ↔ (-1 : Int) ≤ (a1_ / 4503599627370496 : Nat) - 1023 := by rw [show (-1 : Int32) = iZ (-1) by decide]; exact iZ_le (by omega) (by omega)
  have k2 : iZ ((a1_ / 4503599627370496 : Nat) - 1023) < (52 : Int32) ↔ ((a1_ / 4503599627370496 : Nat) : Int) - 1023 < 52 := iZ_lt (b := 52) (by omega) (by omega)
  have k3 : iZ (un a1_) < (0 : Int32) ↔ un a1_ < 0 := iZ_lt (b := 0) (by omega) (by omega)
  by_cases c1 : a1_ < 4841369599423283200
  · have hun := (un_neg ha1_).mpr c1
    have hni : fX12_isInfinite (sx s1_ a1_) = 0 := by
      rw [(sx_inf ha1_).2, (sx_inf ha1_).1]
      omega
    rw [if_pos hni, if_pos (k3.mpr hun), if_pos (k2.mpr (by omega)), iZ_neg]
    have k4 : iZ (- un a1_) ≤ (54 : Int32) ↔ - un a1_ ≤ 54 := iZ_le (b := 54) (by omega) (by omega)
    unfold fX12_rounded_31 fX12_rounded_48
    rw [sx_digits ha1_]
    have e48 : (if 0 ≤ sx s1_ a1_ then fX12_rounded_60 (iZ (- un a1_)) (2 * lN (dg a1_)) else fX12_rounded_60 (iZ (- un a1_)) (- (2 * lN (dg a1_)))) = fX12_rounded_60 (iZ (- un a1_)) (sgn64 s1_ (2 * dg a1_)) := by
      rw [show (2 : Int64) * lN (dg a1_) = lN (2 * dg a1_) from lN_mul 2 (dg a1_)]
      unfold sgn64
      cases s1_ with
      | false => rw [if_pos ((sx_nneg ha1_).mpr rfl)]; rfl
      | true => rw [if_neg (sx_ng ha1_)]; rfl
    rw [e48]
    by_cases c2 : - un a1_ ≤ 54
    · have hn : 4503599627370496 ≤ a1_ := by
        by_cases c : 4503599627370496 ≤ a1_
        · exact c
        · have := un_low (a := a1_) (by omega)
          omega
      have hd := un_div hn
      have hz : iZ (- un a1_) = nI (- un a1_).toNat := by
        rw [iZ_nI]
        congr 1
        omega
      rw [if_pos (k4.mpr c2), hz]
      apply Int64.toInt_inj.mp
      rw [rd_60 hdg (by omega) (by omega)]
      by_cases c3 : - un a1_ ≤ 53
      · rw [if_pos (k1.mpr (by omega))]
        unfold fX2_halfUp_28
        have es : fX2_significand (sx s1_ a1_) = lN (dg a1_) := by
          rw [sx_sig (by omega) ha1_, nb_53 hn, Nat.sub_self, Nat.pow_zero, Nat.mul_one]
        have ek : (52 : Int32) - iZ ((a1_ / 4503599627370496 : Nat) - 1023) = nI (- un a1_).toNat := by
          rw [iZ_nI]
          refine (iZ_sub 52 _).trans ?_
          congr 1
          omega
        have e28 : (if 0 ≤ sx s1_ a1_ then fX2_halfUp_46 (nI (- un a1_).toNat) (lN (dg a1_)) else fX2_halfUp_46 (nI (- un a1_).toNat) (- lN (dg a1_))) = fX2_halfUp_46 (nI (- un a1_).toNat) (sgn64 s1_ (dg a1_)) := by
          unfold sgn64
          cases s1_ with
          | false => rw [if_pos ((sx_nneg ha1_).mpr rfl)]; rfl
          | true => rw [if_neg (sx_ng ha1_)]; rfl
        rw [es, ek, e28, hu_46 hdg (by omega) (by omega)]
      · rw [if_neg (show ¬ (-1 : Int32) ≤ iZ ((a1_ / 4503599627370496 : Nat) - 1023) from fun h => by have := k1.mp h; omega), show (- un a1_).toNat = 54 by omega]
        have e0 : (0 : Int64).toInt = 0 := by decide
        rw [e0]
        apply Int.ediv_eq_zero_of_lt
        · cases s1_ <;> simp <;> omega
        · cases s1_ <;> simp <;> omega
    · rw [if_neg (show ¬ iZ (- un a1_) ≤ 54 from fun h => c2 (k4.mp h)), if_neg]
      intro h
      have h2 := k1.mp h
      have hd := un_div (a := a1_) (by omega)
      omega
  · have hun : ¬ un a1_ < 0 := fun h => c1 ((un_neg ha1_).mp h)
    rw [if_neg (show ¬ iZ (un a1_) < 0 from fun h => hun (k3.mp h)), if_pos (k1.mpr (by omega)), if_neg (show ¬ iZ ((a1_ / 4503599627370496 : Nat) - 1023) < 52 from fun h => by have := k2.mp h; omega)]
    split <;> rfl
theorem fRd_1u {a : Nat} : fRd 1 (-1074) false = 1 := by
  have := fRd_exact (K := 1) (F := 0) (by decide) (by decide) (Or.inl rfl) (by decide)
  exact this
theorem fl_step (x : Int64) (hx : can64 x) : fX12_singled 6 x = some (fX2_step x) := by
  have e0 : fX12_singled 6 x = (if (fX12_isLost x) = 0 then (if (fX12_isInfinite x) = 0 then (Option.bind (fX12_made 0 1 (fX12_unit x) 0) (fun c150 => some c150)) else some 9218868437227405312) else some 9221120237041090560) := by
    unfold fX12_singled
    rw [if_neg (show ¬ (6 : Int32) = 0 by decide), if_neg (show ¬ (6 : Int32) = 1 by decide), if_neg (show ¬ (6 : Int32) = 2 by decide), if_neg (show ¬ (6 : Int32) = 3 by decide), if_neg (show ¬ (6 : Int32) = 4 by decide), if_neg (show ¬ (6 : Int32) = 5 by decide), if_pos (show (6 : Int32) = 6 by decide)]
  rw [e0]
  obtain ⟨s1_, a1_, ha1_, rfl⟩ := sx_of x
  have hu := un_rng ha1_
  unfold fX2_step fX2_step_14 fX2_step_24 fX2_magnitude
  rw [sx_mag ha1_]
  by_cases c1 : fX2_isLost (sx s1_ a1_) = 0
  · rw [if_pos (show fX12_isLost (sx s1_ a1_) = 0 from c1), if_pos c1]
    by_cases c2 : fX2_isInfinite (sx s1_ a1_) = 0
    · rw [if_pos (show fX12_isInfinite (sx s1_ a1_) = 0 from c2), if_pos c2, sx_unit ha1_, sx_expo ha1_]
      have hm := fl_mn (b := 0) (t := 0) (m := 1) (e := un a1_) (by decide) (by omega)
      have hl := fRd_lt 1 (un a1_) false
      rw [show decide ((0 : Int32) ≠ 0) = false from rfl, sgB_or (by omega), show decide ((0 : Int32) ≠ 0) = false from rfl, sx_f] at hm
      have hm' : fX12_made 0 1 (iZ (un a1_)) 0 = some (lN (fRd 1 (un a1_) false)) := hm
      rw [hm', Option.bind_some]
      have k1 : (-1022 : Int32) ≤ iZ ((a1_ / 4503599627370496 : Nat) - 1023) ↔ (-1022 : Int) ≤ (a1_ / 4503599627370496 : Nat) - 1023 := by rw [show (-1022 : Int32) = iZ (-1022) by decide]; exact iZ_le (by omega) (by omega)
      by_cases c3 : 4503599627370496 ≤ a1_
      · rw [if_pos (k1.mpr (by omega))]
        have hd := un_div c3
        have ek : iZ ((a1_ / 4503599627370496 : Nat) - 1023) - 52 = iZ (un a1_) := by
          refine (iZ_sub _ 52).trans ?_
          congr 1
          omega
        have hc := fl_cn (J := 1) (z := un a1_) (by decide) (by omega)
        have hc' : fX2_nearest 1 (iZ (un a1_)) 52 1023 = lN (fRd 1 (un a1_) false) := hc
        rw [ek, hc']
      · rw [if_neg (show ¬ (-1022 : Int32) ≤ iZ ((a1_ / 4503599627370496 : Nat) - 1023) from fun h => by have := k1.mp h; omega), un_low (by omega), fRd_1u (a := 0)]
        rfl
    · rw [if_neg (show ¬ fX12_isInfinite (sx s1_ a1_) = 0 from c2), if_neg c2]
      have : a1_ = 9218868437227405312 := by
        by_cases c : a1_ = 9218868437227405312
        · exact c
        · exact absurd ((sx_inf ha1_).1.mpr c) c2
      rw [this]
      rfl
  · rw [if_neg (show ¬ fX12_isLost (sx s1_ a1_) = 0 from c1), if_neg c1]
    rcases hx with x1_ | x1_
    · exact absurd x1_ c1
    · have e : sx s1_ a1_ = sx false 9221120237041090560 := x1_
      have := (sx_inj ha1_ (by decide)).mp e
      rw [this.2]
      rfl
theorem fl_expo (x : Int64) : ((((x >>> ((52 : Int32).toInt64 &&& 63)).toInt32) &&& 2047) - 1023) = fX2_exponent x := by
  obtain ⟨s1_, a1_, ha1_, rfl⟩ := sx_of x
  rw [sx_exp ha1_, sx_expo ha1_, iZ_nI]
  exact iZ_sub _ 1023
theorem fl_mag (x : Int64) (hx : can64 x) : fX12_magnitude x = fX2_magnitude x := by
  unfold fX12_magnitude fX2_magnitude
  rcases hx with x1_ | x1_
  · rw [if_pos (show fX12_isLost x = 0 from x1_)]
  · subst x1_
    decide
theorem fl_one (x : Int64) (hx : can64 x) : fX12_one x = x := by
  unfold fX12_one
  rcases hx with x1_ | x1_
  · rw [if_pos (show fX12_isLost x = 0 from x1_)]
  · subst x1_
    decide
theorem fl_oneOf (x : Int64) : fX12_one x = fX2_ofBits x := rfl
theorem fl_up (x : Int64) (hx : can64 x) : fX12_upwards x = fX2_nextAbove x := by
  unfold fX12_upwards fX2_nextAbove fX2_nextAbove_15
  rcases hx with x1_ | x1_
  · rw [if_pos (show fX12_isLost x = 0 from x1_), if_pos x1_]
    rfl
  · subst x1_
    decide
theorem can_opp (x : Int64) (hx : can64 x) : can64 (fX2_opposite x) := by
  unfold fX2_opposite
  rcases hx with x1_ | x1_
  · rw [if_pos x1_]
    obtain ⟨s1_, a1_, ha1_, rfl⟩ := sx_of x
    rw [sx_xor ha1_]
    exact Or.inl ((sx_lost ha1_).1.mpr ((sx_lost ha1_).1.mp x1_))
  · subst x1_
    exact Or.inr (by decide)
theorem fl_sgnOf (x : Int64) (hx : can64 x) : fX12_singled 4 x = some (fX2_signOf x) := by
  have e0 : fX12_singled 4 x = (if (fX12_isLost x) = 0 then (if (fX12_isZero x) = 0 then (if 0 ≤ x then some 4607182418800017408 else some (-4616189618054758400)) else fX12_singled_89 x) else fX12_singled_89 x) := by
    unfold fX12_singled
    rw [if_neg (show ¬ (4 : Int32) = 0 by decide), if_neg (show ¬ (4 : Int32) = 1 by decide), if_neg (show ¬ (4 : Int32) = 2 by decide), if_neg (show ¬ (4 : Int32) = 3 by decide), if_pos (show (4 : Int32) = 4 by decide)]
  rw [e0]
  unfold fX12_singled_89 fX2_signOf fX2_signOf_14
  rw [fl_one x hx]
  by_cases c1 : fX2_isLost x = 0
  · rw [if_pos (show fX12_isLost x = 0 from c1), if_pos c1]
    by_cases c2 : fX2_isZero x = 0
    · rw [if_pos (show fX12_isZero x = 0 from c2), if_pos c2]
      obtain ⟨s1_, a1_, ha1_, rfl⟩ := sx_of x
      unfold fX2_signBit
      rw [sx_sgn ha1_]
      cases s1_ with
      | false => rw [if_pos ((sx_nneg ha1_).mpr rfl)]; rfl
      | true => rw [if_neg (sx_ng ha1_)]; decide
    · rw [if_neg (show ¬ fX12_isZero x = 0 from c2), if_neg c2]
  · rw [if_neg (show ¬ fX12_isLost x = 0 from c1), if_neg c1]
theorem sg_0 (x : Int64) : fX12_singled 0 x = some (fX12_magnitude x) := by
  unfold fX12_singled
  rw [if_pos (show (0 : Int32) = 0 by decide)]
theorem oo_0 (x : Int64) : fX11_ofOne x 0 = some (fX2_magnitude x) := by
  unfold fX11_ofOne
  rw [if_pos (show (0 : Int32) = 0 by decide)]
theorem sg_1 (x : Int64) : fX12_singled 1 x = fX12_singled_69 1 x := by
  unfold fX12_singled
  rw [if_neg (show ¬ (1 : Int32) = 0 by decide), if_pos (show (1 : Int32) = 1 by decide)]
theorem oo_1 (x : Int64) : fX11_ofOne x 1 = some (fX2_wholeNotAbove x) := by
  unfold fX11_ofOne
  rw [if_neg (show ¬ (1 : Int32) = 0 by decide), if_pos (show (1 : Int32) = 1 by decide)]
theorem sg_2 (x : Int64) : fX12_singled 2 x = fX12_singled_69 2 x := by
  unfold fX12_singled
  rw [if_neg (show ¬ (2 : Int32) = 0 by decide), if_neg (show ¬ (2 : Int32) = 1 by decide), if_pos (show (2 : Int32) = 2 by decide)]
theorem oo_2 (x : Int64) : fX11_ofOne x 2 = some (fX2_wholeNotBelow x) := by
  unfold fX11_ofOne
  rw [if_neg (show ¬ (2 : Int32) = 0 by decide), if_neg (show ¬ (2 : Int32) = 1 by decide), if_pos (show (2 : Int32) = 2 by decide)]
theorem sg_3 (x : Int64) : fX12_singled 3 x = fX12_singled_69 3 x := by
  unfold fX12_singled
  rw [if_neg (show ¬ (3 : Int32) = 0 by decide), if_neg (show ¬ (3 : Int32) = 1 by decide), if_neg (show ¬ (3 : Int32) = 2 by decide), if_pos (show (3 : Int32) = 3 by decide)]
theorem oo_3 (x : Int64) : fX11_ofOne x 3 = some (fX2_nearestWhole x) := by
  unfold fX11_ofOne
  rw [if_neg (show ¬ (3 : Int32) = 0 by decide), if_neg (show ¬ (3 : Int32) = 1 by decide), if_neg (show ¬ (3 : Int32) = 2 by decide), if_pos (show (3 : Int32) = 3 by decide)]
theorem oo_4 (x : Int64) : fX11_ofOne x 4 = some (fX2_signOf x) := by
  unfold fX11_ofOne
  rw [if_neg (show ¬ (4 : Int32) = 0 by decide), if_neg (show ¬ (4 : Int32) = 1 by decide), if_neg (show ¬ (4 : Int32) = 2 by decide), if_neg (show ¬ (4 : Int32) = 3 by decide), if_pos (show (4 : Int32) = 4 by decide)]
theorem sg_5 (x : Int64) : fX12_singled 5 x = (Option.bind (fX12_root x) (fun c113 => some c113)) := by
  unfold fX12_singled
  rw [if_neg (show ¬ (5 : Int32) = 0 by decide), if_neg (show ¬ (5 : Int32) = 1 by decide), if_neg (show ¬ (5 : Int32) = 2 by decide), if_neg (show ¬ (5 : Int32) = 3 by decide), if_neg (show ¬ (5 : Int32) = 4 by decide), if_pos (show (5 : Int32) = 5 by decide)]
theorem oo_5 (x : Int64) : fX11_ofOne x 5 = (Option.bind (fX2_root x) (fun c90 => some c90)) := by
  unfold fX11_ofOne
  rw [if_neg (show ¬ (5 : Int32) = 0 by decide), if_neg (show ¬ (5 : Int32) = 1 by decide), if_neg (show ¬ (5 : Int32) = 2 by decide), if_neg (show ¬ (5 : Int32) = 3 by decide), if_neg (show ¬ (5 : Int32) = 4 by decide), if_pos (show (5 : Int32) = 5 by decide)]
theorem oo_6 (x : Int64) : fX11_ofOne x 6 = some (fX2_step x) := by
  unfold fX11_ofOne
  rw [if_neg (show ¬ (6 : Int32) = 0 by decide), if_neg (show ¬ (6 : Int32) = 1 by decide), if_neg (show ¬ (6 : Int32) = 2 by decide), if_neg (show ¬ (6 : Int32) = 3 by decide), if_neg (show ¬ (6 : Int32) = 4 by decide), if_neg (show ¬ (6 : Int32) = 5 by decide), if_pos (show (6 : Int32) = 6 by decide)]
theorem sg_7 (x : Int64) : fX12_singled 7 x = some (fX12_upwards x) := by
  unfold fX12_singled
  rw [if_neg (show ¬ (7 : Int32) = 0 by decide), if_neg (show ¬ (7 : Int32) = 1 by decide), if_neg (show ¬ (7 : Int32) = 2 by decide), if_neg (show ¬ (7 : Int32) = 3 by decide), if_neg (show ¬ (7 : Int32) = 4 by decide), if_neg (show ¬ (7 : Int32) = 5 by decide), if_neg (show ¬ (7 : Int32) = 6 by decide), if_pos (show (7 : Int32) = 7 by decide)]
theorem oo_7 (x : Int64) : fX11_ofOne x 7 = some (fX2_nextAbove x) := by
  unfold fX11_ofOne
  rw [if_neg (show ¬ (7 : Int32) = 0 by decide), if_neg (show ¬ (7 : Int32) = 1 by decide), if_neg (show ¬ (7 : Int32) = 2 by decide), if_neg (show ¬ (7 : Int32) = 3 by decide), if_neg (show ¬ (7 : Int32) = 4 by decide), if_neg (show ¬ (7 : Int32) = 5 by decide), if_neg (show ¬ (7 : Int32) = 6 by decide), if_pos (show (7 : Int32) = 7 by decide)]
theorem sg_8 (x : Int64) : fX12_singled 8 x = some (fX12_opposite (fX12_upwards (fX12_opposite x))) := by
  unfold fX12_singled
  rw [if_neg (show ¬ (8 : Int32) = 0 by decide), if_neg (show ¬ (8 : Int32) = 1 by decide), if_neg (show ¬ (8 : Int32) = 2 by decide), if_neg (show ¬ (8 : Int32) = 3 by decide), if_neg (show ¬ (8 : Int32) = 4 by decide), if_neg (show ¬ (8 : Int32) = 5 by decide), if_neg (show ¬ (8 : Int32) = 6 by decide), if_neg (show ¬ (8 : Int32) = 7 by decide), if_pos (show (8 : Int32) = 8 by decide)]
theorem oo_8 (x : Int64) : fX11_ofOne x 8 = some (fX2_nextBelow x) := by
  unfold fX11_ofOne
  rw [if_neg (show ¬ (8 : Int32) = 0 by decide), if_neg (show ¬ (8 : Int32) = 1 by decide), if_neg (show ¬ (8 : Int32) = 2 by decide), if_neg (show ¬ (8 : Int32) = 3 by decide), if_neg (show ¬ (8 : Int32) = 4 by decide), if_neg (show ¬ (8 : Int32) = 5 by decide), if_neg (show ¬ (8 : Int32) = 6 by decide), if_neg (show ¬ (8 : Int32) = 7 by decide), if_pos (show (8 : Int32) = 8 by decide)]
theorem sg_9 (x : Int64) : fX12_singled 9 x = some (fX12_opposite x) := by
  unfold fX12_singled
  rw [if_neg (show ¬ (9 : Int32) = 0 by decide), if_neg (show ¬ (9 : Int32) = 1 by decide), if_neg (show ¬ (9 : Int32) = 2 by decide), if_neg (show ¬ (9 : Int32) = 3 by decide), if_neg (show ¬ (9 : Int32) = 4 by decide), if_neg (show ¬ (9 : Int32) = 5 by decide), if_neg (show ¬ (9 : Int32) = 6 by decide), if_neg (show ¬ (9 : Int32) = 7 by decide), if_neg (show ¬ (9 : Int32) = 8 by decide), if_pos (show (9 : Int32) = 9 by decide)]
theorem oo_9 (x : Int64) : fX11_ofOne x 9 = some (fX2_opposite x) := by
  unfold fX11_ofOne
  rw [if_neg (show ¬ (9 : Int32) = 0 by decide), if_neg (show ¬ (9 : Int32) = 1 by decide), if_neg (show ¬ (9 : Int32) = 2 by decide), if_neg (show ¬ (9 : Int32) = 3 by decide), if_neg (show ¬ (9 : Int32) = 4 by decide), if_neg (show ¬ (9 : Int32) = 5 by decide), if_neg (show ¬ (9 : Int32) = 6 by decide), if_neg (show ¬ (9 : Int32) = 7 by decide), if_neg (show ¬ (9 : Int32) = 8 by decide), if_pos (show (9 : Int32) = 9 by decide)]
theorem sg_10 (x : Int64) : fX12_singled 10 x = (Option.bind (fX12_number (((((x >>> ((52 : Int32).toInt64 &&& 63)).toInt32) &&& 2047) - 1023).toInt64)) (fun c189 => some c189)) := by
  unfold fX12_singled
  rw [if_neg (show ¬ (10 : Int32) = 0 by decide), if_neg (show ¬ (10 : Int32) = 1 by decide), if_neg (show ¬ (10 : Int32) = 2 by decide), if_neg (show ¬ (10 : Int32) = 3 by decide), if_neg (show ¬ (10 : Int32) = 4 by decide), if_neg (show ¬ (10 : Int32) = 5 by decide), if_neg (show ¬ (10 : Int32) = 6 by decide), if_neg (show ¬ (10 : Int32) = 7 by decide), if_neg (show ¬ (10 : Int32) = 8 by decide), if_neg (show ¬ (10 : Int32) = 9 by decide), if_pos (show (10 : Int32) = 10 by decide)]
theorem oo_10 (x : Int64) : fX11_ofOne x 10 = some (fX2_ofWhole ((fX2_exponent x).toInt64)) := by
  unfold fX11_ofOne
  rw [if_neg (show ¬ (10 : Int32) = 0 by decide), if_neg (show ¬ (10 : Int32) = 1 by decide), if_neg (show ¬ (10 : Int32) = 2 by decide), if_neg (show ¬ (10 : Int32) = 3 by decide), if_neg (show ¬ (10 : Int32) = 4 by decide), if_neg (show ¬ (10 : Int32) = 5 by decide), if_neg (show ¬ (10 : Int32) = 6 by decide), if_neg (show ¬ (10 : Int32) = 7 by decide), if_neg (show ¬ (10 : Int32) = 8 by decide), if_neg (show ¬ (10 : Int32) = 9 by decide), if_pos (show (10 : Int32) = 10 by decide)]
theorem sg_11 (x : Int64) : fX12_singled 11 x = (Option.bind (fX12_small x) (fun c194 => some c194)) := by
  unfold fX12_singled
  rw [if_neg (show ¬ (11 : Int32) = 0 by decide), if_neg (show ¬ (11 : Int32) = 1 by decide), if_neg (show ¬ (11 : Int32) = 2 by decide), if_neg (show ¬ (11 : Int32) = 3 by decide), if_neg (show ¬ (11 : Int32) = 4 by decide), if_neg (show ¬ (11 : Int32) = 5 by decide), if_neg (show ¬ (11 : Int32) = 6 by decide), if_neg (show ¬ (11 : Int32) = 7 by decide), if_neg (show ¬ (11 : Int32) = 8 by decide), if_neg (show ¬ (11 : Int32) = 9 by decide), if_neg (show ¬ (11 : Int32) = 10 by decide), if_pos (show (11 : Int32) = 11 by decide)]
theorem oo_11 (x : Int64) : fX11_ofOne x 11 = some (fX2_ofBits32 (fX2_toBits32 x)) := by
  unfold fX11_ofOne
  rw [if_neg (show ¬ (11 : Int32) = 0 by decide), if_neg (show ¬ (11 : Int32) = 1 by decide), if_neg (show ¬ (11 : Int32) = 2 by decide), if_neg (show ¬ (11 : Int32) = 3 by decide), if_neg (show ¬ (11 : Int32) = 4 by decide), if_neg (show ¬ (11 : Int32) = 5 by decide), if_neg (show ¬ (11 : Int32) = 6 by decide), if_neg (show ¬ (11 : Int32) = 7 by decide), if_neg (show ¬ (11 : Int32) = 8 by decide), if_neg (show ¬ (11 : Int32) = 9 by decide), if_neg (show ¬ (11 : Int32) = 10 by decide), if_pos (show (11 : Int32) = 11 by decide)]
theorem sg_12 (x : Int64) : fX12_singled 12 x = some x := by
  unfold fX12_singled
  rw [if_neg (show ¬ (12 : Int32) = 0 by decide), if_neg (show ¬ (12 : Int32) = 1 by decide), if_neg (show ¬ (12 : Int32) = 2 by decide), if_neg (show ¬ (12 : Int32) = 3 by decide), if_neg (show ¬ (12 : Int32) = 4 by decide), if_neg (show ¬ (12 : Int32) = 5 by decide), if_neg (show ¬ (12 : Int32) = 6 by decide), if_neg (show ¬ (12 : Int32) = 7 by decide), if_neg (show ¬ (12 : Int32) = 8 by decide), if_neg (show ¬ (12 : Int32) = 9 by decide), if_neg (show ¬ (12 : Int32) = 10 by decide), if_neg (show ¬ (12 : Int32) = 11 by decide)]
theorem oo_12 (x : Int64) : fX11_ofOne x 12 = some x := by
  unfold fX11_ofOne
  rw [if_neg (show ¬ (12 : Int32) = 0 by decide), if_neg (show ¬ (12 : Int32) = 1 by decide), if_neg (show ¬ (12 : Int32) = 2 by decide), if_neg (show ¬ (12 : Int32) = 3 by decide), if_neg (show ¬ (12 : Int32) = 4 by decide), if_neg (show ¬ (12 : Int32) = 5 by decide), if_neg (show ¬ (12 : Int32) = 6 by decide), if_neg (show ¬ (12 : Int32) = 7 by decide), if_neg (show ¬ (12 : Int32) = 8 by decide), if_neg (show ¬ (12 : Int32) = 9 by decide), if_neg (show ¬ (12 : Int32) = 10 by decide), if_neg (show ¬ (12 : Int32) = 11 by decide)]
theorem sg_13 (x : Int64) : fX12_singled 13 x = some x := by
  unfold fX12_singled
  rw [if_neg (show ¬ (13 : Int32) = 0 by decide), if_neg (show ¬ (13 : Int32) = 1 by decide), if_neg (show ¬ (13 : Int32) = 2 by decide), if_neg (show ¬ (13 : Int32) = 3 by decide), if_neg (show ¬ (13 : Int32) = 4 by decide), if_neg (show ¬ (13 : Int32) = 5 by decide), if_neg (show ¬ (13 : Int32) = 6 by decide), if_neg (show ¬ (13 : Int32) = 7 by decide), if_neg (show ¬ (13 : Int32) = 8 by decide), if_neg (show ¬ (13 : Int32) = 9 by decide), if_neg (show ¬ (13 : Int32) = 10 by decide), if_neg (show ¬ (13 : Int32) = 11 by decide)]
theorem oo_13 (x : Int64) : fX11_ofOne x 13 = some x := by
  unfold fX11_ofOne
  rw [if_neg (show ¬ (13 : Int32) = 0 by decide), if_neg (show ¬ (13 : Int32) = 1 by decide), if_neg (show ¬ (13 : Int32) = 2 by decide), if_neg (show ¬ (13 : Int32) = 3 by decide), if_neg (show ¬ (13 : Int32) = 4 by decide), if_neg (show ¬ (13 : Int32) = 5 by decide), if_neg (show ¬ (13 : Int32) = 6 by decide), if_neg (show ¬ (13 : Int32) = 7 by decide), if_neg (show ¬ (13 : Int32) = 8 by decide), if_neg (show ¬ (13 : Int32) = 9 by decide), if_neg (show ¬ (13 : Int32) = 10 by decide), if_neg (show ¬ (13 : Int32) = 11 by decide)]
theorem sg_14 (x : Int64) : fX12_singled 14 x = some x := by
  unfold fX12_singled
  rw [if_neg (show ¬ (14 : Int32) = 0 by decide), if_neg (show ¬ (14 : Int32) = 1 by decide), if_neg (show ¬ (14 : Int32) = 2 by decide), if_neg (show ¬ (14 : Int32) = 3 by decide), if_neg (show ¬ (14 : Int32) = 4 by decide), if_neg (show ¬ (14 : Int32) = 5 by decide), if_neg (show ¬ (14 : Int32) = 6 by decide), if_neg (show ¬ (14 : Int32) = 7 by decide), if_neg (show ¬ (14 : Int32) = 8 by decide), if_neg (show ¬ (14 : Int32) = 9 by decide), if_neg (show ¬ (14 : Int32) = 10 by decide), if_neg (show ¬ (14 : Int32) = 11 by decide)]
theorem oo_14 (x : Int64) : fX11_ofOne x 14 = some x := by
  unfold fX11_ofOne
  rw [if_neg (show ¬ (14 : Int32) = 0 by decide), if_neg (show ¬ (14 : Int32) = 1 by decide), if_neg (show ¬ (14 : Int32) = 2 by decide), if_neg (show ¬ (14 : Int32) = 3 by decide), if_neg (show ¬ (14 : Int32) = 4 by decide), if_neg (show ¬ (14 : Int32) = 5 by decide), if_neg (show ¬ (14 : Int32) = 6 by decide), if_neg (show ¬ (14 : Int32) = 7 by decide), if_neg (show ¬ (14 : Int32) = 8 by decide), if_neg (show ¬ (14 : Int32) = 9 by decide), if_neg (show ¬ (14 : Int32) = 10 by decide), if_neg (show ¬ (14 : Int32) = 11 by decide)]
theorem sg_15 (x : Int64) : fX12_singled 15 x = some x := by
  unfold fX12_singled
  rw [if_neg (show ¬ (15 : Int32) = 0 by decide), if_neg (show ¬ (15 : Int32) = 1 by decide), if_neg (show ¬ (15 : Int32) = 2 by decide), if_neg (show ¬ (15 : Int32) = 3 by decide), if_neg (show ¬ (15 : Int32) = 4 by decide), if_neg (show ¬ (15 : Int32) = 5 by decide), if_neg (show ¬ (15 : Int32) = 6 by decide), if_neg (show ¬ (15 : Int32) = 7 by decide), if_neg (show ¬ (15 : Int32) = 8 by decide), if_neg (show ¬ (15 : Int32) = 9 by decide), if_neg (show ¬ (15 : Int32) = 10 by decide), if_neg (show ¬ (15 : Int32) = 11 by decide)]
theorem oo_15 (x : Int64) : fX11_ofOne x 15 = some x := by
  unfold fX11_ofOne
  rw [if_neg (show ¬ (15 : Int32) = 0 by decide), if_neg (show ¬ (15 : Int32) = 1 by decide), if_neg (show ¬ (15 : Int32) = 2 by decide), if_neg (show ¬ (15 : Int32) = 3 by decide), if_neg (show ¬ (15 : Int32) = 4 by decide), if_neg (show ¬ (15 : Int32) = 5 by decide), if_neg (show ¬ (15 : Int32) = 6 by decide), if_neg (show ¬ (15 : Int32) = 7 by decide), if_neg (show ¬ (15 : Int32) = 8 by decide), if_neg (show ¬ (15 : Int32) = 9 by decide), if_neg (show ¬ (15 : Int32) = 10 by decide), if_neg (show ¬ (15 : Int32) = 11 by decide)]
theorem so_0 (x : Int64) (hx : can64 x) : fX12_singled 0 x = fX11_ofOne x 0 := by
  rw [sg_0, oo_0, fl_mag x hx]
theorem oz_0 (x : Int64) (_hx : can64 x) : ∃ z, fX11_ofOne x 0 = some z := ⟨_, oo_0 x⟩
theorem so_1 (x : Int64) (hx : can64 x) : fX12_singled 1 x = fX11_ofOne x 1 := by
  rw [sg_1, oo_1]
  unfold fX12_singled_69
  rw [fl_cut1 x hx]
  rfl
theorem oz_1 (x : Int64) (_hx : can64 x) : ∃ z, fX11_ofOne x 1 = some z := ⟨_, oo_1 x⟩
theorem so_2 (x : Int64) (hx : can64 x) : fX12_singled 2 x = fX11_ofOne x 2 := by
  rw [sg_2, oo_2]
  unfold fX12_singled_69
  rw [fl_cut2 x hx]
  rfl
theorem oz_2 (x : Int64) (_hx : can64 x) : ∃ z, fX11_ofOne x 2 = some z := ⟨_, oo_2 x⟩
theorem so_3 (x : Int64) (hx : can64 x) : fX12_singled 3 x = fX11_ofOne x 3 := by
  rw [sg_3, oo_3]
  unfold fX12_singled_69
  rw [fl_cut3 x hx]
  rfl
theorem oz_3 (x : Int64) (_hx : can64 x) : ∃ z, fX11_ofOne x 3 = some z := ⟨_, oo_3 x⟩
theorem so_4 (x : Int64) (hx : can64 x) : fX12_singled 4 x = fX11_ofOne x 4 := by
  rw [oo_4, fl_sgnOf x hx]
theorem oz_4 (x : Int64) (_hx : can64 x) : ∃ z, fX11_ofOne x 4 = some z := ⟨_, oo_4 x⟩
theorem so_5 (x : Int64) (hx : can64 x) : fX12_singled 5 x = fX11_ofOne x 5 := by
  rw [sg_5, oo_5, (fl_root x hx).1]
theorem oz_5 (x : Int64) (hx : can64 x) : ∃ z, fX11_ofOne x 5 = some z := by
  obtain ⟨z1_, h1_⟩ := (fl_root x hx).2
  exact ⟨z1_, by rw [oo_5, h1_, Option.bind_some]⟩
theorem so_6 (x : Int64) (hx : can64 x) : fX12_singled 6 x = fX11_ofOne x 6 := by
  rw [oo_6, fl_step x hx]
theorem oz_6 (x : Int64) (_hx : can64 x) : ∃ z, fX11_ofOne x 6 = some z := ⟨_, oo_6 x⟩
theorem so_7 (x : Int64) (hx : can64 x) : fX12_singled 7 x = fX11_ofOne x 7 := by
  rw [sg_7, oo_7, fl_up x hx]
theorem oz_7 (x : Int64) (_hx : can64 x) : ∃ z, fX11_ofOne x 7 = some z := ⟨_, oo_7 x⟩
theorem so_8 (x : Int64) (hx : can64 x) : fX12_singled 8 x = fX11_ofOne x 8 := by
  rw [sg_8, oo_8, fl_opp x, fl_up _ (can_opp x hx)]
  unfold fX2_nextBelow
  rw [fl_opp]
theorem oz_8 (x : Int64) (_hx : can64 x) : ∃ z, fX11_ofOne x 8 = some z := ⟨_, oo_8 x⟩
theorem so_9 (x : Int64) (hx : can64 x) : fX12_singled 9 x = fX11_ofOne x 9 := by
  rw [sg_9, oo_9, fl_opp]
theorem oz_9 (x : Int64) (_hx : can64 x) : ∃ z, fX11_ofOne x 9 = some z := ⟨_, oo_9 x⟩
theorem so_10 (x : Int64) (hx : can64 x) : fX12_singled 10 x = fX11_ofOne x 10 := by
  rw [sg_10, oo_10, fl_expo, fl_number, Option.bind_some]
theorem oz_10 (x : Int64) (_hx : can64 x) : ∃ z, fX11_ofOne x 10 = some z := ⟨_, oo_10 x⟩
theorem so_11 (x : Int64) (hx : can64 x) : fX12_singled 11 x = fX11_ofOne x 11 := by
  rw [sg_11, oo_11, fl_small x hx, Option.bind_some]
theorem oz_11 (x : Int64) (_hx : can64 x) : ∃ z, fX11_ofOne x 11 = some z := ⟨_, oo_11 x⟩
theorem so_12 (x : Int64) (hx : can64 x) : fX12_singled 12 x = fX11_ofOne x 12 := by
  rw [sg_12, oo_12]
theorem oz_12 (x : Int64) (_hx : can64 x) : ∃ z, fX11_ofOne x 12 = some z := ⟨_, oo_12 x⟩
theorem so_13 (x : Int64) (hx : can64 x) : fX12_singled 13 x = fX11_ofOne x 13 := by
  rw [sg_13, oo_13]
theorem oz_13 (x : Int64) (_hx : can64 x) : ∃ z, fX11_ofOne x 13 = some z := ⟨_, oo_13 x⟩
theorem so_14 (x : Int64) (hx : can64 x) : fX12_singled 14 x = fX11_ofOne x 14 := by
  rw [sg_14, oo_14]
theorem oz_14 (x : Int64) (_hx : can64 x) : ∃ z, fX11_ofOne x 14 = some z := ⟨_, oo_14 x⟩
theorem so_15 (x : Int64) (hx : can64 x) : fX12_singled 15 x = fX11_ofOne x 15 := by
  rw [sg_15, oo_15]
theorem oz_15 (x : Int64) (_hx : can64 x) : ∃ z, fX11_ofOne x 15 = some z := ⟨_, oo_15 x⟩
theorem lt16 {k : Nat} (hk : k < 16) : nI k = 0 ∨ nI k = 1 ∨ nI k = 2 ∨ nI k = 3 ∨ nI k = 4 ∨ nI k = 5 ∨ nI k = 6 ∨ nI k = 7 ∨ nI k = 8 ∨ nI k = 9 ∨ nI k = 10 ∨ nI k = 11 ∨ nI k = 12 ∨ nI k = 13 ∨ nI k = 14 ∨ nI k = 15 := by
  have h : k = 0 ∨ k = 1 ∨ k = 2 ∨ k = 3 ∨ k = 4 ∨ k = 5 ∨ k = 6 ∨ k = 7 ∨ k = 8 ∨ k = 9 ∨ k = 10 ∨ k = 11 ∨ k = 12 ∨ k = 13 ∨ k = 14 ∨ k = 15 := by omega
  rcases h with h9 | h9 | h9 | h9 | h9 | h9 | h9 | h9 | h9 | h9 | h9 | h9 | h9 | h9 | h9 | h9 <;> subst h9 <;> decide
theorem fl_single {k : Nat} (hk : k < 16) (x : Int64) (hx : can64 x) : fX12_singled (nI k) x = fX11_ofOne x (nI k) ∧ ∃ z, fX11_ofOne x (nI k) = some z := by
  rcases lt16 hk with h9 | h9 | h9 | h9 | h9 | h9 | h9 | h9 | h9 | h9 | h9 | h9 | h9 | h9 | h9 | h9 <;> rw [h9]
  · exact ⟨so_0 x hx, oz_0 x hx⟩
  · exact ⟨so_1 x hx, oz_1 x hx⟩
  · exact ⟨so_2 x hx, oz_2 x hx⟩
  · exact ⟨so_3 x hx, oz_3 x hx⟩
  · exact ⟨so_4 x hx, oz_4 x hx⟩
  · exact ⟨so_5 x hx, oz_5 x hx⟩
  · exact ⟨so_6 x hx, oz_6 x hx⟩
  · exact ⟨so_7 x hx, oz_7 x hx⟩
  · exact ⟨so_8 x hx, oz_8 x hx⟩
  · exact ⟨so_9 x hx, oz_9 x hx⟩
  · exact ⟨so_10 x hx, oz_10 x hx⟩
  · exact ⟨so_11 x hx, oz_11 x hx⟩
  · exact ⟨so_12 x hx, oz_12 x hx⟩
  · exact ⟨so_13 x hx, oz_13 x hx⟩
  · exact ⟨so_14 x hx, oz_14 x hx⟩
  · exact ⟨so_15 x hx, oz_15 x hx⟩
