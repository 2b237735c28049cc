/-! the reference's cut -/
def cmore (how S i f : Nat) (s : Bool) : Bool := if how = 1 then s && decide (0 < f) else if how = 2 then !s && decide (0 < f) else decide (S ≤ 60 ∧ (2 ^ (S - 1) < f ∨ f = 2 ^ (S - 1) ∧ i % 2 = 1))
theorem ct_205 {s : Bool} {i : Nat} (hi : i < 4611686018427387904) : fX12_cut_205 (bI32 s) (lN i) = some (sx s (fRd i 0 false)) := by
  unfold fX12_cut_205
  have h := fl_mn (b := bI32 s) (t := 0) (m := i) (e := 0) (by omega) (by decide)
  have hl := fRd_lt i 0 false
  rw [show decide ((0 : Int32) ≠ 0) = false from rfl, sgB_or (by omega), bI32_ne] at h
  have h' : fX12_made (bI32 s) (lN i) 0 0 = some (sx s (fRd i 0 false)) := h
  rw [h', Option.bind_some]
theorem ct_93 {how S i f : Nat} {s : Bool} (hh : how = 1 ∨ how = 2 ∨ how = 3) (hS : 1 ≤ S) (hS2 : S ≤ 2000) (hi : i < 9007199254740992) (hf : f < 9007199254740992) : fX12_cut_93 (nI how) (iZ S) (lN i) (lN f) (bI32 s) = some (sx s (fRd (if cmore how S i f s then i + 1 else i) 0 false)) := by
  unfold fX12_cut_93 fX12_cut_116 fX12_cut_141 fX12_cut_186 fX12_cut_182 fX12_cut_187 cmore
  have g0 : (if (0 : Int32) = 0 then fX12_cut_205 (bI32 s) (lN i) else fX12_cut_205 (bI32 s) (lN i + 1)) = some (sx s (fRd i 0 false)) := by rw [if_pos rfl, ct_205 (by omega)]
  have g1 : (if (1 : Int32) = 0 then fX12_cut_205 (bI32 s) (lN i) else fX12_cut_205 (bI32 s) (lN i + 1)) = some (sx s (fRd (i + 1) 0 false)) := by rw [if_neg (by decide), lN_1, ct_205 (by omega)]
  have kf : lN f ≤ 0 ↔ f = 0 := by
    have := pk_lLE (a := f) (b := 0) (by omega) (by decide)
    refine Iff.trans this ?_
    omega
  rw [g0, g1]
  rcases hh with x1_ | x1_ | x1_
  · subst x1_
    rw [if_pos (show nI 1 = 1 from rfl), if_pos rfl]
    cases s with
    | false =>
      rw [if_pos (show bI32 false = 0 from rfl)]
      rfl
    | true =>
      rw [if_neg (show ¬ bI32 true = 0 by decide)]
      by_cases c : f = 0
      · rw [if_pos (kf.mpr c), c]
        rfl
      · rw [if_neg (fun x => c (kf.mp x))]
        simp [show 0 < f by omega]
  · subst x1_
    rw [if_neg (show ¬ nI 2 = 1 by decide), if_pos (show nI 2 = 2 from rfl), if_neg (show ¬ (2 = 1) by decide), if_pos (show 2 = 2 from rfl)]
    cases s with
    | true =>
      rw [if_neg (show ¬ bI32 true = 0 by decide)]
      rfl
    | false =>
      rw [if_pos (show bI32 false = 0 from rfl)]
      by_cases c : f = 0
      · rw [if_pos (kf.mpr c), c]
        rfl
      · rw [if_neg (fun x => c (kf.mp x))]
        simp [show 0 < f by omega]
  · subst x1_
    rw [if_neg (show ¬ nI 3 = 1 by decide), if_neg (show ¬ nI 3 = 2 by decide), if_neg (show ¬ (3 = 1) by decide), if_neg (show ¬ (3 = 2) by decide)]
    by_cases c1 : S ≤ 60
    · rw [if_neg (show ¬ (60 : Int32) < iZ S from fun x => by have := (iZ_lt (a := 60) (by omega) (by omega)).mp x; omega)]
      have hp : 2 ^ (S - 1) < 2 ^ 63 := wb_lt2 (by omega)
      have e2 : (1 : Int64) <<< ((iZ S - 1).toInt64 &&& 63) = lN (2 ^ (S - 1)) := by
        rw [show iZ S - 1 = iZ ((S : Int) - 1) from iZ_sub S 1]
        have := fl_shl 1 (z := (S : Int) - 1) (by omega) (by omega)
        rw [Nat.one_mul, show ((S : Int) - 1).toNat = S - 1 by omega] at this
        exact this
      rw [e2]
      have k1 : lN (2 ^ (S - 1)) < lN f ↔ 2 ^ (S - 1) < f := pk_lLT (by omega) (by omega)
      have k2 : lN f = lN (2 ^ (S - 1)) ↔ f = 2 ^ (S - 1) := pk_lEQ (by omega) (by omega)
      have k3 : lN i &&& 1 = 1 ↔ i % 2 = 1 := by
        rw [wb_a1 (by omega)]
        exact pk_lEQ (a := i % 2) (b := 1) (by omega) (by decide)
      by_cases c2 : 2 ^ (S - 1) < f
      · rw [if_pos (k1.mpr c2)]
        simp [c1, c2]
      · rw [if_neg (fun x => c2 (k1.mp x))]
        by_cases c3 : f = 2 ^ (S - 1)
        · rw [if_pos (k2.mpr c3)]
          by_cases c4 : i % 2 = 1
          · rw [if_pos (k3.mpr c4)]
            simp [c1, c3, c4]
          · rw [if_neg (fun x => c4 (k3.mp x))]
            simp [c3, c4]
        · rw [if_neg (fun x => c3 (k2.mp x))]
          simp [c2, c3]
    · rw [if_pos (show (60 : Int32) < iZ S from (iZ_lt (a := 60) (by omega) (by omega)).mpr (by omega))]
      simp [c1]
theorem ct_40 {how a : Nat} {s : Bool} (hh : how = 1 ∨ how = 2 ∨ how = 3) (h0 : 0 < a) (ha : a < 4841369599423283200) : fX12_cut_40 (sx s a) (nI how) (iZ (- un a)) = some (sx s (fRd (if cmore how (- un a).toNat (dg a / 2 ^ (- un a).toNat) (dg a % 2 ^ (- un a).toNat) s then dg a / 2 ^ (- un a).toNat + 1 else dg a / 2 ^ (- un a).toNat) 0 false)) := by
  have ha2 : a < 9223372036854775808 := by omega
  have hu := un_rng ha2
  have hu2 : un a < 0 := by unfold un; split <;> omega
  have hA := dg_lt a
  have eS : iZ (- un a) = iZ ((- un a).toNat : Nat) := by congr 1; omega
  unfold fX12_cut_40 fX12_cut_46 fX12_cut_60 fX12_cut_80
  rw [sx_digits ha2, eS]
  have hS1 : 1 ≤ (- un a).toNat := by omega
  have hS2 : (- un a).toNat ≤ 1074 := by omega
  generalize (- un a).toNat = S at *
  have hdm := Nat.div_add_mod (dg a) (2 ^ S)
  have hml := Nat.mod_lt (dg a) (Nat.two_pow_pos S)
  have hmle : dg a % 2 ^ S ≤ dg a := Nat.mod_le _ _
  have hdle : dg a / 2 ^ S ≤ dg a := Nat.div_le_self _ _
  have hgo : ∀ i f : Nat, i = dg a / 2 ^ S → f = dg a % 2 ^ S → (if 0 ≤ sx s a then fX12_cut_93 (nI how) (iZ S) (lN i) (lN f) 0 else fX12_cut_93 (nI how) (iZ S) (lN i) (lN f) 1) = some (sx s (fRd (if cmore how S (dg a / 2 ^ S) (dg a % 2 ^ S) s then dg a / 2 ^ S + 1 else dg a / 2 ^ S) 0 false)) := by
    intro i f hi hf
    subst hi hf
    rw [fl_if_s ha2 (fun z => fX12_cut_93 (nI how) (iZ S) (lN (dg a / 2 ^ S)) (lN (dg a % 2 ^ S)) z), ct_93 hh hS1 (by omega) (by omega) (by omega)]
  by_cases c : S ≤ 60
  · have k : iZ S ≤ 60 := (iZ_le (b := 60) (by omega) (by omega)).mpr (by omega)
    simp only [if_pos k]
    rw [fl_shr (by omega) (by omega) (by omega), Int.toNat_natCast, fl_shl _ (by omega) (by omega), Int.toNat_natCast, lN_sub (by rw [Nat.mul_comm]; omega)]
    apply hgo _ _ rfl
    rw [Nat.mul_comm]
    omega
  · have k : ¬ iZ S ≤ 60 := fun x => by have := (iZ_le (b := 60) (by omega) (by omega)).mp x; omega
    simp only [if_neg k]
    have h2 : 2 ^ 61 ≤ 2 ^ S := Nat.pow_le_pow_right (by decide) (by omega)
    apply hgo 0 (dg a)
    · rw [Nat.div_eq_of_lt (by omega)]
    · rw [Nat.mod_eq_of_lt (by omega)]
theorem fRd_10 : fRd 1 0 false = 4607182418800017408 := by decide +kernel
/-- where the reference cuts: the answer is tz or aw -/
theorem ct_main {how a : Nat} {s : Bool} (hh : how = 1 ∨ how = 2 ∨ how = 3) (h0 : 0 < a) (ha : a < 4841369599423283200) : fX12_cut_40 (sx s a) (nI how) (iZ (- un a)) = some (sx s (if cmore how (- un a).toNat (dg a / 2 ^ (- un a).toNat) (dg a % 2 ^ (- un a).toNat) s then aw a else tz a)) := by
  rw [ct_40 hh h0 ha]
  have hA := dg_lt a
  by_cases c1 : a < 4607182418800017408
  · have hS : 53 ≤ (- un a).toNat := by unfold un; split <;> omega
    have h2 : 2 ^ 53 ≤ 2 ^ (- un a).toNat := Nat.pow_le_pow_right (by decide) hS
    have e1 : dg a / 2 ^ (- un a).toNat = 0 := Nat.div_eq_of_lt (by omega)
    rw [e1]
    unfold aw tz
    rw [if_pos c1, if_pos c1]
    split
    · rw [show 0 + 1 = 1 from rfl, fRd_10]
    · rw [fRd_0]
  · have hS : (- un a).toNat = csh a := by
      unfold un csh
      rw [if_neg (by omega)]
      omega
    rw [hS]
    have hi := i_mul (a := a) (by omega) ha
    have hq := Nat.two_pow_pos (csh a)
    unfold aw tz
    rw [if_neg c1, if_neg c1, if_neg (show ¬ 4841369599423283200 ≤ a by omega)]
    split
    · have e2 : (dg a / 2 ^ csh a + 1) * 2 ^ csh a = dg a - a % 2 ^ csh a + 2 ^ csh a := by rw [Nat.add_mul, Nat.one_mul, hi.1]
      rw [fRd_i (by omega) ha (Or.inr e2), e2]
      congr 2
      omega
    · rw [fRd_i (by omega) ha (Or.inl hi.1), hi.1]
      congr 2
      omega
theorem tz_ne {a : Nat} (h0 : 0 < a) (ha : a < 4841369599423283200) : tz a = a ↔ dg a % 2 ^ (- un a).toNat = 0 := by
  have hA := dg_lt a
  have hA0 := dg_pos h0
  unfold tz
  by_cases c1 : a < 4607182418800017408
  · have hS : 53 ≤ (- un a).toNat := by unfold un; split <;> omega
    have h2 : 2 ^ 53 ≤ 2 ^ (- un a).toNat := Nat.pow_le_pow_right (by decide) hS
    rw [if_pos c1, Nat.mod_eq_of_lt (by omega)]
    omega
  · have hS : (- un a).toNat = csh a := by
      unfold un csh
      rw [if_neg (by omega)]
      omega
    have hi := i_mul (a := a) (by omega) ha
    rw [if_neg c1, if_neg (show ¬ 4841369599423283200 ≤ a by omega), hS, hi.2.1]
    omega
theorem un_neg {a : Nat} (ha : a < 9223372036854775808) : un a < 0 ↔ a < 4841369599423283200 := by
  unfold un
  split <;> omega
/-- the reference's cut of any canonical measure -/
theorem ct_all {how : Nat} {s : Bool} {a : Nat} (hh : how = 1 ∨ how = 2 ∨ how = 3) (ha : a < 9223372036854775808) (hx : a ≤ 9218868437227405312 ∨ sx s a = 9221120237041090560) : fX12_cut (sx s a) (nI how) = some (if a = 0 ∨ 4841369599423283200 ≤ a then sx s a else sx s (if cmore how (- un a).toNat (dg a / 2 ^ (- un a).toNat) (dg a % 2 ^ (- un a).toNat) s then aw a else tz a)) := by
  have la := sx_lost (s := s) ha
  have ia := sx_inf (s := s) ha
  have za := sx_zero (s := s) ha
  have hu := un_rng ha
  unfold fX12_cut fX12_cut_32
  rw [la.2, ia.2, za.2]
  by_cases q1 : fX2_isLost (sx s a) = 0
  · simp only [if_pos q1]
    by_cases q3 : fX2_isInfinite (sx s a) = 0
    · simp only [if_pos q3]
      by_cases q5 : fX2_isZero (sx s a) = 0
      · simp only [if_pos q5]
        have ha0 : 0 < a := by have := za.1.mp q5; omega
        rw [sx_unit ha]
        have k : iZ (un a) < 0 ↔ un a < 0 := iZ_lt (b := 0) (by omega) (by omega)
        by_cases c : a < 4841369599423283200
        · rw [if_pos (k.mpr ((un_neg ha).mpr c)), iZ_neg, ct_main hh ha0 c, if_neg (show ¬ (a = 0 ∨ 4841369599423283200 ≤ a) by omega)]
        · rw [if_neg (fun x => c ((un_neg ha).mp (k.mp x))), if_pos (Or.inr (by omega))]
      · simp only [if_neg q5]
        rw [if_pos]
        rcases Nat.eq_zero_or_pos a with x1_ | x1_
        · exact Or.inl x1_
        · exact absurd (za.1.mpr (by omega)) q5
    · simp only [if_neg q3]
      rw [if_pos]
      rcases Nat.decEq a 9218868437227405312 with x1_ | x1_
      · exact absurd (ia.1.mpr x1_) q3
      · exact Or.inr (by omega)
  · simp only [if_neg q1]
    have : ¬ a ≤ 9218868437227405312 := fun x => q1 (la.1.mpr x)
    rw [if_pos (Or.inr (by omega))]
    rcases hx with x1_ | x1_
    · exact absurd x1_ this
    · rw [x1_]
theorem tz_0 : tz 0 = 0 := by decide
theorem tz_big {a : Nat} (h : 4841369599423283200 ≤ a) : tz a = a := by
  unfold tz
  rw [if_neg (by omega), if_pos h]
theorem can_sx {s : Bool} {a : Nat} (ha : a < 9223372036854775808) (hx : fX2_isLost (sx s a) = 0 ∨ sx s a = 9221120237041090560) : a ≤ 9218868437227405312 ∨ sx s a = 9221120237041090560 := by
  rcases hx with x1_ | x1_
  · exact Or.inl ((sx_lost ha).1.mp x1_)
  · exact Or.inr x1_
theorem fl_cut1 (x : Int64) (hx : fX2_isLost x = 0 ∨ x = 9221120237041090560) : fX12_cut x 1 = some (fX2_wholeNotAbove x) := by
  obtain ⟨s, a, ha, rfl⟩ := sx_of x
  have h := ct_all (how := 1) (Or.inl rfl) ha (can_sx ha hx)
  refine Eq.trans h ?_
  unfold fX2_wholeNotAbove fX2_wholeNotAbove_5 fX2_wholeNotAbove_24
  rw [fl_tz ha]
  have hn := sx_nneg (s := s) ha
  have htl : tz a ≤ a := by unfold tz; split <;> (try split) <;> omega
  have he : sx s (tz a) = sx s a ↔ tz a = a := by
    rw [sx_inj (by omega) ha]
    simp
  congr 1
  by_cases c : a = 0 ∨ 4841369599423283200 ≤ a
  · have e1 : tz a = a := by
      rcases c with x1_ | x1_
      · rw [x1_, tz_0]
      · exact tz_big x1_
    rw [if_pos c, e1, if_pos rfl, ite_self]
  · rw [if_neg c]
    have ht := tz_ne (a := a) (by omega) (by omega)
    unfold cmore
    rw [if_pos rfl]
    cases s with
    | false =>
      rw [if_pos (hn.mpr rfl)]
      rfl
    | true =>
      rw [if_neg (fun x => absurd (hn.mp x) (by decide))]
      by_cases d : tz a = a
      · rw [if_pos (he.mpr d), ht.mp d]
        rfl
      · rw [if_neg (fun x => d (he.mp x)), fl_aw (by omega)]
        have : 0 < dg a % 2 ^ (- un a).toNat := Nat.pos_of_ne_zero (fun x => d (ht.mpr x))
        simp [this]
theorem fl_cut2 (x : Int64) (hx : fX2_isLost x = 0 ∨ x = 9221120237041090560) : fX12_cut x 2 = some (fX2_wholeNotBelow x) := by
  obtain ⟨s, a, ha, rfl⟩ := sx_of x
  have h := ct_all (how := 2) (Or.inr (Or.inl rfl)) ha (can_sx ha hx)
  refine Eq.trans h ?_
  unfold fX2_wholeNotBelow fX2_wholeNotBelow_5 fX2_wholeNotBelow_24
  rw [fl_tz ha]
  have hn : sx s a ≤ 0 ↔ (s = true ∨ a = 0) := by
    rw [Int64.le_iff_toInt_le, sx_toInt ha]
    have : (0 : Int64).toInt = 0 := by decide
    rw [this]
    cases s <;> simp <;> omega
  have htl : tz a ≤ a := by unfold tz; split <;> (try split) <;> omega
  have he : sx s (tz a) = sx s a ↔ tz a = a := by
    rw [sx_inj (by omega) ha]
    simp
  congr 1
  by_cases c : a = 0 ∨ 4841369599423283200 ≤ a
  · have e1 : tz a = a := by
      rcases c with x1_ | x1_
      · rw [x1_, tz_0]
      · exact tz_big x1_
    rw [if_pos c, e1, if_pos rfl, ite_self]
  · rw [if_neg c]
    have ht := tz_ne (a := a) (by omega) (by omega)
    unfold cmore
    rw [if_neg (show ¬ (2 = 1) by decide), if_pos (show 2 = 2 from rfl)]
    cases s with
    | true =>
      rw [if_pos (hn.mpr (Or.inl rfl))]
      rfl
    | false =>
      rw [if_neg (show ¬ sx false a ≤ 0 from fun x => by have := hn.mp x; simp at this; omega)]
      by_cases d : tz a = a
      · rw [if_pos (he.mpr d), ht.mp d]
        rfl
      · rw [if_neg (fun x => d (he.mp x)), fl_aw (by omega)]
        have : 0 < dg a % 2 ^ (- un a).toNat := Nat.pos_of_ne_zero (fun x => d (ht.mpr x))
        simp [this]
theorem fl_cut3 (x : Int64) (hx : fX2_isLost x = 0 ∨ x = 9221120237041090560) : fX12_cut x 3 = some (fX2_nearestWhole x) := by
  obtain ⟨s, a, ha, rfl⟩ := sx_of x
  have h := ct_all (how := 3) (Or.inr (Or.inr rfl)) ha (can_sx ha hx)
  refine Eq.trans h ?_
  unfold fX2_nearestWhole fX2_nearestWhole_5
  rw [sx_expo ha]
  have k1 : iZ ((a / 4503599627370496 : Nat) - 1023) < 52 ↔ ((a / 4503599627370496 : Nat) : Int) - 1023 < 52 := iZ_lt (b := 52) (by omega) (by omega)
  have k2 : (0 : Int32) ≤ iZ ((a / 4503599627370496 : Nat) - 1023) ↔ 0 ≤ ((a / 4503599627370496 : Nat) : Int) - 1023 := iZ_le (a := 0) (by omega) (by omega)
  have k3 : lN a ≤ 4602678819172646912 ↔ a ≤ 4602678819172646912 := pk_lLE (b := 4602678819172646912) (by omega) (by decide)
  congr 1
  by_cases c2 : 4841369599423283200 ≤ a
  · rw [if_pos (Or.inr c2), if_neg (fun x => by have := k1.mp x; omega)]
  · rw [if_pos (k1.mpr (by omega))]
    unfold fX2_signBit fX2_magnitude
    rw [sx_mag ha, sx_sgn ha]
    have eone : sx s 0 ||| 4607182418800017408 = sx s 4607182418800017408 := sx_or (a := 4607182418800017408) (by decide)
    rw [eone]
    by_cases c1 : a < 4607182418800017408
    · rw [if_neg (show ¬ (0 : Int32) ≤ iZ ((a / 4503599627370496 : Nat) - 1023) from fun x => by have := k2.mp x; omega)]
      have et : tz a = 0 := by unfold tz; rw [if_pos c1]
      have ew : aw a = 4607182418800017408 := by unfold aw; rw [if_pos c1]
      rcases Nat.eq_zero_or_pos a with x1_ | x1_
      · rw [if_pos (Or.inl x1_), if_pos (k3.mpr (by omega)), x1_]
      · have hA := dg_lt a
        rw [if_neg (show ¬ (a = 0 ∨ 4841369599423283200 ≤ a) by omega), et, ew]
        have hS : 53 ≤ (- un a).toNat := by unfold un; split <;> omega
        have h2 : 2 ^ 53 ≤ 2 ^ (- un a).toNat := Nat.pow_le_pow_right (by decide) hS
        rw [Nat.div_eq_of_lt (show dg a < 2 ^ (- un a).toNat by omega), Nat.mod_eq_of_lt (show dg a < 2 ^ (- un a).toNat by omega)]
        unfold cmore
        rw [if_neg (show ¬ (3 = 1) by decide), if_neg (show ¬ (3 = 2) by decide)]
        by_cases d : a ≤ 4602678819172646912
        · rw [if_pos (k3.mpr d), if_neg]
          simp only [decide_eq_true_eq]
          rintro ⟨y1_, y2_⟩
          rcases y2_ with y3_ | ⟨_, y4_⟩
          · by_cases e : a / 4503599627370496 = 1022
            · have e5 : (- un a).toNat = 53 := by unfold un; rw [if_neg (by omega)]; omega
              have e6 : dg a = 4503599627370496 := by unfold dg; rw [if_neg (by omega)]; omega
              rw [e5, e6] at y3_
              exact absurd y3_ (by decide)
            · have e5 : 54 ≤ (- un a).toNat := by unfold un; split <;> omega
              have h3 : 2 ^ 53 ≤ 2 ^ ((- un a).toNat - 1) := Nat.pow_le_pow_right (by decide) (by omega)
              omega
          · exact absurd y4_ (by decide)
        · rw [if_neg (fun x => d (k3.mp x)), if_pos]
          simp only [decide_eq_true_eq]
          have e5 : (- un a).toNat = 53 := by unfold un; rw [if_neg (by omega)]; omega
          have e6 : dg a = 4503599627370496 + a % 4503599627370496 := by unfold dg; rw [if_neg (by omega)]
          rw [e5]
          refine ⟨by decide, Or.inl ?_⟩
          rw [e6]
          show 4503599627370496 < _
          omega
    · have h3 := csh_rng (a := a) (by omega) (by omega)
      have hi := i_mul (a := a) (by omega) (by omega)
      have hS : (- un a).toNat = csh a := by
        unfold un csh
        rw [if_neg (by omega)]
        omega
      have hq := Nat.two_pow_pos (csh a)
      have hple : 2 ^ csh a ≤ 2 ^ 52 := Nat.pow_le_pow_right (by decide) h3.2
      have hml := Nat.mod_lt a hq
      rw [if_pos (k2.mpr (by omega)), if_neg (show ¬ (a = 0 ∨ 4841369599423283200 ≤ a) by omega), hS, hi.2.1]
      have elead : ((4503599627370496 : Int64).toUInt64 >>> ((iZ ((a / 4503599627370496 : Nat) - 1023)).toInt64.toUInt64 &&& Int64.toUInt64 63)).toInt64 = lN (2 ^ csh a) := by
        have := fl_ushr (n := 4503599627370496) (z := (a / 4503599627370496 : Nat) - 1023) (by decide) (by omega) (by omega)
        refine Eq.trans this ?_
        have e2 : (((a / 4503599627370496 : Nat) : Int) - 1023).toNat = 52 - csh a := by unfold csh; omega
        have e3 : (4503599627370496 : Nat) = 2 ^ csh a * 2 ^ (52 - csh a) := by rw [← Nat.pow_add, show csh a + (52 - csh a) = 52 by omega]
        rw [e2, show 4503599627370496 / 2 ^ (52 - csh a) = 2 ^ csh a by rw [e3]; exact Nat.mul_div_cancel _ (Nat.two_pow_pos _)]
      rw [elead]
      unfold fX2_nearestWhole_50 fX2_nearestWhole_57 fX2_nearestWhole_62 fX2_nearestWhole_86 fX2_nearestWhole_90 fX2_nearestWhole_91
      have em : lN (2 ^ csh a) - 1 = lN (2 ^ csh a - 1) := lN_sub (b := 1) (by omega)
      have er : sx s a &&& lN (2 ^ csh a - 1) = lN (a % 2 ^ csh a) := by
        unfold sx
        rw [fb_maskL]
        congr 1
        cases s
        · rw [show ((if false = true then 9223372036854775808 else 0) + a) = a by simp]
        · have e1 : (if true = true then 9223372036854775808 else 0) + a = 2 ^ csh a * 2 ^ (63 - csh a) + a := by
            rw [← Nat.pow_add, show csh a + (63 - csh a) = 63 by omega]
            rfl
          rw [e1, Nat.mul_add_mod]
      have eh : ((lN (2 ^ csh a)).toUInt64 >>> ((1 : Int32).toInt64.toUInt64 &&& Int64.toUInt64 63)).toInt64 = lN (2 ^ (csh a - 1)) := by
        have := wb_shr (n := 2 ^ csh a) (k := 1) (by omega) (by decide)
        refine Eq.trans this ?_
        congr 1
        have e2 : 2 ^ csh a = 2 ^ (csh a - 1) * 2 ^ 1 := by rw [← Nat.pow_add]; congr 1; omega
        rw [e2]
        exact Nat.mul_div_cancel _ (by decide)
      have hph : 2 ^ (csh a - 1) ≤ 2 ^ csh a := Nat.pow_le_pow_right (by decide) (by omega)
      rw [em, er, eh, fl_tz ha, fl_aw (by omega), if_neg (show ¬ (1 : Int32) = 0 by decide), if_pos (show (0 : Int32) = 0 from rfl)]
      have j1 : lN (2 ^ (csh a - 1)) < lN (a % 2 ^ csh a) ↔ 2 ^ (csh a - 1) < a % 2 ^ csh a := pk_lLT (by omega) (by omega)
      have j2 : lN (a % 2 ^ csh a) = lN (2 ^ (csh a - 1)) ↔ a % 2 ^ csh a = 2 ^ (csh a - 1) := pk_lEQ (by omega) (by omega)
      have j3 : sx s a &&& lN (2 ^ csh a) = 0 ↔ ¬ dg a / 2 ^ csh a % 2 = 1 := by
        rw [hi.2.2.2.2]
        unfold sx
        rw [and_bit (by omega)]
        cases s
        · rw [show ((if false = true then 9223372036854775808 else 0) + a) = a by simp]
          omega
        · have e1 : (if true = true then 9223372036854775808 else 0) + a = 2 ^ csh a * (2 * 2 ^ (62 - csh a)) + a := by
            rw [← Nat.pow_succ', ← Nat.pow_add, show csh a + (62 - csh a + 1) = 63 by omega]
            rfl
          rw [e1, Nat.mul_add_div hq]
          omega
      unfold cmore
      rw [if_neg (show ¬ (3 = 1) by decide), if_neg (show ¬ (3 = 2) by decide)]
      by_cases d1 : 2 ^ (csh a - 1) < a % 2 ^ csh a
      · rw [if_pos (j1.mpr d1), if_pos]
        simp only [decide_eq_true_eq]
        exact ⟨by omega, Or.inl d1⟩
      · rw [if_neg (fun x => d1 (j1.mp x))]
        by_cases d2 : a % 2 ^ csh a = 2 ^ (csh a - 1)
        · rw [if_pos (j2.mpr d2)]
          by_cases d3 : dg a / 2 ^ csh a % 2 = 1
          · rw [if_neg (fun x => (j3.mp x) d3), if_pos]
            simp only [decide_eq_true_eq]
            exact ⟨by omega, Or.inr ⟨d2, d3⟩⟩
          · rw [if_pos (j3.mpr d3), if_neg]
            simp only [decide_eq_true_eq]
            rintro ⟨_, y1_ | ⟨_, y2_⟩⟩
            · exact d1 y1_
            · exact d3 y2_
        · rw [if_neg (fun x => d2 (j2.mp x)), if_neg]
          simp only [decide_eq_true_eq]
          rintro ⟨_, y1_ | ⟨y2_, _⟩⟩
          · exact d1 y1_
          · exact d2 y2_
