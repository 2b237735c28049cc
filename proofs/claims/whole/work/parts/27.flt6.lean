/-! the reference's sum; both sums are one -/
def bI32 (s : Bool) : Int32 := if s then 1 else 0
theorem bI32_ne (s : Bool) : decide (bI32 s ≠ 0) = s := by cases s <;> decide
theorem bI32_0 (s : Bool) : bI32 s = 0 ↔ s = false := by cases s <;> decide
theorem fl_if_s {α : Type} {s : Bool} {a : Nat} (ha : a < 9223372036854775808) (f : Int32 → α) : (if 0 ≤ sx s a then f 0 else f 1) = f (bI32 s) := by
  have h := sx_nneg (s := s) ha
  cases s with
  | false => rw [if_pos (h.mpr rfl)]; rfl
  | true => rw [if_neg (fun x => absurd (h.mp x) (by decide))]; rfl
theorem sm_328 {s : Bool} {a m : Nat} {R : Bool} (ha : a < 9223372036854775808) (hm : m < 9223372036854775808) : fX12_sum_328 (sx s a) (bI32 R) (lN m) = some (sx s (fRd m (un a - 9) R)) := by
  have hu := un_rng ha
  have hb : nb m ≤ 63 := nb_le (by omega)
  unfold fX12_sum_328
  rw [fl_bitsOf (by omega), Option.bind_some]
  by_cases c : nb m = 63
  · rw [if_pos (show iZ (nb m) = 63 by rw [c]; rfl)]
    have e1 : lN m >>> ((1 : Int32).toInt64 &&& 63) = lN (m / 2 ^ 1) := fl_shr (z := 1) (by omega) (by decide) (by decide)
    have hk : ∀ r : Bool, r = (R || decide (m % 2 ^ 1 ≠ 0)) → fX12_sum_357 (sx s a) (lN m) (bI32 r) = some (sx s (fRd m (un a - 9) R)) := by
      intro r hr
      unfold fX12_sum_357
      rw [fl_if_s ha (fun z => fX12_sum_371 (sx s a) (bI32 r) (lN m) z)]
      unfold fX12_sum_371
      rw [sx_unit ha, e1, show iZ (un a) - 8 = iZ (un a - 8) from iZ_sub _ 8, fl_mn (by omega) (by omega), Option.bind_some, bI32_ne, hr, show un a - 8 = un a - 9 + ((1 : Nat) : Int) by omega, fRd_coarse (by omega), sgB_or (by have := fRd_lt m (un a - 9) R; omega), bI32_ne]
    have k1 : lN m &&& 1 = 1 ↔ m % 2 = 1 := by
      rw [wb_a1 (by omega)]
      exact pk_lEQ (a := m % 2) (b := 1) (by omega) (by decide)
    cases R with
    | false =>
      rw [if_pos (show bI32 false = 0 from rfl)]
      by_cases c2 : m % 2 = 1
      · rw [if_pos (k1.mpr c2)]
        exact hk true (by simp [c2])
      · rw [if_neg (fun x => c2 (k1.mp x))]
        exact hk false (by simp; omega)
    | true =>
      rw [if_neg (show ¬ bI32 true = 0 by decide)]
      exact hk true (by simp)
  · rw [if_neg (show ¬ iZ (nb m) = 63 from fun x => c (by have := (iZ_eq (b := 63) (by omega) (by omega)).mp x; omega)), fl_if_s ha (fun z => fX12_sum_401 (sx s a) (bI32 R) (lN m) z)]
    have hm2 : m < 2 ^ 62 := by
      have h1 := nb_lt m
      have h2 : 2 ^ nb m ≤ 2 ^ 62 := Nat.pow_le_pow_right (by decide) (by omega)
      omega
    unfold fX12_sum_401
    rw [sx_unit ha, show iZ (un a) - 9 = iZ (un a - 9) from iZ_sub _ 9, fl_mn hm2 (by omega), Option.bind_some, bI32_ne, sgB_or (by have := fRd_lt m (un a - 9) R; omega), bI32_ne]
theorem fl_sumL {s t : Bool} {a c : Nat} (hc : 0 < c) (hca : c ≤ a) (ha : a < 9218868437227405312) : fX12_sum_161 (sx s a) (sx t c) = some (smX s (s == t) (dg a) (dg c) (un a - un c).toNat (un a)) := by
  have hau := un_rng (a := a) (by omega)
  have hcu := un_rng (a := c) (by omega)
  have hu := un_mono hca
  have hA := dg_lt a
  have hC := dg_lt c
  have hC0 := dg_pos hc
  have g0 : (un a - un c).toNat = 0 → dg c ≤ dg a := fun x => dg_mono hca (by omega)
  have g1 : 0 < (un a - un c).toNat → 4503599627370496 ≤ dg a := fun x => dg_norm (c := c) (by omega)
  have hud : iZ (un a - un c) = iZ ((un a - un c).toNat : Nat) := by congr 1; omega
  unfold fX12_sum_161 fX12_sum_176 fX12_sum_186
  have e9 : ∀ n : Nat, lN n <<< ((9 : Int32).toInt64 &&& 63) = lN (n * 512) := fun n => wb_shl (k := 9) n (by decide)
  rw [sx_unit (by omega), sx_unit (by omega), sx_digits (by omega), sx_digits (by omega), e9, e9, iZ_sub, hud]
  have hd5 : (un a - un c).toNat < 5000 := by omega
  generalize hd : (un a - un c).toNat = d at *
  have hf := sm_facts hA hC g0 g1
  have hml := Nat.mod_lt (dg c * 512) (Nat.two_pow_pos d)
  have hdm := Nat.div_add_mod (dg c * 512) (2 ^ d)
  have h196 : fX12_sum_196 (sx s a) (sx t c) (iZ d) (lN (dg a * 512)) (lN (dg c * 512)) = fX12_sum_229 (sx s a) (sx t c) (iZ d) (lN (dg a * 512)) (lN (dg c * 512)) (bI32 (smR (dg c) d)) := by
    unfold fX12_sum_196 fX12_sum_228 fX12_sum_224
    by_cases c1 : d ≤ 9
    · rw [if_pos (show iZ d ≤ 9 from (iZ_le (b := 9) (by omega) (by omega)).mpr (by omega))]
      have : smR (dg c) d = false := by
        cases hr : smR (dg c) d with
        | false => rfl
        | true => have := (hf.2 hr).1; omega
      rw [this]
      rfl
    · rw [if_neg (show ¬ iZ d ≤ 9 from fun x => c1 (by have := (iZ_le (b := 9) (by omega) (by omega)).mp x; omega))]
      by_cases c2 : 62 < d
      · rw [if_pos (show (62 : Int32) < iZ d from (iZ_lt (a := 62) (by omega) (by omega)).mpr (by omega))]
        have h2 : 2 ^ 63 ≤ 2 ^ d := Nat.pow_le_pow_right (by decide) (by omega)
        have : smR (dg c) d = true := by
          unfold smR
          rw [Nat.mod_eq_of_lt (by omega)]
          simp
          omega
        rw [this]
        rfl
      · rw [if_neg (show ¬ (62 : Int32) < iZ d from fun x => c2 (by have := (iZ_lt (a := 62) (by omega) (by omega)).mp x; omega)), fl_shr (by omega) (by omega) (by omega), fl_shl _ (by omega) (by omega), Int.toNat_natCast]
        have k1 : lN (dg c * 512) = lN (dg c * 512 / 2 ^ d * 2 ^ d) ↔ dg c * 512 % 2 ^ d = 0 := by
          rw [Nat.mul_comm (dg c * 512 / 2 ^ d), pk_lEQ (by omega) (by omega)]
          omega
        by_cases c3 : dg c * 512 % 2 ^ d = 0
        · rw [if_pos (k1.mpr c3), show smR (dg c) d = false by unfold smR; simp [c3]]
          rfl
        · rw [if_neg (fun x => c3 (k1.mp x)), show smR (dg c) d = true by unfold smR; simp [c3]]
          rfl
  rw [h196]
  have h229 : fX12_sum_229 (sx s a) (sx t c) (iZ d) (lN (dg a * 512)) (lN (dg c * 512)) (bI32 (smR (dg c) d)) = fX12_sum_247 (sx s a) (sx t c) (lN (dg a * 512)) (bI32 (smR (dg c) d)) (lN (dg c * 512 / 2 ^ d)) := by
    unfold fX12_sum_229
    by_cases c2 : d ≤ 62
    · rw [if_pos (show iZ d ≤ 62 from (iZ_le (b := 62) (by omega) (by omega)).mpr (by omega)), fl_shr (by omega) (by omega) (by omega), Int.toNat_natCast]
    · rw [if_neg (show ¬ iZ d ≤ 62 from fun x => c2 (by have := (iZ_le (b := 62) (by omega) (by omega)).mp x; omega))]
      have h2 : 2 ^ 63 ≤ 2 ^ d := Nat.pow_le_pow_right (by decide) (by omega)
      rw [Nat.div_eq_of_lt (by omega)]
      rfl
  rw [h229]
  unfold fX12_sum_247
  rw [fl_if_s (by omega) (fun z => fX12_sum_261 (sx s a) (sx t c) (lN (dg a * 512)) (lN (dg c * 512 / 2 ^ d)) (bI32 (smR (dg c) d)) z)]
  unfold fX12_sum_261
  rw [fl_if_s (by omega) (fun z => fX12_sum_273 (sx s a) (lN (dg a * 512)) (lN (dg c * 512 / 2 ^ d)) (bI32 (smR (dg c) d)) (bI32 s) z)]
  unfold fX12_sum_273
  have h281 : (if bI32 s = bI32 t then fX12_sum_281 (sx s a) (lN (dg a * 512)) (lN (dg c * 512 / 2 ^ d)) (bI32 (smR (dg c) d)) 1 else fX12_sum_281 (sx s a) (lN (dg a * 512)) (lN (dg c * 512 / 2 ^ d)) (bI32 (smR (dg c) d)) 0) = fX12_sum_312 (sx s a) (bI32 (smR (dg c) d)) (lN (smM (s == t) (dg a) (dg c) d)) := by
    unfold fX12_sum_281 fX12_sum_311 smM
    by_cases cs : s = t
    · rw [if_pos (by rw [cs]), if_neg (by decide), lN_add, show (s == t) = true by simp [cs]]
      rfl
    · have hne : ¬ bI32 s = bI32 t := by cases s <;> cases t <;> simp at cs ⊢ <;> decide
      rw [if_neg hne, if_pos (by decide), show (s == t) = false by simp [cs], lN_sub hf.1]
      cases hr : smR (dg c) d with
      | false =>
        have h5 : ¬ dg c * 512 % 2 ^ d ≠ 0 := by unfold smR at hr; simpa using hr
        rw [if_pos (show bI32 false = 0 from rfl)]
        simp only [Bool.false_eq_true, if_false, if_neg h5, Nat.sub_zero]
        congr 1
        exact Int64.sub_zero _
      | true =>
        have h5 : dg c * 512 % 2 ^ d ≠ 0 := by unfold smR at hr; simpa using hr
        have h6 := hf.2 hr
        rw [if_neg (show ¬ bI32 true = 0 by decide)]
        simp only [Bool.false_eq_true, if_false, if_pos h5]
        congr 1
        exact lN_sub (b := 1) (by omega)
  rw [h281]
  have hm := sm_lt (same := (s == t)) hA hC g0 g1
  have hnbr := sm_nb (same := (s == t)) hA hC g0 g1
  unfold fX12_sum_312 smX
  have hz : lN (smM (s == t) (dg a) (dg c) d) = 0 ↔ smM (s == t) (dg a) (dg c) d = 0 := pk_lEQ (b := 0) (by omega) (by decide)
  by_cases c5 : smM (s == t) (dg a) (dg c) d = 0
  · rw [if_pos (hz.mpr c5)]
    cases hr : smR (dg c) d with
    | false => rw [if_pos (show bI32 false = 0 from rfl), if_pos ⟨c5, rfl⟩]
    | true =>
      have := hnbr hr
      rw [c5, nb_0] at this
      omega
  · rw [if_neg (fun x => c5 (hz.mp x)), if_neg (fun x => c5 x.1)]
    exact sm_328 (by omega) hm
theorem fl_sum (x y : Int64) : fX12_sum x y = some (fX2_add x y) := by
  obtain ⟨s, a, ha, rfl⟩ := sx_of x
  obtain ⟨t, c, hc, rfl⟩ := sx_of y
  have la := sx_lost (s := s) ha
  have lc := sx_lost (s := t) hc
  have ia := sx_inf (s := s) ha
  have ic := sx_inf (s := t) hc
  have za := sx_zero (s := s) ha
  have zc := sx_zero (s := t) hc
  unfold fX12_sum fX2_add fX12_sum_34 fX2_add_14 fX12_sum_38 fX12_sum_52 fX2_add_44
  rw [la.2, lc.2, ia.2, ic.2, za.2, zc.2]
  by_cases q1 : fX2_isLost (sx s a) = 0
  · simp only [if_pos q1]
    by_cases q2 : fX2_isLost (sx t c) = 0
    · simp only [if_pos q2]
      by_cases q3 : fX2_isInfinite (sx s a) = 0
      · simp only [if_pos q3]
        by_cases q4 : fX2_isInfinite (sx t c) = 0
        · simp only [if_pos q4]
          by_cases q5 : fX2_isZero (sx s a) = 0
          · simp only [if_pos q5]
            unfold fX12_sum_91 fX12_sum_105
            simp only [za.2, zc.2, if_pos q5]
            by_cases q6 : fX2_isZero (sx t c) = 0
            · simp only [if_pos q6]
              have ha2 : a < 9218868437227405312 := by have h1 := la.1.mp q1; have h2 := ia.1.mp q3; omega
              have hc2 : c < 9218868437227405312 := by have h1 := lc.1.mp q2; have h2 := ic.1.mp q4; omega
              have ha0 : 0 < a := by have := za.1.mp q5; omega
              have hc0 : 0 < c := by have := zc.1.mp q6; omega
              unfold fX2_magnitude
              rw [sx_mag ha, sx_mag hc]
              unfold fX12_sum_137 fX12_sum_149
              by_cases q7 : c ≤ a
              · rw [if_pos ((pk_lLE (by omega) (by omega)).mpr q7), if_pos rfl, if_pos rfl, if_neg (fun z => by have := (pk_lLT (by omega) (by omega)).mp z; omega), fl_addL hc0 q7 ha2, fl_sumL hc0 q7 ha2]
              · rw [if_neg (fun z => q7 ((pk_lLE (by omega) (by omega)).mp z)), if_neg (by decide), if_neg (by decide), if_pos ((pk_lLT (by omega) (by omega)).mpr (by omega)), fl_addL ha0 (by omega) hc2, fl_sumL ha0 (by omega) hc2]
            · simp only [if_neg q6]
          · simp only [if_neg q5]
            by_cases q6 : fX2_isZero (sx t c) = 0
            · simp only [if_pos q6]
              unfold fX12_sum_91 fX12_sum_105
              simp only [za.2, if_neg q5]
            · simp only [if_neg q6]
              have ha0 : a = 0 := by
                rcases Nat.eq_zero_or_pos a with x1_ | x1_
                · exact x1_
                · exact absurd (za.1.mpr (by omega)) q5
              have hc0 : c = 0 := by
                rcases Nat.eq_zero_or_pos c with x1_ | x1_
                · exact x1_
                · exact absurd (zc.1.mpr (by omega)) q6
              subst ha0 hc0
              cases s <;> cases t <;> decide +kernel
        · simp only [if_neg q4]
      · simp only [if_neg q3]
        by_cases q4 : fX2_isInfinite (sx t c) = 0
        · simp only [if_pos q4, if_neg q3]
        · simp only [if_neg q4]
          by_cases q5 : sx s a = sx t c
          · simp only [if_pos q5, if_neg q3]
          · simp only [if_neg q5]
    · simp only [if_neg q2]
  · simp only [if_neg q1]
theorem fl_opp (x : Int64) : fX12_opposite x = fX2_opposite x := rfl
theorem fl_less (x y : Int64) : fX12_less x y = some (fX2_subtract x y) := by
  unfold fX12_less fX2_subtract
  rw [fl_opp, fl_sum, Option.bind_some]
