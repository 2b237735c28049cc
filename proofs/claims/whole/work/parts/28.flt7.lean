/-! products -/
theorem lN_ex (x : Int64) : ∃ n, x = lN n := by
  obtain ⟨n1_, _, rfl⟩ := wb_of x
  exact ⟨n1_, rfl⟩
theorem and_xor64 (x y z : Int64) : (x ^^^ y) &&& z = (x &&& z) ^^^ (y &&& z) := by
  obtain ⟨n1_, rfl⟩ := lN_ex x
  obtain ⟨n2_, rfl⟩ := lN_ex y
  obtain ⟨n3_, rfl⟩ := lN_ex z
  rw [fb_xorL, fb_andL, fb_andL, fb_andL, fb_xorL, Nat.and_xor_distrib_right]
theorem sx_sgx {s t : Bool} {a c : Nat} (ha : a < 9223372036854775808) (hc : c < 9223372036854775808) : fX2_signBit (sx s a ^^^ sx t c) = sx (s ^^ t) 0 := by
  unfold fX2_signBit
  rw [and_xor64, sx_sgn ha, sx_sgn hc]
  cases s <;> cases t <;> decide
theorem bI_ne {s t : Bool} {α : Type} (f : Int32 → α) : (if bI32 s = bI32 t then f 0 else f 1) = f (bI32 (s ^^ t)) := by
  cases s <;> cases t <;> rfl
theorem fl_full {D : Nat} (hD : D < 9007199254740992) : fX12_full (lN D) = some (lN (D * 2 ^ (53 - nb D))) := by
  have hb : nb D ≤ 53 := nb_le hD
  unfold fX12_full
  rw [fl_bitsOf (by omega), Option.bind_some, show (53 : Int32) - iZ (nb D) = iZ (53 - nb D) from iZ_sub 53 _, fl_shl _ (by omega) (by omega)]
  congr 4
  omega
theorem full_rng {a : Nat} (h0 : 0 < a) : 4503599627370496 ≤ dg a * 2 ^ (53 - nb (dg a)) ∧ dg a * 2 ^ (53 - nb (dg a)) < 9007199254740992 := by
  have h1 := nb_dg a
  have h2 := nb_lt (dg a)
  have h3 := nb_ge (dg_pos h0)
  have h4 := nb_pos (dg_pos h0)
  have h5 := Nat.mul_lt_mul_of_pos_right h2 (Nat.two_pow_pos (53 - nb (dg a)))
  have h6 := Nat.mul_le_mul_right (2 ^ (53 - nb (dg a))) h3
  rw [← Nat.pow_add, show nb (dg a) + (53 - nb (dg a)) = 53 by omega] at h5
  rw [← Nat.pow_add, show nb (dg a) - 1 + (53 - nb (dg a)) = 52 by omega] at h6
  exact ⟨h6, h5⟩
theorem pr_split (X Y : Nat) : X * Y = (X / 134217728) * (Y / 134217728) * 18014398509481984 + ((X / 134217728) * (Y % 134217728) + (X % 134217728) * (Y / 134217728)) * 134217728 + (X % 134217728) * (Y % 134217728) := by
  have hX : X = X / 134217728 * 134217728 + X % 134217728 := by omega
  have hY : Y = Y / 134217728 * 134217728 + Y % 134217728 := by omega
  generalize X / 134217728 = x1 at *
  generalize X % 134217728 = x0 at *
  generalize Y / 134217728 = y1 at *
  generalize Y % 134217728 = y0 at *
  rw [hX, hY, Nat.add_mul, Nat.mul_add, Nat.mul_add, Nat.mul_mul_mul_comm, Nat.mul_right_comm x1 134217728 y0, ← Nat.mul_assoc x0 y1, show 134217728 * 134217728 = 18014398509481984 by decide, Nat.add_mul]
  omega
theorem pr_bnd {X Y : Nat} (hX : X < 9007199254740992) (hY : Y < 9007199254740992) : (X / 134217728) * (Y / 134217728) ≤ 4503599493152769 ∧ (X / 134217728) * (Y % 134217728) ≤ 9007199053414401 ∧ (X % 134217728) * (Y / 134217728) ≤ 9007199053414401 ∧ (X % 134217728) * (Y % 134217728) ≤ 18014398241046529 := by
  have a1 : X / 134217728 ≤ 67108863 := by omega
  have a2 : Y / 134217728 ≤ 67108863 := by omega
  have a3 : X % 134217728 ≤ 134217727 := by omega
  have a4 : Y % 134217728 ≤ 134217727 := by omega
  exact ⟨Nat.mul_le_mul a1 a2, Nat.mul_le_mul a1 a4, Nat.mul_le_mul a3 a2, Nat.mul_le_mul a3 a4⟩
theorem pA_nat {p11 p10 p01 p00 P : Nat} (hb : p11 ≤ 4503599493152769 ∧ p10 ≤ 9007199053414401 ∧ p01 ≤ 9007199053414401 ∧ p00 ≤ 18014398241046529) (hs : P = p11 * 18014398509481984 + (p10 + p01) * 134217728 + p00) : (p10 + p01 + p00 / 134217728) % 134217728 * 134217728 + p00 % 134217728 = P % 18014398509481984 ∧ p11 + (p10 + p01 + p00 / 134217728) / 134217728 = P / 18014398509481984 := by
  constructor <;> omega
theorem pA_jam (P : Nat) : 1024 * (P / 18014398509481984) + jam (P % 18014398509481984 / 17592186044416) (decide (P % 17592186044416 ≠ 0)) = jam (P / 17592186044416) (decide (P % 17592186044416 ≠ 0)) := by
  unfold jam
  by_cases c : decide (P % 17592186044416 ≠ 0) = true ∧ P % 18014398509481984 / 17592186044416 % 2 = 0
  · rw [if_pos c, if_pos ⟨c.1, by omega⟩]
    omega
  · rw [if_neg c, if_neg (fun x => c ⟨x.1, by omega⟩)]
    omega
theorem low44 {n : Nat} (hn : n < 2 ^ 63) : fX2_lowered (lN n) 44 = lN (jam (n / 17592186044416) (decide (n % 17592186044416 ≠ 0))) := by
  have h := fl_low (n := n) (D := 44) hn (by decide)
  rw [show iZ ((44 : Nat) : Int) = 44 by decide, show (2 : Nat) ^ 44 = 17592186044416 by decide] at h
  exact h
theorem pA_83 {hi lo : Nat} (hlo : lo < 18014398509481984) : fX2_productAbove_83 44 27 (lN hi) (lN lo) = lN (1024 * hi + jam (lo / 17592186044416) (decide (lo % 17592186044416 ≠ 0))) := by
  unfold fX2_productAbove_83
  have e10 : (2 * 27 - 44 : Int32) = 10 := by decide
  have s10 : lN hi <<< ((10 : Int32).toInt64 &&& 63) = lN (hi * 1024) := wb_shl (k := 10) hi (by decide)
  rw [e10, s10, low44 (by omega)]
  have hj : jam (lo / 17592186044416) (decide (lo % 17592186044416 ≠ 0)) < 1024 := by
    unfold jam
    split <;> omega
  have ho := fb_or_sumL (k := 10) hi hj
  rw [Nat.mul_comm hi 1024]
  exact ho
theorem pA_67 {mid low hi : Nat} : fX2_productAbove_67 44 27 (lN (2 ^ 27 - 1)) (lN low) (lN mid) (lN hi) = fX2_productAbove_83 44 27 (lN hi) (lN (mid % 134217728 * 134217728 + low % 134217728)) := by
  unfold fX2_productAbove_67
  have m27 : ∀ n : Nat, lN n &&& lN (2 ^ 27 - 1) = lN (n % 134217728) := fun n => fb_maskL n 27
  have s27 : ∀ n : Nat, lN n <<< ((27 : Int32).toInt64 &&& 63) = lN (n * 134217728) := fun n => wb_shl (k := 27) n (by decide)
  have hor : lN (mid % 134217728 * 134217728) ||| lN (low % 134217728) = lN (mid % 134217728 * 134217728 + low % 134217728) := by
    rw [Nat.mul_comm]
    exact fb_or_sumL (k := 27) _ (by omega)
  rw [m27, m27, s27, hor]
theorem fl_pA {X Y : Nat} (hX : X < 9007199254740992) (hY : Y < 9007199254740992) : fX2_productAbove (lN X) (lN Y) 44 = lN (jam (X * Y / 17592186044416) (decide (X * Y % 17592186044416 ≠ 0))) := by
  unfold fX2_productAbove fX2_productAbove_12 fX2_productAbove_23 fX2_productAbove_50
  have em : ((1 : Int64) <<< ((27 : Int32).toInt64 &&& 63)) - 1 = lN (2 ^ 27 - 1) := by decide +kernel
  have u27 : ∀ n : Nat, n < 2 ^ 64 → ((lN n).toUInt64 >>> ((27 : Int32).toInt64.toUInt64 &&& Int64.toUInt64 63)).toInt64 = lN (n / 134217728) := fun n hn => wb_shr (k := 27) hn (by decide)
  have m27 : ∀ n : Nat, lN n &&& lN (2 ^ 27 - 1) = lN (n % 134217728) := fun n => fb_maskL n 27
  have hb := pr_bnd hX hY
  have hs := pr_split X Y
  rw [em, u27 X (by omega), u27 Y (by omega), m27, m27, lN_mul, lN_mul, lN_mul, lN_mul, lN_add, u27 _ (by omega), lN_add, u27 _ (by omega), lN_add, pA_67, (pA_nat hb hs).1, (pA_nat hb hs).2, pA_83 (Nat.mod_lt _ (by decide))]
  have hd : decide (X * Y % 18014398509481984 % 17592186044416 ≠ 0) = decide (X * Y % 17592186044416 ≠ 0) := by
    rw [decide_eq_decide]
    omega
  rw [hd, pA_jam]
def mEq (S S' : MS) : Prop := S'.1 = S.1 ∧ S'.2.2 = S.2.2 ∧ ∀ k, k ≠ 1 → k ≠ 2 → S'.2.1 k = S.2.1 k
theorem mEq_refl (S : MS) : mEq S S := ⟨rfl, rfl, fun _ _ _ => rfl⟩
theorem mEq_trans {S S1 S2 : MS} (h : mEq S S1) (h2 : mEq S1 S2) : mEq S S2 := ⟨h2.1.trans h.1, h2.2.1.trans h.2.1, fun k k1 k2 => (h2.2.2 k k1 k2).trans (h.2.2 k k1 k2)⟩
theorem fl_muls (S : MS) {X Y : Nat} (hX : X < 9007199254740992) (hY : Y < 9007199254740992) : ∃ S', fX12_multiplies S (lN X) (lN Y) = some S' ∧ mEq S S' ∧ gJ S' 1 = lN (X * Y / 18014398509481984) ∧ gJ S' 2 = lN (X * Y % 18014398509481984) := by
  unfold fX12_multiplies fX12_multiplies_6 fX12_multiplies_13 fX12_multiplies_19 fX12_multiplies_26 fX12_multiplies_39 fX12_multiplies_56 fX12_multiplies_77 fX12_multiplies_87
  have r27 : ∀ n : Nat, n < 2 ^ 63 → lN n >>> ((27 : Int32).toInt64 &&& 63) = lN (n / 134217728) := fun n hn => fl_shr (z := 27) hn (by decide) (by decide)
  have r54 : ∀ n : Nat, n < 2 ^ 63 → lN n >>> ((54 : Int32).toInt64 &&& 63) = lN (n / 18014398509481984) := fun n hn => fl_shr (z := 54) hn (by decide) (by decide)
  have m27 : ∀ n : Nat, lN n &&& 134217727 = lN (n % 134217728) := fun n => fb_maskL n 27
  have m54 : ∀ n : Nat, lN n &&& 18014398509481983 = lN (n % 18014398509481984) := fun n => fb_maskL n 54
  have s27 : ∀ n : Nat, lN n <<< ((27 : Int32).toInt64 &&& 63) = lN (n * 134217728) := fun n => wb_shl (k := 27) n (by decide)
  have hb := pr_bnd hX hY
  have hs := pr_split X Y
  rw [r27 X (by omega), r27 Y (by omega), m27, m27, lN_mul, lN_mul, lN_mul, lN_mul, lN_add, m27, s27, lN_add, r27 _ (by omega), r54 _ (by omega), lN_add, lN_add, m54]
  generalize (X / 134217728) * (Y / 134217728) = p11 at *
  generalize (X / 134217728) * (Y % 134217728) = p10 at *
  generalize (X % 134217728) * (Y / 134217728) = p01 at *
  generalize (X % 134217728) * (Y % 134217728) = p00 at *
  generalize X * Y = P at *
  refine ⟨_, rfl, ⟨rfl, rfl, ?_⟩, ?_, ?_⟩
  · intro k k1 k2
    unfold pJ va_up
    simp [k1, k2]
  · unfold gJ pJ va_up
    simp
    congr 1
    omega
  · unfold gJ pJ va_up
    simp
    congr 1
    omega
theorem fl_prod (S : MS) (x y : Int64) : ∃ S', fX12_product S x y = some (fX2_multiply x y, S') ∧ mEq S S' := by
  obtain ⟨s, a, ha, rfl⟩ := sx_of x
  obtain ⟨t, c, hc, rfl⟩ := sx_of y
  have la := sx_lost (s := s) ha
  have lc := sx_lost (s := t) hc
  have ia := sx_inf (s := s) ha
  have ic := sx_inf (s := t) hc
  have za := sx_zero (s := s) ha
  have zc := sx_zero (s := t) hc
  unfold fX12_product
  rw [fl_if_s ha (fun z => fX12_product_11 S (sx s a) (sx t c) z)]
  unfold fX12_product_11
  rw [fl_if_s hc (fun z => fX12_product_22 S (sx s a) (sx t c) (bI32 s) z)]
  unfold fX12_product_22
  rw [bI_ne (fun z => fX12_product_30 S (sx s a) (sx t c) z)]
  unfold fX12_product_30 fX2_multiply fX12_product_74 fX2_multiply_14
  rw [la.2, lc.2, ia.2, zc.2, sx_sgx ha hc]
  have c92 : fX12_product_92 S (bI32 (s ^^ t)) = some (sx (s ^^ t) 0 ||| 9218868437227405312, S) := by
    unfold fX12_product_92
    cases s <;> cases t <;> rfl
  have c121 : fX12_product_121 S (bI32 (s ^^ t)) = some (sx (s ^^ t) 0, S) := by
    unfold fX12_product_121
    cases s <;> cases t <;> rfl
  by_cases q1 : fX2_isLost (sx s a) = 0
  · simp only [if_pos q1]
    by_cases q2 : fX2_isLost (sx t c) = 0
    · simp only [if_pos q2]
      unfold fX2_multiply_26 fX2_multiply_40 fX2_multiply_54 fX2_multiply_81 fX2_multiply_103
      by_cases q3 : fX2_isInfinite (sx s a) = 0
      · simp only [if_pos q3]
        by_cases q4 : fX2_isInfinite (sx t c) = 0
        · unfold fX12_product_60 fX12_product_78
          rw [za.2, zc.2, ia.2, ic.2]
          simp only [if_pos q3, if_pos q4, ite_self]
          by_cases q5 : fX2_isZero (sx s a) = 0
          · simp only [if_pos q5]
            by_cases q6 : fX2_isZero (sx t c) = 0
            · simp only [if_pos q6]
              have ha0 : 0 < a := by have := za.1.mp q5; omega
              have hc0 : 0 < c := by have := zc.1.mp q6; omega
              have hau := un_rng ha
              have hcu := un_rng hc
              have hna := nb_dg a
              have hnc := nb_dg c
              have ra := full_rng ha0
              have rc := full_rng hc0
              rw [sx_digits ha, sx_digits hc, sx_unit ha, sx_unit hc, fl_full (dg_lt a), fl_full (dg_lt c), fl_bitsOf (by have := dg_lt a; omega), fl_bitsOf (by have := dg_lt c; omega), sx_sig ha0 ha, sx_sig hc0 hc, sx_scale ha0 ha, sx_scale hc0 hc, fl_pA ra.2 rc.2]
              simp only [Option.bind_some]
              unfold fX12_product_185 fX12_product_233
              obtain ⟨S1, e1_, e2_, e3_, e4_⟩ := fl_muls S ra.2 rc.2
              rw [e1_, Option.bind_some, e3_, e4_]
              have hP1 : 20282409603651670423947251286016 ≤ dg a * 2 ^ (53 - nb (dg a)) * (dg c * 2 ^ (53 - nb (dg c))) := Nat.mul_le_mul ra.1 rc.1
              have hP2 : dg a * 2 ^ (53 - nb (dg a)) * (dg c * 2 ^ (53 - nb (dg c))) < 81129638414606681695789005144064 := Nat.mul_lt_mul'' ra.2 rc.2
              generalize dg a * 2 ^ (53 - nb (dg a)) * (dg c * 2 ^ (53 - nb (dg c))) = P at *
              have s10 : lN (P / 18014398509481984) <<< ((10 : Int32).toInt64 &&& 63) = lN (P / 18014398509481984 * 1024) := wb_shl (k := 10) _ (by decide)
              have r44 : lN (P % 18014398509481984) >>> ((44 : Int32).toInt64 &&& 63) = lN (P % 18014398509481984 / 17592186044416) := fl_shr (z := 44) (by omega) (by decide) (by decide)
              have m44 : lN (P % 18014398509481984) &&& 17592186044415 = lN (P % 18014398509481984 % 17592186044416) := fb_maskL _ 44
              have eE : iZ (un a) - (53 - iZ (nb (dg a))) + iZ (un c) - (53 - iZ (nb (dg c))) + 44 = iZ (un a - ((53 - nb (dg a) : Nat) : Int) + (un c - ((53 - nb (dg c) : Nat) : Int)) + 44) := by
                rw [show (53 : Int32) = iZ 53 from rfl, show (44 : Int32) = iZ 44 from rfl, iZ_sub, iZ_sub, iZ_sub, iZ_add, iZ_sub, iZ_add]
                congr 1
                omega
              have eE2 : iZ (un a - ((53 - nb (dg a) : Nat) : Int)) + iZ (un c - ((53 - nb (dg c) : Nat) : Int)) + 44 = iZ (un a - ((53 - nb (dg a) : Nat) : Int) + (un c - ((53 - nb (dg c) : Nat) : Int)) + 44) := by
                rw [show (44 : Int32) = iZ 44 from rfl, iZ_add, iZ_add]
              rw [s10, r44, m44, lN_add, eE, eE2, show P / 18014398509481984 * 1024 + P % 18014398509481984 / 17592186044416 = P / 17592186044416 by omega]
              have hnb : 54 < nb (P / 17592186044416) := nb_gt (k := 54) (by omega)
              have hjl := jam_le (P / 17592186044416) (decide (P % 17592186044416 ≠ 0))
              rw [fl_cn (by omega) (by omega), fRd_jm (fun _ => hnb)]
              have hlt := fRd_lt (P / 17592186044416) (un a - ((53 - nb (dg a) : Nat) : Int) + (un c - ((53 - nb (dg c) : Nat) : Int)) + 44) (decide (P % 17592186044416 ≠ 0))
              rw [sx_or (by omega)]
              have k1 : lN (P % 18014398509481984 % 17592186044416) = 0 ↔ P % 17592186044416 = 0 := by
                have := pk_lEQ (a := P % 18014398509481984 % 17592186044416) (b := 0) (by omega) (by decide)
                refine this.trans ?_
                omega
              refine ⟨S1, ?_, e2_⟩
              by_cases c9 : P % 17592186044416 = 0
              · rw [if_pos (k1.mpr c9), fl_mn (by omega) (by omega), Option.bind_some, show decide (P % 17592186044416 ≠ 0) = false by simp [c9]] at *
                rw [show decide ((0 : Int32) ≠ 0) = false from rfl, sgB_or (by omega), bI32_ne]
              · rw [if_neg (fun z => c9 (k1.mp z)), fl_mn (by omega) (by omega), Option.bind_some, show decide (P % 17592186044416 ≠ 0) = true by simp [c9]] at *
                rw [show decide ((1 : Int32) ≠ 0) = true from rfl, sgB_or (by omega), bI32_ne]
            · simp only [if_neg q6]
              exact ⟨S, c121, mEq_refl S⟩
          · simp only [if_neg q5]
            exact ⟨S, c121, mEq_refl S⟩
        · unfold fX12_product_60 fX12_product_78 fX12_product_74
          rw [za.2, zc.2, ia.2, ic.2]
          simp only [if_pos q3, if_neg q4]
          have h6 : fX2_isZero (sx t c) = 0 := zc.1.mpr (fun z => q4 (ic.1.mpr (by omega)))
          simp only [if_pos h6]
          by_cases q5 : fX2_isZero (sx s a) = 0
          · simp only [if_pos q5]
            exact ⟨S, c92, mEq_refl S⟩
          · simp only [if_neg q5]
            exact ⟨S, rfl, mEq_refl S⟩
      · simp only [if_neg q3]
        have h5 : fX2_isZero (sx s a) = 0 := za.1.mpr (fun z => q3 (ia.1.mpr (by omega)))
        by_cases q6 : fX2_isZero (sx t c) = 0
        · unfold fX12_product_60 fX12_product_78
          rw [za.2, ia.2]
          simp only [if_pos q6, if_pos h5, if_neg q3]
          exact ⟨S, c92, mEq_refl S⟩
        · simp only [if_neg q6, if_pos h5]
          exact ⟨S, rfl, mEq_refl S⟩
    · simp only [if_neg q2]
      exact ⟨S, rfl, mEq_refl S⟩
  · simp only [if_neg q1]
    exact ⟨S, rfl, mEq_refl S⟩
