/-! scaling; whole numbers; fractions of 32 bits -/
theorem sx_t0 : (-9223372036854775808 : Int64) = sx true 0 := by decide
theorem sx_f0 : (0 : Int64) = sx false 0 := by decide
theorem fRd_full {a : Nat} {k : Int} (h0 : 0 < a) : fRd (dg a * 2 ^ (53 - nb (dg a))) (un a - ((53 - nb (dg a) : Nat) : Int) + k) false = fRd (dg a) (un a + k) false := by
  rw [fRd_scale]
  congr 1
  omega
theorem fl_scaled {x : Int64} {k : Int} (hk : -3000 ≤ k ∧ k ≤ 3000) (hx : fX2_isLost x = 0 ∨ x = 9221120237041090560) : fX12_scaled x (iZ k) = some (if fX2_isLost x = 0 then (if fX2_isInfinite x = 0 then (if fX2_isZero x = 0 then fX2_scaled_39 x (iZ k) else x) else x) else x) := by
  obtain ⟨s, a, ha, rfl⟩ := sx_of x
  have la := sx_lost (s := s) ha
  have ia := sx_inf (s := s) ha
  have za := sx_zero (s := s) ha
  unfold fX12_scaled fX12_scaled_21 fX12_one
  rw [la.2, ia.2, za.2]
  by_cases q1 : fX2_isLost (sx s a) = 0
  · simp only [if_pos q1]
    by_cases q3 : fX2_isInfinite (sx s a) = 0
    · simp only [if_pos q3]
      by_cases q5 : fX2_isZero (sx s a) = 0
      · simp only [if_pos q5]
        have ha0 : 0 < a := by have := za.1.mp q5; omega
        have hu := un_rng ha
        have hn := nb_dg a
        have hA := dg_lt a
        have hf := full_rng ha0
        rw [fl_if_s ha (fun z => fX12_scaled_39 (sx s a) (iZ k) z)]
        unfold fX12_scaled_39 fX2_scaled_39 fX2_signBit
        rw [sx_digits ha, sx_unit ha, iZ_add, fl_mn (by omega) (by omega), Option.bind_some, show decide ((0 : Int32) ≠ 0) = false from rfl, sgB_or (by have := fRd_lt (dg a) (un a + k) false; omega), bI32_ne, sx_sgn ha, sx_sig ha0 ha, sx_scale ha0 ha, iZ_add, fl_cn (by omega) (by omega), fRd_full ha0, sx_or (by have := fRd_lt (dg a) (un a + k) false; omega)]
      · simp only [if_neg q5]
    · simp only [if_neg q3]
  · simp only [if_neg q1]
    rcases hx with x1_ | x1_
    · exact absurd x1_ q1
    · rw [x1_]
/-- the class's and the reference's fractions of 32 bits -/
def pat (m : Nat) (e : Int) : Nat := wRd 23 127 m e
def smq24 (m : Nat) (e : Int) (s : Bool) : Nat := if m = 0 ∨ rdK 24 (-149) m e s = 0 then 0 else if 128 < nb (rdK 24 (-149) m e s) + ((rdF 24 (-149) m e : Int) + -149) then 9218868437227405312 else fRd (rdK 24 (-149) m e s) ((rdF 24 (-149) m e : Int) + -149) false
def vlu32 (P : Nat) : Nat := if P = 2139095040 then 9218868437227405312 else fRd (if P / 8388608 = 0 then P % 8388608 else 8388608 + P % 8388608) (((if P / 8388608 = 0 then 1 else P / 8388608 : Nat) : Int) - 150) false
theorem pat_un (m : Nat) (e : Int) : pat m e = if m = 0 then 0 else if 254 ≤ rdF 24 (-149) m e then 2139095040 else rdF 24 (-149) m e * 8388608 + rdK 24 (-149) m e false := rfl
theorem K24 {m : Nat} {e : Int} {s : Bool} (hm : 0 < m) : rdK 24 (-149) m e s ≤ 16777216 ∧ (rdF 24 (-149) m e = 0 ∨ 8388608 ≤ rdK 24 (-149) m e s) := by
  refine ⟨rdK_le hm, ?_⟩
  rcases Nat.eq_zero_or_pos (rdF 24 (-149) m e) with x1_ | x1_
  · exact Or.inl x1_
  · exact Or.inr (rdK_ge hm (by decide) x1_)
theorem pat_le (m : Nat) (e : Int) : pat m e ≤ 2139095040 := by
  rw [pat_un]
  split
  · omega
  · split
    · omega
    · have := K24 (m := m) (e := e) (s := false) (by omega)
      omega
theorem val_pat (m : Nat) (e : Int) : vlu32 (pat m e) = smq24 m e false := by
  rw [pat_un]
  unfold smq24 vlu32
  by_cases c0 : m = 0
  · rw [if_pos c0, if_pos (Or.inl c0), if_neg (by decide), if_pos (by decide)]
    exact fRd_0 _ _
  · rw [if_neg c0]
    have hK := K24 (m := m) (e := e) (s := false) (by omega)
    generalize rdK 24 (-149) m e false = K at *
    generalize rdF 24 (-149) m e = F at *
    by_cases c1 : K = 0
    · have hF : F = 0 := by omega
      subst hF c1
      rw [if_pos (Or.inr rfl), show (if 254 ≤ 0 then 2139095040 else 0 * 8388608 + 0) = 0 by decide, if_neg (by decide), if_pos (by decide)]
      exact fRd_0 _ _
    · rw [if_neg (show ¬ (m = 0 ∨ K = 0) by omega)]
      by_cases c2 : 254 ≤ F
      · have := nb_gt (k := 23) (m := K) (by omega)
        rw [if_pos c2, if_pos rfl, if_pos (by omega)]
      · rw [if_neg c2]
        by_cases c3 : K = 16777216
        · have hb : nb K = 25 := by rw [c3]; decide +kernel
          have e1 : F * 8388608 + K = (F + 2) * 8388608 := by omega
          rw [e1, hb]
          by_cases c4 : F = 253
          · rw [if_pos (by omega), if_pos (by omega)]
          · rw [if_neg (by omega), if_neg (by omega), Nat.mul_div_cancel _ (by decide), Nat.mul_mod_left, if_neg (by omega), if_neg (by omega), c3]
            have := fRd_scale 8388608 ((F : Int) + -149) 1
            rw [show 8388608 * 2 ^ 1 = 16777216 by decide] at this
            rw [this]
            congr 1
            omega
        · by_cases c4 : K < 8388608
          · have hF : F = 0 := by omega
            subst hF
            have hb := nb_le (m := K) (k := 23) c4
            rw [Nat.zero_mul, Nat.zero_add, if_neg (show ¬ K = 2139095040 by omega), if_neg (show ¬ (128 : Int) < nb K + (((0 : Nat) : Int) + -149) by omega), Nat.div_eq_of_lt c4, if_pos rfl, if_pos rfl, Nat.mod_eq_of_lt c4]
            rfl
          · have hb : nb K = 24 := nb_uniq (k := 23) (by omega) (by omega)
            have e1 : (F * 8388608 + K) / 8388608 = F + 1 := by omega
            have e2 : 8388608 + (F * 8388608 + K) % 8388608 = K := by omega
            rw [e1, e2, if_neg (by omega), if_neg (by omega), if_neg (by omega), if_neg (by omega)]
            congr 1
            omega
theorem pat_scale {m : Nat} {e : Int} (hm : 0 < m) (k : Nat) : pat (m * 2 ^ k) e = pat m (e + k) := by
  have : 0 < m * 2 ^ k := Nat.mul_pos hm (Nat.two_pow_pos k)
  rw [pat_un, pat_un, if_neg (show ¬ m * 2 ^ k = 0 by omega), if_neg (show ¬ m = 0 by omega), rdF_scale hm, rdK_scale hm]
theorem smq24_coarse {m : Nat} {e : Int} {s : Bool} {k : Nat} (h : 24 + k < nb m) : smq24 (m / 2 ^ k) (e + k) (s || decide (m % 2 ^ k ≠ 0)) = smq24 m e s := by
  have h0 : m ≠ 0 := by
    intro x
    subst x
    simp [nb] at h
  have h1 : m / 2 ^ k ≠ 0 := by
    intro x
    have := nb_div (m := m) (k := k) (by omega)
    rw [x, nb_0] at this
    omega
  unfold smq24
  rw [rdF_coarse (by omega), rdK_coarse h]
  have e1 : (m / 2 ^ k = 0 ∨ rdK 24 (-149) m e s = 0) ↔ (m = 0 ∨ rdK 24 (-149) m e s = 0) := by
    constructor
    · rintro (x1_ | x1_)
      · exact absurd x1_ h1
      · exact Or.inr x1_
    · rintro (x1_ | x1_)
      · exact absurd x1_ h0
      · exact Or.inr x1_
  exact fl_ifc e1
theorem smq24_le (m : Nat) (e : Int) (s : Bool) : smq24 m e s ≤ 9218868437227405312 := by
  unfold smq24
  split
  · omega
  · split
    · omega
    · exact fRd_lt _ _ _
theorem smq24_scale {m : Nat} {e : Int} (k : Nat) : smq24 (m * 2 ^ k) e false = smq24 m (e + k) false := by
  rcases Nat.eq_zero_or_pos m with x1_ | x1_
  · subst x1_
    unfold smq24
    rw [if_pos (Or.inl (Nat.zero_mul _)), if_pos (Or.inl rfl)]
  · rw [← val_pat, ← val_pat, pat_scale x1_]
theorem mn_24 {b t : Int32} {m : Nat} {e : Int} (hm : m < 2 ^ 62) (he : -10000 ≤ e ∧ e ≤ 10000) : fX12_nearest b (lN m) (iZ e) t 24 (-149) 128 = some (sx (decide (b ≠ 0)) (smq24 m e (decide (t ≠ 0)))) := by
  have h := mn_g (b := b) (t := t) (m := m) (p := 24) (e := e) (least := -149) (most := 128) hm he (by decide) (by decide) (by decide) (by decide)
  have e1 : iZ (-149) = (-149 : Int32) := by decide
  rw [e1] at h
  have h' : fX12_nearest b (lN m) (iZ e) t 24 (-149) 128 = _ := h
  rw [h']
  have h2 := smq24_le m e (decide (t ≠ 0))
  have h3 := sgB_or (b := b) (a := smq24 m e (decide (t ≠ 0))) (by omega)
  rw [← h3]
  rfl
/-! whole numbers -/
theorem wh_abs (v : Int64) : ∃ (s : Bool) (m : Nat), m ≤ 9223372036854775808 ∧ (s = false → v = lN m ∧ m < 9223372036854775808) ∧ (s = true → - v = lN m ∧ 0 < m ∧ (v = (-9223372036854775808) ↔ m = 9223372036854775808)) ∧ (0 ≤ v ↔ s = false) := by
  obtain ⟨s, a, ha, rfl⟩ := sx_of v
  cases s with
  | false => exact ⟨false, a, by omega, fun _ => ⟨sx_f a, ha⟩, fun x => absurd x (by decide), sx_nneg ha⟩
  | true =>
    refine ⟨true, 9223372036854775808 - a, by omega, fun x => absurd x (by decide), fun _ => ⟨?_, by omega, ?_⟩, sx_nneg ha⟩
    · unfold sx
      rw [fl_minus (by simp; omega)]
      congr 1
      simp
      omega
    · rw [sx_t0, sx_inj ha (by decide)]
      simp
      omega
theorem wh_m {v : Int64} {s : Bool} {m : Nat} {q : Int32} (hm : m ≤ 9223372036854775808) (h1 : s = false → v = lN m ∧ m < 9223372036854775808) (h2 : s = true → - v = lN m ∧ 0 < m ∧ (v = (-9223372036854775808) ↔ m = 9223372036854775808)) (h3 : 0 ≤ v ↔ s = false) : fX12_whole v q = if m < 4611686018427387904 then fX12_whole_105 q (bI32 s) (lN m) 0 0 else fX12_whole_105 q (bI32 s) (lN (m / 4)) 2 (bI32 (decide (m % 4 ≠ 0))) := by
  have key : ∀ r6 : Int32, r6 = bI32 (decide (m % 4 ≠ 0)) → fX12_whole_40 q (bI32 s) (lN m) r6 = if m < 4611686018427387904 then fX12_whole_105 q (bI32 s) (lN m) 0 0 else fX12_whole_105 q (bI32 s) (lN (m / 4)) 2 (bI32 (decide (m % 4 ≠ 0))) := by
    intro r6 hr
    unfold fX12_whole_40 fX12_whole_58 fX12_whole_63
    have kn : lN m < 0 ↔ 9223372036854775808 ≤ m := fl_neg (by omega)
    have hu : ((lN m).toUInt64 >>> ((2 : Int32).toInt64.toUInt64 &&& Int64.toUInt64 63)).toInt64 = lN (m / 4) := wb_shr (k := 2) (by omega) (by decide)
    have hw : fX12_whole_80 q r6 1 (bI32 s) (lN (m / 4)) = fX12_whole_105 q (bI32 s) (lN (m / 4)) 2 (bI32 (decide (m % 4 ≠ 0))) := by
      unfold fX12_whole_80 fX12_whole_90 fX12_whole_104
      rw [if_neg (by decide), if_neg (by decide)]
      by_cases c : r6 = 0
      · rw [if_pos c, ← hr, c]
      · rw [if_neg c]
        congr 1
        rw [hr] at c
        cases hd : decide (m % 4 ≠ 0) with
        | false => rw [hd] at c; exact absurd rfl c
        | true => rfl
    rw [hu]
    by_cases c1 : 9223372036854775808 ≤ m
    · rw [if_pos (kn.mpr c1), if_neg (by decide), hw, if_neg (by omega)]
    · have kl : lN m < 4611686018427387904 ↔ m < 4611686018427387904 := pk_lLT (b := 4611686018427387904) (by omega) (by decide)
      rw [if_neg (fun x => c1 (kn.mp x))]
      by_cases c2 : m < 4611686018427387904
      · rw [if_pos (kl.mpr c2), if_pos c2, if_pos rfl]
        unfold fX12_whole_80 fX12_whole_90 fX12_whole_104
        rw [if_pos rfl, if_pos rfl]
      · rw [if_neg (fun x => c2 (kl.mp x)), if_neg c2, if_neg (by decide), hw]
  have k22 : fX12_whole_22 q (bI32 s) (lN m) = if m < 4611686018427387904 then fX12_whole_105 q (bI32 s) (lN m) 0 0 else fX12_whole_105 q (bI32 s) (lN (m / 4)) 2 (bI32 (decide (m % 4 ≠ 0))) := by
    unfold fX12_whole_22
    have m3 : lN m &&& 3 = lN (m % 4) := fb_maskL m 2
    have k3 : lN (m % 4) = 0 ↔ m % 4 = 0 := pk_lEQ (b := 0) (by omega) (by decide)
    rw [m3]
    by_cases c : m % 4 = 0
    · rw [if_pos (k3.mpr c), key 0 (by simp [c]; rfl)]
    · rw [if_neg (fun x => c (k3.mp x)), key 1 (by simp [c]; rfl)]
  unfold fX12_whole fX12_whole_11
  cases s with
  | false =>
    rw [if_pos (h3.mpr rfl), if_pos rfl, (h1 rfl).1]
    exact k22
  | true =>
    rw [if_neg (fun x => absurd (h3.mp x) (by decide)), if_neg (by decide), (h2 rfl).1]
    exact k22
theorem wh_c {v : Int64} {s : Bool} {m w bias : Nat} (hm : m ≤ 9223372036854775808) (h1 : s = false → v = lN m ∧ m < 9223372036854775808) (h2 : s = true → - v = lN m ∧ 0 < m ∧ (v = (-9223372036854775808) ↔ m = 9223372036854775808)) (h3 : 0 ≤ v ↔ s = false) (hw : 1 ≤ w) (hw2 : w ≤ 52) (hb : 1 ≤ bias) (hb2 : bias ≤ 1023) : fX2_nearestToWhole v (nI w) (nI bias) = if m = 0 then 0 else lN (wRd w bias m 0) := by
  unfold fX2_nearestToWhole fX2_nearestToWhole_30
  have z0 : (0 : Int32) = iZ 0 := rfl
  have z1 : (1 : Int32) = iZ 1 := rfl
  cases s with
  | false =>
    have hv := h1 rfl
    have hne : ¬ v = (-9223372036854775808) := by
      intro x
      have := h3.mpr rfl
      rw [x] at this
      exact absurd this (by decide)
    rw [if_neg hne, if_pos (h3.mpr rfl), hv.1]
    by_cases c : m = 0
    · rw [if_pos c, c]
      unfold fX2_nearest
      rw [if_neg (by decide)]
    · rw [if_neg c, z0, cn_g (by omega) (by omega) hw hw2 hb hb2 (by decide)]
  | true =>
    have hv := h2 rfl
    rw [if_neg (show ¬ m = 0 by omega)]
    by_cases c : m = 9223372036854775808
    · rw [if_pos (hv.2.2.mpr c), z1]
      have := cn_g (J := 4611686018427387904) (w := w) (bias := bias) (z := 1) (by decide) (by decide) hw hw2 hb hb2 (by decide)
      refine Eq.trans this ?_
      have e2 : m = 4611686018427387904 * 2 ^ 1 := by rw [c]
      rw [e2]
      unfold wRd
      rw [if_neg (show ¬ 4611686018427387904 = 0 by decide), if_neg (show ¬ 4611686018427387904 * 2 ^ 1 = 0 by decide), rdF_scale (by decide), rdK_scale (by decide)]
      rfl
    · rw [if_neg (fun x => c (hv.2.2.mp x)), if_neg (fun x => absurd (h3.mp x) (by decide)), hv.1, z0, cn_g (by omega) (by omega) hw hw2 hb hb2 (by decide)]
theorem fl_number (v : Int64) : fX12_number v = some (fX2_ofWhole v) := by
  obtain ⟨s, m, hm, h1, h2, h3⟩ := wh_abs v
  unfold fX12_number fX2_ofWhole
  have hc : fX2_ofWhole_13 v (if 0 ≤ v then 0 else (-9223372036854775808)) = sx s (fRd m 0 false) := by
    unfold fX2_ofWhole_13
    have hw := wh_c (w := 52) (bias := 1023) hm h1 h2 h3 (by decide) (by decide) (by decide) (by decide)
    have hw' : fX2_nearestToWhole v 52 1023 = _ := hw
    have hlt := fRd_lt m 0 false
    have e1 : (if m = 0 then (0 : Int64) else lN (wRd 52 1023 m 0)) = lN (fRd m 0 false) := by
      by_cases c : m = 0
      · rw [if_pos c, c, fRd_0]
        rfl
      · rw [if_neg c, wRd_52]
    rw [hw', e1, ← sx_or (by omega)]
    congr 1
    cases s with
    | false => rw [if_pos (h3.mpr rfl)]; rfl
    | true => rw [if_neg (fun x => absurd (h3.mp x) (by decide))]; decide
  have hc2 : (if 0 ≤ v then fX2_ofWhole_13 v 0 else fX2_ofWhole_13 v (-9223372036854775808)) = sx s (fRd m 0 false) := by
    rw [← hc]
    by_cases c : 0 ≤ v
    · rw [if_pos c, if_pos c]
    · rw [if_neg c, if_neg c]
  rw [hc2, wh_m hm h1 h2 h3]
  unfold fX12_whole_105 fX12_whole_116 fX12_whole_129 fX12_whole_142
  have z0 : (0 : Int32) = iZ 0 := rfl
  have z2 : (2 : Int32) = iZ 2 := rfl
  have hlt := fRd_lt m 0 false
  by_cases c : m < 4611686018427387904
  · have h := fl_mn (b := bI32 s) (t := 0) (m := m) (e := 0) (by omega) (by decide)
    unfold fX12_made at h
    rw [show decide ((0 : Int32) ≠ 0) = false from rfl, sgB_or (by omega), bI32_ne] at h
    rw [if_pos c, if_pos rfl, if_pos rfl, if_pos rfl]
    have h' : ((fX12_nearest (bI32 s) (lN m) 0 0 53 (-1074) 1024).bind fun c13 => some c13) = some (sx s (fRd m 0 false)) := h
    rw [h', Option.bind_some]
  · have h := fl_mn (b := bI32 s) (t := bI32 (decide (m % 4 ≠ 0))) (m := m / 4) (e := 2) (by omega) (by decide)
    have hcs := fRd_coarse (m := m) (e := 0) (s := false) (k := 2) (by have := nb_gt (k := 62) (m := m) (by omega); omega)
    rw [Bool.false_or] at hcs
    have hcs' : fRd (m / 4) 2 (decide (m % 4 ≠ 0)) = fRd m 0 false := hcs
    unfold fX12_made at h
    rw [bI32_ne, hcs', sgB_or (by omega), bI32_ne] at h
    rw [if_neg c, if_pos rfl, if_pos rfl, if_pos rfl]
    have h' : ((fX12_nearest (bI32 s) (lN (m / 4)) 2 (bI32 (decide (m % 4 ≠ 0))) 53 (-1074) 1024).bind fun c13 => some c13) = some (sx s (fRd m 0 false)) := h
    rw [h', Option.bind_some]
