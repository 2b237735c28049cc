/-! told as 32 bits; round trips -/
theorem fRd_dec {K : Nat} {E : Int} (h0 : 0 < K) (hK : nb K ≤ 53) (hE : -1074 ≤ E - ((53 - nb K : Nat) : Int)) (h2 : nb K + E ≤ 1024) : 0 < fRd K E false ∧ fRd K E false < 9218868437227405312 ∧ dg (fRd K E false) = K * 2 ^ (53 - nb K) ∧ un (fRd K E false) = E - ((53 - nb K : Nat) : Int) := by
  have h3 := nb_lt K
  have h4 := nb_ge h0
  have h5 := nb_pos h0
  have h6 := Nat.mul_lt_mul_of_pos_right h3 (Nat.two_pow_pos (53 - nb K))
  have h7 := Nat.mul_le_mul_right (2 ^ (53 - nb K)) h4
  rw [← Nat.pow_add, show nb K + (53 - nb K) = 53 by omega] at h6
  rw [← Nat.pow_add, show nb K - 1 + (53 - nb K) = 52 by omega] at h7
  have e1 := fRd_scale K (E - ((53 - nb K : Nat) : Int)) (53 - nb K)
  rw [show E - ((53 - nb K : Nat) : Int) + ((53 - nb K : Nat) : Int) = E by omega] at e1
  have e2 := fRd_exact (K := K * 2 ^ (53 - nb K)) (F := (E - ((53 - nb K : Nat) : Int) + 1074).toNat) (by omega) (by omega) (Or.inr (by omega)) (by omega)
  rw [show (((E - ((53 - nb K : Nat) : Int) + 1074).toNat : Nat) : Int) - 1074 = E - ((53 - nb K : Nat) : Int) by omega, e1] at e2
  rw [e2]
  generalize K * 2 ^ (53 - nb K) = K' at *
  refine ⟨by omega, by omega, ?_, ?_⟩
  · unfold dg
    rw [if_neg (by omega)]
    omega
  · unfold un
    rw [if_neg (by omega)]
    omega
def sgK (P : Nat) : Nat := if P / 8388608 = 0 then P % 8388608 else 8388608 + P % 8388608
def sgE (P : Nat) : Int := ((if P / 8388608 = 0 then 1 else P / 8388608 : Nat) : Int) - 150
theorem sg_nb {P : Nat} (h0 : 0 < P) (h : P < 2139095040) : 0 < sgK P ∧ nb (sgK P) ≤ 24 ∧ (P / 8388608 = 0 → sgK P = P ∧ sgE P = -149 ∧ nb (sgK P) ≤ 23) ∧ (P / 8388608 ≠ 0 → sgK P = 8388608 + P % 8388608 ∧ sgE P = (P / 8388608 : Nat) - 150 ∧ nb (sgK P) = 24) := by
  unfold sgK sgE
  by_cases c : P / 8388608 = 0
  · have hP : P < 8388608 := by omega
    have e1 : P % 8388608 = P := Nat.mod_eq_of_lt hP
    have hn := nb_le (m := P) (k := 23) hP
    rw [if_pos c, if_pos c, e1]
    exact ⟨h0, by omega, fun _ => ⟨rfl, rfl, hn⟩, fun x => absurd c x⟩
  · have hn : nb (8388608 + P % 8388608) = 24 := nb_uniq (k := 23) (by omega) (by omega)
    rw [if_neg c, if_neg c]
    exact ⟨by omega, by omega, fun x => absurd x c, fun _ => ⟨rfl, rfl, hn⟩⟩
theorem vl_dec {P : Nat} (h0 : 0 < P) (h : P < 2139095040) : 0 < vlu32 P ∧ vlu32 P < 9218868437227405312 ∧ dg (vlu32 P) = sgK P * 2 ^ (53 - nb (sgK P)) ∧ un (vlu32 P) = sgE P - ((53 - nb (sgK P) : Nat) : Int) := by
  have hs := sg_nb h0 h
  have hr : -149 ≤ sgE P ∧ sgE P ≤ 104 := by
    by_cases c : P / 8388608 = 0
    · have := (hs.2.2.1 c).2.1
      omega
    · have := (hs.2.2.2 c).2.1
      omega
  have hv : vlu32 P = fRd (sgK P) (sgE P) false := by
    unfold vlu32
    rw [if_neg (by omega)]
    rfl
  have hp := nb_pos hs.1
  rw [hv]
  exact fRd_dec hs.1 (by omega) (by omega) (by omega)
theorem pat_sg {P : Nat} (h0 : 0 < P) (h : P < 2139095040) : pat (sgK P) (sgE P) = P := by
  have hs := sg_nb h0 h
  rw [pat_un, if_neg (by omega)]
  unfold rdK rdS rdF
  by_cases c : P / 8388608 = 0
  · have h1 := hs.2.2.1 c
    rw [h1.2.1, h1.1]
    have h2 := h1.2.2
    rw [h1.1] at h2
    rw [show ((-149 : Int) + nb P - ((24 : Nat) : Int) - -149).toNat = 0 by omega, if_neg (by decide), show (((0 : Nat) : Int) + -149 - -149) = 0 by decide]
    show 0 * 8388608 + rn (P * 2 ^ 0) false 0 = P
    rw [rn_0, Nat.pow_zero, Nat.mul_one, Nat.zero_mul, Nat.zero_add]
  · have h1 := hs.2.2.2 c
    rw [h1.2.2, h1.2.1, show (((P / 8388608 : Nat) : Int) - 150 + ((24 : Nat) : Int) - ((24 : Nat) : Int) - -149).toNat = P / 8388608 - 1 by omega, if_neg (by omega), show (((P / 8388608 - 1 : Nat) : Int) + -149 - (((P / 8388608 : Nat) : Int) - 150)) = 0 by omega]
    show (P / 8388608 - 1) * 8388608 + rn (sgK P * 2 ^ 0) false 0 = P
    rw [rn_0, Nat.pow_zero, Nat.mul_one, h1.1]
    omega
theorem pt_vl {P : Nat} (h : P ≤ 2139095040) : pt (vlu32 P) = P := by
  rcases Nat.eq_zero_or_pos P with x1_ | x1_
  · subst x1_
    rfl
  · by_cases c : P = 2139095040
    · subst c
      rfl
    · have hd := vl_dec x1_ (by omega)
      have hs := sg_nb x1_ (show P < 2139095040 by omega)
      unfold pt
      rw [if_neg (by omega), hd.2.2.1, hd.2.2.2, pat_scale hs.1, show sgE P - ((53 - nb (sgK P) : Nat) : Int) + ((53 - nb (sgK P) : Nat) : Int) = sgE P by omega]
      exact pat_sg x1_ (by omega)
theorem vl_le {P : Nat} : vlu32 P ≤ 9218868437227405312 := by
  unfold vlu32
  split
  · omega
  · exact fRd_lt _ _ _
/-- a pattern of 32 bits as the class keeps it -/
def can32 (v : Int32) : Prop := v = 2143289344 ∨ ∃ (s : Bool) (P : Nat), P ≤ 2139095040 ∧ v = sx32 s P
theorem can32_tob (x : Int64) : can32 (fX2_toBits32 x) := by
  obtain ⟨s, a, ha, rfl⟩ := sx_of x
  have la := sx_lost (s := s) ha
  by_cases q1 : fX2_isLost (sx s a) = 0
  · have h := la.1.mp q1
    exact Or.inr ⟨s, pt a, pt_le a, fl_tob h⟩
  · exact Or.inl (fl_tobL _ q1)
theorem fl_round {v : Int32} (h : can32 v) : fX2_toBits32 (fX2_ofBits32 v) = v ∧ (fX2_isLost (fX2_ofBits32 v) = 0 ∨ fX2_ofBits32 v = 9221120237041090560) := by
  rcases h with x1_ | ⟨s, P, hP, x1_⟩
  · subst x1_
    refine ⟨?_, Or.inr ?_⟩ <;> decide +kernel
  · subst x1_
    have hl := vl_le (P := P)
    rw [fl_ofb (by omega), if_neg (by omega), fl_tob hl, pt_vl hP]
    exact ⟨rfl, Or.inl ((sx_lost (by omega)).1.mpr hl)⟩
theorem fl_sbits (x : Int64) (hx : fX2_isLost x = 0 ∨ x = 9221120237041090560) : fX12_smallBits x = some (fX2_toBits32 x).toInt64 := by
  unfold fX12_smallBits
  rw [fl_small x hx, Option.bind_some]
  rcases can32_tob x with x1_ | ⟨s, P, hP, x1_⟩
  · rw [x1_]
    have e1 : ¬ fX12_isLost (fX2_ofBits32 2143289344) = 0 := by decide +kernel
    rw [if_neg e1]
    congr 1
  · rw [x1_, fl_ofb (by omega), if_neg (show ¬ 2139095040 < P by omega)]
    have hl := vl_le (P := P)
    have hlt : vlu32 P < 9223372036854775808 := by omega
    have la := sx_lost (s := s) hlt
    have ia := sx_inf (s := s) hlt
    have za := sx_zero (s := s) hlt
    rw [la.2, if_pos (la.1.mpr hl), sx32_l (by omega)]
    have hs : (if 0 ≤ sx s (vlu32 P) then fX12_smallBits_29 (sx s (vlu32 P)) 0 else fX12_smallBits_29 (sx s (vlu32 P)) (-2147483648)) = fX12_smallBits_29 (sx s (vlu32 P)) (if s then (-2147483648 : Int64) else 0) := by
      have h2 := sx_nneg (s := s) hlt
      cases s with
      | false => rw [if_pos (h2.mpr rfl)]; rfl
      | true => rw [if_neg (fun x => absurd (h2.mp x) (by decide))]; rfl
    rw [hs]
    generalize (if s then (-2147483648 : Int64) else 0) = t0
    unfold fX12_smallBits_29
    rw [ia.2, za.2]
    by_cases c1 : P = 2139095040
    · have e1 : vlu32 P = 9218868437227405312 := by rw [c1]; rfl
      rw [if_neg (fun x => (ia.1.mp x) e1), c1]
      rfl
    · rcases Nat.eq_zero_or_pos P with x2_ | x2_
      · have e1 : vlu32 P = 0 := by rw [x2_]; rfl
        rw [if_pos (ia.1.mpr (by omega)), if_neg (fun x => (za.1.mp x) e1), x2_]
        congr 1
        exact Int64.or_zero.symm
      · have hd := vl_dec x2_ (show P < 2139095040 by omega)
        have hs2 := sg_nb x2_ (show P < 2139095040 by omega)
        have hp := nb_pos hs2.1
        have hnb : nb (sgK P * 2 ^ (53 - nb (sgK P))) = 53 := by rw [nb_mul hs2.1]; omega
        have h3 := nb_lt (sgK P * 2 ^ (53 - nb (sgK P)))
        rw [hnb] at h3
        rw [if_pos (ia.1.mpr (by omega)), if_pos (za.1.mpr (by omega)), sx_digits hlt, sx_unit hlt, hd.2.2.1, hd.2.2.2, fl_full (by omega), fl_bitsOf (by omega)]
        simp only [Option.bind_some]
        rw [hnb]
        unfold fX12_smallBits_81 fX12_smallBits_88 fX12_smallBits_133
        rw [Nat.sub_self, Nat.pow_zero, Nat.mul_one]
        have e29 : iZ (sgE P - ((53 - nb (sgK P) : Nat) : Int)) - (53 - iZ ((53 : Nat) : Int)) + 29 = iZ (sgE P - 24 + nb (sgK P)) := by
          rw [show (53 : Int32) = iZ 53 from rfl, show (29 : Int32) = iZ 29 from rfl, iZ_sub, iZ_sub, iZ_add]
          congr 1
          omega
        rw [e29, show (-149 : Int32) = iZ (-149) by decide]
        by_cases c2 : P / 8388608 = 0
        · have h1 := hs2.2.2.1 c2
          rw [if_neg (fun x => by have := (iZ_le (by omega) (by omega)).mp x; omega), iZ_sub, show (29 : Int32) + iZ (-149 - (sgE P - 24 + nb (sgK P))) = iZ (29 + (-149 - (sgE P - 24 + nb (sgK P)))) from iZ_add 29 _, fl_shr (by omega) (by omega) (by omega), show (29 + (-149 - (sgE P - 24 + (nb (sgK P) : Int)))).toNat = 53 - nb (sgK P) by omega, Nat.mul_div_cancel _ (Nat.two_pow_pos _), h1.1]
        · have h1 := hs2.2.2.2 c2
          have s23 : lN (P / 8388608) <<< ((23 : Int32).toInt64 &&& 63) = lN (2 ^ 23 * (P / 8388608)) := by
            rw [Nat.mul_comm]
            exact wb_shl (k := 23) _ (by decide)
          have r29 : lN (sgK P * 2 ^ (53 - 24)) >>> ((29 : Int32).toInt64 &&& 63) = lN (sgK P) := by
            have := fl_shr (a := sgK P * 2 ^ (53 - 24)) (z := 29) (by omega) (by decide) (by decide)
            refine Eq.trans this ?_
            congr 1
            exact Nat.mul_div_cancel _ (Nat.two_pow_pos 29)
          rw [h1.2.2, if_pos ((iZ_le (by omega) (by omega)).mpr (by omega)), show iZ (sgE P - 24 + ((24 : Nat) : Int)) + 150 = iZ (sgE P - 24 + ((24 : Nat) : Int) + 150) from iZ_add _ 150, iZ_l (by omega) (by omega), r29, show (sgE P - 24 + ((24 : Nat) : Int) + 150).toNat = P / 8388608 by omega, s23, show lN (sgK P) - 8388608 = lN (sgK P - 8388608) from lN_sub (b := 8388608) (by omega), fb_or_sumL _ (by omega), show 2 ^ 23 * (P / 8388608) + (sgK P - 8388608) = P by omega]
theorem fl_whs (v : Int64) : fX12_whole v 1 = some (fX2_ofBits32 (fX2_wholeToBits32 v)) := by
  obtain ⟨s, m, hm, h1, h2, h3⟩ := wh_abs v
  have hp := pat_le m 0
  have hcw : fX2_wholeToBits32 v = sx32 s (pat m 0) := by
    unfold fX2_wholeToBits32 fX2_wholeToBits32_12
    have hw := wh_c (w := 23) (bias := 127) hm h1 h2 h3 (by decide) (by decide) (by decide) (by decide)
    have hw' : fX2_nearestToWhole v 23 127 = lN (pat m 0) := by
      refine Eq.trans hw ?_
      by_cases c : m = 0
      · rw [if_pos c, c]
        rfl
      · rw [if_neg c]
        rfl
    rw [hw', lN_i]
    cases s with
    | false =>
      rw [if_pos (h3.mpr rfl)]
      exact sx32_or (s := false) (by omega)
    | true =>
      rw [if_neg (fun x => absurd (h3.mp x) (by decide)), show (-2147483648 : Int32) = sx32 true 0 by decide]
      exact sx32_or (s := true) (by omega)
  rw [hcw, fl_ofb (by omega), if_neg (by omega), val_pat, wh_m hm h1 h2 h3]
  unfold fX12_whole_105 fX12_whole_116 fX12_whole_129 fX12_whole_142
  by_cases c : m < 4611686018427387904
  · have h := mn_24 (b := bI32 s) (t := 0) (m := m) (e := 0) (by omega) (by decide)
    rw [bI32_ne] at h
    have h' : fX12_nearest (bI32 s) (lN m) 0 0 24 (-149) 128 = some (sx s (smq24 m 0 false)) := h
    rw [if_pos c, if_neg (by decide), if_neg (by decide), if_neg (by decide), h', Option.bind_some]
  · have h := mn_24 (b := bI32 s) (t := bI32 (decide (m % 4 ≠ 0))) (m := m / 4) (e := 2) (by omega) (by decide)
    have hcs := smq24_coarse (m := m) (e := 0) (s := false) (k := 2) (by have := nb_gt (k := 62) (m := m) (by omega); omega)
    rw [Bool.false_or] at hcs
    have hcs' : smq24 (m / 4) 2 (decide (m % 4 ≠ 0)) = smq24 m 0 false := hcs
    rw [bI32_ne, bI32_ne, hcs'] at h
    have h' : fX12_nearest (bI32 s) (lN (m / 4)) 2 (bI32 (decide (m % 4 ≠ 0))) 24 (-149) 128 = some (sx s (smq24 m 0 false)) := h
    rw [if_neg c, if_neg (by decide), if_neg (by decide), if_neg (by decide), h', Option.bind_some]
