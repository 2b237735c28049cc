/-! what is exact stays; the reference's nearest -/
theorem fRd_exact {K F : Nat} (hK : 0 < K) (hK2 : K ≤ 9007199254740992) (hF : F = 0 ∨ 4503599627370496 ≤ K) (hF2 : F ≤ 2045) : fRd K ((F : Int) - 1074) false = F * 4503599627370496 + K := by
  unfold fRd rdK rdS rdF
  rw [if_neg (show ¬ K = 0 by omega)]
  by_cases c1 : K < 4503599627370496
  · have hF0 : F = 0 := by omega
    subst hF0
    have h1 : nb K ≤ 52 := nb_le c1
    have e1 : (((0 : Nat) : Int) - 1074 + nb K - (53 : Nat) - (-1074)).toNat = 0 := by omega
    rw [e1, if_neg (by decide)]
    have e2 : (((0 : Nat) : Int) + -1074 - (((0 : Nat) : Int) - 1074)) = 0 := by decide
    rw [e2]
    show 0 * _ + rn (K * 2 ^ 0) false 0 = _
    rw [rn_0, Nat.pow_zero, Nat.mul_one]
  · by_cases c2 : K = 9007199254740992
    · have h1 : nb K = 54 := by rw [c2]; decide +kernel
      have e1 : ((F : Int) - 1074 + nb K - (53 : Nat) - (-1074)).toNat = F + 1 := by omega
      rw [e1]
      have e2 : ((F + 1 : Nat) : Int) + -1074 - ((F : Int) - 1074) = 1 := by omega
      rw [e2]
      have e3 : rn (K * 2 ^ (-(1 : Int)).toNat) false (1 : Int).toNat = 4503599627370496 := by rw [c2]; decide +kernel
      rw [e3]
      by_cases c3 : 2045 < F + 1
      · rw [if_pos c3]
        omega
      · rw [if_neg c3]
        omega
    · have h1 : nb K = 53 := nb_uniq (k := 52) (by omega) (by omega)
      have e1 : ((F : Int) - 1074 + nb K - (53 : Nat) - (-1074)).toNat = F := by omega
      rw [e1, if_neg (by omega)]
      have e2 : (F : Int) + -1074 - ((F : Int) - 1074) = 0 := by omega
      rw [e2]
      show F * _ + rn (K * 2 ^ 0) false 0 = _
      rw [rn_0, Nat.pow_zero, Nat.mul_one]
theorem fRd_0 (e : Int) (s : Bool) : fRd 0 e s = 0 := by
  unfold fRd
  rw [if_pos rfl]
theorem fRd_inf {m : Nat} {e : Int} {s : Bool} (h0 : 0 < m) (h : 1024 < nb m + e) : fRd m e s = 9218868437227405312 := by
  unfold fRd
  rw [if_neg (by omega), if_pos]
  unfold rdF
  omega
theorem mn_256 {sg : Int64} {q : Int} {r : Nat} (h0 : 0 < r) (h1 : r < 9007199254740992) (h2 : -1074 ≤ q) (h3 : r < 4503599627370496 → q = -1074) (h4 : nb r + q ≤ 1024) : fX12_nearest_223 sg (iZ q) (lN r) = some (sg ||| lN (fRd r q false)) := by
  unfold fX12_nearest_223 fX12_nearest_256
  by_cases c1 : 4503599627370496 ≤ r
  · have hb : nb r = 53 := nb_uniq (k := 52) (by omega) (by omega)
    rw [if_pos (show (4503599627370496 : Int64) ≤ lN r from (pk_lLE (a := 4503599627370496) (by decide) (by omega)).mpr c1)]
    have e1 := fRd_exact (F := (q + 1074).toNat) h0 (by omega) (Or.inr c1) (by omega)
    rw [show (((q + 1074).toNat : Nat) : Int) - 1074 = q by omega] at e1
    rw [e1, show iZ q + 1075 = iZ (q + 1075) from iZ_add q 1075, iZ_l (by omega) (by omega), show lN r - 4503599627370496 = lN (r - 4503599627370496) from lN_sub (b := 4503599627370496) c1]
    have e2 : lN (q + 1075).toNat <<< ((52 : Int32).toInt64 &&& 63) = lN (2 ^ 52 * (q + 1075).toNat) := by
      rw [Nat.mul_comm]
      exact wb_shl (k := 52) _ (by decide)
    rw [e2, fb_or_sumL _ (by omega), show 2 ^ 52 * (q + 1075).toNat + (r - 4503599627370496) = (q + 1074).toNat * 4503599627370496 + r by omega]
  · rw [if_neg (show ¬ (4503599627370496 : Int64) ≤ lN r from fun x => c1 ((pk_lLE (a := 4503599627370496) (by decide) (by omega)).mp x))]
    have hq := h3 (by omega)
    have e1 := fRd_exact (K := r) (F := 0) h0 (by omega) (Or.inl rfl) (by decide)
    rw [hq]
    have e2 : (((0 : Nat) : Int) - 1074) = -1074 := by decide
    rw [e2, Nat.zero_mul, Nat.zero_add] at e1
    rw [e1]
theorem mn_193 {sg : Int64} : ∀ (fu : Nat) (q : Int) (r : Nat), 0 < r → r < 9007199254740992 → -1074 ≤ q → nb r + q ≤ 1024 → 54 ≤ fu + nb r → fX12_nearest_193 fu sg (iZ q) (lN r) = some (sg ||| lN (fRd r q false))
  | 0, q, r, h0, h1, h2, h4, h5 => by
    have := nb_le (m := r) (k := 53) (by omega)
    omega
  | fu + 1, q, r, h0, h1, h2, h4, h5 => by
    have hb := nb_le (m := r) (k := 53) (by omega)
    rw [fX12_nearest_193, fl_bitsOf (by omega), Option.bind_some]
    by_cases c1 : 53 ≤ nb r
    · rw [if_pos (show (53 : Int32) ≤ iZ (nb r) from (iZ_le (a := 53) (by omega) (by omega)).mpr (by omega))]
      have := nb_ge h0
      rw [show nb r - 1 = 52 by omega] at this
      exact mn_256 h0 h1 h2 (by omega) h4
    · rw [if_neg (show ¬ (53 : Int32) ≤ iZ (nb r) from fun x => by have := (iZ_le (a := 53) (by omega) (by omega)).mp x; omega)]
      by_cases c2 : q ≤ -1074
      · rw [if_pos (show iZ q ≤ (-1074 : Int32) by rw [show (-1074 : Int32) = iZ (-1074) by decide]; exact (iZ_le (by omega) (by omega)).mpr c2)]
        exact mn_256 h0 h1 h2 (by omega) h4
      · rw [if_neg (show ¬ iZ q ≤ (-1074 : Int32) by rw [show (-1074 : Int32) = iZ (-1074) by decide]; exact fun x => c2 ((iZ_le (by omega) (by omega)).mp x))]
        unfold fX12_nearest_217 fX12_nearest_220
        have e1 : lN r <<< ((1 : Int32).toInt64 &&& 63) = lN (r * 2 ^ 1) := wb_shl (k := 1) r (by decide)
        have e3 := nb_mul h0 1
        have hr := nb_lt r
        have hr2 : 2 ^ nb r ≤ 2 ^ 52 := Nat.pow_le_pow_right (by decide) (by omega)
        rw [e1, show (-1 : Int32) = iZ (-1) by decide, iZ_add, mn_193 fu (q + -1) (r * 2 ^ 1) (by omega) (by omega) (by omega) (by omega) (by omega), fRd_scale]
        congr 4
        omega
theorem mn_141 {sg : Int64} {most : Int} {q : Int} {r : Nat} (hr : r ≤ 9007199254740992) (h2 : -1074 ≤ q) (h3 : q ≤ 100000) (hm : most ≤ 1024) (hm2 : -1074 ≤ most) : fX12_nearest_141 (iZ most) sg (iZ q) (lN r) = some (sg ||| lN (if r = 0 then 0 else if most < nb r + q then 9218868437227405312 else fRd r q false)) := by
  unfold fX12_nearest_141
  by_cases c0 : r = 0
  · subst c0
    rw [if_pos (show lN 0 = 0 from rfl), if_pos rfl]
    congr 1
    exact (Int64.or_zero).symm
  · have hb := nb_le (m := r) (k := 54) (by omega)
    rw [if_neg (show ¬ lN r = 0 from fun x => c0 ((pk_lEQ (b := 0) (by omega) (by decide)).mp x)), if_neg c0, fl_bitsOf (by omega), Option.bind_some, iZ_add]
    by_cases c1 : most < nb r + q
    · rw [if_neg (fun x => by have := (iZ_le (by omega) (by omega)).mp x; omega), if_pos c1]
      rfl
    · rw [if_pos ((iZ_le (by omega) (by omega)).mpr (by omega)), if_neg c1]
      have hs : ∀ (fu : Nat) (q : Int) (r : Nat), 0 < r → r < 9007199254740992 → -1074 ≤ q → nb r + q ≤ 1024 → fX12_nearest_171 (fu + 1) sg (iZ q) (lN r) = some (sg ||| lN (fRd r q false)) := by
        intro fu q r g0 g1 g2 g3
        have hb := nb_le (m := r) (k := 53) (by omega)
        have hb0 := nb_pos g0
        rw [fX12_nearest_171, fl_bitsOf (by omega), Option.bind_some, if_pos (show iZ (nb r) ≤ (53 : Int32) from (iZ_le (b := 53) (by omega) (by omega)).mpr (by omega))]
        exact mn_193 70 q r g0 g1 g2 g3 (by omega)
      by_cases c2 : r = 9007199254740992
      · have hb54 : nb r = 54 := by rw [c2]; decide +kernel
        rw [show (70 : Nat) = 69 + 1 from rfl, fX12_nearest_171, fl_bitsOf (by omega), Option.bind_some, if_neg (show ¬ iZ (nb r) ≤ (53 : Int32) from fun x => by have := (iZ_le (b := 53) (by omega) (by omega)).mp x; omega)]
        unfold fX12_nearest_187 fX12_nearest_190
        have e1 : lN r >>> ((1 : Int32).toInt64 &&& 63) = lN 4503599627370496 := by rw [c2]; decide +kernel
        have e2 : nb 4503599627370496 = 53 := by decide +kernel
        rw [e1, show iZ q + 1 = iZ (q + 1) from iZ_add q 1, hs 68 (q + 1) 4503599627370496 (by decide) (by decide) (by omega) (by rw [e2]; omega)]
        congr 3
        rw [c2]
        exact (fRd_scale 4503599627370496 q 1).symm
      · exact hs 69 q r (by omega) (by omega) h2 (by omega)
theorem mn_82 {sg : Int64} {most q : Int32} {m S : Nat} {t : Int32} (hm : m < 2 ^ 63) (hS : 0 < S) (hS2 : S ≤ 62) : fX12_nearest_82 (lN m) t most sg q (lN (m / 2 ^ S)) (iZ S) = fX12_nearest_141 most sg q (lN (rn m (decide (t ≠ 0)) S)) := by
  unfold fX12_nearest_82 fX12_nearest_91 fX12_nearest_99 fX12_nearest_129 fX12_nearest_135
  have hp : 2 ^ S = 2 * 2 ^ (S - 1) := by rw [← Nat.pow_succ']; congr 1; omega
  have hp2 : 2 ^ (S - 1) ≤ 2 ^ 62 := Nat.pow_le_pow_right (by decide) (by omega)
  have hdm := Nat.div_add_mod m (2 ^ S)
  have hml := Nat.mod_lt m (Nat.two_pow_pos S)
  have hd : m / 2 ^ S ≤ m := Nat.div_le_self _ _
  have e1 : lN m - (lN (m / 2 ^ S) <<< ((iZ S).toInt64 &&& 63)) = lN (m % 2 ^ S) := by
    rw [fl_shl _ (by omega) (by omega), Int.toNat_natCast, lN_sub (by rw [Nat.mul_comm]; omega)]
    congr 1
    rw [Nat.mul_comm]
    omega
  have e2 : (1 : Int64) <<< ((iZ S - 1).toInt64 &&& 63) = lN (2 ^ (S - 1)) := by
    rw [show iZ S - 1 = iZ ((S : Int) - 1) from iZ_sub S 1]
    have := fl_shl 1 (z := (S : Int) - 1) (by omega) (by omega)
    rw [Nat.one_mul, show ((S : Int) - 1).toNat = S - 1 by omega] at this
    exact this
  rw [e1, e2]
  have k1 : lN (2 ^ (S - 1)) < lN (m % 2 ^ S) ↔ 2 ^ S < 2 * (m % 2 ^ S) := by
    rw [pk_lLT (by omega) (by omega)]
    omega
  have k2 : lN (m % 2 ^ S) = lN (2 ^ (S - 1)) ↔ 2 * (m % 2 ^ S) = 2 ^ S := by
    rw [pk_lEQ (by omega) (by omega)]
    omega
  have k3 : lN (m / 2 ^ S) &&& 1 = 1 ↔ m / 2 ^ S % 2 = 1 := by
    rw [wb_a1 (by omega)]
    exact pk_lEQ (a := m / 2 ^ S % 2) (b := 1) (by omega) (by decide)
  have e3 : lN (m / 2 ^ S) + 1 = lN (m / 2 ^ S + 1) := lN_1 _
  rw [e3]
  by_cases c1 : 2 ^ S < 2 * (m % 2 ^ S)
  · rw [if_pos (k1.mpr c1), show rn m (decide (t ≠ 0)) S = m / 2 ^ S + 1 by unfold rn; rw [if_pos (Or.inl c1)]]
  · rw [if_neg (fun x => c1 (k1.mp x))]
    by_cases c2 : 2 * (m % 2 ^ S) = 2 ^ S
    · rw [if_pos (k2.mpr c2)]
      by_cases c4 : t = 0
      · rw [if_pos c4]
        by_cases c3 : m / 2 ^ S % 2 = 1
        · rw [if_pos (k3.mpr c3), show rn m (decide (t ≠ 0)) S = m / 2 ^ S + 1 by unfold rn; rw [if_pos (Or.inr ⟨c2, Or.inr c3⟩)]]
        · rw [if_neg (fun x => c3 (k3.mp x)), show rn m (decide (t ≠ 0)) S = m / 2 ^ S by unfold rn; rw [if_neg (by simp [c1, c2, c3, c4])]; rfl]
      · rw [if_neg c4, show rn m (decide (t ≠ 0)) S = m / 2 ^ S + 1 by unfold rn; rw [if_pos (Or.inr ⟨c2, Or.inl (by simp [c4])⟩)]]
    · rw [if_neg (fun x => c2 (k2.mp x)), show rn m (decide (t ≠ 0)) S = m / 2 ^ S by unfold rn; rw [if_neg (by simp [c1, c2])]; rfl]
def sgB (b : Int32) : Int64 := if b = 0 then 0 else (-9223372036854775808)
theorem mn_g {b t : Int32} {m p : Nat} {e least most : Int} (hm : m < 2 ^ 62) (he : -10000 ≤ e ∧ e ≤ 10000) (hp : p ≤ 53) (hl : -1074 ≤ least) (hl2 : least ≤ most) (hmo : most ≤ 1024) : fX12_nearest b (lN m) (iZ e) t (nI p) (iZ least) (iZ most) = some (sgB b ||| lN (if m = 0 ∨ rdK p least m e (decide (t ≠ 0)) = 0 then 0 else if most < nb (rdK p least m e (decide (t ≠ 0))) + (rdF p least m e + least) then 9218868437227405312 else fRd (rdK p least m e (decide (t ≠ 0))) (rdF p least m e + least) false)) := by
  have key : ∀ sg : Int64, fX12_nearest_11 (lN m) (iZ e) t (nI p) (iZ least) (iZ most) sg = some (sg ||| lN (if m = 0 ∨ rdK p least m e (decide (t ≠ 0)) = 0 then 0 else if most < nb (rdK p least m e (decide (t ≠ 0))) + (rdF p least m e + least) then 9218868437227405312 else fRd (rdK p least m e (decide (t ≠ 0))) (rdF p least m e + least) false)) := by
    intro sg
    unfold fX12_nearest_11
    by_cases c0 : m = 0
    · subst c0
      rw [if_pos (show lN 0 = 0 from rfl), if_pos (Or.inl rfl)]
      congr 1
      exact (Int64.or_zero).symm
    · have hb := nb_le (m := m) (k := 62) hm
      have hm0 : 0 < m := by omega
      have hb0 := nb_pos hm0
      rw [if_neg (show ¬ lN m = 0 from fun x => c0 ((pk_lEQ (b := 0) (by omega) (by decide)).mp x)), fl_bitsOf (by omega), Option.bind_some, iZ_nI p, iZ_add, iZ_sub]
      unfold fX12_nearest_33
      have e1 : (if iZ least ≤ iZ (e + nb m - p) then fX12_nearest_47 (lN m) (iZ e) t (iZ most) sg (iZ (e + nb m - p)) else fX12_nearest_47 (lN m) (iZ e) t (iZ most) sg (iZ least)) = fX12_nearest_47 (lN m) (iZ e) t (iZ most) sg (iZ (rdF p least m e + least)) := by
        by_cases c1 : least ≤ e + nb m - p
        · rw [if_pos ((iZ_le (by omega) (by omega)).mpr c1)]
          congr 2
          unfold rdF
          omega
        · rw [if_neg (fun x => c1 ((iZ_le (by omega) (by omega)).mp x))]
          congr 2
          unfold rdF
          omega
      rw [e1]
      unfold fX12_nearest_47
      rw [iZ_sub, show (rdF p least m e : Int) + least - e = rdS p least m e from rfl]
      have hFr : rdF p least m e ≤ 12000 := by unfold rdF; omega
      have hSr : -100000 ≤ rdS p least m e ∧ rdS p least m e ≤ 100000 := by unfold rdS; omega
      unfold fX12_nearest_58
      have hKl := rdK_le (p := p) (least := least) (m := m) (e := e) (s := decide (t ≠ 0)) hm0
      have hp53 : 2 ^ p ≤ 2 ^ 53 := Nat.pow_le_pow_right (by decide) hp
      by_cases c1 : rdS p least m e ≤ 62
      · rw [if_pos (show iZ (rdS p least m e) ≤ 62 from (iZ_le (b := 62) (by omega) (by omega)).mpr c1)]
        by_cases c2 : rdS p least m e ≤ 0
        · rw [if_pos (show iZ (rdS p least m e) ≤ 0 from (iZ_le (b := 0) (by omega) (by omega)).mpr c2)]
          have hK : rdK p least m e (decide (t ≠ 0)) = m * 2 ^ (- rdS p least m e).toNat := by
            unfold rdK
            rw [show (rdS p least m e).toNat = 0 by omega, rn_0]
          have hk := Nat.two_pow_pos (- rdS p least m e).toNat
          have hpm : 0 < m * 2 ^ (- rdS p least m e).toNat := Nat.mul_pos hm0 hk
          have hle : m * 1 ≤ m * 2 ^ (- rdS p least m e).toNat := Nat.mul_le_mul_left m hk
          have hel : least ≤ e := by unfold rdS at c2; omega
          rw [mn_141 (by rw [hK] at hKl; omega) (by omega) (by omega) hmo (by omega), if_neg c0, if_neg (show ¬ (m = 0 ∨ rdK p least m e (decide (t ≠ 0)) = 0) by rw [hK]; omega), hK, nb_mul hm0, fRd_scale]
          have e2 : (rdF p least m e : Int) + least + ((- rdS p least m e).toNat : Int) = e := by
            have : rdS p least m e = rdF p least m e + least - e := rfl
            omega
          rw [e2]
          have e3 : ((nb m + (- rdS p least m e).toNat : Nat) : Int) + (rdF p least m e + least) = nb m + e := by omega
          rw [e3]
        · rw [if_neg (show ¬ iZ (rdS p least m e) ≤ 0 from fun x => c2 ((iZ_le (b := 0) (by omega) (by omega)).mp x))]
          have hK : rdK p least m e (decide (t ≠ 0)) = rn m (decide (t ≠ 0)) (rdS p least m e).toNat := by
            unfold rdK
            rw [show (- rdS p least m e).toNat = 0 by omega, Nat.pow_zero, Nat.mul_one]
          rw [fl_shr (by omega) (by omega) (by omega)]
          have e2 : iZ (rdS p least m e) = iZ ((rdS p least m e).toNat : Nat) := by congr 1; omega
          rw [e2, mn_82 (by omega) (by omega) (by omega), ← hK, mn_141 (by omega) (by omega) (by omega) hmo (by omega)]
          congr 3
          apply fl_ifc
          constructor
          · exact Or.inr
          · rintro (x1_ | x1_)
            · exact absurd x1_ c0
            · exact x1_
      · rw [if_neg (show ¬ iZ (rdS p least m e) ≤ 62 from fun x => c1 ((iZ_le (b := 62) (by omega) (by omega)).mp x))]
        have hK : rdK p least m e (decide (t ≠ 0)) = 0 := by
          unfold rdK
          apply rn_small
          rw [show (- rdS p least m e).toNat = 0 by omega, Nat.pow_zero, Nat.mul_one]
          have h2 : 2 ^ 63 ≤ 2 ^ (rdS p least m e).toNat := Nat.pow_le_pow_right (by decide) (by omega)
          omega
        have := mn_141 (sg := sg) (most := most) (q := rdF p least m e + least) (r := 0) (by decide) (by omega) (by omega) hmo (by omega)
        rw [show (0 : Int64) = lN 0 from rfl, this, if_pos rfl, if_pos (Or.inr hK)]
  unfold fX12_nearest sgB
  by_cases c : b = 0
  · rw [if_pos c, if_pos c, key]
  · rw [if_neg c, if_neg c, key]
theorem fl_mn {b t : Int32} {m : Nat} {e : Int} (hm : m < 2 ^ 62) (he : -10000 ≤ e ∧ e ≤ 10000) : fX12_made b (lN m) (iZ e) t = some (sgB b ||| lN (fRd m e (decide (t ≠ 0)))) := by
  unfold fX12_made
  have h := mn_g (b := b) (t := t) (m := m) (p := 53) (e := e) (least := -1074) (most := 1024) hm he (by decide) (by decide) (by decide) (by decide)
  have e1 : iZ (-1074) = (-1074 : Int32) := by decide
  rw [e1] at h
  have h' : fX12_nearest b (lN m) (iZ e) t 53 (-1074) 1024 = _ := h
  rw [h', Option.bind_some]
  congr 3
  unfold fRd
  by_cases c0 : m = 0
  · rw [if_pos (Or.inl c0), if_pos c0]
  · rw [if_neg c0]
    have hm0 : 0 < m := by omega
    have hle := rdK_le (p := 53) (least := -1074) (m := m) (e := e) (s := decide (t ≠ 0)) hm0
    by_cases c1 : rdK 53 (-1074) m e (decide (t ≠ 0)) = 0
    · rw [if_pos (Or.inr c1)]
      have hF : rdF 53 (-1074) m e = 0 := by
        rcases Nat.eq_zero_or_pos (rdF 53 (-1074) m e) with x1_ | x1_
        · exact x1_
        · have := rdK_ge (s := decide (t ≠ 0)) hm0 (by decide) x1_
          rw [c1] at this
          exact absurd this (by decide)
      rw [hF, c1]
      rfl
    · rw [if_neg (by omega)]
      have hg : rdF 53 (-1074) m e = 0 ∨ 4503599627370496 ≤ rdK 53 (-1074) m e (decide (t ≠ 0)) := by
        rcases Nat.eq_zero_or_pos (rdF 53 (-1074) m e) with x1_ | x1_
        · exact Or.inl x1_
        · exact Or.inr (rdK_ge (s := decide (t ≠ 0)) hm0 (by decide) x1_)
      generalize rdK 53 (-1074) m e (decide (t ≠ 0)) = K at *
      generalize rdF 53 (-1074) m e = F at *
      by_cases c2 : 2045 < F
      · rw [if_pos c2, if_pos]
        have := nb_gt (k := 52) (m := K) (by omega)
        omega
      · rw [if_neg c2]
        have hx := fRd_exact (K := K) (F := F) (by omega) (by exact hle) hg (by omega)
        by_cases c3 : (1024 : Int) < nb K + (F + -1074)
        · rw [if_pos c3]
          have h5 : nb K ≤ 54 := nb_le (Nat.lt_of_le_of_lt hle (by decide))
          have h6 : ¬ K < 9007199254740992 := fun x => by
            have := nb_le (k := 53) x
            omega
          have e53 : (2 : Nat) ^ 53 = 9007199254740992 := by decide
          omega
        · rw [if_neg c3]
          exact hx
