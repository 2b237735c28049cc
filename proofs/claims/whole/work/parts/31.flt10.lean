/-! remainders; scaling; whole numbers as measures -/
theorem fRd_dg {a : Nat} (h0 : 0 < a) (ha : a < 9218868437227405312) : fRd (dg a) (un a) false = a := by
  have hu := un_rng (a := a) (by omega)
  have hx := fRd_exact (K := dg a) (F := (un a + 1074).toNat) (dg_pos h0) (by have := dg_lt a; omega) (by
    unfold dg un
    split
    · exact Or.inl (by decide)
    · exact Or.inr (by omega)) (by unfold un; split <;> omega)
  rw [show (((un a + 1074).toNat : Nat) : Int) - 1074 = un a by omega] at hx
  rw [hx]
  unfold dg un
  split <;> omega
theorem dg_lt_of {a c : Nat} (h : a < c) (e : un a = un c) : dg a < dg c := by
  unfold un at e
  unfold dg
  split <;> split <;> rename_i c1 c2 <;> simp [c1, c2] at e ⊢ <;> omega
theorem mnI_10 {z : Int} (h : -2147483648 ≤ z ∧ z < 2147483648) : mnI (iZ z) 10 = iZ (if z < 10 then z else 10) := by
  unfold mnI
  have k1 : iZ z < 10 ↔ z < 10 := iZ_lt (b := 10) h (by omega)
  have k2 : iZ z ≤ 10 ↔ z ≤ 10 := iZ_le (b := 10) h (by omega)
  have k3 : (10 : Int32) < iZ z ↔ 10 < z := iZ_lt (a := 10) (by omega) h
  have k4 : (10 : Int32) ≤ iZ z ↔ 10 ≤ z := iZ_le (a := 10) (by omega) h
  have k5 : (10 : Int32) = iZ 10 := rfl
  by_cases c : z < 10
  · simp only [k1, k2, k3, k4, if_pos c, show z ≤ 10 by omega, show ¬ 10 < z by omega, show ¬ 10 ≤ z by omega, if_true, if_false]
  · by_cases c2 : z = 10
    · subst c2
      simp only [k1, k2, k3, k4]
      rfl
    · simp only [k1, k2, k3, k4, if_neg c, show ¬ z ≤ 10 by omega, show 10 < z by omega, show 10 ≤ z by omega, if_true, if_false]
      rfl
theorem cr_end {Y : Nat} {g M : Nat} {z : Int} (h1 : z ≤ 0) (h2 : -100000 ≤ z) : fX2_restOf_17 (g + 1) (lN Y) (lN M) (iZ z) = some (lN M) := by
  rw [fX2_restOf_17, if_pos (show iZ z ≤ 0 from (iZ_le (b := 0) (by omega) (by omega)).mpr h1)]
theorem cr_step {Y f N up k : Nat} (hY : 0 < Y) (hY2 : Y < 9007199254740992) (hu : 0 < up) (hu2 : up < 100000) (hk : k ≤ 10) (hk2 : (k : Int) = if (up : Int) < 10 then (up : Int) else 10) : fX2_restOf_17 (f + 1) (lN Y) (lN (N % Y)) (iZ up) = fX2_restOf_17 f (lN Y) (lN (N * 2 ^ k % Y)) (iZ ((up : Int) + -10)) := by
  have hr := Nat.mod_lt N hY
  have hz : ¬ lN Y = 0 := fun x => by have := (pk_lEQ (b := 0) (by omega) (by decide)).mp x; omega
  have hp : 2 ^ k ≤ 2 ^ 10 := Nat.pow_le_pow_right (by decide) hk
  have hm : N % Y * 2 ^ k < 9223372036854775808 := Nat.lt_of_le_of_lt (Nat.mul_le_mul (show N % Y ≤ 9007199254740990 by omega) hp) (by decide)
  rw [fX2_restOf_17, if_neg (show ¬ iZ up ≤ 0 from fun x => by have := (iZ_le (b := 0) (by omega) (by omega)).mp x; omega), if_neg hz, mnI_10 (by omega), ← hk2]
  unfold fX2_restOf_36 fX2_restOf_39
  rw [show (-10 : Int32) = iZ (-10) by decide, iZ_add, fl_shl _ (by omega) (by omega), Int.toNat_natCast, pk_lRem hm hY (by omega), Nat.mod_mul_mod]
theorem cr_loop {Y : Nat} (hY : 0 < Y) (hY2 : Y < 9007199254740992) : ∀ (f N up : Nat), up < 10 * f → up < 100000 → fX2_restOf_17 (f + 1) (lN Y) (lN (N % Y)) (iZ up) = some (lN (N * 2 ^ up % Y)) := by
  intro f
  induction f with
  | zero => intro N up h h2; omega
  | succ f ih =>
    intro N up h h2
    rcases Nat.eq_zero_or_pos up with x1_ | x1_
    · subst x1_
      rw [cr_end (by omega) (by omega), Nat.pow_zero, Nat.mul_one]
    · by_cases c : up < 10
      · rw [cr_step (k := up) hY hY2 x1_ h2 (by omega) (by rw [if_pos (by omega)]), cr_end (by omega) (by omega)]
      · have e2 : (up : Int) + -10 = ((up - 10 : Nat) : Int) := by omega
        rw [cr_step (k := 10) hY hY2 x1_ h2 (by omega) (by rw [if_neg (by omega)]; rfl), e2, ih (N * 2 ^ 10) (up - 10) (by omega) (by omega), Nat.mul_assoc, ← Nat.pow_add, show 10 + (up - 10) = up by omega]
theorem mr_loop {s t : Bool} {a c C : Nat} (ha : a < 9223372036854775808) (hc : c < 9223372036854775808) (hC : 0 < C) (hC2 : C < 9007199254740992) (d : Nat) (hd : d < 5000) : ∀ (j f k N : Nat), k + j = d → fX12_remainder_130 (f + j + 1) (sx s a) (sx t c) (lN C) (iZ d) (lN (N % C)) (iZ k) = some (sx s (fRd (N * 2 ^ j % C) (un c) false))
  | 0, f, k, N, hk => by
    have hr := Nat.mod_lt N hC
    have hu := un_rng hc
    have hk : k = d := by omega
    subst hk
    rw [fX12_remainder_130, if_pos (show iZ k ≤ iZ k from (iZ_le (by omega) (by omega)).mpr (Int.le_refl _)), fl_if_s ha (fun z => fX12_remainder_165 (sx t c) (lN (N % C)) z)]
    unfold fX12_remainder_165
    rw [sx_unit hc, fl_mn (by omega) (by omega), Option.bind_some, show decide ((0 : Int32) ≠ 0) = false from rfl, sgB_or (by have := fRd_lt (N % C) (un c) false; omega), bI32_ne, Nat.pow_zero, Nat.mul_one]
  | j + 1, f, k, N, hk => by
    have hr := Nat.mod_lt N hC
    have hz : ¬ lN C = 0 := fun x => by have := (pk_lEQ (b := 0) (by omega) (by decide)).mp x; omega
    rw [show f + (j + 1) + 1 = (f + j + 1) + 1 by omega, fX12_remainder_130, if_neg (show ¬ iZ d ≤ iZ k from fun x => by have := (iZ_le (by omega) (by omega)).mp x; omega), if_neg hz]
    unfold fX12_remainder_148 fX12_remainder_151
    have e2 : (2 : Int64) * lN (N % C) = lN (2 * (N % C)) := lN_mul 2 _
    have e3 : 2 * (N % C) % C = N * 2 % C := by rw [Nat.mul_comm]; exact Nat.mod_mul_mod N 2 C
    rw [e2, pk_lRem (by omega) hC (by omega), e3, show iZ k + 1 = iZ (k + 1 : Nat) from iZ_add k 1, mr_loop ha hc hC hC2 d hd j f (k + 1) (N * 2) (by omega), Nat.mul_assoc, ← Nat.pow_succ']
theorem fl_rem (x y : Int64) : fX12_remainder x y = fX2_remainder x y ∧ (∃ z, fX2_remainder x y = some z) := by
  obtain ⟨s, a, ha, rfl⟩ := sx_of x
  obtain ⟨t, c, hc, rfl⟩ := sx_of y
  have la := sx_lost (s := s) ha
  have lc := sx_lost (s := t) hc
  have ia := sx_inf (s := s) ha
  have ic := sx_inf (s := t) hc
  have za := sx_zero (s := s) ha
  have zc := sx_zero (s := t) hc
  unfold fX12_remainder fX2_remainder fX12_remainder_28 fX2_remainder_28 fX12_remainder_46 fX2_magnitude
  rw [la.2, lc.2, ia.2, ic.2, za.2, zc.2, sx_mag ha, sx_mag hc]
  have kle : lN c ≤ lN a ↔ c ≤ a := pk_lLE (by omega) (by omega)
  by_cases q1 : fX2_isLost (sx s a) = 0
  · simp only [if_pos q1]
    by_cases q2 : fX2_isLost (sx t c) = 0
    · simp only [if_pos q2]
      by_cases q3 : fX2_isInfinite (sx s a) = 0
      · simp only [if_pos q3]
        by_cases q6 : fX2_isZero (sx t c) = 0
        · simp only [if_pos q6]
          have ha2 : a < 9218868437227405312 := by have h1 := la.1.mp q1; have h2 := ia.1.mp q3; omega
          have hc0 : 0 < c := by have := zc.1.mp q6; omega
          by_cases q5 : fX2_isZero (sx s a) = 0
          · simp only [if_pos q5]
            have ha0 : 0 < a := by have := za.1.mp q5; omega
            by_cases q4 : fX2_isInfinite (sx t c) = 0
            · simp only [if_pos q4]
              have hc2 : c < 9218868437227405312 := by have h1 := lc.1.mp q2; have h2 := ic.1.mp q4; omega
              have hau := un_rng ha
              have hcu := un_rng hc
              have hA := dg_lt a
              have hC := dg_lt c
              have hA0 := dg_pos ha0
              have hC0 := dg_pos hc0
              have hnA := nb_dg a
              have hnC := nb_dg c
              have hzC : ¬ lN (dg c) = 0 := fun x => by have := (pk_lEQ (b := 0) (by omega) (by decide)).mp x; omega
              unfold fX12_remainder_54 fX12_remainder_60 fX12_remainder_71
              rw [sx_digits ha, sx_digits hc, sx_unit ha, sx_unit hc, iZ_sub]
              by_cases q7 : c ≤ a
              · rw [if_pos (kle.mpr q7)]
                have hu := un_mono q7
                have g0 : (un a - un c).toNat = 0 → dg c ≤ dg a := fun x => dg_mono q7 (by omega)
                have g1 : 0 < (un a - un c).toNat → 4503599627370496 ≤ dg a := fun x => dg_norm (c := c) (by omega)
                have hud : iZ (un a - un c) = iZ ((un a - un c).toNat : Nat) := by congr 1; omega
                have hd0 : (un a - un c).toNat < 2100 := by omega
                rw [if_pos (show (0 : Int32) ≤ iZ (un a - un c) from (iZ_le (a := 0) (by omega) (by omega)).mpr (by omega)), if_neg hzC, pk_lRem (by omega) hC0 (by omega), hud]
                unfold fX12_remainder_127
                rw [show (2200 : Nat) = (2199 - (un a - un c).toNat) + (un a - un c).toNat + 1 by omega]
                have hml := mr_loop (s := s) (t := t) ha hc hC0 hC (un a - un c).toNat (by omega) (un a - un c).toNat (2199 - (un a - un c).toNat) 0 (dg a) (by omega)
                have hml' : fX12_remainder_130 (2199 - (un a - un c).toNat + (un a - un c).toNat + 1) (sx s a) (sx t c) (lN (dg c)) (iZ ((un a - un c).toNat : Nat)) (lN (dg a % dg c)) 0 = _ := hml
                rw [hml']
                -- the class
                have hna : 53 - nb (dg a) = 0 ∨ (un a - un c).toNat = 0 := by
                  rcases Nat.lt_or_ge (dg a) 4503599627370496 with x1_ | x1_
                  · exact Or.inr (by have := g1; omega)
                  · exact Or.inl (by have := nb_gt (k := 52) x1_; omega)
                have hnn : (un a - un c).toNat = 0 → nb (dg c) ≤ nb (dg a) := fun x => by
                  have h1 := g0 x
                  have h2 := nb_lt (dg a)
                  exact nb_le (by omega)
                rw [sx_sig ha0 ha, sx_sig hc0 hc, sx_scale ha0 ha, sx_scale hc0 hc, iZ_sub]
                have eD : un a - ((53 - nb (dg a) : Nat) : Int) - (un c - ((53 - nb (dg c) : Nat) : Int)) = (((un a - un c).toNat + (53 - nb (dg c)) - (53 - nb (dg a)) : Nat) : Int) := by
                  rcases hna with x1_ | x1_
                  · omega
                  · have := hnn x1_
                    omega
                have hD2 : (53 - nb (dg a)) + ((un a - un c).toNat + (53 - nb (dg c)) - (53 - nb (dg a))) = (un a - un c).toNat + (53 - nb (dg c)) := by
                  rcases hna with x1_ | x1_
                  · omega
                  · have := hnn x1_
                    omega
                have ra := full_rng ha0
                have rc := full_rng hc0
                rw [eD]
                unfold fX2_restOf fX2_restOf_13
                rw [if_pos (show (0 : Int64) < lN (dg c * 2 ^ (53 - nb (dg c))) from (pk_lLT (a := 0) (by decide) (by omega)).mpr (by omega)), if_neg (fun x => by have := (pk_lEQ (b := 0) (by omega) (by decide)).mp x; omega), pk_lRem (by omega) (by omega) (by omega), cr_loop (by omega) rc.2 299 _ _ (by omega) (by omega), Option.bind_some]
                have eR : dg a * 2 ^ (53 - nb (dg a)) * 2 ^ ((un a - un c).toNat + (53 - nb (dg c)) - (53 - nb (dg a))) % (dg c * 2 ^ (53 - nb (dg c))) = dg a * 2 ^ (un a - un c).toNat % dg c * 2 ^ (53 - nb (dg c)) := by
                  rw [Nat.mul_assoc, ← Nat.pow_add, hD2, Nat.pow_add, ← Nat.mul_assoc, Nat.mul_mod_mul_right]
                have hrl := Nat.mod_lt (dg a * 2 ^ (un a - un c).toNat) hC0
                have hrl2 : dg a * 2 ^ (un a - un c).toNat % dg c * 2 ^ (53 - nb (dg c)) < dg c * 2 ^ (53 - nb (dg c)) := Nat.mul_lt_mul_of_pos_right hrl (Nat.two_pow_pos _)
                unfold fX2_signBit
                rw [eR, fl_cn (by omega) (by omega), fRd_scale, sx_sgn ha, sx_or (by have := fRd_lt (dg a * 2 ^ (un a - un c).toNat % dg c) (un c - ((53 - nb (dg c) : Nat) : Int) + ((53 - nb (dg c) : Nat) : Int)) false; omega), show un c - ((53 - nb (dg c) : Nat) : Int) + ((53 - nb (dg c) : Nat) : Int) = un c by omega]
                exact ⟨rfl, _, rfl⟩
              · rw [if_neg (fun x => q7 (kle.mp x))]
                refine ⟨?_, _, rfl⟩
                have hu := un_mono (show a ≤ c by omega)
                by_cases q8 : un a = un c
                · have hlt := dg_lt_of (show a < c by omega) q8
                  rw [if_pos (show (0 : Int32) ≤ iZ (un a - un c) from (iZ_le (a := 0) (by omega) (by omega)).mpr (by omega)), if_neg hzC, pk_lRem (by omega) hC0 (by omega)]
                  unfold fX12_remainder_127
                  have hml := mr_loop (s := s) (t := t) ha hc hC0 hC 0 (by omega) 0 2199 0 (dg a) rfl
                  have e0 : iZ (un a - un c) = iZ ((0 : Nat) : Int) := by congr 1; omega
                  rw [e0]
                  refine hml.trans ?_
                  rw [Nat.pow_zero, Nat.mul_one, Nat.mod_eq_of_lt hlt, ← q8, fRd_dg ha0 ha2]
                · have hcn := dg_norm (a := c) (c := a) (by omega)
                  have hn := nb_gt (k := 52) hcn
                  rw [if_neg (show ¬ (0 : Int32) ≤ iZ (un a - un c) from fun x => by have := (iZ_le (a := 0) (by omega) (by omega)).mp x; omega), fl_bitsOf (by omega), Option.bind_some, iZ_sub, if_neg (show ¬ iZ (nb (dg c) - (un a - un c)) ≤ 53 from fun x => by have := (iZ_le (b := 53) (by omega) (by omega)).mp x; omega)]
            · simp only [if_neg q4]
              have hc3 : c = 9218868437227405312 := by
                rcases Nat.decEq c 9218868437227405312 with x1_ | x1_
                · exact absurd (ic.1.mpr x1_) q4
                · exact x1_
              rw [if_neg (fun x => by have := kle.mp x; omega)]
              exact ⟨rfl, _, rfl⟩
          · simp only [if_neg q5]
            have ha0 : a = 0 := by
              rcases Nat.eq_zero_or_pos a with x1_ | x1_
              · exact x1_
              · exact absurd (za.1.mpr (by omega)) q5
            rw [if_neg (fun x => by have := kle.mp x; omega)]
            exact ⟨rfl, _, rfl⟩
        · simp only [if_neg q6]
          exact ⟨trivial, _, rfl⟩
      · simp only [if_neg q3]
        exact ⟨trivial, _, rfl⟩
    · simp only [if_neg q2]
      exact ⟨trivial, _, rfl⟩
  · simp only [if_neg q1]
    exact ⟨trivial, _, rfl⟩
