/-! quotients -/
theorem dv_step (N Y k : Nat) (hY : 0 < Y) : k * N / Y = k * (N / Y) + k * (N % Y) / Y ∧ k * N % Y = k * (N % Y) % Y := by
  have h1 : k * N = Y * (k * (N / Y)) + k * (N % Y) := by
    rw [Nat.mul_left_comm, ← Nat.mul_add, Nat.div_add_mod]
  constructor
  · rw [h1, Nat.mul_add_div hY]
  · rw [h1, Nat.mul_add_mod]
theorem dv8 (N Y : Nat) (hY : 0 < Y) : 8 * N / Y / 2 ^ 3 = N / Y ∧ ((decide (8 * N % Y ≠ 0) || decide (8 * N / Y % 2 ^ 3 ≠ 0)) = decide (N % Y ≠ 0)) := by
  have h := dv_step N Y 8 hY
  have hr := Nat.mod_lt N hY
  have h2 : 8 * (N % Y) / Y < 8 := by
    rw [Nat.div_lt_iff_lt_mul hY]
    omega
  have h3 := Nat.div_add_mod (8 * (N % Y)) Y
  rw [h.1, h.2]
  have e8 : (2 : Nat) ^ 3 = 8 := by decide
  rw [e8]
  generalize 8 * (N % Y) / Y = q1_ at *
  generalize N / Y = q2_ at *
  refine ⟨by omega, ?_⟩
  rw [← Bool.decide_or, decide_eq_decide]
  have h4 : (8 * q2_ + q1_) % 8 = q1_ := by omega
  rw [h4]
  constructor
  · intro h5 h6
    rw [h6] at h5
    rcases h5 with x1_ | x1_
    · exact x1_ (by rw [Nat.mul_zero, Nat.zero_mod])
    · refine x1_ ?_
      rw [h6, Nat.mul_zero, Nat.zero_mod, Nat.add_zero] at h3
      rcases Nat.mul_eq_zero.mp h3 with x2_ | x2_
      · omega
      · exact x2_
  · intro h5
    by_cases c : 8 * (N % Y) % Y ≠ 0
    · exact Or.inl c
    · refine Or.inr (fun h6 => h5 ?_)
      rw [h6, Nat.mul_zero] at h3
      omega
theorem cq_loop {Y : Nat} (hY : 0 < Y) (hY2 : Y < 9007199254740992) : ∀ (j f N : Nat), j ≤ 6 → fX2_quotientOf_21 (f + j + 1) (lN Y) (lN (N / Y)) (lN (N % Y)) (iZ (6 - j)) = some (lN (jam (1024 ^ j * N / Y) (decide (1024 ^ j * N % Y ≠ 0))))
  | 0, f, N, hj => by
    have hr := Nat.mod_lt N hY
    rw [fX2_quotientOf_21, if_pos (by decide), Nat.pow_zero, Nat.one_mul]
    have k1 : lN (N % Y) = 0 ↔ N % Y = 0 := pk_lEQ (b := 0) (by omega) (by decide)
    by_cases c : N % Y = 0
    · rw [if_pos (k1.mpr c), show decide (N % Y ≠ 0) = false by simp [c], jam_f]
    · rw [if_neg (fun x => c (k1.mp x)), show decide (N % Y ≠ 0) = true by simp [c], lN_or1]
  | j + 1, f, N, hj => by
    have hr := Nat.mod_lt N hY
    rw [show f + (j + 1) + 1 = (f + j + 1) + 1 by omega, fX2_quotientOf_21, if_neg (show ¬ (6 : Int32) ≤ iZ (6 - ((j + 1 : Nat) : Int)) from fun x => by have := (iZ_le (a := 6) (by omega) (by omega)).mp x; omega)]
    unfold fX2_quotientOf_35 fX2_quotientOf_47 fX2_quotientOf_53 fX2_quotientOf_56
    have s10 : ∀ n : Nat, lN n <<< ((10 : Int32).toInt64 &&& 63) = lN (n * 1024) := fun n => wb_shl (k := 10) n (by decide)
    have hz : ¬ lN Y = 0 := fun x => by have := (pk_lEQ (b := 0) (by omega) (by decide)).mp x; omega
    have hm : N % Y * 1024 < 2 ^ 63 := by omega
    have h := dv_step N Y 1024 hY
    rw [if_neg hz, if_neg hz, s10, s10, pk_lDiv hm hY (by omega), lN_add, ← pk_lDiv hm hY (by omega), pk_lRem hm hY (by omega), Nat.mul_comm (N / Y) 1024, Nat.mul_comm (N % Y) 1024, ← h.1, ← h.2, show iZ (6 - ((j + 1 : Nat) : Int)) + 1 = iZ (6 - j) by rw [show iZ (6 - ((j + 1 : Nat) : Int)) + 1 = iZ (6 - ((j + 1 : Nat) : Int) + 1) from iZ_add _ 1]; congr 1; omega, cq_loop hY hY2 j f (1024 * N) (by omega), Nat.pow_succ, Nat.mul_assoc]
theorem fl_cq {X Y : Nat} (hX : X < 9007199254740992) (hY : 0 < Y) (hY2 : Y < 9007199254740992) : fX2_quotientOf (lN X) (lN Y) = some (lN (jam (1024 ^ 6 * X / Y) (decide (1024 ^ 6 * X % Y ≠ 0)))) := by
  have hz : ¬ lN Y = 0 := fun x => by have := (pk_lEQ (b := 0) (by omega) (by decide)).mp x; omega
  unfold fX2_quotientOf fX2_quotientOf_13 fX2_quotientOf_18
  rw [if_pos (show (0 : Int64) < lN Y from (pk_lLT (a := 0) (by decide) (by omega)).mpr hY), if_neg hz, if_neg hz, pk_lRem (by omega) hY (by omega), pk_lDiv (by omega) hY (by omega)]
  exact cq_loop hY hY2 6 1 X (by decide)
theorem mq_loop {Y : Nat} {sg : Int32} {e : Int} (hY : 0 < Y) (hY2 : Y < 9007199254740992) (he : -5000 ≤ e ∧ e ≤ 5000) : ∀ (j f N : Nat), j ≤ 57 → 2 ^ j * N / Y < 4611686018427387904 → fX12_quotient_191 (f + j + 1) sg (lN (2 * (N % Y))) (lN Y) (iZ e) (lN (N / Y)) (iZ (58 - j)) = some (sgB sg ||| lN (fRd (2 ^ j * N / Y) (e - 57) (decide (2 ^ j * N % Y ≠ 0))))
  | 0, f, N, hj, hq => by
    have hr := Nat.mod_lt N hY
    rw [fX12_quotient_191, if_pos (by decide), Nat.pow_zero, Nat.one_mul] at *
    have k1 : lN (2 * (N % Y)) = 0 ↔ N % Y = 0 := by
      have := pk_lEQ (a := 2 * (N % Y)) (b := 0) (by omega) (by decide)
      refine this.trans ?_
      omega
    unfold fX12_quotient_271
    have e57 : iZ e - 57 = iZ (e - 57) := iZ_sub e 57
    by_cases c : N % Y = 0
    · rw [if_pos (k1.mpr c), e57, fl_mn (by omega) (by omega), Option.bind_some, show decide (N % Y ≠ 0) = false by simp [c]]
      rfl
    · rw [if_neg (fun x => c (k1.mp x)), e57, fl_mn (by omega) (by omega), Option.bind_some, show decide (N % Y ≠ 0) = true by simp [c]]
      rfl
  | j + 1, f, N, hj, hq => by
    have hr := Nat.mod_lt N hY
    have hrec : 2 ^ (j + 1) * N = 2 ^ j * (2 * N) := by rw [Nat.pow_succ, Nat.mul_assoc]
    rw [hrec] at hq ⊢
    have ih := mq_loop (sg := sg) hY hY2 he j f (2 * N) (by omega) hq
    have h := dv_step N Y 2 hY
    rw [show f + (j + 1) + 1 = (f + j + 1) + 1 by omega, fX12_quotient_191, if_neg (show ¬ (58 : Int32) ≤ iZ (58 - ((j + 1 : Nat) : Int)) from fun x => by have := (iZ_le (a := 58) (by omega) (by omega)).mp x; omega)]
    unfold fX12_quotient_217 fX12_quotient_220 fX12_quotient_241 fX12_quotient_244 fX12_quotient_247
    have ek : iZ (58 - ((j + 1 : Nat) : Int)) + 1 = iZ (58 - j) := by
      rw [show iZ (58 - ((j + 1 : Nat) : Int)) + 1 = iZ (58 - ((j + 1 : Nat) : Int) + 1) from iZ_add _ 1]
      congr 1
      omega
    have e2 : ∀ n : Nat, (2 : Int64) * lN n = lN (2 * n) := fun n => lN_mul 2 n
    rw [ek, e2]
    have k1 : lN (2 * (N % Y)) < lN Y ↔ 2 * (N % Y) < Y := pk_lLT (by omega) (by omega)
    by_cases c : 2 * (N % Y) < Y
    · have d1 : 2 * (N % Y) / Y = 0 := Nat.div_eq_of_lt c
      have d2 : 2 * (N % Y) % Y = 2 * (N % Y) := Nat.mod_eq_of_lt c
      rw [d1, Nat.add_zero] at h
      rw [d2] at h
      rw [if_pos (k1.mpr c), if_pos (k1.mpr c), e2, show lN (2 * (N / Y)) + 0 = lN (2 * (N / Y)) from Int64.add_zero _, ← h.1, ← h.2]
      exact ih
    · have d1 : 2 * (N % Y) / Y = 1 := by
        rw [Nat.div_eq_iff hY]
        omega
      have d2 : 2 * (N % Y) % Y = 2 * (N % Y) - Y := by
        rw [Nat.mod_eq_sub_mod (by omega), Nat.mod_eq_of_lt (by omega)]
      rw [d1] at h
      rw [d2] at h
      rw [if_neg (fun x => c (k1.mp x)), if_neg (fun x => c (k1.mp x)), e2 (N / Y), show lN (2 * (N / Y)) + 1 = lN (2 * (N / Y) + 1) from lN_1 _, lN_sub (by omega), e2, ← h.1, ← h.2]
      exact ih
theorem fl_mq {X Y : Nat} {sg : Int32} {e : Int} (hX : X < 9007199254740992) (hY : 4503599627370496 ≤ Y) (hY2 : Y < 9007199254740992) (he : -5000 ≤ e ∧ e ≤ 5000) : fX12_quotient_185 sg (lN X) (lN Y) (iZ e) = some (sgB sg ||| lN (fRd (2 ^ 57 * X / Y) (e - 57) (decide (2 ^ 57 * X % Y ≠ 0)))) := by
  have hY0 : 0 < Y := by omega
  have hq : 2 ^ 57 * X / Y < 4611686018427387904 := by
    rw [Nat.div_lt_iff_lt_mul hY0]
    omega
  have ih := mq_loop (sg := sg) hY0 hY2 he 57 1 X (by decide) hq
  unfold fX12_quotient_185
  rw [show (60 : Nat) = 59 + 1 from rfl, fX12_quotient_191, if_neg (by decide)]
  unfold fX12_quotient_217 fX12_quotient_220 fX12_quotient_241 fX12_quotient_244 fX12_quotient_247
  have e2 : ∀ n : Nat, (2 : Int64) * lN n = lN (2 * n) := fun n => lN_mul 2 n
  have e0 : (2 : Int64) * 0 = 0 := by decide
  have k1 : lN X < lN Y ↔ X < Y := pk_lLT (by omega) (by omega)
  have ek : (0 : Int32) + 1 = iZ (58 - ((57 : Nat) : Int)) := by decide
  rw [e0, ek]
  by_cases c : X < Y
  · have d1 : X / Y = 0 := Nat.div_eq_of_lt c
    have d2 : X % Y = X := Nat.mod_eq_of_lt c
    rw [d1, d2] at ih
    rw [if_pos (k1.mpr c), if_pos (k1.mpr c), e2]
    exact ih
  · have d1 : X / Y = 1 := by
      rw [Nat.div_eq_iff hY0]
      omega
    have d2 : X % Y = X - Y := by
      rw [Nat.mod_eq_sub_mod (by omega), Nat.mod_eq_of_lt (by omega)]
    rw [d1, d2] at ih
    rw [if_neg (fun x => c (k1.mp x)), if_neg (fun x => c (k1.mp x)), lN_sub (by omega), e2]
    exact ih
theorem fl_quot (x y : Int64) : fX12_quotient x y = fX2_divide x y ∧ (∃ z, fX2_divide x y = some z) := by
  obtain ⟨s, a, ha, rfl⟩ := sx_of x
  obtain ⟨t, c, hc, rfl⟩ := sx_of y
  have la := sx_lost (s := s) ha
  have lc := sx_lost (s := t) hc
  have ia := sx_inf (s := s) ha
  have ic := sx_inf (s := t) hc
  have za := sx_zero (s := s) ha
  have zc := sx_zero (s := t) hc
  unfold fX12_quotient
  rw [fl_if_s ha (fun z => fX12_quotient_11 (sx s a) (sx t c) z)]
  unfold fX12_quotient_11
  rw [fl_if_s hc (fun z => fX12_quotient_22 (sx s a) (sx t c) (bI32 s) z)]
  unfold fX12_quotient_22
  rw [bI_ne (fun z => fX12_quotient_30 (sx s a) (sx t c) z)]
  unfold fX12_quotient_30 fX2_divide fX12_quotient_74 fX2_divide_14
  rw [la.2, lc.2, ia.2, ic.2, sx_sgx ha hc]
  have c92 : fX12_quotient_92 (bI32 (s ^^ t)) = some (sx (s ^^ t) 0 ||| 9218868437227405312) := by
    unfold fX12_quotient_92
    cases s <;> cases t <;> rfl
  have c121 : fX12_quotient_121 (bI32 (s ^^ t)) = some (sx (s ^^ t) 0) := by
    unfold fX12_quotient_121
    cases s <;> cases t <;> rfl
  by_cases q1 : fX2_isLost (sx s a) = 0
  · simp only [if_pos q1]
    by_cases q2 : fX2_isLost (sx t c) = 0
    · simp only [if_pos q2]
      unfold fX2_divide_26 fX2_divide_94
      by_cases q3 : fX2_isInfinite (sx s a) = 0
      · simp only [if_pos q3]
        unfold fX12_quotient_60 fX12_quotient_78 fX12_quotient_74
        rw [za.2, zc.2, ia.2, ic.2]
        simp only [if_pos q3]
        by_cases q6 : fX2_isZero (sx t c) = 0
        · simp only [if_pos q6]
          by_cases q5 : fX2_isZero (sx s a) = 0
          · simp only [if_pos q5]
            by_cases q4 : fX2_isInfinite (sx t c) = 0
            · simp only [if_pos q4]
              have ha0 : 0 < a := by have := za.1.mp q5; omega
              have hc0 : 0 < c := by have := zc.1.mp q6; omega
              have hau := un_rng ha
              have hcu := un_rng hc
              have hna := nb_dg a
              have hnc := nb_dg c
              have ra := full_rng ha0
              have rc := full_rng hc0
              rw [sx_digits ha, sx_digits hc, sx_unit ha, sx_unit hc, fl_full (dg_lt a), fl_full (dg_lt c), fl_bitsOf (by have := dg_lt a; omega), fl_bitsOf (by have := dg_lt c; omega), sx_sig ha0 ha, sx_sig hc0 hc, sx_scale ha0 ha, sx_scale hc0 hc, fl_cq ra.2 (by omega) rc.2]
              simp only [Option.bind_some]
              have eE : iZ (un a) - (53 - iZ (nb (dg a))) - iZ (un c) + (53 - iZ (nb (dg c))) = iZ (un a - ((53 - nb (dg a) : Nat) : Int) - (un c - ((53 - nb (dg c) : Nat) : Int))) := by
                rw [show (53 : Int32) = iZ 53 from rfl, iZ_sub, iZ_sub, iZ_sub, iZ_sub, iZ_add]
                congr 1
                omega
              have eE2 : iZ (un a - ((53 - nb (dg a) : Nat) : Int)) - iZ (un c - ((53 - nb (dg c) : Nat) : Int)) - 60 = iZ (un a - ((53 - nb (dg a) : Nat) : Int) - (un c - ((53 - nb (dg c) : Nat) : Int)) - 60) := by
                rw [show (60 : Int32) = iZ 60 from rfl, iZ_sub, iZ_sub]
              rw [eE, eE2, fl_mq ra.2 rc.1 rc.2 (by omega)]
              have hE : -5000 ≤ un a - ((53 - nb (dg a) : Nat) : Int) - (un c - ((53 - nb (dg c) : Nat) : Int)) ∧ un a - ((53 - nb (dg a) : Nat) : Int) - (un c - ((53 - nb (dg c) : Nat) : Int)) ≤ 5000 := by omega
              generalize dg a * 2 ^ (53 - nb (dg a)) = X at *
              generalize dg c * 2 ^ (53 - nb (dg c)) = Y at *
              generalize un a - ((53 - nb (dg a) : Nat) : Int) - (un c - ((53 - nb (dg c) : Nat) : Int)) = E at *
              have hY0 : 0 < Y := by omega
              have hd8 := dv8 (2 ^ 57 * X) Y hY0
              have e60 : 1024 ^ 6 * X = 8 * (2 ^ 57 * X) := by
                rw [← Nat.mul_assoc]
              rw [e60]
              have hlo : 2 ^ 56 ≤ 2 ^ 57 * X / Y := by
                rw [Nat.le_div_iff_mul_le hY0]
                omega
              have hlo2 : 2 ^ 59 ≤ 8 * (2 ^ 57 * X) / Y := by
                rw [Nat.le_div_iff_mul_le hY0]
                omega
              have hhi : 8 * (2 ^ 57 * X) / Y < 2 ^ 62 := by
                rw [Nat.div_lt_iff_lt_mul hY0]
                omega
              have n1 := nb_gt hlo
              have n2 := nb_gt hlo2
              have hjl := jam_le (8 * (2 ^ 57 * X) / Y) (decide (8 * (2 ^ 57 * X) % Y ≠ 0))
              rw [fl_cn (by omega) (by omega), fRd_jm (fun _ => by omega)]
              have hv : fRd (8 * (2 ^ 57 * X) / Y) (E - 60) (decide (8 * (2 ^ 57 * X) % Y ≠ 0)) = fRd (2 ^ 57 * X / Y) (E - 57) (decide (2 ^ 57 * X % Y ≠ 0)) := by
                refine fRd_view (j := 3) (k := 0) (by omega) (by omega) (by omega) ?_ ?_
                · rw [hd8.1, Nat.pow_zero, Nat.div_one]
                · rw [hd8.2, Nat.pow_zero, Nat.mod_one]
                  simp
              have hlt := fRd_lt (2 ^ 57 * X / Y) (E - 57) (decide (2 ^ 57 * X % Y ≠ 0))
              rw [hv, sgB_or (by omega), sx_or (by omega), bI32_ne]
              exact ⟨rfl, _, rfl⟩
            · simp only [if_neg q4]
              exact ⟨c121, _, rfl⟩
          · simp only [if_neg q5]
            exact ⟨c121, _, rfl⟩
        · simp only [if_neg q6]
          by_cases q5 : fX2_isZero (sx s a) = 0
          · simp only [if_pos q5]
            exact ⟨c92, _, rfl⟩
          · simp only [if_neg q5]
            exact ⟨trivial, _, rfl⟩
      · simp only [if_neg q3]
        have h5 : fX2_isZero (sx s a) = 0 := za.1.mpr (fun z => q3 (ia.1.mpr (by omega)))
        by_cases q4 : fX2_isInfinite (sx t c) = 0
        · simp only [if_pos q4]
          unfold fX12_quotient_60 fX12_quotient_78
          rw [za.2, ia.2]
          simp only [if_pos h5, if_neg q3]
          exact ⟨c92, _, rfl⟩
        · simp only [if_neg q4]
          exact ⟨trivial, _, rfl⟩
    · simp only [if_neg q2]
      exact ⟨trivial, _, rfl⟩
  · simp only [if_neg q1]
    exact ⟨trivial, _, rfl⟩
