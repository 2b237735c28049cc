/-! patterns of 32 bits -/
theorem fa_or (a b : Nat) : nI a ||| nI b = nI (a ||| b) := by
  apply Int32.toBitVec_inj.1
  show BitVec.ofNat 32 a ||| BitVec.ofNat 32 b = BitVec.ofNat 32 (a ||| b)
  apply BitVec.eq_of_getLsbD_eq
  intro i hi
  simp [hi]
def sx32 (s : Bool) (P : Nat) : Int32 := nI ((if s then 2147483648 else 0) + P)
theorem sx32_of (x : Int32) : ∃ (s : Bool) (P : Nat), P < 2147483648 ∧ x = sx32 s P := by
  obtain ⟨n1_, hn1_, rfl⟩ := wb_of32 x
  by_cases c : n1_ < 2147483648
  · exact ⟨false, n1_, c, by show nI n1_ = nI (0 + n1_); rw [Nat.zero_add]⟩
  · refine ⟨true, n1_ - 2147483648, by omega, ?_⟩
    show _ = nI (2147483648 + (n1_ - 2147483648))
    rw [show 2147483648 + (n1_ - 2147483648) = n1_ by omega]
theorem sx32_int {s : Bool} {P : Nat} (h : P < 2147483648) : (sx32 s P).toInt = (P : Int) - (if s then 2147483648 else 0) := by
  have c := BitVec.toInt_eq_toNat_cond (sx32 s P).toBitVec
  have e : (sx32 s P).toBitVec.toNat = (if s then 2147483648 else 0) + P := pk_tn (by split <;> omega)
  rw [e] at c
  show (sx32 s P).toBitVec.toInt = _
  rw [c]
  cases s <;> simp <;> omega
theorem sx32_inj {s t : Bool} {P R : Nat} (h : P < 2147483648) (h2 : R < 2147483648) : sx32 s P = sx32 t R ↔ s = t ∧ P = R := by
  constructor
  · intro x
    have x2 := congrArg Int32.toInt x
    rw [sx32_int h, sx32_int h2] at x2
    cases s <;> cases t <;> simp at x2 ⊢ <;> omega
  · rintro ⟨rfl, rfl⟩
    rfl
theorem sx32_nneg {s : Bool} {P : Nat} (h : P < 2147483648) : 0 ≤ sx32 s P ↔ s = false := by
  rw [Int32.le_iff_toInt_le, sx32_int h]
  have : (0 : Int32).toInt = 0 := by decide
  rw [this]
  cases s <;> simp <;> omega
theorem sx32_mag {s : Bool} {P : Nat} (h : P < 2147483648) : sx32 s P &&& 2147483647 = nI P := by
  unfold sx32
  rw [pk_andN (by split <;> omega) 31 (by decide)]
  congr 1
  cases s <;> simp <;> omega
theorem sx32_tail {s : Bool} {P : Nat} (h : P < 2147483648) : sx32 s P &&& 8388607 = nI (P % 8388608) := by
  unfold sx32
  rw [pk_andN (by split <;> omega) 23 (by decide)]
  congr 1
  cases s <;> simp <;> omega
theorem sx32_or {s : Bool} {P : Nat} (h : P < 2147483648) : sx32 s 0 ||| nI P = sx32 s P := by
  unfold sx32
  rw [fa_or]
  congr 1
  cases s
  · show (0 + 0) ||| P = 0 + P
    rw [Nat.zero_add, Nat.zero_or, Nat.zero_add]
  · show (2147483648 + 0) ||| P = 2147483648 + P
    have := Nat.two_pow_add_eq_or_of_lt (i := 31) (b := P) h 1
    rw [Nat.add_zero]
    exact this.symm
theorem iz_255 : ∀ k : Fin 256, iZ ((k.val : Int) - 256) &&& 255 = nI k.val ∧ iZ k.val &&& 255 = nI k.val := by decide +kernel
theorem sx32_exp {s : Bool} {P : Nat} (h : P < 2147483648) : (sx32 s P >>> (23 &&& 31)) &&& 255 = nI (P / 8388608) := by
  have h1 := pk_shr (sx32 s P) (23 &&& 31) 23 (by decide)
  have h2 : sx32 s P >>> (23 &&& 31) = iZ ((P / 8388608 : Nat) - (if s then 256 else 0)) := by
    apply Int32.toInt_inj.mp
    rw [h1, sx32_int h, Int.shiftRight_eq_div_pow, iZ_toInt (by cases s <;> simp <;> omega) (by cases s <;> simp <;> omega)]
    cases s <;> simp <;> omega
  rw [h2]
  have hk := iz_255 ⟨P / 8388608, by omega⟩
  cases s
  · have := hk.2
    simpa using this
  · exact hk.1
theorem sx32_l {s : Bool} {P : Nat} (h : P < 2147483648) : (sx32 s P).toInt64 = (if s then (-2147483648 : Int64) else 0) ||| lN P := by
  cases s
  · rw [show sx32 false P = nI P by show nI (0 + P) = nI P; rw [Nat.zero_add], nI_l h]
    show lN P = 0 ||| lN P
    rw [Int64.zero_or]
  · have e1 : (-2147483648 : Int64) = lN (2 ^ 31 * 8589934591) := by decide
    rw [if_pos rfl, e1, fb_or_sumL _ (by omega)]
    apply Int64.toInt_inj.mp
    rw [Int32.toInt_toInt64, sx32_int h]
    have h3 := sx_toInt (s := true) (a := 9223372034707292160 + P) (by omega)
    have e2 : sx true (9223372034707292160 + P) = lN (2 ^ 31 * 8589934591 + P) := by
      show lN (9223372036854775808 + (9223372034707292160 + P)) = _
      congr 1
      omega
    rw [← e2, h3]
    simp
    omega
theorem fl_ofb {s : Bool} {P : Nat} (h : P < 2147483648) : fX2_ofBits32 (sx32 s P) = if 2139095040 < P then 9221120237041090560 else sx s (vlu32 P) := by
  unfold fX2_ofBits32 fX2_ofBits32_5
  have hs : ∀ v1 : Int32, (if 0 ≤ sx32 s P then fX2_ofBits32_16 v1 0 else fX2_ofBits32_16 v1 (-9223372036854775808)) = fX2_ofBits32_16 v1 (sx s 0) := by
    intro v1
    have h2 := sx32_nneg (s := s) h
    cases s with
    | false => rw [if_pos (h2.mpr rfl), sx_f0]
    | true => rw [if_neg (fun x => absurd (h2.mp x) (by decide)), sx_t0]
  rw [hs, sx32_mag h]
  unfold fX2_ofBits32_16
  have k1 : nI P ≤ 2139095040 ↔ P ≤ 2139095040 := nI_leI (b := 2139095040) (by omega) (by decide)
  have k2 : nI P = 2139095040 ↔ P = 2139095040 := nI_eq (b := 2139095040) (by omega) (by decide)
  by_cases c1 : 2139095040 < P
  · rw [if_neg (fun x => by have := k1.mp x; omega), if_pos c1]
  · rw [if_pos (k1.mpr (by omega)), if_neg c1]
    unfold vlu32
    by_cases c2 : P = 2139095040
    · rw [if_pos (k2.mpr c2), if_pos c2]
      exact sx_or (a := 9218868437227405312) (by decide)
    · rw [if_neg (fun x => c2 (k2.mp x)), if_neg c2, pk_ushrN (by omega) 23 23 (by decide)]
      unfold fX2_ofBits32_45 fX2_ofBits32_51 fX2_ofBits32_70 fX2_ofBits32_86
      rw [pk_andN (n := P) (by omega) 23 (by decide)]
      have e23 : (2 : Nat) ^ 23 = 8388608 := by decide
      rw [e23]
      by_cases c3 : P / 8388608 = 0
      · have k3 : nI (P / 8388608) = 0 := by rw [c3]; rfl
        rw [if_pos k3, if_pos k3, if_pos c3, if_pos c3, nI_l (by omega), show (1 : Int32) - 127 - 23 = iZ (((1 : Nat) : Int) - 150) by decide, fl_cn (by omega) (by omega), sx_or (by have := fRd_lt (P % 8388608) (((1 : Nat) : Int) - 150) false; omega)]
      · have k3 : ¬ nI (P / 8388608) = 0 := nI_ne0 (by omega) (by omega)
        have e1 : nI (P % 8388608) + 8388607 + 1 = nI (8388608 + P % 8388608) := by
          have a1 : nI (P % 8388608) + 8388607 = nI (P % 8388608 + 8388607) := nI_add _ 8388607
          rw [a1, nI_1]
          congr 1
          omega
        have e2 : nI (P / 8388608) - 127 - 23 = iZ (((P / 8388608 : Nat) : Int) - 150) := by
          rw [iZ_nI, show iZ ((P / 8388608 : Nat) : Int) - 127 = iZ (((P / 8388608 : Nat) : Int) - 127) from iZ_sub _ 127]
          refine (iZ_sub _ 23).trans ?_
          congr 1
          omega
        rw [if_neg k3, if_neg k3, if_neg c3, if_neg c3, e1, nI_l (by omega), e2, fl_cn (by omega) (by omega), sx_or (by have := fRd_lt (8388608 + P % 8388608) (((P / 8388608 : Nat) : Int) - 150) false; omega)]
theorem fl_froms (v : Int32) : fX12_fromSmall v = some (fX2_ofBits32 v) := by
  obtain ⟨s, P, h, rfl⟩ := sx32_of v
  rw [fl_ofb h]
  unfold fX12_fromSmall fX12_fromSmall_9 fX12_fromSmall_15
  rw [sx32_exp h, sx32_tail h, nI_l (by omega)]
  have k1 : nI (P / 8388608) = 255 ↔ P / 8388608 = 255 := nI_eq (b := 255) (by omega) (by decide)
  have k2 : lN (P % 8388608) = 0 ↔ P % 8388608 = 0 := pk_lEQ (b := 0) (by omega) (by decide)
  have h2 := sx32_nneg (s := s) h
  by_cases c1 : P / 8388608 = 255
  · rw [if_pos (k1.mpr c1)]
    by_cases c2 : P % 8388608 = 0
    · have hP : P = 2139095040 := by omega
      rw [if_pos (k2.mpr c2), if_neg (show ¬ 2139095040 < P by omega)]
      unfold vlu32
      rw [if_pos hP]
      cases s with
      | false => rw [if_pos (h2.mpr rfl)]; rfl
      | true => rw [if_neg (fun x => absurd (h2.mp x) (by decide))]; rfl
    · rw [if_neg (fun x => c2 (k2.mp x)), if_pos (show 2139095040 < P by omega)]
  · rw [if_neg (fun x => c1 (k1.mp x)), if_neg (show ¬ 2139095040 < P by omega)]
    have hs : (if 0 ≤ sx32 s P then fX12_fromSmall_57 (nI (P / 8388608)) (lN (P % 8388608)) 0 else fX12_fromSmall_57 (nI (P / 8388608)) (lN (P % 8388608)) 1) = fX12_fromSmall_57 (nI (P / 8388608)) (lN (P % 8388608)) (bI32 s) := by
      cases s with
      | false => rw [if_pos (h2.mpr rfl)]; rfl
      | true => rw [if_neg (fun x => absurd (h2.mp x) (by decide))]; rfl
    rw [hs]
    unfold fX12_fromSmall_57 fX12_fromSmall_70 fX12_fromSmall_85 vlu32
    rw [if_neg (show ¬ P = 2139095040 by omega)]
    by_cases c3 : P / 8388608 = 0
    · have k3 : nI (P / 8388608) = 0 := by rw [c3]; rfl
      rw [if_pos k3, if_pos k3, if_pos c3, if_pos c3, show (-149 : Int32) = iZ (((1 : Nat) : Int) - 150) by decide, fl_mn (by omega) (by omega), Option.bind_some, show decide ((0 : Int32) ≠ 0) = false from rfl, sgB_or (by have := fRd_lt (P % 8388608) (((1 : Nat) : Int) - 150) false; omega), bI32_ne]
    · have k3 : ¬ nI (P / 8388608) = 0 := nI_ne0 (by omega) (by omega)
      have e1 : lN (P % 8388608) ||| 8388608 = lN (8388608 + P % 8388608) := by
        rw [Int64.or_comm]
        exact fb_or_sumL (k := 23) 1 (by omega)
      have e2 : nI (P / 8388608) - 150 = iZ (((P / 8388608 : Nat) : Int) - 150) := by
        rw [iZ_nI]
        exact iZ_sub _ 150
      rw [if_neg k3, if_neg k3, if_neg c3, if_neg c3, e1, e2, fl_mn (by omega) (by omega), Option.bind_some, show decide ((0 : Int32) ≠ 0) = false from rfl, sgB_or (by have := fRd_lt (8388608 + P % 8388608) (((P / 8388608 : Nat) : Int) - 150) false; omega), bI32_ne]
def pt (a : Nat) : Nat := if a = 9218868437227405312 then 2139095040 else pat (dg a) (un a)
theorem pt_le (a : Nat) : pt a ≤ 2139095040 := by
  unfold pt
  split
  · omega
  · exact pat_le _ _
theorem fl_tob {s : Bool} {a : Nat} (h : a ≤ 9218868437227405312) : fX2_toBits32 (sx s a) = sx32 s (pt a) := by
  have ha : a < 9223372036854775808 := by omega
  have la := sx_lost (s := s) ha
  have ia := sx_inf (s := s) ha
  unfold fX2_toBits32
  rw [if_pos (la.1.mpr h)]
  have hs : (if 0 ≤ sx s a then fX2_toBits32_22 (sx s a) 0 else fX2_toBits32_22 (sx s a) (-2147483648)) = fX2_toBits32_22 (sx s a) (sx32 s 0) := by
    have h2 := sx_nneg (s := s) ha
    cases s with
    | false => rw [if_pos (h2.mpr rfl)]; rfl
    | true =>
      rw [if_neg (fun x => absurd (h2.mp x) (by decide))]
      have e : (-2147483648 : Int32) = sx32 true 0 := by decide
      rw [e]
  rw [hs]
  unfold fX2_toBits32_22 pt
  by_cases c : a = 9218868437227405312
  · rw [if_neg (fun x => (ia.1.mp x) c), if_pos c]
    exact sx32_or (P := 2139095040) (by decide)
  · rw [if_pos (ia.1.mpr c), if_neg c]
    rcases Nat.eq_zero_or_pos a with x1_ | x1_
    · subst x1_
      have e0 : fX2_nearest (fX2_significand (sx s 0)) (fX2_scale (sx s 0)) 23 127 = 0 := by
        have e1 : fX2_significand (sx s 0) = 0 := by cases s <;> decide +kernel
        rw [e1]
        unfold fX2_nearest
        rw [if_neg (by decide)]
      have e2 : pat (dg 0) (un 0) = 0 := rfl
      rw [e0, e2]
      exact sx32_or (P := 0) (by decide)
    · have hf := full_rng x1_
      have hu := un_rng ha
      have hn := nb_dg a
      have h3 := cn_g (J := dg a * 2 ^ (53 - nb (dg a))) (w := 23) (bias := 127) (z := un a - ((53 - nb (dg a) : Nat) : Int)) (by omega) (by omega) (by decide) (by decide) (by decide) (by decide) (by omega)
      have h4 : fX2_nearest (lN (dg a * 2 ^ (53 - nb (dg a)))) (iZ (un a - ((53 - nb (dg a) : Nat) : Int))) 23 127 = lN (pat (dg a * 2 ^ (53 - nb (dg a))) (un a - ((53 - nb (dg a) : Nat) : Int))) := h3
      rw [sx_sig x1_ ha, sx_scale x1_ ha, h4, pat_scale (dg_pos x1_), lN_i, show un a - ((53 - nb (dg a) : Nat) : Int) + ((53 - nb (dg a) : Nat) : Int) = un a by omega]
      exact sx32_or (by have := pat_le (dg a) (un a); omega)
theorem fl_tobL (x : Int64) (h : ¬ fX2_isLost x = 0) : fX2_toBits32 x = 2143289344 := by
  unfold fX2_toBits32
  rw [if_neg h]
theorem fl_ob {s : Bool} {a : Nat} (h : a ≤ 9218868437227405312) : fX2_ofBits32 (fX2_toBits32 (sx s a)) = sx s (vlu32 (pt a)) := by
  have := pt_le a
  rw [fl_tob h, fl_ofb (by omega), if_neg (by omega)]
theorem fl_small (x : Int64) (hx : fX2_isLost x = 0 ∨ x = 9221120237041090560) : fX12_small x = some (fX2_ofBits32 (fX2_toBits32 x)) := by
  obtain ⟨s, a, ha, rfl⟩ := sx_of x
  have la := sx_lost (s := s) ha
  have ia := sx_inf (s := s) ha
  have za := sx_zero (s := s) ha
  unfold fX12_small fX12_small_21 fX12_one
  rw [la.2, ia.2, za.2]
  by_cases q1 : fX2_isLost (sx s a) = 0
  · simp only [if_pos q1]
    have hal := la.1.mp q1
    rw [fl_ob hal]
    by_cases q3 : fX2_isInfinite (sx s a) = 0
    · simp only [if_pos q3]
      have hai := ia.1.mp q3
      by_cases q5 : fX2_isZero (sx s a) = 0
      · simp only [if_pos q5]
        have ha0 : 0 < a := by have := za.1.mp q5; omega
        have hu := un_rng ha
        have hA := dg_lt a
        rw [fl_if_s ha (fun z => fX12_small_39 (sx s a) z)]
        unfold fX12_small_39 pt
        rw [sx_digits ha, sx_unit ha, mn_24 (by omega) (by omega), Option.bind_some, bI32_ne, if_neg hai, val_pat]
        rfl
      · simp only [if_neg q5]
        have ha0 : a = 0 := by
          rcases Nat.eq_zero_or_pos a with x1_ | x1_
          · exact x1_
          · exact absurd (za.1.mpr (by omega)) q5
        subst ha0
        rfl
    · simp only [if_neg q3]
      have hai : a = 9218868437227405312 := by
        rcases Nat.decEq a 9218868437227405312 with x1_ | x1_
        · exact absurd (ia.1.mpr x1_) q3
        · exact x1_
      subst hai
      rfl
  · simp only [if_neg q1]
    rw [fl_tobL _ q1]
    congr 1
