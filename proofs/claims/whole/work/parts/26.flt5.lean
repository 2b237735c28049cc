/-! sums -/
def jam (n : Nat) (r : Bool) : Nat := if r = true ∧ n % 2 = 0 then n + 1 else n
theorem jam_f (n : Nat) : jam n false = n := by unfold jam; rw [if_neg (by simp)]
theorem jam_le (n : Nat) (r : Bool) : n ≤ jam n r ∧ jam n r ≤ n + 1 := by unfold jam; split <;> omega
theorem jam_0 {n : Nat} {r : Bool} : jam n r = 0 ↔ n = 0 ∧ r = false := by
  unfold jam
  cases r with
  | false => simp
  | true =>
    by_cases c : n % 2 = 0
    · simp [c]
    · simp [c]
      omega
theorem fRd_jm {m : Nat} {e : Int} {r : Bool} (h : r = true → 54 < nb m) : fRd (jam m r) e false = fRd m e r := by
  cases r with
  | false => rw [jam_f]
  | true => exact fRd_jam (h rfl)
theorem lN_or1 (n : Nat) : lN n ||| 1 = lN (jam n true) := by
  unfold jam
  have h := fb_or_sumL (a := 1) (k := 1) (n / 2) (by decide)
  by_cases c : n % 2 = 0
  · rw [if_pos ⟨rfl, c⟩]
    have e1 : 2 ^ 1 * (n / 2) = n := by omega
    rw [e1] at h
    exact h
  · rw [if_neg (by simp [c])]
    have e1 : 2 ^ 1 * (n / 2) + 1 = n := by omega
    rw [e1] at h
    rw [← h]
    show (lN (2 ^ 1 * (n / 2)) ||| 1) ||| 1 = lN (2 ^ 1 * (n / 2)) ||| 1
    rw [Int64.or_assoc, Int64.or_self]
theorem fl_low {n D : Nat} (hn : n < 2 ^ 63) (hD : D < 5000) : fX2_lowered (lN n) (iZ D) = lN (jam (n / 2 ^ D) (decide (n % 2 ^ D ≠ 0))) := by
  unfold fX2_lowered
  by_cases c : 0 < D
  · rw [if_pos (show (0 : Int32) < iZ D from (iZ_lt (a := 0) (by omega) (by omega)).mpr (by omega))]
    by_cases c2 : D ≤ 62
    · rw [if_pos (show iZ D ≤ 62 from (iZ_le (b := 62) (by omega) (by omega)).mpr (by omega)), fl_ushr (by omega) (by omega) (by omega), Int.toNat_natCast]
      unfold fX2_lowered_28
      have hdm := Nat.div_add_mod n (2 ^ D)
      have hml := Nat.mod_lt n (Nat.two_pow_pos D)
      rw [fl_shl _ (by omega) (by omega), Int.toNat_natCast, Nat.mul_comm]
      have k1 : lN (2 ^ D * (n / 2 ^ D)) = lN n ↔ n % 2 ^ D = 0 := by
        rw [pk_lEQ (by omega) hn]
        omega
      by_cases c3 : n % 2 ^ D = 0
      · rw [if_pos (k1.mpr c3), show decide (n % 2 ^ D ≠ 0) = false by simp [c3], jam_f]
      · rw [if_neg (fun x => c3 (k1.mp x)), show decide (n % 2 ^ D ≠ 0) = true by simp [c3], lN_or1]
    · rw [if_neg (show ¬ iZ D ≤ 62 from fun x => c2 (by have := (iZ_le (b := 62) (by omega) (by omega)).mp x; omega))]
      have h2 : 2 ^ 63 ≤ 2 ^ D := Nat.pow_le_pow_right (by decide) (by omega)
      rw [Nat.div_eq_of_lt (by omega), Nat.mod_eq_of_lt (by omega)]
      by_cases c3 : n = 0
      · rw [if_pos (show lN n = 0 by rw [c3]; rfl), show decide (n ≠ 0) = false by simp [c3]]
        rfl
      · rw [if_neg (show ¬ lN n = 0 from fun x => c3 ((pk_lEQ (b := 0) hn (by decide)).mp x)), show decide (n ≠ 0) = true by simp [c3]]
        rfl
  · have : D = 0 := by omega
    subst this
    rw [if_neg (show ¬ (0 : Int32) < iZ ((0 : Nat) : Int) by decide), Nat.pow_zero, Nat.div_one, Nat.mod_one]
    rfl
theorem un_mono {a c : Nat} (h : c ≤ a) : un c ≤ un a := by
  unfold un
  have := Nat.div_le_div_right (c := 4503599627370496) h
  split <;> split <;> omega
theorem dg_mono {a c : Nat} (h : c ≤ a) (e : un c = un a) : dg c ≤ dg a := by
  unfold un at e
  unfold dg
  split <;> split <;> rename_i c1 c2 <;> simp [c1, c2] at e ⊢ <;> omega
theorem dg_norm {a c : Nat} (h : un c < un a) : 4503599627370496 ≤ dg a := by
  unfold un at h
  unfold dg
  split <;> rename_i c1 <;> simp [c1] at h ⊢ <;> split at h <;> omega
theorem un_sub {a : Nat} (h : dg a < 4503599627370496) : un a = -1074 ∧ a < 4503599627370496 := by
  unfold dg at h
  unfold un
  split <;> rename_i c1 <;> simp [c1] at h ⊢ <;> omega
/-- the reference's sum, of its exact parts -/
def smM (same : Bool) (A C d : Nat) : Nat := if same then A * 512 + C * 512 / 2 ^ d else A * 512 - C * 512 / 2 ^ d - (if C * 512 % 2 ^ d ≠ 0 then 1 else 0)
def smR (C d : Nat) : Bool := decide (C * 512 % 2 ^ d ≠ 0)
def smX (s same : Bool) (A C d : Nat) (u : Int) : Int64 := if smM same A C d = 0 ∧ smR C d = false then 0 else sx s (fRd (smM same A C d) (u - 9) (smR C d))
theorem sm_facts {A C d : Nat} (hA : A < 9007199254740992) (hC : C < 9007199254740992) (h0 : d = 0 → C ≤ A) (h1 : 0 < d → 4503599627370496 ≤ A) : C * 512 / 2 ^ d ≤ A * 512 ∧ (smR C d = true → 9 < d ∧ C * 512 / 2 ^ d < 9007199254740992 ∧ 4503599627370496 ≤ A) := by
  constructor
  · rcases Nat.eq_zero_or_pos d with x1_ | x1_
    · subst x1_
      have := h0 rfl
      rw [Nat.pow_zero, Nat.div_one]
      omega
    · have := h1 x1_
      have h2 : 2 ^ 1 ≤ 2 ^ d := Nat.pow_le_pow_right (by decide) x1_
      have h3 : C * 512 / 2 ^ d ≤ C * 512 / 2 ^ 1 := Nat.div_le_div_left h2 (by decide)
      omega
  · intro hr
    have h9 : 9 < d := by
      rcases Nat.lt_or_ge 9 d with x1_ | x1_
      · exact x1_
      · exfalso
        have e1 : C * 512 = 2 ^ d * (C * 2 ^ (9 - d)) := by
          rw [Nat.mul_left_comm, ← Nat.pow_add, show d + (9 - d) = 9 by omega]
        unfold smR at hr
        rw [e1, Nat.mul_mod_right] at hr
        simp at hr
    have h2 : 2 ^ 10 ≤ 2 ^ d := Nat.pow_le_pow_right (by decide) h9
    have h3 : C * 512 / 2 ^ d ≤ C * 512 / 2 ^ 10 := Nat.div_le_div_left h2 (by decide)
    exact ⟨h9, by omega, h1 (by omega)⟩
theorem sm_nb {same : Bool} {A C d : Nat} (hA : A < 9007199254740992) (hC : C < 9007199254740992) (h0 : d = 0 → C ≤ A) (h1 : 0 < d → 4503599627370496 ≤ A) (hr : smR C d = true) : 54 < nb (smM same A C d) := by
  have h := (sm_facts hA hC h0 h1).2 hr
  apply nb_gt
  unfold smM
  generalize C * 512 / 2 ^ d = n at *
  have e54 : (2 : Nat) ^ 54 = 18014398509481984 := by decide
  rw [e54]
  cases same with
  | true =>
    show _ ≤ A * 512 + n
    omega
  | false =>
    show _ ≤ A * 512 - n - _
    split <;> omega
theorem sm_lt {same : Bool} {A C d : Nat} (hA : A < 9007199254740992) (hC : C < 9007199254740992) (h0 : d = 0 → C ≤ A) (h1 : 0 < d → 4503599627370496 ≤ A) : smM same A C d < 9223372036854775808 := by
  have h := (sm_facts hA hC h0 h1).1
  unfold smM
  generalize C * 512 / 2 ^ d = n at *
  cases same with
  | true =>
    show A * 512 + n < _
    omega
  | false =>
    show A * 512 - n - _ < _
    split <;> omega
theorem fl_addL {s t : Bool} {a c : Nat} (hc : 0 < c) (hca : c ≤ a) (ha : a < 9218868437227405312) : fX2_addLesser (sx s a) (sx t c) = smX s (s == t) (dg a) (dg c) (un a - un c).toNat (un a) := by
  have hau := un_rng (a := a) (by omega)
  have hcu := un_rng (a := c) (by omega)
  have hu := un_mono hca
  have hA := dg_lt a
  have hC := dg_lt c
  have hA0 := dg_pos (show 0 < a by omega)
  have hC0 := dg_pos hc
  have hnA := nb_dg a
  have hnC := nb_dg c
  have g0 : (un a - un c).toNat = 0 → dg c ≤ dg a := fun x => dg_mono hca (by omega)
  have g1 : 0 < (un a - un c).toNat → 4503599627370496 ≤ dg a := fun x => dg_norm (c := c) (by omega)
  generalize hd : (un a - un c).toNat = d at *
  have hna : 53 - nb (dg a) = 0 ∨ d = 0 := by
    rcases Nat.lt_or_ge (dg a) 4503599627370496 with x1_ | x1_
    · exact Or.inr (by have := g1; omega)
    · exact Or.inl (by have := nb_gt (k := 52) x1_; omega)
  have hnn : d = 0 → nb (dg c) ≤ nb (dg a) := fun x => by
    have h1 := g0 x
    have h2 := nb_lt (dg a)
    exact nb_le (by omega)
  unfold fX2_addLesser fX2_addLesser_13 fX2_addLesser_34 fX2_addLesser_59
  rw [sx_sig (by omega) (by omega), sx_sig hc (by omega), sx_scale (by omega) (by omega), sx_scale hc (by omega)]
  have hpa : dg a * 2 ^ (53 - nb (dg a)) < 2 ^ 53 := by
    have := Nat.mul_lt_mul_of_pos_right (nb_lt (dg a)) (Nat.two_pow_pos (53 - nb (dg a)))
    rw [← Nat.pow_add, show nb (dg a) + (53 - nb (dg a)) = 53 by omega] at this
    exact this
  have hpc : dg c * 2 ^ (53 - nb (dg c)) < 2 ^ 53 := by
    have := Nat.mul_lt_mul_of_pos_right (nb_lt (dg c)) (Nat.two_pow_pos (53 - nb (dg c)))
    rw [← Nat.pow_add, show nb (dg c) + (53 - nb (dg c)) = 53 by omega] at this
    exact this
  have e9 : ∀ n : Nat, lN n <<< ((9 : Int32).toInt64 &&& 63) = lN (n * 512) := fun n => wb_shl (k := 9) n (by decide)
  rw [e9, e9, iZ_sub]
  have eD : un a - ((53 - nb (dg a) : Nat) : Int) - (un c - ((53 - nb (dg c) : Nat) : Int)) = ((d + (53 - nb (dg c)) - (53 - nb (dg a)) : Nat) : Int) := by
    rcases hna with x1_ | x1_
    · omega
    · have := hnn x1_
      omega
  rw [eD, fl_low (by omega) (by omega)]
  -- what is lowered
  have eL : dg c * 2 ^ (53 - nb (dg c)) * 512 / 2 ^ (d + (53 - nb (dg c)) - (53 - nb (dg a))) = dg c * 512 / 2 ^ d * 2 ^ (53 - nb (dg a)) ∧ (decide (dg c * 2 ^ (53 - nb (dg c)) * 512 % 2 ^ (d + (53 - nb (dg c)) - (53 - nb (dg a))) ≠ 0) = smR (dg c) d) := by
    have e1 : dg c * 2 ^ (53 - nb (dg c)) * 512 = dg c * 512 * 2 ^ (53 - nb (dg c)) := by rw [Nat.mul_right_comm]
    rw [e1]
    rcases hna with x1_ | x1_
    · rw [x1_, Nat.sub_zero, Nat.pow_add, Nat.mul_div_mul_right _ _ (Nat.two_pow_pos _), Nat.mul_mod_mul_right, Nat.pow_zero, Nat.mul_one]
      refine ⟨rfl, ?_⟩
      unfold smR
      have := Nat.two_pow_pos (53 - nb (dg c))
      rw [decide_eq_decide]
      rw [ne_eq, ne_eq, Nat.mul_eq_zero]
      constructor
      · intro h h2
        exact h (Or.inl h2)
      · rintro h (x2_ | x2_)
        · exact h x2_
        · omega
    · have h3 := hnn x1_
      subst x1_
      have e2 : 2 ^ (53 - nb (dg c)) = 2 ^ (53 - nb (dg a)) * 2 ^ (0 + (53 - nb (dg c)) - (53 - nb (dg a))) := by rw [← Nat.pow_add]; congr 1; omega
      rw [e2, ← Nat.mul_assoc, Nat.mul_div_cancel _ (Nat.two_pow_pos _), Nat.mul_mod_left, Nat.pow_zero, Nat.div_one]
      unfold smR
      rw [Nat.pow_zero, Nat.mod_one]
      exact ⟨rfl, rfl⟩
  rw [eL.1, eL.2]
  have hf := sm_facts hA hC g0 g1
  have hR0 : smR (dg c) d = true → 53 - nb (dg a) = 0 := fun x => by
    rcases hna with x1_ | x1_
    · exact x1_
    · have := (hf.2 x).1
      omega
  have eJ : jam (dg c * 512 / 2 ^ d * 2 ^ (53 - nb (dg a))) (smR (dg c) d) = jam (dg c * 512 / 2 ^ d) (smR (dg c) d) * 2 ^ (53 - nb (dg a)) := by
    cases hr : smR (dg c) d with
    | false => rw [jam_f, jam_f]
    | true => rw [hR0 hr, Nat.pow_zero, Nat.mul_one, Nat.mul_one]
  have eM : dg a * 2 ^ (53 - nb (dg a)) * 512 = dg a * 512 * 2 ^ (53 - nb (dg a)) := by rw [Nat.mul_right_comm]
  rw [eJ, eM]
  have hjl : jam (dg c * 512 / 2 ^ d) (smR (dg c) d) ≤ dg a * 512 := by
    cases hr : smR (dg c) d with
    | false => rw [jam_f]; exact hf.1
    | true =>
      have h1 := hf.2 hr
      have h2 := (jam_le (dg c * 512 / 2 ^ d) true).2
      omega
  have hjl2 : jam (dg c * 512 / 2 ^ d) (smR (dg c) d) * 2 ^ (53 - nb (dg a)) ≤ dg a * 512 * 2 ^ (53 - nb (dg a)) := Nat.mul_le_mul_right _ hjl
  have hS : (sx s a &&& (-9223372036854775808)) = (sx t c &&& (-9223372036854775808)) ↔ s = t := by
    rw [sx_sgn (by omega), sx_sgn (by omega), sx_inj (by decide) (by decide)]
    simp
  have hgo : ∀ J, J = jam (smM (s == t) (dg a) (dg c) d) (smR (dg c) d) → J * 2 ^ (53 - nb (dg a)) < 2 ^ 63 → (if lN (J * 2 ^ (53 - nb (dg a))) = 0 then (0 : Int64) else fX2_signBit (sx s a) ||| fX2_nearest (lN (J * 2 ^ (53 - nb (dg a)))) (iZ (un a - ((53 - nb (dg a) : Nat) : Int)) - 9) 52 1023) = smX s (s == t) (dg a) (dg c) d (un a) := by
    intro J hJ hl
    unfold smX
    have hz : lN (J * 2 ^ (53 - nb (dg a))) = 0 ↔ (smM (s == t) (dg a) (dg c) d = 0 ∧ smR (dg c) d = false) := by
      rw [← jam_0, ← hJ]
      have h1 := pk_lEQ (a := J * 2 ^ (53 - nb (dg a))) (b := 0) hl (by decide)
      have h2 := Nat.two_pow_pos (53 - nb (dg a))
      constructor
      · intro x
        rcases Nat.mul_eq_zero.mp (h1.mp x) with x1_ | x1_
        · exact x1_
        · omega
      · intro x
        rw [x, Nat.zero_mul]
        rfl
    by_cases cz : smM (s == t) (dg a) (dg c) d = 0 ∧ smR (dg c) d = false
    · rw [if_pos (hz.mpr cz), if_pos cz]
    · rw [if_neg (fun x => cz (hz.mp x)), if_neg cz]
      unfold fX2_signBit
      rw [sx_sgn (by omega), show iZ (un a - ((53 - nb (dg a) : Nat) : Int)) - 9 = iZ (un a - ((53 - nb (dg a) : Nat) : Int) - 9) from iZ_sub _ 9, fl_cn hl (by omega), fRd_scale, hJ, fRd_jm (fun x => sm_nb hA hC g0 g1 x), sx_or (by have := fRd_lt (smM (s == t) (dg a) (dg c) d) (un a - ((53 - nb (dg a) : Nat) : Int) - 9 + ((53 - nb (dg a) : Nat) : Int)) (smR (dg c) d); omega)]
      congr 2
      omega
  unfold fX2_signBit at hgo ⊢
  by_cases cs : s = t
  · rw [if_pos (hS.mpr cs), lN_add, ← Nat.add_mul]
    apply hgo
    · rw [show (s == t) = true by simp [cs]]
      unfold smM jam
      simp only [if_true]
      by_cases x3 : smR (dg c) d = true ∧ dg c * 512 / 2 ^ d % 2 = 0
      · rw [if_pos x3, if_pos ⟨x3.1, by omega⟩]
        exact (Nat.add_assoc _ _ _).symm
      · rw [if_neg x3, if_neg (fun x4 => x3 ⟨x4.1, by omega⟩)]
    · rcases hna with x1_ | x1_
      · rw [x1_, Nat.pow_zero, Nat.mul_one]
        have h2 := jam_le (dg c * 512 / 2 ^ d) (smR (dg c) d)
        have h3 : dg c * 512 / 2 ^ d ≤ dg c * 512 := Nat.div_le_self _ _
        exact Nat.lt_of_lt_of_le (Nat.add_lt_add_of_lt_of_le (show dg a * 512 < 4611686018427387904 by omega) hjl) (show 4611686018427387904 + dg a * 512 ≤ 9223372036854775808 by omega)
      · rw [Nat.add_mul]
        have h7 : dg a * 512 * 2 ^ (53 - nb (dg a)) < 4611686018427387904 := by rw [← eM]; omega
        generalize dg a * 512 * 2 ^ (53 - nb (dg a)) = P1 at *
        generalize jam (dg c * 512 / 2 ^ d) (smR (dg c) d) * 2 ^ (53 - nb (dg a)) = P2 at *
        exact Nat.lt_of_lt_of_le (Nat.add_lt_add_of_lt_of_le h7 hjl2) (by omega)
  · rw [if_neg (fun x => cs (hS.mp x)), lN_sub hjl2, ← Nat.sub_mul]
    apply hgo
    · rw [show (s == t) = false by simp [cs]]
      unfold smM jam
      simp only [Bool.false_eq_true, if_false]
      cases hr : smR (dg c) d with
      | false =>
        have : ¬ (dg c * 512 % 2 ^ d ≠ 0) := by
          unfold smR at hr
          simpa using hr
        simp [this]
      | true =>
        have h5 : dg c * 512 % 2 ^ d ≠ 0 := by
          unfold smR at hr
          simpa using hr
        have h6 := hf.2 hr
        rw [if_pos h5]
        simp only [true_and]
        by_cases x3 : dg c * 512 / 2 ^ d % 2 = 0
        · rw [if_pos x3, if_neg (by omega)]
          omega
        · rw [if_neg x3, if_pos (by omega)]
          omega
    · have h5 : (dg a * 512 - jam (dg c * 512 / 2 ^ d) (smR (dg c) d)) * 2 ^ (53 - nb (dg a)) ≤ dg a * 512 * 2 ^ (53 - nb (dg a)) := Nat.mul_le_mul_right _ (Nat.sub_le _ _)
      omega
