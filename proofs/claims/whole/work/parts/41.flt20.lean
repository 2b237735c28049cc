/-! results are canonical, of one -/
theorem ro_form : ∀ (q : Nat) (v0 : Int64) (v2 : Int32) (v3 v5 : Int64) (v7 : Int32) (z : Int64), fX2_rootOf_9 q v0 v2 v3 v5 v7 = some z → ∃ m, z = fX2_nearest m (v2 - 29) 52 1023 := by
  intro q
  induction q with
  | zero =>
    intro v0 v2 v3 v5 v7 z h
    cases h
  | succ q ih =>
    intro v0 v2 v3 v5 v7 z h
    have e35 : ∀ (a b c : Int64) (d : Int32), fX2_rootOf_35 (fX2_rootOf_9 q) v0 v2 a b d c = some z → ∃ m, z = fX2_nearest m (v2 - 29) 52 1023 := by
      intro a b c d g
      unfold fX2_rootOf_35 fX2_rootOf_46 fX2_rootOf_53 fX2_rootOf_57 fX2_rootOf_72 fX2_rootOf_76 fX2_rootOf_79 at g
      split at g <;> exact ih _ _ _ _ _ _ g
    rw [fX2_rootOf_9] at h
    by_cases c1 : v7 < (-28)
    · rw [if_pos c1] at h
      unfold fX2_rootOf_97 at h
      split at h <;> exact ⟨_, (Option.some.inj h).symm⟩
    · rw [if_neg c1] at h
      split at h <;> exact e35 _ _ _ _ h
theorem shp_root {s : Bool} {x z : Int64} (hx : shp s x) (hz : fX2_root x = some z) : can64 z ∧ (s = false → shp false z) := by
  rcases hx with x1_ | ⟨a1_, h1_, x1_⟩
  · subst x1_
    unfold fX2_root fX2_root_14 at hz
    rw [if_neg lost_L] at hz
    rw [← Option.some.inj hz]
    exact ⟨can64_L, fun _ => shp_L _⟩
  · subst x1_
    unfold fX2_root fX2_root_14 at hz
    rw [if_pos (lost_sx h1_)] at hz
    by_cases c3 : fX2_isZero (sx s a1_) = 0
    · rw [if_pos c3] at hz
      by_cases c4 : 0 ≤ sx s a1_
      · rw [if_pos c4] at hz
        by_cases c1 : fX2_isInfinite (sx s a1_) = 0
        · rw [if_pos c1] at hz
          unfold fX2_root_42 fX2_rootOf at hz
          obtain ⟨q1_, g1_, g2_⟩ := Option.bind_eq_some_iff.mp hz
          obtain ⟨m1_, g3_⟩ := ro_form _ _ _ _ _ _ _ g1_
          obtain ⟨z1_, e1_, e2_, e3_⟩ := scale_r (show a1_ < 9223372036854775808 by omega) c3
          rw [e1_, (iz_odd (E := z1_) (by omega)).1, (iz_odd (E := z1_) (by omega)).2, show iZ (z1_ / 2) - 29 = iZ (z1_ / 2 - 29) from iZ_sub _ 29] at g3_
          obtain ⟨r1_, k1_, k2_⟩ := near_r m1_ (z := z1_ / 2 - 29) (by omega)
          have e : z = sx false r1_ := by
            rw [← Option.some.inj g2_, g3_, k2_, sx_f]
          rw [e]
          exact ⟨shp_can (shp_r (s := false) k1_), fun _ => shp_r k1_⟩
        · rw [if_neg c1] at hz
          rw [← Option.some.inj hz]
          exact ⟨shp_can (shp_r h1_), fun e => by rw [e]; exact shp_r h1_⟩
      · rw [if_neg c4] at hz
        rw [← Option.some.inj hz]
        exact ⟨can64_L, fun _ => shp_L _⟩
    · rw [if_neg c3] at hz
      rw [← Option.some.inj hz]
      exact ⟨shp_can (shp_r h1_), fun e => by rw [e]; exact shp_r h1_⟩
theorem ntw_r (v : Int64) : ∃ r, r ≤ 9218868437227405312 ∧ fX2_nearestToWhole v 52 1023 = lN r := by
  unfold fX2_nearestToWhole fX2_nearestToWhole_30
  have h0 : ∀ m, ∃ r, r ≤ 9218868437227405312 ∧ fX2_nearest m 0 52 1023 = lN r := fun m => near_r m (z := 0) (by omega)
  have h1 : ∀ m, ∃ r, r ≤ 9218868437227405312 ∧ fX2_nearest m 1 52 1023 = lN r := fun m => near_r m (z := 1) (by omega)
  split
  · exact h1 _
  · split
    · exact h0 _
    · exact h0 _
theorem shp_whole (v : Int64) : shp (decide (v < 0)) (fX2_ofWhole v) := by
  unfold fX2_ofWhole fX2_ofWhole_13
  obtain ⟨r1_, h1_, h2_⟩ := ntw_r v
  rw [h2_]
  by_cases c : 0 ≤ v
  · have c2 : ¬ v < 0 := fun h => by
      rw [Int64.le_iff_toInt_le] at c
      rw [Int64.lt_iff_toInt_lt] at h
      omega
    rw [if_pos c, show decide (v < 0) = false by simp [c2], sx_f0, sx_or (by omega)]
    exact shp_r h1_
  · have c2 : v < 0 := by
      rw [Int64.le_iff_toInt_le] at c
      rw [Int64.lt_iff_toInt_lt]
      omega
    rw [if_neg c, show decide (v < 0) = true by simp [c2], sx_t0, sx_or (by omega)]
    exact shp_r h1_
theorem can_whole (v : Int64) : can64 (fX2_ofWhole v) := shp_can (shp_whole v)
theorem shp_wholeN {v : Int64} (h : 0 ≤ v) : shp false (fX2_ofWhole v) := by
  have c2 : ¬ v < 0 := fun g => by
    rw [Int64.le_iff_toInt_le] at h
    rw [Int64.lt_iff_toInt_lt] at g
    omega
  have := shp_whole v
  rw [show decide (v < 0) = false by simp [c2]] at this
  exact this
theorem can_ofb (v : Int32) : can64 (fX2_ofBits32 v) := by
  obtain ⟨s1_, P1_, h1_, rfl⟩ := sx32_of v
  rw [fl_ofb h1_]
  split
  · exact can64_L
  · exact shp_can (shp_r vl_le)
theorem can_ofBits (v : Int64) : can64 (fX2_ofBits v) := by
  unfold fX2_ofBits
  by_cases c : fX2_isLost v = 0
  · rw [if_pos c]; exact Or.inl c
  · rw [if_neg c]; exact can64_L
theorem mxmn (v : Int64) : ∃ k : Int, -3000 ≤ k ∧ k ≤ 3000 ∧ (mxJ (-3000) (mnJ 3000 v)).toInt32 = iZ k ∧ (if (-3000) ≤ v then (if v ≤ 3000 then v.toInt32 else 3000) else (-3000)) = iZ k := by
  have e1 : (-3000 : Int64).toInt = -3000 := by decide
  have e2 : (3000 : Int64).toInt = 3000 := by decide
  unfold mxJ mnJ
  by_cases c1 : (-3000 : Int64) ≤ v
  · rw [if_pos c1]
    by_cases c2 : v ≤ 3000
    · rw [if_pos c2]
      refine ⟨v.toInt, ?_, ?_, ?_, ?_⟩
      · rw [Int64.le_iff_toInt_le] at c1; omega
      · rw [Int64.le_iff_toInt_le] at c2; omega
      · by_cases c3 : v < 3000
        · rw [if_pos c3, if_neg]
          · rfl
          · rw [Int64.lt_iff_toInt_lt]
            rw [Int64.le_iff_toInt_le] at c1
            omega
        · have c4 : v = 3000 := by
            rw [Int64.lt_iff_toInt_lt] at c3
            rw [Int64.le_iff_toInt_le] at c2
            exact Int64.toInt_inj.mp (by omega)
          subst c4
          decide
      · rfl
    · rw [if_neg c2, if_neg (show ¬ v < 3000 from fun h => c2 (by rw [Int64.lt_iff_toInt_lt] at h; rw [Int64.le_iff_toInt_le]; omega))]
      exact ⟨3000, by decide, by decide, by decide, by decide⟩
  · rw [if_neg c1]
    have c2 : v < 3000 := by
      rw [Int64.le_iff_toInt_le] at c1
      rw [Int64.lt_iff_toInt_lt]
      omega
    have c3 : v < -3000 := by
      rw [Int64.le_iff_toInt_le] at c1
      rw [Int64.lt_iff_toInt_lt]
      omega
    rw [if_pos c2, if_pos c3]
    exact ⟨-3000, by decide, by decide, by decide, by decide⟩
theorem can_scaled {x : Int64} (v : Int64) (hx : can64 x) : can64 (fX2_scaled x v) := by
  unfold fX2_scaled fX2_scaled_21 fX2_scaled_39
  obtain ⟨k1_, h1_, h2_, h3_, h4_⟩ := mxmn v
  rw [h3_]
  by_cases c1 : fX2_isLost x = 0
  · rw [if_pos c1]
    by_cases c2 : fX2_isInfinite x = 0
    · rw [if_pos c2]
      by_cases c3 : fX2_isZero x = 0
      · rw [if_pos c3]
        obtain ⟨s1_, a1_, ha1_, rfl⟩ := sx_of x
        obtain ⟨z1_, e1_, e2_, e3_⟩ := scale_r ha1_ c3
        unfold fX2_signBit
        rw [sx_sgn ha1_, e1_, iZ_add]
        exact shp_can (near_s (s := s1_) _ (by omega))
      · rw [if_neg c3]; exact hx
    · rw [if_neg c2]; exact hx
  · rw [if_neg c1]; exact hx
theorem tz_le {a : Nat} : tz a ≤ a := by
  unfold tz
  split
  · omega
  · split <;> omega
theorem aw_le {a : Nat} (h : a < 4841369599423283200) : aw a ≤ 9218868437227405312 := by
  unfold aw
  split
  · decide
  · have hc := csh_rng (a := a) (by omega) h
    have h1 : 2 ^ csh a ≤ 2 ^ 52 := Nat.pow_le_pow_right (by decide) hc.2
    omega
theorem shp_cutg {how : Nat} {s : Bool} {x z : Int64} (hh : how = 1 ∨ how = 2 ∨ how = 3) (hx : shp s x) (hz : fX12_cut x (nI how) = some z) : shp s z := by
  rcases hx with x1_ | ⟨a1_, h1_, x1_⟩
  · have hc := ct_all (how := how) (s := false) (a := 9221120237041090560) hh (by decide) (Or.inr rfl)
    subst x1_
    have hc' : fX12_cut 9221120237041090560 (nI how) = some (sx false 9221120237041090560) := by
      refine hc.trans ?_
      rw [if_pos (Or.inr (by decide))]
    rw [hc'] at hz
    rw [← Option.some.inj hz]
    exact shp_L s
  · subst x1_
    have hc := ct_all (how := how) (s := s) (a := a1_) hh (by omega) (Or.inl h1_)
    rw [hc] at hz
    rw [← Option.some.inj hz]
    split
    · exact shp_r h1_
    · rename_i hn
      have h2 : a1_ < 4841369599423283200 := by
        by_cases c : a1_ < 4841369599423283200
        · exact c
        · exact absurd (Or.inr (by omega)) hn
      split
      · exact shp_r (aw_le h2)
      · exact shp_r (Nat.le_trans tz_le h1_)
theorem shp_cut1 {s : Bool} {x : Int64} (hx : shp s x) : shp s (fX2_wholeNotAbove x) := shp_cutg (how := 1) (Or.inl rfl) hx (fl_cut1 x (shp_can hx))
theorem shp_cut2 {s : Bool} {x : Int64} (hx : shp s x) : shp s (fX2_wholeNotBelow x) := shp_cutg (how := 2) (Or.inr (Or.inl rfl)) hx (fl_cut2 x (shp_can hx))
theorem shp_cut3 {s : Bool} {x : Int64} (hx : shp s x) : shp s (fX2_nearestWhole x) := shp_cutg (how := 3) (Or.inr (Or.inr rfl)) hx (fl_cut3 x (shp_can hx))
theorem shp_mag {s : Bool} {x : Int64} (hx : shp s x) : shp false (fX2_magnitude x) := by
  unfold fX2_magnitude
  rcases hx with x1_ | ⟨a1_, h1_, x1_⟩
  · subst x1_
    exact Or.inl (by decide)
  · subst x1_
    rw [sx_mag (by omega), ← sx_f]
    exact shp_r h1_
theorem cut_nn {x : Int64} (h : shp false x) : 0 ≤ fX2_cut x := by
  have key : ∀ a, a < 9223372036854775808 → 0 ≤ fX2_cut (sx false a) := by
    intro a ha
    rw [fl_cutv ha]
    split
    · decide
    · rename_i hn
      have hl := cvN_lt (a := a) (by omega)
      rw [Int64.le_iff_toInt_le, sgn64_int hl]
      have : (0 : Int64).toInt = 0 := by decide
      rw [this]
      simp
  rcases h with x1_ | ⟨a1_, h1_, x1_⟩
  · subst x1_
    exact key 9221120237041090560 (by decide)
  · subst x1_
    exact key _ (by omega)
theorem can_sub {x y : Int64} (hx : can64 x) (hy : can64 y) : can64 (fX2_subtract x y) := by
  obtain ⟨s1_, h1_⟩ := shp_of hx
  obtain ⟨s2_, h2_⟩ := shp_of (can_opp y hy)
  exact shE_can (shp_add h1_ h2_)
theorem can_add {x y : Int64} (hx : can64 x) (hy : can64 y) : can64 (fX2_add x y) := by
  obtain ⟨s1_, h1_⟩ := shp_of hx
  obtain ⟨s2_, h2_⟩ := shp_of hy
  exact shE_can (shp_add h1_ h2_)
theorem can_mul {x y : Int64} (hx : can64 x) (hy : can64 y) : can64 (fX2_multiply x y) := by
  obtain ⟨s1_, h1_⟩ := shp_of hx
  obtain ⟨s2_, h2_⟩ := shp_of hy
  exact shE_can (shp_mul h1_ h2_)
theorem can_div {x y z : Int64} (hx : can64 x) (hy : can64 y) (hz : fX2_divide x y = some z) : can64 z := by
  obtain ⟨s1_, h1_⟩ := shp_of hx
  obtain ⟨s2_, h2_⟩ := shp_of hy
  exact shE_can (shp_div h1_ h2_ hz)
theorem can_rem {x y z : Int64} (hx : can64 x) (hy : can64 y) (hz : fX2_remainder x y = some z) : can64 z := by
  obtain ⟨s1_, h1_⟩ := shp_of hx
  obtain ⟨s2_, h2_⟩ := shp_of hy
  exact shp_rem h1_ h2_ hz
theorem can_root {x z : Int64} (hx : can64 x) (hz : fX2_root x = some z) : can64 z := by
  obtain ⟨s1_, h1_⟩ := shp_of hx
  exact (shp_root h1_ hz).1
theorem can_signOf {x : Int64} (hx : can64 x) : can64 (fX2_signOf x) := by
  unfold fX2_signOf fX2_signOf_14
  by_cases c1 : fX2_isLost x = 0
  · rw [if_pos c1]
    by_cases c2 : fX2_isZero x = 0
    · rw [if_pos c2]
      obtain ⟨s1_, a1_, ha1_, rfl⟩ := sx_of x
      unfold fX2_signBit
      rw [sx_sgn ha1_]
      have e : sx s1_ 0 ||| 4607182418800017408 = sx s1_ 4607182418800017408 := by cases s1_ <;> decide
      rw [e]
      exact shp_can (shp_r (by decide))
    · rw [if_neg c2]; exact hx
  · rw [if_neg c1]; exact hx
theorem can_step {x : Int64} (hx : can64 x) : can64 (fX2_step x) := by
  unfold fX2_step fX2_step_14 fX2_step_24
  obtain ⟨s1_, h1_⟩ := shp_of hx
  have hm := shp_can (shp_mag h1_)
  by_cases c1 : fX2_isLost x = 0
  · rw [if_pos c1]
    by_cases c2 : fX2_isInfinite x = 0
    · rw [if_pos c2]
      obtain ⟨s2_, a1_, ha1_, rfl⟩ := sx_of x
      rw [sx_expo ha1_]
      split
      · rw [show iZ ((a1_ / 4503599627370496 : Nat) - 1023) - 52 = iZ ((a1_ / 4503599627370496 : Nat) - 1023 - 52) from iZ_sub _ 52]
        obtain ⟨r1_, k1_, k2_⟩ := near_r 1 (z := ((a1_ / 4503599627370496 : Nat) : Int) - 1023 - 52) (by omega)
        rw [k2_, ← sx_f]
        exact shp_can (shp_r k1_)
      · exact Or.inl (by decide)
    · rw [if_neg c2]; exact hm
  · rw [if_neg c1]; exact hm
theorem can_up {x : Int64} (hx : can64 x) : can64 (fX2_nextAbove x) := by
  unfold fX2_nextAbove fX2_nextAbove_15
  by_cases c1 : fX2_isLost x = 0
  · rw [if_pos c1]
    by_cases c2 : x = 9218868437227405312
    · rw [if_pos c2]; exact hx
    · rw [if_neg c2]
      by_cases c3 : fX2_isZero x = 0
      · rw [if_pos c3]
        obtain ⟨s1_, a1_, ha1_, rfl⟩ := sx_of x
        have hl := (sx_lost ha1_).1.mp c1
        have h0 := (sx_zero ha1_).1.mp c3
        cases s1_ with
        | false =>
          rw [if_pos ((sx_nneg ha1_).mpr rfl)]
          have hne : a1_ ≠ 9218868437227405312 := fun h => c2 (by rw [h]; decide)
          have e : sx false a1_ + 1 = sx false (a1_ + 1) := by
            rw [sx_f, sx_f]
            exact lN_add a1_ 1
          rw [e]
          exact shp_can (shp_r (by omega))
        | true =>
          rw [if_neg (sx_ng ha1_)]
          have e : sx true a1_ - 1 = sx true (a1_ - 1) := by
            have h : lN (9223372036854775808 + a1_) - 1 = lN (9223372036854775808 + a1_ - 1) := lN_sub (b := 1) (by omega)
            refine Eq.trans h ?_
            show _ = lN (9223372036854775808 + (a1_ - 1))
            congr 1
            omega
          rw [e]
          exact shp_can (shp_r (by omega))
      · rw [if_neg c3]; exact Or.inl (by decide)
  · rw [if_neg c1]; exact hx
theorem can_ofOne {k : Nat} (hk : k < 16) {x z : Int64} (hx : can64 x) (hz : fX11_ofOne x (nI k) = some z) : can64 z := by
  obtain ⟨s1_, h1_⟩ := shp_of hx
  rcases lt16 hk with h9 | h9 | h9 | h9 | h9 | h9 | h9 | h9 | h9 | h9 | h9 | h9 | h9 | h9 | h9 | h9 <;> rw [h9] at hz
  · rw [oo_0] at hz
    rw [← Option.some.inj hz]
    exact shp_can (shp_mag h1_)
  · rw [oo_1] at hz
    rw [← Option.some.inj hz]
    exact shp_can (shp_cut1 h1_)
  · rw [oo_2] at hz
    rw [← Option.some.inj hz]
    exact shp_can (shp_cut2 h1_)
  · rw [oo_3] at hz
    rw [← Option.some.inj hz]
    exact shp_can (shp_cut3 h1_)
  · rw [oo_4] at hz
    rw [← Option.some.inj hz]
    exact can_signOf hx
  · rw [oo_5] at hz
    obtain ⟨q1_, g1_, g2_⟩ := Option.bind_eq_some_iff.mp hz
    rw [← Option.some.inj g2_]
    exact can_root hx g1_
  · rw [oo_6] at hz
    rw [← Option.some.inj hz]
    exact can_step hx
  · rw [oo_7] at hz
    rw [← Option.some.inj hz]
    exact can_up hx
  · rw [oo_8] at hz
    rw [← Option.some.inj hz]
    exact can_opp _ (can_up (can_opp _ hx))
  · rw [oo_9] at hz
    rw [← Option.some.inj hz]
    exact can_opp _ hx
  · rw [oo_10] at hz
    rw [← Option.some.inj hz]
    exact can_whole _
  · rw [oo_11] at hz
    rw [← Option.some.inj hz]
    exact can_ofb _
  · rw [oo_12] at hz
    rw [← Option.some.inj hz]
    exact hx
  · rw [oo_13] at hz
    rw [← Option.some.inj hz]
    exact hx
  · rw [oo_14] at hz
    rw [← Option.some.inj hz]
    exact hx
  · rw [oo_15] at hz
    rw [← Option.some.inj hz]
    exact hx
