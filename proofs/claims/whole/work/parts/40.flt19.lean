/-! results are canonical; what has no sign keeps none -/
def shp (s : Bool) (x : Int64) : Prop := x = 9221120237041090560 ∨ ∃ a, a ≤ 9218868437227405312 ∧ x = sx s a
theorem shp_can {s : Bool} {x : Int64} (h : shp s x) : can64 x := by
  rcases h with h | ⟨a1_, h1_, h2_⟩
  · exact Or.inr h
  · subst h2_
    exact Or.inl ((sx_lost (by omega)).1.mpr h1_)
theorem shp_of {x : Int64} (h : can64 x) : ∃ s, shp s x := by
  rcases h with h | h
  · obtain ⟨s1_, a1_, ha1_, rfl⟩ := sx_of x
    exact ⟨s1_, Or.inr ⟨a1_, (sx_lost ha1_).1.mp h, rfl⟩⟩
  · exact ⟨false, Or.inl h⟩
theorem shp_nn {x : Int64} (h : shp false x) : 0 ≤ x := by
  rcases h with h | ⟨a1_, h1_, h2_⟩
  · subst h; decide
  · subst h2_
    exact (sx_nneg (by omega)).mpr rfl
theorem shp_L (s : Bool) : shp s 9221120237041090560 := Or.inl rfl
theorem shp_0 : shp false 0 := Or.inr ⟨0, by decide, rfl⟩
theorem shp_I (s : Bool) : shp s (sx s 9218868437227405312) := Or.inr ⟨_, Nat.le_refl _, rfl⟩
theorem shp_r {s : Bool} {a : Nat} (h : a ≤ 9218868437227405312) : shp s (sx s a) := Or.inr ⟨_, h, rfl⟩
theorem near_r (m : Int64) {z : Int} (hz : -100000 ≤ z ∧ z ≤ 100000) : ∃ r, r ≤ 9218868437227405312 ∧ fX2_nearest m (iZ z) 52 1023 = lN r := by
  by_cases c : 0 < m
  · obtain ⟨n1_, hn1_, rfl⟩ := wb_of m
    have h1 : n1_ < 2 ^ 63 := by
      by_cases c2 : n1_ < 2 ^ 63
      · exact c2
      · have := (fl_neg hn1_).mpr (by omega)
        rw [Int64.lt_iff_toInt_lt] at this c
        omega
    exact ⟨_, fRd_lt n1_ z false, fl_cn h1 hz⟩
  · refine ⟨0, by decide, ?_⟩
    unfold fX2_nearest
    rw [if_neg c]
    rfl
theorem near_s {s : Bool} (m : Int64) {z : Int} (hz : -100000 ≤ z ∧ z ≤ 100000) : shp s (sx s 0 ||| fX2_nearest m (iZ z) 52 1023) := by
  obtain ⟨r1_, h1_, h2_⟩ := near_r m hz
  rw [h2_, sx_or (by omega)]
  exact shp_r h1_
theorem scale_r {s : Bool} {a : Nat} (ha : a < 9223372036854775808) (h : fX2_isZero (sx s a) = 0) : ∃ z : Int, fX2_scale (sx s a) = iZ z ∧ -2000 ≤ z ∧ z ≤ 1000 := by
  have h0 := (sx_zero ha).1.mp h
  have hu := un_rng ha
  exact ⟨_, sx_scale (by omega) ha, by omega, by omega⟩
def shE (s t : Bool) (z : Int64) : Prop := ∃ u, shp u z ∧ (s = false → t = false → u = false)
theorem shE_l {s t : Bool} {z : Int64} (h : shp s z) : shE s t z := ⟨s, h, fun e _ => e⟩
theorem shE_r {s t : Bool} {z : Int64} (h : shp t z) : shE s t z := ⟨t, h, fun _ e => e⟩
theorem shE_f {s t : Bool} {z : Int64} (h : shp false z) : shE s t z := ⟨false, h, fun _ _ => rfl⟩
theorem shE_x {s t : Bool} {z : Int64} (h : shp (s ^^ t) z) : shE s t z := ⟨s ^^ t, h, fun e f => by subst e; subst f; rfl⟩
theorem shE_can {s t : Bool} {z : Int64} (h : shE s t z) : can64 z := by
  obtain ⟨u1_, h1_, h2_⟩ := h
  exact shp_can h1_
theorem shE_nn {z : Int64} (h : shE false false z) : shp false z := by
  obtain ⟨u1_, h1_, h2_⟩ := h
  rw [h2_ rfl rfl] at h1_
  exact h1_
theorem shp_addL {u v : Bool} {p q : Nat} (hp : p < 9223372036854775808) (hz : fX2_isZero (sx u p) = 0) : shp u (fX2_addLesser (sx u p) (sx v q)) ∨ shp false (fX2_addLesser (sx u p) (sx v q)) := by
  obtain ⟨z1_, e1_, e2_, e3_⟩ := scale_r hp hz
  have e59 : ∀ t0, shp u (fX2_addLesser_59 (sx u p) 9 t0) ∨ shp false (fX2_addLesser_59 (sx u p) 9 t0) := by
    intro t0
    unfold fX2_addLesser_59 fX2_signBit
    by_cases c : t0 = 0
    · rw [if_pos c]; exact Or.inr shp_0
    · rw [if_neg c, sx_sgn hp, e1_, show iZ z1_ - 9 = iZ (z1_ - 9) from iZ_sub z1_ 9]
      exact Or.inl (near_s t0 (by omega))
  unfold fX2_addLesser fX2_addLesser_13 fX2_addLesser_34
  by_cases c : fX2_signBit (sx u p) = fX2_signBit (sx v q)
  · rw [if_pos c]; exact e59 _
  · rw [if_neg c]; exact e59 _
theorem lost_sx {s : Bool} {a : Nat} (h : a ≤ 9218868437227405312) : fX2_isLost (sx s a) = 0 := (sx_lost (by omega)).1.mpr h
theorem zero_sx {s : Bool} {a : Nat} (h : a ≤ 9218868437227405312) (c : ¬ fX2_isZero (sx s a) = 0) : a = 0 := by
  by_cases d : a = 0
  · exact d
  · exact absurd ((sx_zero (by omega)).1.mpr d) c
theorem and_00 {s t : Bool} : sx s 0 &&& sx t 0 = sx (s && t) 0 := by cases s <;> cases t <;> decide
theorem shp_add {s t : Bool} {x y : Int64} (hx : shp s x) (hy : shp t y) : shE s t (fX2_add x y) := by
  rcases hx with x1_ | ⟨a1_, h1_, x1_⟩
  · refine shE_f (Or.inl ?_)
    subst x1_
    unfold fX2_add fX2_add_14
    rw [if_neg lost_L]
  · rcases hy with y1_ | ⟨a2_, h2_, y1_⟩
    · refine shE_f (Or.inl ?_)
      subst y1_
      unfold fX2_add fX2_add_14
      rw [if_neg lost_L]
      split <;> rfl
    · subst x1_
      subst y1_
      unfold fX2_add fX2_add_14 fX2_add_44
      rw [if_pos (lost_sx h1_), if_pos (lost_sx h2_)]
      by_cases c1 : fX2_isInfinite (sx s a1_) = 0
      · rw [if_pos c1]
        by_cases c2 : fX2_isInfinite (sx t a2_) = 0
        · rw [if_pos c2]
          by_cases c3 : fX2_isZero (sx s a1_) = 0
          · rw [if_pos c3]
            by_cases c4 : fX2_isZero (sx t a2_) = 0
            · rw [if_pos c4]
              by_cases c5 : fX2_magnitude (sx s a1_) < fX2_magnitude (sx t a2_)
              · rw [if_pos c5]
                rcases shp_addL (v := s) (q := a1_) (show a2_ < 9223372036854775808 by omega) c4 with g1_ | g1_
                · exact shE_r g1_
                · exact shE_f g1_
              · rw [if_neg c5]
                rcases shp_addL (v := t) (q := a2_) (show a1_ < 9223372036854775808 by omega) c3 with g1_ | g1_
                · exact shE_l g1_
                · exact shE_f g1_
            · rw [if_neg c4]; exact shE_l (shp_r h1_)
          · rw [if_neg c3]
            by_cases c4 : fX2_isZero (sx t a2_) = 0
            · rw [if_pos c4]; exact shE_r (shp_r h2_)
            · rw [if_neg c4, zero_sx h1_ c3, zero_sx h2_ c4, and_00]
              refine ⟨s && t, shp_r (by decide), fun e _ => by rw [e]; rfl⟩
        · rw [if_neg c2]; exact shE_r (shp_r h2_)
      · rw [if_neg c1]
        by_cases c2 : fX2_isInfinite (sx t a2_) = 0
        · rw [if_pos c2]; exact shE_l (shp_r h1_)
        · rw [if_neg c2]
          by_cases c3 : sx s a1_ = sx t a2_
          · rw [if_pos c3]; exact shE_l (shp_r h1_)
          · rw [if_neg c3]; exact shE_f (shp_L _)
theorem inf_or {s : Bool} : sx s 0 ||| 9218868437227405312 = sx s 9218868437227405312 := by cases s <;> decide
theorem shp_mul {s t : Bool} {x y : Int64} (hx : shp s x) (hy : shp t y) : shE s t (fX2_multiply x y) := by
  rcases hx with x1_ | ⟨a1_, h1_, x1_⟩
  · refine shE_f (Or.inl ?_)
    subst x1_
    unfold fX2_multiply fX2_multiply_14
    rw [if_neg lost_L]
  · rcases hy with y1_ | ⟨a2_, h2_, y1_⟩
    · refine shE_f (Or.inl ?_)
      subst y1_
      unfold fX2_multiply fX2_multiply_14
      rw [if_neg lost_L]
      split <;> rfl
    · subst x1_
      subst y1_
      have e40 : shE s t (fX2_multiply_40 (sx s a1_) (sx t a2_) (sx (s ^^ t) 0)) := by
        unfold fX2_multiply_40 fX2_multiply_54
        by_cases c3 : fX2_isZero (sx s a1_) = 0
        · rw [if_pos c3]
          by_cases c4 : fX2_isZero (sx t a2_) = 0
          · rw [if_pos c4, inf_or]; exact shE_x (shp_I _)
          · rw [if_neg c4]; exact shE_f (shp_L _)
        · rw [if_neg c3]; exact shE_f (shp_L _)
      unfold fX2_multiply
      rw [if_pos (lost_sx h1_), if_pos (lost_sx h2_), sx_sgx (by omega) (by omega)]
      unfold fX2_multiply_26 fX2_multiply_81 fX2_multiply_103
      by_cases c1 : fX2_isInfinite (sx s a1_) = 0
      · rw [if_pos c1]
        by_cases c2 : fX2_isInfinite (sx t a2_) = 0
        · rw [if_pos c2]
          by_cases c3 : fX2_isZero (sx s a1_) = 0
          · rw [if_pos c3]
            by_cases c4 : fX2_isZero (sx t a2_) = 0
            · rw [if_pos c4]
              obtain ⟨z1_, e1_, e2_, e3_⟩ := scale_r (show a1_ < 9223372036854775808 by omega) c3
              obtain ⟨z2_, f1_, f2_, f3_⟩ := scale_r (show a2_ < 9223372036854775808 by omega) c4
              rw [e1_, f1_, iZ_add, show iZ (z1_ + z2_) + 44 = iZ (z1_ + z2_ + 44) from iZ_add _ 44]
              exact shE_x (near_s _ (by omega))
            · rw [if_neg c4]; exact shE_x (shp_r (by decide))
          · rw [if_neg c3]; exact shE_x (shp_r (by decide))
        · rw [if_neg c2]; exact e40
      · rw [if_neg c1]; exact e40
theorem shp_div {s t : Bool} {x y z : Int64} (hx : shp s x) (hy : shp t y) (hz : fX2_divide x y = some z) : shE s t z := by
  rcases hx with x1_ | ⟨a1_, h1_, x1_⟩
  · refine shE_f (Or.inl ?_)
    subst x1_
    unfold fX2_divide fX2_divide_14 at hz
    rw [if_neg lost_L] at hz
    exact (Option.some.inj hz).symm
  · rcases hy with y1_ | ⟨a2_, h2_, y1_⟩
    · refine shE_f (Or.inl ?_)
      subst y1_
      unfold fX2_divide fX2_divide_14 at hz
      rw [if_neg lost_L] at hz
      split at hz <;> exact (Option.some.inj hz).symm
    · subst x1_
      subst y1_
      unfold fX2_divide at hz
      rw [if_pos (lost_sx h1_), if_pos (lost_sx h2_), sx_sgx (by omega) (by omega)] at hz
      unfold fX2_divide_26 fX2_divide_94 at hz
      by_cases c1 : fX2_isInfinite (sx s a1_) = 0
      · rw [if_pos c1] at hz
        by_cases c4 : fX2_isZero (sx t a2_) = 0
        · rw [if_pos c4] at hz
          by_cases c3 : fX2_isZero (sx s a1_) = 0
          · rw [if_pos c3] at hz
            by_cases c2 : fX2_isInfinite (sx t a2_) = 0
            · rw [if_pos c2] at hz
              obtain ⟨q1_, g1_, g2_⟩ := Option.bind_eq_some_iff.mp hz
              obtain ⟨z1_, e1_, e2_, e3_⟩ := scale_r (show a1_ < 9223372036854775808 by omega) c3
              obtain ⟨z2_, f1_, f2_, f3_⟩ := scale_r (show a2_ < 9223372036854775808 by omega) c4
              rw [e1_, f1_, iZ_sub, show iZ (z1_ - z2_) - 60 = iZ (z1_ - z2_ - 60) from iZ_sub _ 60] at g2_
              rw [← Option.some.inj g2_]
              exact shE_x (near_s _ (by omega))
            · rw [if_neg c2] at hz
              rw [← Option.some.inj hz]
              exact shE_x (shp_r (by decide))
          · rw [if_neg c3] at hz
            rw [← Option.some.inj hz]
            exact shE_x (shp_r (by decide))
        · rw [if_neg c4] at hz
          by_cases c3 : fX2_isZero (sx s a1_) = 0
          · rw [if_pos c3, inf_or] at hz
            rw [← Option.some.inj hz]
            exact shE_x (shp_I _)
          · rw [if_neg c3] at hz
            rw [← Option.some.inj hz]
            exact shE_f (shp_L _)
      · rw [if_neg c1] at hz
        by_cases c2 : fX2_isInfinite (sx t a2_) = 0
        · rw [if_pos c2, inf_or] at hz
          rw [← Option.some.inj hz]
          exact shE_x (shp_I _)
        · rw [if_neg c2] at hz
          rw [← Option.some.inj hz]
          exact shE_f (shp_L _)
theorem shp_rem {s t : Bool} {x y z : Int64} (hx : shp s x) (hy : shp t y) (hz : fX2_remainder x y = some z) : can64 z := by
  have hL : ∀ {w : Int64}, some (9221120237041090560 : Int64) = some w → can64 w := fun h => Or.inr (Option.some.inj h).symm
  unfold fX2_remainder fX2_remainder_28 at hz
  rcases hx with x1_ | ⟨a1_, h1_, x1_⟩
  · subst x1_
    rw [if_neg lost_L] at hz
    exact hL hz
  · rcases hy with y1_ | ⟨a2_, h2_, y1_⟩
    · subst y1_
      rw [if_neg lost_L] at hz
      split at hz <;> exact hL hz
    · subst x1_
      subst y1_
      rw [if_pos (lost_sx h1_), if_pos (lost_sx h2_)] at hz
      by_cases c1 : fX2_isInfinite (sx s a1_) = 0
      · rw [if_pos c1] at hz
        by_cases c4 : fX2_isZero (sx t a2_) = 0
        · rw [if_pos c4] at hz
          by_cases c5 : fX2_magnitude (sx t a2_) ≤ fX2_magnitude (sx s a1_)
          · rw [if_pos c5] at hz
            obtain ⟨q1_, g1_, g2_⟩ := Option.bind_eq_some_iff.mp hz
            obtain ⟨z2_, f1_, f2_, f3_⟩ := scale_r (show a2_ < 9223372036854775808 by omega) c4
            unfold fX2_signBit at g2_
            rw [f1_, sx_sgn (by omega)] at g2_
            rw [← Option.some.inj g2_]
            exact shp_can (near_s (s := s) _ (by omega))
          · rw [if_neg c5] at hz
            rw [← Option.some.inj hz]
            exact shp_can (shp_r h1_)
        · rw [if_neg c4] at hz
          exact hL hz
      · rw [if_neg c1] at hz
        exact hL hz
