/-! probes are asked -/
section N
variable {w : Nat → Nat → Nat} {B : Nat} {S : CS} {M : MS}
theorem prS_c (r : Nat → Int64) : ∀ n, (prS r n).2.1 ≤ n
  | 0 => Nat.le_refl _
  | n + 1 => by
    have := prS_c r n
    unfold prS
    simp only
    split
    · simp only; omega
    · omega
/-- a probe's cells, whatever else is in the heap -/
def prH (S : CS) (a b mv : Nat) (f : Nat → Int32) : Prop := a ∈ cLs S ∧ b ∈ cLs S ∧ cH S a = .inr (3, [.ref b, .long (lN mv)]) ∧ cH S b = .inl (5, .inl f)
theorem pr_get {a b mv : Nat} {f : Nat → Int32} (h : prH S a b mv f) : tgN S (some a) [3] 0 = some (some b) ∧ tgJ S (some a) [3] 1 = some (lN mv) ∧ isKx S (some a) [3] = true := by
  obtain ⟨h1, h2, h3, h4⟩ := h
  unfold tgN tgJ
  refine ⟨?_, ?_, ?_⟩
  · rw [tF_at h1 h3 (by decide)]; rfl
  · rw [tF_at h1 h3 (by decide)]; rfl
  · exact (isK_at h1 h3 [3]).trans (by decide)
theorem pr_cnt {a b mv : Nat} {f : Nat → Int32} (h : prH S a b mv f) (hm : mv < 2147483648) : fX5_keptCount S (some a) = some (nI (min mv 5), S) := by
  unfold fX5_keptCount
  rw [(pr_get h).2.1, Option.bind_some]
  have e : (5 : Int64) ≤ lN mv ↔ 5 ≤ mv := lN_le (a := 5) (by decide) (by omega)
  by_cases c : 5 ≤ mv
  · rw [if_pos (e.mpr c), show min mv 5 = 5 by omega]
    rfl
  · rw [if_neg (fun q => c (e.mp q)), Option.bind_some, lN_i, show min mv 5 = mv by omega]
theorem pr_rd {a b mv : Nat} {f : Nat → Int32} (h : prH S a b mv f) {i : Nat} (hi : i < 5) : talI S (some b) (nI i) = some (f i) := by
  obtain ⟨h1, h2, h3, h4⟩ := h
  unfold talI
  rw [arI_at h2 h4, Option.bind_some]
  simp only
  rw [if_pos (inb_nI (by omega) hi), ix_nI (by omega)]
theorem pr_at {a b mv : Nat} {f : Nat → Int32} (h : prH S a b mv f) (hm : mv < 2147483648) : ∀ (q i k : Nat), i + q = min mv 5 → fX5_at_7 (q + 1 + k) S (some a) (prS (fun i => fX2_ofBits32 (f i)) i).1 (nI (prS (fun i => fX2_ofBits32 (f i)) i).2.1) (nI i) = (if (prS (fun i => fX2_ofBits32 (f i)) (min mv 5)).2.1 = 0 then some (9221120237041090560, S) else Option.bind (fX2_divide (prS (fun i => fX2_ofBits32 (f i)) (min mv 5)).1 (fX2_ofWhole (lN (prS (fun i => fX2_ofBits32 (f i)) (min mv 5)).2.1))) (fun c68 => some (c68, S))) := by
  have hg := pr_get h
  have hc := pr_cnt h hm
  intro q
  induction q with
  | zero =>
    intro i k hi
    have e : i = min mv 5 := by omega
    subst e
    have hcc := prS_c (fun i => fX2_ofBits32 (f i)) (min mv 5)
    rw [show 0 + 1 + k = k + 1 by omega, fX5_at_7, hg.2.2, if_pos rfl, hc, Option.bind_some, if_pos (Int32.le_refl _)]
    by_cases c : (prS (fun i => fX2_ofBits32 (f i)) (min mv 5)).2.1 = 0
    · rw [if_pos c, c, if_pos (show nI 0 = 0 from rfl)]
    · rw [if_neg c, if_neg (show ¬ nI (prS (fun i => fX2_ofBits32 (f i)) (min mv 5)).2.1 = 0 from fun x => c ((nI_inj (b := 0) (by omega) (by decide)).mp x)), nI_l (by omega)]
  | succ q ih =>
    intro i k hi
    have ih2 := ih (i + 1) k (by omega)
    rw [show q + 1 + 1 + k = (q + 1 + k) + 1 by omega, fX5_at_7, hg.2.2, if_pos rfl, hc, Option.bind_some, if_neg (fun x => by have := (nI_leI (a := min mv 5) (b := i) (by omega) (by omega)).mp x; omega)]
    simp only
    rw [hg.1, Option.bind_some, pr_rd h (by omega), Option.bind_some]
    unfold fX5_at_28 fX5_at_43 fX5_at_46 fX5_at_49
    rw [← ih2]
    by_cases c : fX2_isLost (fX2_ofBits32 (f i)) = 0
    · rw [if_pos c, nI_1, nI_1]
      have e : prS (fun i => fX2_ofBits32 (f i)) (i + 1) = (fX2_add (prS (fun i => fX2_ofBits32 (f i)) i).1 (fX2_ofBits32 (f i)), (prS (fun i => fX2_ofBits32 (f i)) i).2.1 + 1, (if fX2_isLost (prS (fun i => fX2_ofBits32 (f i)) i).2.2.1 = 0 then fX2_greater (prS (fun i => fX2_ofBits32 (f i)) i).2.2.1 (fX2_ofBits32 (f i)) else fX2_ofBits32 (f i)), (if fX2_isLost (prS (fun i => fX2_ofBits32 (f i)) i).2.2.2 = 0 then fX2_lesser (prS (fun i => fX2_ofBits32 (f i)) i).2.2.2 (fX2_ofBits32 (f i)) else fX2_ofBits32 (f i))) := by
        rw [prS]
        exact if_pos c
      rw [e]
    · rw [if_neg c, nI_1]
      have e : prS (fun i => fX2_ofBits32 (f i)) (i + 1) = prS (fun i => fX2_ofBits32 (f i)) i := by
        rw [prS]
        exact if_neg c
      rw [e]
theorem pr_tr {a b mv : Nat} {f : Nat → Int32} (h : prH S a b mv f) (hm : mv < 2147483648) : ∀ (q i k : Nat), i + q = min mv 5 → fX5_travelled_11 (q + 1 + k) S (some a) (prS (fun i => fX2_ofBits32 (f i)) i).2.2.1 (prS (fun i => fX2_ofBits32 (f i)) i).2.2.2 (nI i) = (if fX2_isLost (prS (fun i => fX2_ofBits32 (f i)) (min mv 5)).2.2.1 = 0 then some (fX2_add (prS (fun i => fX2_ofBits32 (f i)) (min mv 5)).2.2.1 (fX2_opposite (prS (fun i => fX2_ofBits32 (f i)) (min mv 5)).2.2.2), S) else some (0, S)) := by
  have hg := pr_get h
  have hc := pr_cnt h hm
  intro q
  induction q with
  | zero =>
    intro i k hi
    have e : i = min mv 5 := by omega
    subst e
    rw [show 0 + 1 + k = k + 1 by omega, fX5_travelled_11, hg.2.2, if_pos rfl, hc, Option.bind_some, if_pos (Int32.le_refl _)]
  | succ q ih =>
    intro i k hi
    have ih2 := ih (i + 1) k (by omega)
    rw [show q + 1 + 1 + k = (q + 1 + k) + 1 by omega, fX5_travelled_11, hg.2.2, if_pos rfl, hc, Option.bind_some, if_neg (fun x => by have := (nI_leI (a := min mv 5) (b := i) (by omega) (by omega)).mp x; omega)]
    simp only
    rw [hg.1, Option.bind_some, pr_rd h (by omega), Option.bind_some]
    unfold fX5_travelled_32 fX5_travelled_58 fX5_travelled_77 fX5_travelled_78 fX5_travelled_81
    rw [← ih2, nI_1]
    by_cases c : fX2_isLost (fX2_ofBits32 (f i)) = 0
    · have e : prS (fun i => fX2_ofBits32 (f i)) (i + 1) = (fX2_add (prS (fun i => fX2_ofBits32 (f i)) i).1 (fX2_ofBits32 (f i)), (prS (fun i => fX2_ofBits32 (f i)) i).2.1 + 1, (if fX2_isLost (prS (fun i => fX2_ofBits32 (f i)) i).2.2.1 = 0 then fX2_greater (prS (fun i => fX2_ofBits32 (f i)) i).2.2.1 (fX2_ofBits32 (f i)) else fX2_ofBits32 (f i)), (if fX2_isLost (prS (fun i => fX2_ofBits32 (f i)) i).2.2.2 = 0 then fX2_lesser (prS (fun i => fX2_ofBits32 (f i)) i).2.2.2 (fX2_ofBits32 (f i)) else fX2_ofBits32 (f i))) := by
        rw [prS]
        exact if_pos c
      rw [if_pos c, e]
      simp only
      by_cases c1 : fX2_isLost (prS (fun i => fX2_ofBits32 (f i)) i).2.2.1 = 0
      · rw [if_pos c1, if_pos c1]
        by_cases c2 : fX2_isLost (prS (fun i => fX2_ofBits32 (f i)) i).2.2.2 = 0
        · rw [if_pos c2, if_pos c2]
        · rw [if_neg c2, if_neg c2]
      · rw [if_neg c1, if_neg c1]
        by_cases c2 : fX2_isLost (prS (fun i => fX2_ofBits32 (f i)) i).2.2.2 = 0
        · rw [if_pos c2, if_pos c2]
        · rw [if_neg c2, if_neg c2]
    · rw [if_neg c]
      have e : prS (fun i => fX2_ofBits32 (f i)) (i + 1) = prS (fun i => fX2_ofBits32 (f i)) i := by
        rw [prS]
        exact if_neg c
      rw [e]
theorem rl_prH (R : Rel w B S M) {t : Nat} (h1 : t ≠ 0) (h2 : t ≤ nT M) (hk : kN M t = 16) : ∃ mv f, prH S (w 0 t) (w 1 t) mv f ∧ mv ≤ B ∧ gA M 18 t = nI mv ∧ gA M 20 t = nI (min mv 5) ∧ (∀ i, i < min mv 5 → can32 (f i) ∧ gB M 19 (5 * t + i) = fX2_ofBits32 (f i)) := by
  obtain ⟨m1_, f1_, b1_, b2_, b3_, b4_, b5_, b6_, b7_, b8_, b9_⟩ := rl_probe R h1 h2 hk
  exact ⟨m1_, f1_, ⟨rl_in R h1 h2, R.2.2.2.2.2.2.1.1 1 t (by omega) h2 (Or.inr (Or.inl ⟨rfl, Or.inr hk⟩)), b4_, b5_⟩, b1_, b2_, b3_, b6_⟩
theorem c_prAt (R : Rel w B S M) (hB : B < 2147483647) {t : Nat} (h1 : t ≠ 0) (h2 : t ≤ nT M) (hk : kN M t = 16) : fX5_at S (some (w 0 t)) = some (gB M 12 t, S) ∧ fX5_travelled S (some (w 0 t)) = some (gB M 13 t, S) ∧ can64 (gB M 12 t) ∧ can64 (gB M 13 t) := by
  obtain ⟨mv, f1_, b1_, b2_, b3_, b4_, b5_, b6_, b7_, b8_, b9_⟩ := rl_probe R h1 h2 hk
  have hH : prH S (w 0 t) (w 1 t) mv f1_ := ⟨rl_in R h1 h2, R.2.2.2.2.2.2.1.1 1 t (by omega) h2 (Or.inr (Or.inl ⟨rfl, Or.inr hk⟩)), b4_, b5_⟩
  have a1 := pr_at hH (by omega) (min mv 5) 0 (9 - min mv 5) (by omega)
  have a2 := pr_tr hH (by omega) (min mv 5) 0 (9 - min mv 5) (by omega)
  rw [show min mv 5 + 1 + (9 - min mv 5) = 10 by omega] at a1 a2
  refine ⟨?_, ?_, b8_, b9_⟩
  · unfold fX5_at
    refine Eq.trans a1 ?_
    have hq := b7_.1
    by_cases c : (prS (fun i => fX2_ofBits32 (f1_ i)) (min mv 5)).2.1 = 0
    · rw [if_pos c] at hq ⊢
      rw [hq]
    · rw [if_neg c] at hq ⊢
      rw [hq, Option.bind_some]
  · unfold fX5_travelled
    refine Eq.trans a2 ?_
    rw [b7_.2]
    split <;> rfl
end N
