/-! roots -/
def rtT (Q k : Nat) : Nat := if k < 27 then Q / 2 ^ (52 - 2 * k) % 4 else 0
def rtP (w : Nat × Nat) (two : Nat) : Nat × Nat := if w.2 * 4 + two < 4 * w.1 + 1 then (2 * w.1, w.2 * 4 + two) else (2 * w.1 + 1, w.2 * 4 + two - (4 * w.1 + 1))
def rtS (Q : Nat) : Nat → Nat × Nat
  | 0 => (0, 0)
  | k + 1 => rtP (rtS Q k) (rtT Q k)
theorem rtT_lt (Q k : Nat) : rtT Q k < 4 := by unfold rtT; split <;> omega
theorem rtS_inv (Q : Nat) : ∀ k, (rtS Q k).2 ≤ 2 * (rtS Q k).1 ∧ (rtS Q k).1 < 2 ^ k
  | 0 => by
    show 0 ≤ 2 * 0 ∧ 0 < 2 ^ 0
    decide
  | k + 1 => by
    have ih := rtS_inv Q k
    have h4 := rtT_lt Q k
    rw [rtS, Nat.pow_succ]
    unfold rtP
    split <;> dsimp only <;> omega
theorem rtS_ge {Q : Nat} (h : 4503599627370496 ≤ Q) (h2 : Q < 18014398509481984) : ∀ k, 2 ^ k ≤ (rtS Q (k + 1)).1
  | 0 => by
    have e1 : rtT Q 0 = Q / 2 ^ 52 % 4 := by unfold rtT; rfl
    rw [rtS, rtS]
    unfold rtP
    rw [e1]
    have : Q / 2 ^ 52 % 4 ≠ 0 := by omega
    split <;> dsimp only at * <;> omega
  | k + 1 => by
    have ih := rtS_ge h h2 k
    rw [rtS, Nat.pow_succ]
    unfold rtP
    split <;> dsimp only <;> omega
theorem rt_or2 {n two : Nat} (h : two < 4) : (lN n <<< ((2 : Int32).toInt64 &&& 63)) ||| lN two = lN (n * 4 + two) := by
  have e1 : lN n <<< ((2 : Int32).toInt64 &&& 63) = lN (n * 4) := wb_shl (k := 2) n (by decide)
  rw [e1, Nat.mul_comm]
  exact fb_or_sumL (k := 2) n h
theorem rt_two {Q k : Nat} (hQ : Q < 2 ^ 63) (hk : k < 27) : lN (Q / 2 ^ (52 - 2 * k)) &&& 3 = lN (rtT Q k) := by
  unfold rtT
  rw [if_pos hk]
  exact fb_maskL _ 2
/-- one step of either loop -/
theorem rt_cstep {Q k : Nat} {r9 : Int64 → Int32 → Int64 → Int64 → Int32 → Option Int64} {v0 : Int64} {v2 v7 : Int32} (hk : k < 58) : fX2_rootOf_35 r9 v0 v2 (lN (rtS Q k).1) (lN (rtS Q k).2) v7 (lN (rtT Q k)) = r9 v0 v2 (lN (rtS Q (k + 1)).1) (lN (rtS Q (k + 1)).2) (v7 + (-1)) := by
  have hi := rtS_inv Q k
  have hp : 2 ^ k ≤ 2 ^ 57 := Nat.pow_le_pow_right (by decide) (by omega)
  have h4 := rtT_lt Q k
  unfold fX2_rootOf_35 fX2_rootOf_46 fX2_rootOf_53 fX2_rootOf_57 fX2_rootOf_72 fX2_rootOf_76 fX2_rootOf_79
  have s1 : lN (rtS Q k).1 <<< ((1 : Int32).toInt64 &&& 63) = lN (2 * (rtS Q k).1) := by
    rw [Nat.mul_comm]
    exact wb_shl (k := 1) _ (by decide)
  have t1 : (lN (rtS Q k).1 <<< ((2 : Int32).toInt64 &&& 63)) ||| 1 = lN (4 * (rtS Q k).1 + 1) := by
    rw [Nat.mul_comm 4]
    exact rt_or2 (two := 1) (by decide)
  rw [rt_or2 h4, t1, s1, rtS]
  unfold rtP
  generalize rtS Q k = w at *
  have o1 : lN (2 * w.1) ||| 1 = lN (2 * w.1 + 1) := by
    rw [lN_or1]
    unfold jam
    rw [if_pos ⟨rfl, by omega⟩]
  have k1 : lN (w.2 * 4 + rtT Q k) < lN (4 * w.1 + 1) ↔ w.2 * 4 + rtT Q k < 4 * w.1 + 1 := pk_lLT (by omega) (by omega)
  by_cases c : w.2 * 4 + rtT Q k < 4 * w.1 + 1
  · rw [if_pos (k1.mpr c), if_pos c]
  · rw [if_neg (fun x => c (k1.mp x)), if_neg c, o1, lN_sub (by omega)]
theorem rt_mstep {Q k : Nat} {r120 : Int64 → Int32 → Int64 → Int64 → Int32 → Option Int64} {v0 : Int64} {v2 v7 : Int32} (hk : k < 58) : fX12_root_151 r120 v0 v2 (lN (rtS Q k).1) (lN (rtS Q k).2) v7 (lN (rtT Q k)) = r120 v0 v2 (lN (rtS Q (k + 1)).1) (lN (rtS Q (k + 1)).2) (v7 + 1) := by
  have hi := rtS_inv Q k
  have hp : 2 ^ k ≤ 2 ^ 57 := Nat.pow_le_pow_right (by decide) (by omega)
  have h4 := rtT_lt Q k
  unfold fX12_root_151 fX12_root_162 fX12_root_170 fX12_root_176 fX12_root_191 fX12_root_197 fX12_root_200
  have s1 : lN (rtS Q k).1 <<< ((1 : Int32).toInt64 &&& 63) = lN (2 * (rtS Q k).1) := by
    rw [Nat.mul_comm]
    exact wb_shl (k := 1) _ (by decide)
  have t1 : (lN (rtS Q k).1 <<< ((2 : Int32).toInt64 &&& 63)) ||| 1 = lN (4 * (rtS Q k).1 + 1) := by
    rw [Nat.mul_comm 4]
    exact rt_or2 (two := 1) (by decide)
  rw [rt_or2 h4, t1, s1, rtS]
  unfold rtP
  generalize rtS Q k = w at *
  have o1 : lN (2 * w.1) ||| 1 = lN (2 * w.1 + 1) := by
    rw [lN_or1]
    unfold jam
    rw [if_pos ⟨rfl, by omega⟩]
  have k1 : lN (w.2 * 4 + rtT Q k) < lN (4 * w.1 + 1) ↔ w.2 * 4 + rtT Q k < 4 * w.1 + 1 := pk_lLT (by omega) (by omega)
  by_cases c : w.2 * 4 + rtT Q k < 4 * w.1 + 1
  · rw [if_pos (k1.mpr c), if_pos c]
  · rw [if_neg (fun x => c (k1.mp x)), if_neg c, o1, lN_sub (by omega)]
theorem rt_cloop {Q : Nat} {h : Int32} (hQ : Q < 2 ^ 63) : ∀ (j k f : Nat), k + j = 55 → fX2_rootOf_9 (f + j + 1) (lN Q) h (lN (rtS Q k).1) (lN (rtS Q k).2) (iZ (26 - k)) = some (fX2_nearest (lN (2 * (rtS Q 55).1 + (if (rtS Q 55).2 = 0 then 0 else 1))) (h - 29) 52 1023)
  | 0, k, f, hk => by
    have hk : k = 55 := by omega
    subst hk
    have hi := rtS_inv Q 55
    have hp : (2 : Nat) ^ 55 = 36028797018963968 := by decide
    have em28 : (-28 : Int32) = iZ (-28) := by decide
    rw [fX2_rootOf_9, em28, if_pos ((iZ_lt (by omega) (by omega)).mpr (by omega))]
    unfold fX2_rootOf_97
    have s1 : lN (rtS Q 55).1 <<< ((1 : Int32).toInt64 &&& 63) = lN (2 * (rtS Q 55).1) := by
      rw [Nat.mul_comm]
      exact wb_shl (k := 1) _ (by decide)
    have o0 : lN (2 * (rtS Q 55).1) ||| (0 : Int32).toInt64 = lN (2 * (rtS Q 55).1 + 0) := by
      rw [show (0 : Int32).toInt64 = 0 by decide, Int64.or_zero, Nat.add_zero]
    have o1 : lN (2 * (rtS Q 55).1) ||| (1 : Int32).toInt64 = lN (2 * (rtS Q 55).1 + 1) := by
      rw [show (1 : Int32).toInt64 = 1 by decide, lN_or1]
      unfold jam
      rw [if_pos ⟨rfl, by omega⟩]
    have k1 : lN (rtS Q 55).2 = 0 ↔ (rtS Q 55).2 = 0 := pk_lEQ (b := 0) (by omega) (by decide)
    rw [s1]
    by_cases c : (rtS Q 55).2 = 0
    · rw [if_pos (k1.mpr c), if_pos c, o0]
    · rw [if_neg (fun x => c (k1.mp x)), if_neg c, o1]
  | j + 1, k, f, hk => by
    have ih := rt_cloop (h := h) hQ j (k + 1) f (by omega)
    have em28 : (-28 : Int32) = iZ (-28) := by decide
    rw [show f + (j + 1) + 1 = (f + j + 1) + 1 by omega, fX2_rootOf_9, em28, if_neg (fun x => by have := (iZ_lt (by omega) (by omega)).mp x; omega)]
    have em1 : iZ (26 - k) + (-1) = iZ (26 - (k + 1 : Nat)) := by
      rw [show (-1 : Int32) = iZ (-1) by decide, iZ_add]
      congr 1
      omega
    by_cases c : k < 27
    · rw [if_neg (show ¬ iZ (26 - k) < 0 from fun x => by have := (iZ_lt (b := 0) (by omega) (by omega)).mp x; omega), show (2 : Int32) * iZ (26 - k) = iZ (2 * (26 - k)) from iZ_mul 2 _, fl_ushr (by omega) (by omega) (by omega), show (2 * (26 - (k : Int))).toNat = 52 - 2 * k by omega, rt_two hQ c, rt_cstep (by omega), em1]
      exact ih
    · have e0 : rtT Q k = 0 := by unfold rtT; rw [if_neg c]
      have hs := rt_cstep (Q := Q) (k := k) (r9 := fX2_rootOf_9 (f + j + 1)) (v0 := lN Q) (v2 := h) (v7 := iZ (26 - k)) (by omega)
      rw [e0] at hs
      rw [if_pos (show iZ (26 - k) < 0 from (iZ_lt (b := 0) (by omega) (by omega)).mpr (by omega))]
      refine hs.trans ?_
      rw [em1]
      exact ih
theorem rt_mloop {Q : Nat} {e : Int32} (hQ : Q < 2 ^ 63) : ∀ (j k f : Nat), k + j = 57 → fX12_root_120 (f + j + 1) (lN Q) e (lN (rtS Q k).1) (lN (rtS Q k).2) (iZ k) = fX12_root_225 0 (lN (rtS Q 57).1) (e / 2 - 30) (bI32 (decide ((rtS Q 57).2 ≠ 0)))
  | 0, k, f, hk => by
    have hk : k = 57 := by omega
    subst hk
    have hi := rtS_inv Q 57
    have hp : (2 : Nat) ^ 57 = 144115188075855872 := by decide
    rw [fX12_root_120, if_pos (by decide)]
    have k1 : lN (rtS Q 57).2 = 0 ↔ (rtS Q 57).2 = 0 := pk_lEQ (b := 0) (by omega) (by decide)
    by_cases c : (rtS Q 57).2 = 0
    · rw [if_pos (k1.mpr c), show decide ((rtS Q 57).2 ≠ 0) = false by simp [c]]
      rfl
    · rw [if_neg (fun x => c (k1.mp x)), show decide ((rtS Q 57).2 ≠ 0) = true by simp [c]]
      rfl
  | j + 1, k, f, hk => by
    have ih := rt_mloop (e := e) hQ j (k + 1) f (by omega)
    rw [show f + (j + 1) + 1 = (f + j + 1) + 1 by omega, fX12_root_120, if_neg (show ¬ (57 : Int32) ≤ iZ k from fun x => by have := (iZ_le (a := 57) (by omega) (by omega)).mp x; omega)]
    have em1 : iZ k + 1 = iZ (k + 1 : Nat) := iZ_add k 1
    by_cases c : k < 27
    · rw [if_neg (show ¬ (27 : Int32) ≤ iZ k from fun x => by have := (iZ_le (a := 27) (by omega) (by omega)).mp x; omega), show (2 : Int32) * iZ k = iZ (2 * k) from iZ_mul 2 _, show (52 : Int32) - iZ (2 * k) = iZ (52 - 2 * k) from iZ_sub 52 _, fl_shr hQ (by omega) (by omega), show (52 - 2 * (k : Int)).toNat = 52 - 2 * k by omega, rt_two hQ c, rt_mstep (by omega), em1]
      exact ih
    · have e0 : rtT Q k = 0 := by unfold rtT; rw [if_neg c]
      have hs := rt_mstep (Q := Q) (k := k) (r120 := fX12_root_120 (f + j + 1)) (v0 := lN Q) (v2 := e) (v7 := iZ k) (by omega)
      rw [e0] at hs
      rw [if_pos (show (27 : Int32) ≤ iZ k from (iZ_le (a := 27) (by omega) (by omega)).mpr (by omega))]
      refine hs.trans ?_
      rw [em1]
      exact ih
theorem rt_57 (Q : Nat) : (rtS Q 57).1 / 4 = (rtS Q 55).1 ∧ ((rtS Q 57).2 ≠ 0 ∨ (rtS Q 57).1 % 4 ≠ 0 ↔ (rtS Q 55).2 ≠ 0) := by
  have e0 : rtT Q 55 = 0 := by unfold rtT; rw [if_neg (by decide)]
  have e1 : rtT Q 56 = 0 := by unfold rtT; rw [if_neg (by decide)]
  have h0 : rtS Q 56 = rtP (rtS Q 55) 0 := by rw [rtS, e0]
  have h1 : rtS Q 57 = rtP (rtS Q 56) 0 := by rw [rtS, e1]
  rw [h1, h0]
  generalize rtS Q 55 = w
  unfold rtP
  by_cases c : w.2 * 4 + 0 < 4 * w.1 + 1
  · simp only [if_pos c]
    by_cases d : (w.2 * 4 + 0) * 4 + 0 < 4 * (2 * w.1) + 1
    · simp only [if_pos d]
      omega
    · simp only [if_neg d]
      omega
  · simp only [if_neg c]
    by_cases d : (w.2 * 4 + 0 - (4 * w.1 + 1)) * 4 + 0 < 4 * (2 * w.1 + 1) + 1
    · simp only [if_pos d]
      omega
    · simp only [if_neg d]
      omega
theorem iz_odd2 : ∀ (i j : Fin 64), iZ ((64 * i.val + j.val : Int) - 2048) &&& 1 = iZ (((64 * i.val + j.val : Int) - 2048) % 2) ∧ (iZ ((64 * i.val + j.val : Int) - 2048) - iZ (((64 * i.val + j.val : Int) - 2048) % 2)) / 2 = iZ (((64 * i.val + j.val : Int) - 2048) / 2) := by decide +kernel
theorem iz_odd {E : Int} (hE : -2048 ≤ E ∧ E < 2048) : iZ E &&& 1 = iZ (E % 2) ∧ (iZ E - iZ (E % 2)) / 2 = iZ (E / 2) := by
  have h := iz_odd2 ⟨(E + 2048).toNat / 64, by omega⟩ ⟨(E + 2048).toNat % 64, by omega⟩
  have e : (64 * (((E + 2048).toNat / 64 : Nat) : Int) + (((E + 2048).toNat % 64 : Nat) : Int)) - 2048 = E := by omega
  dsimp only at h
  rw [e] at h
  exact h
theorem fl_root (x : Int64) (hx : fX2_isLost x = 0 ∨ x = 9221120237041090560) : fX12_root x = fX2_root x ∧ (∃ z, fX2_root x = some z) := by
  obtain ⟨s, a, ha, rfl⟩ := sx_of x
  have la := sx_lost (s := s) ha
  have ia := sx_inf (s := s) ha
  have za := sx_zero (s := s) ha
  unfold fX12_root fX2_root fX12_root_24 fX12_root_38 fX12_root_20 fX2_root_14
  rw [la.2, ia.2, za.2]
  by_cases q1 : fX2_isLost (sx s a) = 0
  · simp only [if_pos q1]
    by_cases q2 : fX2_isZero (sx s a) = 0
    · simp only [if_pos q2]
      by_cases q3 : 0 ≤ sx s a
      · simp only [if_pos q3]
        by_cases q4 : fX2_isInfinite (sx s a) = 0
        · simp only [if_pos q4]
          have ha0 : 0 < a := by have := za.1.mp q2; omega
          have hau := un_rng ha
          have hna := nb_dg a
          have ra := full_rng ha0
          rw [sx_digits ha, sx_unit ha, fl_full (dg_lt a), fl_bitsOf (by have := dg_lt a; omega)]
          simp only [Option.bind_some]
          unfold fX2_root_42
          rw [sx_sig ha0 ha, sx_scale ha0 ha]
          have eE : iZ (un a) - (53 - iZ (nb (dg a))) = iZ (un a - ((53 - nb (dg a) : Nat) : Int)) := by
            rw [show (53 : Int32) = iZ 53 from rfl, iZ_sub, iZ_sub]
            congr 1
            omega
          rw [eE]
          have hE : -2048 ≤ un a - ((53 - nb (dg a) : Nat) : Int) ∧ un a - ((53 - nb (dg a) : Nat) : Int) < 2048 := by omega
          generalize dg a * 2 ^ (53 - nb (dg a)) = X at *
          generalize un a - ((53 - nb (dg a) : Nat) : Int) = E at *
          have hio := iz_odd hE
          have ho : E % 2 = 0 ∨ E % 2 = 1 := by omega
          rw [hio.1]
          unfold fX12_root_65
          rw [hio.1]
          -- both loops over Q
          have main : ∀ (Q : Nat) (o : Int), o = E % 2 → 4503599627370496 ≤ Q → Q < 18014398509481984 → fX12_root_109 (lN Q) (iZ E - iZ o) = (fX2_rootOf (lN Q) ((iZ E - iZ o) / 2)).bind (fun c56 => some c56) ∧ (∃ z, (fX2_rootOf (lN Q) ((iZ E - iZ o) / 2)).bind (fun c56 => some c56) = some z) := by
            intro Q o ho2 hQ1 hQ2
            subst ho2
            rw [hio.2]
            unfold fX12_root_109 fX2_rootOf
            have h1 := rt_cloop (Q := Q) (h := iZ (E / 2)) (by omega) 55 0 4 rfl
            have h2 := rt_mloop (Q := Q) (e := iZ E - iZ (E % 2)) (by omega) 57 0 2 rfl
            rw [hio.2] at h2
            have hc : fX2_rootOf_9 60 (lN Q) (iZ (E / 2)) 0 0 26 = _ := h1
            have hm : fX12_root_120 60 (lN Q) (iZ E - iZ (E % 2)) 0 0 0 = _ := h2
            rw [hc, hm]
            have hi := rtS_inv Q 57
            have hg : 2 ^ 56 ≤ (rtS Q 57).1 := rtS_ge hQ1 hQ2 56
            have hg5 : 2 ^ 54 ≤ (rtS Q 55).1 := rtS_ge hQ1 hQ2 54
            have hi5 := rtS_inv Q 55
            have h57 := rt_57 Q
            have p57 : (2 : Nat) ^ 57 = 144115188075855872 := by decide
            have p56 : (2 : Nat) ^ 56 = 72057594037927936 := by decide
            have p55 : (2 : Nat) ^ 55 = 36028797018963968 := by decide
            have p54 : (2 : Nat) ^ 54 = 18014398509481984 := by decide
            unfold fX12_root_225
            rw [show iZ (E / 2) - 30 = iZ (E / 2 - 30) from iZ_sub _ 30, show iZ (E / 2) - 29 = iZ (E / 2 - 29) from iZ_sub _ 29, fl_mn (by omega) (by omega), Option.bind_some, Option.bind_some, bI32_ne, fl_cn (by split <;> omega) (by omega)]
            have hv : fRd (2 * (rtS Q 55).1 + (if (rtS Q 55).2 = 0 then 0 else 1)) (E / 2 - 29) false = fRd (rtS Q 57).1 (E / 2 - 30) (decide ((rtS Q 57).2 ≠ 0)) := by
              have n1 : 55 < nb (2 * (rtS Q 55).1 + (if (rtS Q 55).2 = 0 then 0 else 1)) := nb_gt (by omega)
              have n2 : 56 < nb (rtS Q 57).1 := nb_gt hg
              refine fRd_view (j := 1) (k := 2) (by omega) (by omega) (by omega) ?_ ?_
              · rw [show (2 : Nat) ^ 2 = 4 by decide, h57.1]
                split <;> omega
              · rw [Bool.false_or, ← Bool.decide_or, decide_eq_decide, show (2 : Nat) ^ 2 = 4 by decide, h57.2]
                split <;> omega
            rw [hv]
            have e0 : sgB 0 = 0 := rfl
            rw [e0, Int64.zero_or]
            exact ⟨rfl, _, rfl⟩
          have ez : ∀ z : Int, (z = 0 ∨ z = 1) → (lN X <<< ((iZ z).toInt64 &&& 63)) = lN (X * 2 ^ z.toNat) := fun z hz => fl_shl X (by omega) (by omega)
          rcases ho with x1_ | x1_
          · rw [x1_, if_neg (show ¬ iZ 0 = 1 by decide), ez 0 (Or.inl rfl)]
            unfold fX12_root_78 fX12_root_94
            rw [if_pos rfl, if_pos rfl]
            have hm := main X 0 x1_.symm ra.1 (by omega)
            have e1 : X * 2 ^ (0 : Int).toNat = X := by
              show X * 2 ^ 0 = X
              rw [Nat.pow_zero, Nat.mul_one]
            have e2 : iZ E - iZ 0 = iZ E := by rw [iZ_sub, Int.sub_zero]
            rw [e1]
            rw [e2] at hm ⊢
            exact hm
          · rw [x1_, if_pos (show iZ 1 = 1 by decide), ez 1 (Or.inr rfl)]
            unfold fX12_root_78 fX12_root_94
            rw [if_neg (by decide), if_neg (by decide)]
            have hm := main (2 * X) 1 x1_.symm (by omega) (by omega)
            have e1 : X * 2 ^ (1 : Int).toNat = 2 * X := by
              show X * 2 ^ 1 = 2 * X
              omega
            have e2 : (2 : Int64) * lN X = lN (2 * X) := lN_mul 2 X
            rw [e1, e2]
            exact hm
        · simp only [if_neg q4]
          exact ⟨trivial, _, rfl⟩
      · simp only [if_neg q3]
        exact ⟨trivial, _, rfl⟩
    · simp only [if_neg q2, ite_self]
      exact ⟨trivial, _, rfl⟩
  · simp only [if_neg q1]
    rcases hx with x1_ | x1_
    · exact absurd x1_ q1
    · rw [x1_]
      exact ⟨rfl, _, rfl⟩
