/-! GO, from its beginning -/
section N
variable {w : Nat → Nat → Nat} {B : Nat} {S : CS} {M : MS}
theorem sim_errE {M1 : MS} (R : Rel w B S M) (he : mEq M M1) (r : Nat) (hr : r ≤ 9) : Sim w B S M (some (nI r, S)) (some (nI r, M1)) := ⟨r, S, M1, hr, rfl, rfl, Rel_B (Rel_mEq R he) (by omega), cfr_refl S, mfr_mEq he, by unfold nT; rw [mEq_gI he]⟩
theorem go_grid (M : MS) (v1 v2 k : Int32) {x : Int64} (hx : can64 x) : ∃ to, can64 to ∧ (∀ S y, fX6_onGrid S y x = some (to, S)) ∧ ∃ M1, mEq M M1 ∧ fX12_goes_64 M v1 v2 k x = fX12_goes_91 M1 v1 v2 k to := by
  have hm := can_mul (can_whole 8) hx
  obtain ⟨M1_, e1_, e2_⟩ := fl_prod M (fX2_ofWhole 8) x
  obtain ⟨z1_, d1_, d2_⟩ := div_ex (fX2_nearestWhole (fX2_multiply (fX2_ofWhole 8) x)) (fX2_ofWhole 8)
  obtain ⟨s1_, hs1_⟩ := shp_of hm
  refine ⟨z1_, can_div (shp_can (shp_cut3 hs1_)) (can_whole 8) d1_, fun S y => ?_, M1_, e2_, ?_⟩
  · unfold fX6_onGrid fX6_onGrid_7
    rw [d1_, Option.bind_some]
  · unfold fX12_goes_64
    rw [fl_number, Option.bind_some, e1_, Option.bind_some]
    simp only
    rw [fl_cut3 _ hm, Option.bind_some, Option.bind_some, d2_, Option.bind_some]
theorem go_turn (M : MS) {x : Int64} (hx : can64 x) : ∃ to, can64 to ∧ (∀ S y, fX10_withinTurn S y x = some (to, S)) ∧ ∃ M1, mEq M M1 ∧ ∀ v1 v2, fX12_goes_8 M v1 v2 x 15 = fX12_goes_50 M1 v1 v2 15 to := by
  obtain ⟨z1_, d1_, d2_⟩ := div_ex x (fX2_ofWhole 360)
  have hz := can_div hx (can_whole 360) d1_
  obtain ⟨s1_, hs1_⟩ := shp_of hz
  have hc := shp_can (shp_cut1 hs1_)
  obtain ⟨M1_, e1_, e2_⟩ := fl_prod M (fX2_ofWhole 360) (fX2_wholeNotAbove z1_)
  refine ⟨fX2_subtract x (fX2_multiply (fX2_ofWhole 360) (fX2_wholeNotAbove z1_)), can_sub hx (can_mul (can_whole 360) hc), fun S y => ?_, M1_, e2_, fun v1 v2 => ?_⟩
  · unfold fX10_withinTurn fX10_withinTurn_7 fX10_withinTurn_17
    rw [d1_, Option.bind_some]
    rfl
  · unfold fX12_goes_8
    rw [if_pos rfl, fl_number, Option.bind_some, Option.bind_some, d2_, Option.bind_some, fl_cut1 _ hz, Option.bind_some, e1_, Option.bind_some]
    simp only
    rw [fl_less, Option.bind_some]
theorem go_dest (R : Rel w B S M) {t : Nat} (h1 : t ≠ 0) (h2 : t ≤ nT M) (hk : 13 ≤ kN M t ∧ kN M t ≤ 15) (v2 : Int32) {x : Int64} (hx : can64 x) : ∃ to, can64 to ∧ fX0_goTo S (some (w 0 t)) x = fX0_goTo_9 S (some (w 0 t)) to ∧ ∃ M1, mEq M M1 ∧ fX12_goes M (nI t) v2 x = fX12_goes_91 M1 (nI t) v2 (nI (kN M t)) to := by
  have h4 := rl_4000 R
  have eM : fX12_goes M (nI t) v2 x = fX12_goes_8 M (nI t) v2 x (nI (kN M t)) := by
    unfold fX12_goes
    rw [if_pos (show inb (nI t) (mlA 6) = true from inb_nI (by omega) (by show t < 4001; omega)), ix_nI (by omega), (rl_kN R h1 h2).1]
  rw [eM]
  have hq : kN M t = 13 ∨ kN M t = 14 ∨ kN M t = 15 := by omega
  rcases hq with q | q | q
  · refine ⟨x, hx, ?_, M, mEq_refl M, ?_⟩
    · unfold fX0_goTo fX0_goTo_6 fX0_withinTurn fX0_onGrid
      rw [c_isKx R h1 h2, q, if_pos (show [0].contains (tagK 13) = true by decide), Option.bind_some]
      simp only
      rw [c_isKx R h1 h2, q, if_pos (show [0].contains (tagK 13) = true by decide), Option.bind_some]
    · rw [q]
      unfold fX12_goes_8 fX12_goes_50
      rw [if_neg (show ¬ nI 13 = 15 by decide), if_neg (show ¬ nI 13 = 14 by decide), if_neg (show ¬ nI 13 = 15 by decide)]
  · obtain ⟨to1_, g1_, g2_, M1_, g3_, g4_⟩ := go_grid M (nI t) v2 (nI 14) hx
    refine ⟨to1_, g1_, ?_, M1_, g3_, ?_⟩
    · unfold fX0_goTo fX0_goTo_6 fX0_withinTurn
      rw [c_isKx R h1 h2, c_isKx R h1 h2, q, if_neg (show ¬ [0].contains (tagK 14) = true by decide), if_pos (show [4].contains (tagK 14) = true by decide), Option.bind_some]
      simp only
      rw [c_isKx R h1 h2, c_isKx R h1 h2, q, if_neg (show ¬ [0].contains (tagK 14) = true by decide), if_pos (show [4].contains (tagK 14) = true by decide), g2_, Option.bind_some]
    · rw [q]
      unfold fX12_goes_8 fX12_goes_50
      rw [if_neg (show ¬ nI 14 = 15 by decide), if_pos (show nI 14 = 14 by decide)]
      exact g4_
  · obtain ⟨to1_, g1_, g2_, M1_, g3_, g4_⟩ := go_turn M hx
    obtain ⟨to2_, f1_, f2_, M2_, f3_, f4_⟩ := go_grid M1_ (nI t) v2 15 g1_
    refine ⟨to2_, f1_, ?_, M2_, mEq_trans g3_ f3_, ?_⟩
    · unfold fX0_goTo fX0_goTo_6
      rw [c_isKx R h1 h2, c_isKx R h1 h2, c_isKx R h1 h2, q, if_neg (show ¬ [0].contains (tagK 15) = true by decide), if_neg (show ¬ [4].contains (tagK 15) = true by decide), if_pos (show [6].contains (tagK 15) = true by decide), g2_, Option.bind_some]
      simp only
      rw [c_isKx R h1 h2, c_isKx R h1 h2, c_isKx R h1 h2, q, if_neg (show ¬ [0].contains (tagK 15) = true by decide), if_neg (show ¬ [4].contains (tagK 15) = true by decide), if_pos (show [6].contains (tagK 15) = true by decide), f2_, Option.bind_some]
    · rw [q, show nI 15 = 15 from rfl, g4_]
      unfold fX12_goes_50
      rw [if_neg (show ¬ (15 : Int32) = 14 by decide), if_pos (show (15 : Int32) = 15 from rfl)]
      exact f4_
theorem go_tick (R : Rel w B S M) {t : Nat} (h1 : t ≠ 0) (h2 : t ≤ nT M) (hk : 13 ≤ kN M t ∧ kN M t ≤ 15) {way T : Int64} (fs : List Value) (hT : ∀ S, fX0_ticksFor_17 S way (fX2_ofWhole 2) (fX2_ofWhole (fX12_speedOf (nI (kN M t))).toInt64) = some (T, S)) : fX0_ticksFor (cpH S (w 0 t) (.inr (axT (kN M t), fs))) (some (w 0 t)) way = some (T, cpH S (w 0 t) (.inr (axT (kN M t), fs))) := by
  have hm := rl_in R h1 h2
  have hq : kN M t = 13 ∨ kN M t = 14 ∨ kN M t = 15 := by omega
  unfold fX0_ticksFor fX0_ticksFor_7 fX0_ticksFor_11 fX0_speed fX6_speed
  rw [isKx_up hm, isKx_up hm, isKx_up hm]
  rcases hq with q | q | q <;> rw [q] at hT ⊢
  · rw [if_pos (show [0].contains (axT 13) = true by decide), Option.bind_some]
    exact hT _
  · rw [if_neg (show ¬ [0].contains (axT 14) = true by decide), if_pos (show [4].contains (axT 14) = true by decide), Option.bind_some]
    exact hT _
  · rw [if_neg (show ¬ [0].contains (axT 15) = true by decide), if_neg (show ¬ [4].contains (axT 15) = true by decide), if_pos (show [6].contains (axT 15) = true by decide), Option.bind_some]
    exact hT _
theorem go_span (R : Rel w B S M) {t : Nat} (h1 : t ≠ 0) (h2 : t ≤ nT M) (hk : 13 ≤ kN M t ∧ kN M t ≤ 15) {to : Int64} (hl : fX2_isLost to = 0) : fX0_goTo_9 S (some (w 0 t)) to = fX0_goTo_25 S (some (w 0 t)) to (fX12_spanOf (nI (kN M t))) := by
  have hq : kN M t = 13 ∨ kN M t = 14 ∨ kN M t = 15 := by omega
  unfold fX0_goTo_9 fX0_span fX10_span fX6_span fX6_span_6
  rw [if_pos hl, c_isKx R h1 h2, c_isKx R h1 h2, c_isKx R h1 h2]
  rcases hq with q | q | q <;> rw [q]
  · rw [if_pos (show [0].contains (tagK 13) = true by decide), Option.bind_some]
    rfl
  · rw [if_neg (show ¬ [0].contains (tagK 14) = true by decide), if_pos (show [4].contains (tagK 14) = true by decide), if_pos (show [4].contains (tagK 14) = true by decide)]
    unfold fX0_span
    rw [Option.bind_some, Option.bind_some, show (10 : Int32) * 100 = fX12_spanOf (nI 14) by decide]
  · rw [if_neg (show ¬ [0].contains (tagK 15) = true by decide), if_neg (show ¬ [4].contains (tagK 15) = true by decide), if_pos (show [6].contains (tagK 15) = true by decide), Option.bind_some]
    rfl
theorem sim_goA (R : Rel w B S M) (hB : B < 2147483647) (a : Int32) {t : Nat} (h1 : t ≠ 0) (h2 : t ≤ nT M) (hk : 13 ≤ kN M t ∧ kN M t ≤ 15) {x : Int64} (hx : can64 x) : Sim w B S M (Option.bind (fX0_goTo S (some (w 0 t)) x) (fun c27 => fX11_go_30 c27.2 a c27.1)) (fX12_goes M (nI t) (a &&& 15) x) := by
  have h4 := rl_4000 R
  have hm := rl_in R h1 h2
  obtain ⟨mv, b1_, b2_, b3_, b4_, b5_⟩ := rl_axis R h1 h2 hk
  have i12 : inb (nI t) 4001 = true := inb_nI (by omega) (by omega)
  obtain ⟨to, d1_, d2_, M1, d3_, d4_⟩ := go_dest R h1 h2 hk (a &&& 15) hx
  rw [d2_, d4_]
  unfold fX12_goes_91 fX12_goes_129
  by_cases cl : fX2_isLost to = 0
  · rw [go_span R h1 h2 hk cl, if_pos (show fX12_isLost to = 0 from cl), if_neg (show ¬ nI (kN M t) = 16 from fun h => by have := (nI_inj (b := 16) (by omega) (by decide)).mp h; omega), fl_number, Option.bind_some, fl_isLess, fl_mag _ d1_]
    unfold fX0_goTo_25
    by_cases cs : fX2_isLess (fX2_ofWhole (fX12_spanOf (nI (kN M t))).toInt64) (fX2_magnitude to) = 0
    · have e12 : gB M1 12 = gB M 12 := by rw [mEq_gB d3_]
      have hsub := can_sub d1_ b4_
      obtain ⟨s1_, hs1_⟩ := shp_of hsub
      have hway := shp_mag hs1_
      have hsp : 0 ≤ (fX12_speedOf (nI (kN M t))).toInt64 := by
        have hq : kN M t = 13 ∨ kN M t = 14 ∨ kN M t = 15 := by omega
        rcases hq with q | q | q <;> rw [q] <;> decide
      obtain ⟨T, t1_, t2_, t3_⟩ := tk_val _ hway hsp
      obtain ⟨M2, m1_, m2_⟩ := t3_ M1 (nI t) (a &&& 15) (nI (kN M t)) to rfl
      have g0 : tgJ S (some (w 0 t)) [0, 4, 6] 0 = some (gB M 12 t) := by
        unfold tgJ; rw [tF_at hm b3_ (ax_tag hk).2]; rfl
      rw [if_pos cs, if_pos cs, if_pos (show inb (nI t) (mlB 12) = true from i12), ix_nI (by omega), e12, fl_less, Option.bind_some, fl_mag _ hsub, m2_, g0, Option.bind_some]
      unfold fX0_goTo_56 fX0_goTo_90
      rw [tp_at hm b3_ (ax_tag hk).2 (show 0 < 3 by decide), Option.bind_some]
      unfold tgJ
      rw [tF_up hm (ax_tag hk).2]
      have eA : (([Value.long (gB M 12 t), Value.long (gB M 13 t), Value.long (lN mv)].set 0 (Value.long to))[1]?).bind vJ = some (gB M 13 t) := rfl
      rw [eA, Option.bind_some, tp_up hm (ax_tag hk).2 (show 1 < 3 by decide), Option.bind_some, tF_up hm (ax_tag hk).2]
      have eB : ((([Value.long (gB M 12 t), Value.long (gB M 13 t), Value.long (lN mv)].set 0 (Value.long to)).set 1 (Value.long (fX2_add (gB M 13 t) (fX2_magnitude (fX2_subtract to (gB M 12 t))))))[2]?).bind vJ = some (lN mv) := rfl
      rw [eB, Option.bind_some, tp_up hm (ax_tag hk).2 (show 2 < 3 by decide), Option.bind_some, isKx_up hm, isKx_up hm, isKx_up hm, go_tick R h1 h2 hk _ t2_, Option.bind_some]
      have eC : ((([Value.long (gB M 12 t), Value.long (gB M 13 t), Value.long (lN mv)].set 0 (Value.long to)).set 1 (Value.long (fX2_add (gB M 13 t) (fX2_magnitude (fX2_subtract to (gB M 12 t)))))).set 2 (Value.long (lN mv + 1))) = [Value.long to, Value.long (fX2_add (gB M 13 t) (fX2_magnitude (fX2_subtract to (gB M 12 t)))), Value.long (lN (mv + 1))] := by rw [lN_1]; rfl
      rw [eC]
      have fin := sim_going R hB a h1 h2 hk d1_ (mEq_trans d3_ m1_) t1_ (shp_can hway) b1_ b2_ b5_
      have hq : kN M t = 13 ∨ kN M t = 14 ∨ kN M t = 15 := by omega
      have eIf : ∀ X : Option (Int64 × CS), (if [0].contains (axT (kN M t)) = true then X else if [4].contains (axT (kN M t)) = true then X else if [6].contains (axT (kN M t)) = true then X else none) = X := by
        intro X
        rcases hq with q | q | q <;> rw [q]
        · rw [if_pos (show [0].contains (axT 13) = true by decide)]
        · rw [if_neg (show ¬ [0].contains (axT 14) = true by decide), if_pos (show [4].contains (axT 14) = true by decide)]
        · rw [if_neg (show ¬ [0].contains (axT 15) = true by decide), if_neg (show ¬ [4].contains (axT 15) = true by decide), if_pos (show [6].contains (axT 15) = true by decide)]
      rw [eIf, Option.bind_some]
      exact fin
    · rw [if_neg cs, if_neg cs, Option.bind_some]
      exact sim_errE R d3_ 8 (by decide)
  · unfold fX0_goTo_9
    rw [if_neg cl, if_neg (show ¬ fX12_isLost to = 0 from cl), Option.bind_some]
    exact sim_errE R d3_ 7 (by decide)
end N
