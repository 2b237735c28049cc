/-! GRID, and the orders on things -/
section N
variable {w : Nat → Nat → Nat} {B : Nat} {S : CS} {M : MS}
theorem c_roomN (R : Rel w B S M) {r : Nat} (hr : r ≤ 16) : (nT M + 1 + r ≤ 4000 → fX11_mayMake S (1 + nI r) = some (1, S) ∧ fX12_hasRoom M (1 + lN r) = some (1, M)) ∧ (¬ nT M + 1 + r ≤ 4000 → fX11_mayMake S (1 + nI r) = some (0, S) ∧ fX12_hasRoom M (1 + lN r) = some (0, M)) := by
  have h4 := rl_4000 R
  have e10 := R.2.2.2.1.1
  have e8 := R.2.2.2.1.2.2.1
  unfold fX11_mayMake fX12_hasRoom
  rw [e8, e10, show (1 : Int32) + nI r = nI (1 + r) from nI_add 1 r, show (1 : Int64) + lN r = lN (1 + r) from lN_add 1 r, nI_add, nI_l (by omega), lN_add]
  have k1 : (4000 : Int32) < nI (nT M + (1 + r)) ↔ 4000 < nT M + (1 + r) := nI_ltI (a := 4000) (by decide) (by omega)
  have k2 : (4000 : Int64) < lN (nT M + (1 + r)) ↔ 4000 < nT M + (1 + r) := lN_lt (a := 4000) (by decide) (by omega)
  refine ⟨fun h => ?_, fun h => ?_⟩
  · rw [if_neg (fun q => by have := k1.mp q; omega), if_neg (fun q => by have := k2.mp q; omega)]
    exact ⟨rfl, rfl⟩
  · rw [if_pos (k1.mpr (by omega)), if_pos (k2.mpr (by omega))]
    exact ⟨rfl, rfl⟩
theorem sim_grid (R : Rel w B S M) (a : Int32) (v x : Int64) : SimA B S M (fX11_makeGrid S a v x) (fX12_makes_73 M (a &&& 15) v x) := by
  have h4 := rl_4000 R
  unfold fX11_makeGrid fX12_makes_73 fX11_makeGrid_13 fX11_makeGrid_43 fX12_makes_86 fX12_makes_115
  by_cases c1 : v < 0
  · rw [if_pos c1, if_pos c1]; exact sima_err R 4 (by decide)
  · rw [if_neg c1, if_neg c1]
    by_cases c2 : 0 ≤ x
    · rw [if_pos c2, if_pos c2]
      by_cases c3 : 16 < v
      · rw [if_pos c3, if_pos c3]; exact sima_err R 8 (by decide)
      · rw [if_neg c3, if_neg c3]
        by_cases c4 : 16 < x
        · rw [if_pos c4, if_pos c4]; exact sima_err R 8 (by decide)
        · rw [if_neg c4, if_neg c4]
          have c0 : 0 ≤ v := by
            rw [Int64.le_iff_toInt_le]
            rw [Int64.lt_iff_toInt_lt] at c1
            omega
          obtain ⟨r, r1_, r2_⟩ := l_small (m := 16) (by decide) c0 c3
          obtain ⟨p, p1_, p2_⟩ := l_small (m := 16) (by decide) c2 c4
          rw [r2_, p2_, lN_i]
          by_cases c5 : nT M + 1 + r ≤ 4000
          · rw [((c_roomN R r1_).1 c5).1, ((c_roomN R r1_).1 c5).2, Option.bind_some, Option.bind_some, if_neg (show ¬ (1 : Int32) = 0 by decide), if_neg (show ¬ (1 : Int32) = 0 by decide)]
            simp only
            obtain ⟨S1, i1_, i2_, i3_, i4_, i5_, i6_⟩ := c_init8 S (k := 10) (n := r) (by decide) (by omega)
            obtain ⟨tk, k1_, k2_⟩ := rl_tk R
            have R1 := Rel_newR (t := nT M + 1) (tk := tk) (k := 10) R rfl (by omega) (by decide) (by omega) k2_ k1_ i2_ i3_ i4_ i5_ i6_
            have e10 : gI (rwM M (nT M + 1) 10 r tk) 10 = nI (nT M + 1) := (rw_I (M := M) (t := nT M + 1) (k := 10) (n := r) (tk := tk)).1
            have eT : nT (rwM M (nT M + 1) 10 r tk) = nT M + 1 := rw_T (by omega)
            have G : GrI (wNew w (nT M + 1) (cSz S)) B S1 (rwM M (nT M + 1) 10 r tk) (nT M + 1) r := by
              refine ⟨by rw [e10]; exact R1, by omega, by omega, ?_, ?_, ?_⟩
              · unfold kN; rw [rw_6.1]; rfl
              · show ix (gA _ 7 _) = r; rw [rw_6.2.1, ix_nI (by omega)]
              · rw [e10, i2_, R.2.2.2.1.2.2.1, R.2.2.2.1.1, nI_1]
            obtain ⟨w', S', M', k, s, q1_, q2_, q3_, q4_, q5_, q6_, q7_, q8_⟩ := gr_loop (p := p) (g := cSz S) r1_ p1_ a r 0 (19 - r) _ _ _ (by omega) (by omega) G (if_pos rfl)
            rw [show r + 1 + (19 - r) = 20 by omega, show nI 0 = 0 from rfl] at q1_ q2_
            have hm1 : cSz S ∈ cLs (cnew S (.inr (5, [.int 0, .int 0, .null, .null]))) := by rw [cLs_new]; simp
            have hh1 : cH (cnew S (.inr (5, [.int 0, .int 0, .null, .null]))) (cSz S) = .inr (5, [.int 0, .int 0, .null, .null]) := by rw [cH_new, if_pos rfl]
            have kxn : isKx (cnew S (.inr (5, [.int 0, .int 0, .null, .null]))) (some (cSz S)) [5] = true := (isK_at hm1 hh1 [5]).trans (by decide)
            unfold fX11_makeGrid_49
            rw [show nI 10 = 10 from rfl] at i1_
            rw [kxn, if_pos rfl, lN_i, i1_, Option.bind_some, q1_, show (10 : Int32) = nI 10 from rfl, m_newR R (t := nT M + 1) rfl (by omega) (by omega) k2_ (by omega), Option.bind_some]
            simp only
            rw [q2_]
            refine ⟨0, w', S', M', k + 2 + 1, s + r + 4, by omega, rfl, rfl, Rel_B q3_ (by omega), cfr_trans ⟨fun j _ _ => by rw [i2_], by rw [i2_]⟩ q4_, mfr_trans rw_fr q5_, by omega, by omega, by omega⟩
          · rw [((c_roomN R r1_).2 c5).1, ((c_roomN R r1_).2 c5).2, Option.bind_some, Option.bind_some, if_pos rfl, if_pos rfl]; exact sima_err R 8 (by decide)
    · rw [if_neg c2, if_neg c2]; exact sima_err R 4 (by decide)
theorem sima_wrap {c : Option ((Int32 × CS) × Nat × Nat)} {m : Option (Int32 × MS)} (h : SimA B S M c m) : SimA B S M (Option.bind c (fun x => addD x.2.1 x.2.2 (some ((x.1.1, x.1.2), 0, 0)))) (Option.bind m (fun y => some (y.1, y.2))) := by
  obtain ⟨r1_, w1_, S1_, M1_, k1_, q1_, a1_, a2_, a3_, a4_⟩ := h
  refine ⟨r1_, w1_, S1_, M1_, k1_, q1_, a1_, ?_, by rw [a3_]; rfl, a4_⟩
  rw [a2_, Option.bind_some]
  show some ((nI r1_, S1_), 0 + k1_, 0 + q1_) = _
  rw [Nat.zero_add, Nat.zero_add]
theorem sima_wrapC {c : Option ((Int32 × CS) × Nat × Nat)} {m : Option (Int32 × MS)} (h : SimA B S M c m) : SimA B S M (Option.bind c (fun x => addD x.2.1 x.2.2 (some ((x.1.1, x.1.2), 0, 0)))) m := by
  obtain ⟨r1_, w1_, S1_, M1_, k1_, q1_, a1_, a2_, a3_, a4_⟩ := h
  refine ⟨r1_, w1_, S1_, M1_, k1_, q1_, a1_, ?_, a3_, a4_⟩
  rw [a2_, Option.bind_some]
  show some ((nI r1_, S1_), 0 + k1_, 0 + q1_) = _
  rw [Nat.zero_add, Nat.zero_add]
theorem sima_mw {c : Option ((Int32 × CS) × Nat × Nat)} {m : Option (Int32 × MS)} (h : SimA B S M c m) : SimA B S M c (Option.bind m (fun y => some (y.1, y.2))) := by
  obtain ⟨r1_, w1_, S1_, M1_, k1_, q1_, a1_, a2_, a3_, a4_⟩ := h
  exact ⟨r1_, w1_, S1_, M1_, k1_, q1_, a1_, a2_, by rw [a3_]; rfl, a4_⟩
theorem sim_sort (R : Rel w B S M) (a b : Int32) : SimA B S M (onul (cSl S (ra b)) (fX11_onThings_147 S a (-1)) (fun _ => if isKx S (cSl S (ra b)) [0] = true then (Option.bind (fX0_kind S (cSl S (ra b))) (fun c143 => fX11_onThings_146 c143.2 a c143.1)) else if isKx S (cSl S (ra b)) [1] = true then (Option.bind (fX3_kind S (cSl S (ra b))) (fun c143 => fX11_onThings_146 c143.2 a c143.1)) else if isKx S (cSl S (ra b)) [2] = true then (Option.bind (fX4_kind S (cSl S (ra b))) (fun c143 => fX11_onThings_146 c143.2 a c143.1)) else if isKx S (cSl S (ra b)) [3] = true then (Option.bind (fX5_kind S (cSl S (ra b))) (fun c143 => fX11_onThings_146 c143.2 a c143.1)) else if isKx S (cSl S (ra b)) [4] = true then (Option.bind (fX6_kind S (cSl S (ra b))) (fun c143 => fX11_onThings_146 c143.2 a c143.1)) else if isKx S (cSl S (ra b)) [5] = true then (Option.bind (fX8_kind S (cSl S (ra b))) (fun c143 => fX11_onThings_146 c143.2 a c143.1)) else if isKx S (cSl S (ra b)) [6] = true then (Option.bind (fX10_kind S (cSl S (ra b))) (fun c143 => fX11_onThings_146 c143.2 a c143.1)) else none)) (Option.bind (fX12_kindOf M b) (fun c335 => if inb (a &&& 15) (mlB 3) = true then fX12_rows_340 (pB c335.2 3 (ix (a &&& 15)) c335.1.toInt64) else none)) := by
  obtain ⟨t, h2, e1_, e2_⟩ := rl_slot R b
  have h4 := rl_4000 R
  rw [e2_, m_kindOf R b e1_ h2, Option.bind_some]
  simp only
  rw [if_pos (inb3 a)]
  have g : ∀ v : Int64, SimA B S M (fX11_onThings_147 S a v) (fX12_rows_340 (pB M 3 (ix (a &&& 15)) v)) := by
    intro v
    unfold fX11_onThings_147 fX12_rows_340
    rw [c_giveNum]
    exact sim_lift (sim_num R (ra a) v)
  by_cases ct : t = 0
  · subst ct
    rw [if_pos rfl]
    exact g (-1)
  · have hk := rl_kN R ct h2
    rw [onul_r ct, rfn_s w ct, if_neg ct, c_isKx R ct h2, c_isKx R ct h2, c_isKx R ct h2, c_isKx R ct h2, c_isKx R ct h2, c_isKx R ct h2, c_isKx R ct h2]
    unfold fX11_onThings_146
    by_cases c1 : kN M t ≤ 10
    · have ht : tagK (kN M t) = 5 := if_pos c1
      rw [ht, if_neg (show ¬ [0].contains 5 = true by decide), if_neg (show ¬ [1].contains 5 = true by decide), if_neg (show ¬ [2].contains 5 = true by decide), if_neg (show ¬ [3].contains 5 = true by decide), if_neg (show ¬ [4].contains 5 = true by decide), if_pos (show [5].contains 5 = true by decide)]
      unfold fX8_kind
      rw [(c_row R ct h2 c1).1, Option.bind_some, Option.bind_some]
      exact g _
    · have hq : kN M t = 11 ∨ kN M t = 12 ∨ kN M t = 13 ∨ kN M t = 14 ∨ kN M t = 15 ∨ kN M t = 16 := by omega
      rcases hq with q | q | q | q | q | q <;> rw [q]
      · rw [if_neg (show ¬ [0].contains (tagK 11) = true by decide), if_neg (show ¬ [1].contains (tagK 11) = true by decide), if_pos (show [2].contains (tagK 11) = true by decide)]
        exact g _
      · rw [if_neg (show ¬ [0].contains (tagK 12) = true by decide), if_pos (show [1].contains (tagK 12) = true by decide)]
        exact g _
      · rw [if_pos (show [0].contains (tagK 13) = true by decide)]
        exact g _
      · rw [if_neg (show ¬ [0].contains (tagK 14) = true by decide), if_neg (show ¬ [1].contains (tagK 14) = true by decide), if_neg (show ¬ [2].contains (tagK 14) = true by decide), if_neg (show ¬ [3].contains (tagK 14) = true by decide), if_pos (show [4].contains (tagK 14) = true by decide)]
        exact g _
      · rw [if_neg (show ¬ [0].contains (tagK 15) = true by decide), if_neg (show ¬ [1].contains (tagK 15) = true by decide), if_neg (show ¬ [2].contains (tagK 15) = true by decide), if_neg (show ¬ [3].contains (tagK 15) = true by decide), if_neg (show ¬ [4].contains (tagK 15) = true by decide), if_neg (show ¬ [5].contains (tagK 15) = true by decide), if_pos (show [6].contains (tagK 15) = true by decide)]
        exact g _
      · rw [if_neg (show ¬ [0].contains (tagK 16) = true by decide), if_neg (show ¬ [1].contains (tagK 16) = true by decide), if_neg (show ¬ [2].contains (tagK 16) = true by decide), if_pos (show [3].contains (tagK 16) = true by decide)]
        exact g _
end N
