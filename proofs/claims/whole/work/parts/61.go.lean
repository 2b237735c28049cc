/-! GO -/
theorem div_ex (x y : Int64) : ∃ z, fX2_divide x y = some z ∧ fX12_quotient x y = some z := by
  obtain ⟨h1_, z1_, h2_⟩ := fl_quot x y
  exact ⟨z1_, h2_, by rw [h1_, h2_]⟩
theorem root_ex (x : Int64) (hx : can64 x) : ∃ z, fX2_root x = some z ∧ fX12_root x = some z := by
  obtain ⟨h1_, z1_, h2_⟩ := fl_root x hx
  exact ⟨z1_, h2_, by rw [h1_, h2_]⟩
theorem tk_end (time : Int64) (ht : shp false time) : ∃ T, 0 ≤ T ∧ (∀ S, fX0_ticksFor_70 S time = some (T, S)) ∧ ∀ (M : MS) (v1 v2 : Int32) (v6 v8 : Int64), ∃ M1, mEq M M1 ∧ fX12_goes_236 M v1 v2 v6 v8 time = (if inb v2 (mlB 3) = true then fX12_goes_269 (pB M1 3 (ix v2) T) v1 v6 v8 else none) := by
  have hp := shE_nn (shp_mul (shp_wholeN (v := 10) (by decide)) ht)
  have hc := shp_cut2 hp
  refine ⟨fX2_cut (fX2_wholeNotBelow (fX2_multiply (fX2_ofWhole 10) time)), cut_nn hc, fun S => rfl, fun M v1 v2 v6 v8 => ?_⟩
  obtain ⟨M1_, e1_, e2_⟩ := fl_prod M (fX2_ofWhole 10) time
  refine ⟨M1_, e2_, ?_⟩
  unfold fX12_goes_236
  rw [fl_number, Option.bind_some, e1_, Option.bind_some]
  simp only
  rw [fl_cut2 _ (shp_can hp), Option.bind_some, fl_tow64]
theorem tk_val (way : Int64) (hw : shp false way) {sp : Int32} (hs : 0 ≤ sp.toInt64) : ∃ T, 0 ≤ T ∧ (∀ S, fX0_ticksFor_17 S way (fX2_ofWhole 2) (fX2_ofWhole sp.toInt64) = some (T, S)) ∧ ∀ (M : MS) (v1 v2 k : Int32) (v6 : Int64), fX12_speedOf k = sp → ∃ M1, mEq M M1 ∧ fX12_goes_148 M v1 v2 k v6 way = (if inb v2 (mlB 3) = true then fX12_goes_269 (pB M1 3 (ix v2) T) v1 v6 way else none) := by
  have h2 : shp false (fX2_ofWhole 2) := shp_wholeN (by decide)
  have hsp := shp_wholeN hs
  obtain ⟨q1_, d1_, d2_⟩ := div_ex (fX2_ofWhole sp.toInt64) (fX2_ofWhole 2)
  by_cases c : fX2_isLess way q1_ = 0
  · obtain ⟨q2_, d3_, d4_⟩ := div_ex way (fX2_ofWhole sp.toInt64)
    have hq := shE_nn (shp_div hw hsp d3_)
    have hh : shp false 4602678819172646912 := Or.inr ⟨4602678819172646912, by decide, rfl⟩
    have ht := shE_nn (shp_add hq hh)
    obtain ⟨T1_, t1_, t2_, t3_⟩ := tk_end _ ht
    refine ⟨T1_, t1_, fun S => ?_, fun M v1 v2 k v6 hk => ?_⟩
    · unfold fX0_ticksFor_17
      rw [d1_, Option.bind_some, if_pos c, d3_, Option.bind_some]
      exact t2_ S
    · obtain ⟨M1_, m1_, m2_⟩ := t3_ M v1 v2 v6 way
      refine ⟨M1_, m1_, ?_⟩
      unfold fX12_goes_148 fX12_goes_183
      rw [hk, fl_number, Option.bind_some, fl_number, Option.bind_some, d2_, Option.bind_some, fl_isLess, if_pos c, if_neg (show ¬ (1 : Int32) = 0 by decide), d4_, Option.bind_some, fl_sum, Option.bind_some]
      exact m2_
  · obtain ⟨q2_, d3_, d4_⟩ := div_ex way (fX2_multiply (fX2_ofWhole 2) (fX2_ofWhole sp.toInt64))
    have hm := shE_nn (shp_mul h2 hsp)
    have hq := shE_nn (shp_div hw hm d3_)
    obtain ⟨q3_, d5_, d6_⟩ := root_ex q2_ (shp_can hq)
    have hr := (shp_root hq d5_).2 rfl
    have ht := shE_nn (shp_mul h2 hr)
    obtain ⟨T1_, t1_, t2_, t3_⟩ := tk_end _ ht
    refine ⟨T1_, t1_, fun S => ?_, fun M v1 v2 k v6 hk => ?_⟩
    · unfold fX0_ticksFor_17 fX0_ticksFor_53
      rw [d1_, Option.bind_some, if_neg c, d3_, Option.bind_some, d5_, Option.bind_some]
      exact t2_ S
    · obtain ⟨M1_, e1_, e2_⟩ := fl_prod M (fX2_ofWhole 2) (fX2_ofWhole sp.toInt64)
      obtain ⟨M2_, e3_, e4_⟩ := fl_prod M1_ (fX2_ofWhole 2) q3_
      obtain ⟨M3_, m1_, m2_⟩ := t3_ M2_ v1 v2 v6 way
      refine ⟨M3_, mEq_trans (mEq_trans e2_ e4_) m1_, ?_⟩
      unfold fX12_goes_148 fX12_goes_183
      rw [hk, fl_number, Option.bind_some, fl_number, Option.bind_some, d2_, Option.bind_some, fl_isLess, if_neg c, if_pos rfl, Option.bind_some, Option.bind_some, e1_, Option.bind_some]
      simp only
      rw [d4_, Option.bind_some, d6_, Option.bind_some, e3_, Option.bind_some]
      exact m2_
section N
variable {w : Nat → Nat → Nat} {B : Nat} {S : CS} {M : MS}
/-- the way's end: at, travelled, moves and the ticks -/
theorem sim_going (R : Rel w B S M) (hB : B < 2147483647) (a : Int32) {t : Nat} (h1 : t ≠ 0) (h2 : t ≤ nT M) (hk : 13 ≤ kN M t ∧ kN M t ≤ 15) {to : Int64} (hto : can64 to) {M1 : MS} (he : mEq M M1) {T : Int64} (h0 : 0 ≤ T) {way : Int64} (hway : can64 way) {mv : Nat} (b1 : mv ≤ B) (b2 : gA M 18 t = nI mv) (b3 : can64 (gB M 13 t)) : Sim w B S M (fX11_go_30 (cpH S (w 0 t) (.inr (axT (kN M t), [.long to, .long (fX2_add (gB M 13 t) way), .long (lN (mv + 1))]))) a T) (if inb (a &&& 15) (mlB 3) = true then fX12_goes_269 (pB M1 3 (ix (a &&& 15)) T) (nI t) to way else none) := by
  have h4 := rl_4000 R
  have i12 : inb (nI t) 4001 = true := inb_nI (by omega) (by omega)
  have ei : ix (a &&& 15) = ra a := rfl
  have e18 : gA (pB (pB (pB M1 3 (ra a) T) 12 t to) 13 t (fX2_add (gB M 13 t) way)) 18 t = nI mv := by
    show gA M1 18 t = nI mv
    rw [mEq_gA he]; exact b2
  have e13 : gB (pB (pB M1 3 (ra a) T) 12 t to) 13 t = gB M 13 t := by rw [gB_pB_ne _ _ _ (by decide), gB_pB_ne _ _ _ (by decide), mEq_gB he]
  unfold fX11_go_30 fX12_goes_269 fX12_goes_277 fX12_goes_294 fX12_goes_304
  rw [if_pos h0, c_giveNum, Option.bind_some, if_pos (inb3 a), ei, if_pos (show inb (nI t) (mlB 12) = true from i12), if_pos (show inb (nI t) (mlB 13) = true from i12), ix_nI (by omega), e13, fl_sum, Option.bind_some, if_pos (show inb (nI t) (mlB 13) = true from i12), if_pos (show inb (nI t) (mlA 18) = true from i12), if_pos (show inb (nI t) (mlA 18) = true from i12), e18, nI_1]
  have R0 : Rel w B (cpB S 16 (ra a) T) (pB M1 3 (ra a) T) := Rel_num (Rel_mEq R he) T
  have eT : nT (pB M1 3 (ra a) T) = nT M := by show ix (gI M1 10) = _; rw [mEq_gI he]; rfl
  have eK : kN (pB M1 3 (ra a) T) t = kN M t := by show ix (gA M1 6 t) = _; rw [mEq_gA he]; rfl
  have f12 : gB (pA (pB (pB (pB M1 3 (ra a) T) 12 t to) 13 t (fX2_add (gB M 13 t) way)) 18 t (nI (mv + 1))) 12 t = to := by
    rw [gB_pA, gB_pB_ne _ _ _ (by decide), gB_pB, if_pos rfl]
  have f13 : gB (pA (pB (pB (pB M1 3 (ra a) T) 12 t to) 13 t (fX2_add (gB M 13 t) way)) 18 t (nI (mv + 1))) 13 t = fX2_add (gB M 13 t) way := by
    rw [gB_pA, gB_pB, if_pos rfl]
  have fK : kN (pA (pB (pB (pB M1 3 (ra a) T) 12 t to) 13 t (fX2_add (gB M 13 t) way)) 18 t (nI (mv + 1))) t = kN M t := by
    unfold kN
    rw [gA_pA_ne _ _ _ (by decide)]
    exact eK
  have R1 := Rel_axis (M' := pA (pB (pB (pB M1 3 (ra a) T) 12 t to) 13 t (fX2_add (gB M 13 t) way)) 18 t (nI (mv + 1))) (B' := B + 1) (mv := mv + 1) R0 h1 (by rw [eT]; exact h2) (by rw [eK]; exact hk) (by omega) (by omega) rfl (fun k hk2 => gA_pA_ne _ _ _ (by omega)) (fun u hu => by rw [gA_pA, if_neg hu]; rfl) (fun k hk2 => by rw [gB_pA, gB_pB_ne _ _ _ (by omega), gB_pB_ne _ _ _ (by omega)]) (fun k u hk2 hu => by
      rw [gB_pA]
      rcases hk2 with e | e
      · subst e; rw [gB_pB_ne _ _ _ (by decide), gB_pB, if_neg hu]
      · subst e; rw [gB_pB, if_neg hu, gB_pB_ne _ _ _ (by decide)]) (by rw [gA_pA, if_pos rfl]) ⟨by rw [f12]; exact hto, by rw [f13]; exact can_add b3 hway⟩
  unfold axE at R1
  rw [f12, f13, fK] at R1
  refine sim_one (r := 0) R (by decide) R1 ⟨fun _ _ _ => rfl, rfl⟩ ?_ ?_
  · refine mfr_trans (mfr_mEq he) (mfr_trans (mfr_B (k := 3) (by decide)) (mfr_trans (mfr_B (k := 12) (by decide)) (mfr_trans (mfr_B (k := 13) (by decide)) (mfr_A (by decide)))))
  · exact eT
end N
