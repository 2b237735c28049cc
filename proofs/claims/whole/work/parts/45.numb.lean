/-! orders on numbers, on both sides -/
def cfr (S S' : CS) : Prop := (∀ k, k ≠ 7 → k ≠ 8 → gI S'.1 k = gI S.1 k) ∧ gA S'.1 = gA S.1
def mfr (M M' : MS) : Prop := (∀ k, k ≠ 10 → k ≠ 11 → k ≠ 27 → gI M' k = gI M k) ∧ (∀ k, 21 ≤ k → gA M' k = gA M k) ∧ gB M' 36 = gB M 36
theorem cfr_refl (S : CS) : cfr S S := ⟨fun _ _ _ => rfl, rfl⟩
theorem mfr_refl (M : MS) : mfr M M := ⟨fun _ _ _ _ => rfl, fun _ _ => rfl, rfl⟩
theorem cfr_trans {S S1 S2 : CS} (h : cfr S S1) (g : cfr S1 S2) : cfr S S2 := ⟨fun k a b => (g.1 k a b).trans (h.1 k a b), g.2.trans h.2⟩
theorem mfr_trans {M M1 M2 : MS} (h : mfr M M1) (g : mfr M1 M2) : mfr M M2 := ⟨fun k a b c => (g.1 k a b c).trans (h.1 k a b c), fun k a => (g.2.1 k a).trans (h.2.1 k a), g.2.2.trans h.2.2⟩
theorem mfr_mEq {M M' : MS} (h : mEq M M') : mfr M M' := ⟨fun k _ _ _ => by rw [mEq_gI h], fun k _ => by rw [mEq_gA h], by rw [mEq_gB h]⟩
theorem mfr_B {M : MS} {k i : Nat} {v : Int64} (h : k ≠ 36) : mfr M (pB M k i v) := ⟨fun _ _ _ _ => rfl, fun _ _ => rfl, gB_pB_ne _ _ _ (fun q => h q.symm)⟩
theorem mfr_A {M : MS} {k i : Nat} {v : Int32} (h : k < 21) : mfr M (pA M k i v) := ⟨fun _ _ _ _ => rfl, fun j hj => gA_pA_ne _ _ _ (by omega), rfl⟩
/-- an order that makes nothing is done alike on both sides -/
def Sim (w : Nat → Nat → Nat) (B : Nat) (S : CS) (M : MS) (c : Option (Int32 × CS)) (m : Option (Int32 × MS)) : Prop := ∃ (r : Nat) (S' : CS) (M' : MS), r ≤ 9 ∧ c = some (nI r, S') ∧ m = some (nI r, M') ∧ Rel w (B + 1) S' M' ∧ cfr S S' ∧ mfr M M' ∧ nT M' = nT M
section N
variable {w : Nat → Nat → Nat} {B : Nat} {S : CS} {M : MS}
theorem sim_err (R : Rel w B S M) (r : Nat) (hr : r ≤ 9) : Sim w B S M (some (nI r, S)) (some (nI r, M)) := ⟨r, S, M, hr, rfl, rfl, Rel_B R (by omega), cfr_refl S, mfr_refl M, rfl⟩
theorem sim_num (R : Rel w B S M) (k : Nat) (v : Int64) : Sim w B S M (some (0, cpB S 16 k v)) (some (0, pB M 3 k v)) := ⟨0, _, _, by omega, rfl, rfl, Rel_B (Rel_num R v) (by omega), ⟨fun _ _ _ => rfl, rfl⟩, mfr_B (by decide), rfl⟩
theorem sim_mea {M1 : MS} (R : Rel w B S M) (k : Nat) {v : Int64} (hv : can64 v) (h : mEq M M1) : Sim w B S M (some (0, cpB S 17 k v)) (some (0, pB M1 4 k v)) := ⟨0, _, _, by omega, rfl, rfl, Rel_B (Rel_mea (Rel_mEq R h) hv) (by omega), ⟨fun _ _ _ => rfl, rfl⟩, mfr_trans (mfr_mEq h) (mfr_B (by decide)), by show ix (gI M1 10) = ix (gI M 10); rw [mEq_gI h]⟩
theorem sim_slt (R : Rel w B S M) (k : Nat) {t : Nat} (ht : t ≤ nT M) : Sim w B S M (some (0, cpS S k (rfn w t))) (some (0, pA M 5 k (nI t))) := ⟨0, _, _, by omega, rfl, rfl, Rel_B (Rel_slt R ht) (by omega), ⟨fun _ _ _ => rfl, rfl⟩, mfr_A (by decide), rfl⟩
theorem rl_num (R : Rel w B S M) (r : Int32) : gB S.1 16 (ra r) = gB M 3 (ra r) := R.1 _ (ra_lt r)
theorem rl_mea (R : Rel w B S M) (r : Int32) : gB S.1 17 (ra r) = gB M 4 (ra r) := (R.2.1 _ (ra_lt r)).1
theorem rl_can (R : Rel w B S M) (r : Int32) : can64 (gB M 4 (ra r)) := (R.2.1 _ (ra_lt r)).2
theorem wide_x (a b : Int32) : (a.toInt64 <<< ((32 : Int32).toInt64 &&& 63)) + (b.toInt64 &&& 4294967295) = fX11_wide a b := by
  unfold fX11_wide
  obtain ⟨n1_, h1_⟩ := lN_ex a.toInt64
  obtain ⟨n2_, h2_⟩ := lN_ex b.toInt64
  rw [h1_, h2_]
  have e1 : lN n1_ <<< ((32 : Int32).toInt64 &&& 63) = lN (n1_ * 2 ^ 32) := wb_shl n1_ (k := 32) (by decide)
  have e2 : lN n2_ &&& 4294967295 = lN (n2_ % 2 ^ 32) := fb_maskL n2_ 32
  rw [e1, e2, Nat.mul_comm, fb_or_sumL n1_ (Nat.mod_lt _ (by decide)), lN_add]
theorem inb3 (r : Int32) : inb (r &&& 15) (mlB 3) = true := ra_in r
theorem inb4 (r : Int32) : inb (r &&& 15) (mlB 4) = true := ra_in r
theorem inb5 (r : Int32) : inb (r &&& 15) (mlA 5) = true := ra_in r
theorem o_1_12 {o : Int32} (h1 : 0 < o) (h2 : o < 13) : o = 1 ∨ o = 2 ∨ o = 3 ∨ o = 4 ∨ o = 5 ∨ o = 6 ∨ o = 7 ∨ o = 8 ∨ o = 9 ∨ o = 10 ∨ o = 11 ∨ o = 12 := by
  rw [Int32.lt_iff_toInt_lt] at h1 h2
  have e0 : (0 : Int32).toInt = 0 := by decide
  have e1 : (13 : Int32).toInt = 13 := by decide
  have key : ∀ k : Int, o.toInt = k → o = Int32.ofInt k := fun k h => by rw [← h, Int32.ofInt_toInt]
  have h : o.toInt = 1 ∨ o.toInt = 2 ∨ o.toInt = 3 ∨ o.toInt = 4 ∨ o.toInt = 5 ∨ o.toInt = 6 ∨ o.toInt = 7 ∨ o.toInt = 8 ∨ o.toInt = 9 ∨ o.toInt = 10 ∨ o.toInt = 11 ∨ o.toInt = 12 := by omega
  rcases h with h9 | h9 | h9 | h9 | h9 | h9 | h9 | h9 | h9 | h9 | h9 | h9 <;> have h8 := key _ h9 <;> rw [h8] <;> decide
theorem sim_reckon (R : Rel w B S M) {o : Int32} (h1 : 0 < o) (h2 : o < 13) (a b c : Int32) : Sim w B S M (fX11_onNumbers S o a b c) (fX12_reckons M o (a &&& 15) b c) := by
  unfold fX11_onNumbers fX12_reckons fX12_reckons_11
  rw [c_numAt, Option.bind_some, c_numAt, Option.bind_some, if_pos (inb3 b), if_pos (inb3 c)]
  unfold fX12_reckons_23
  simp only [fX12_reckons_103, fX12_reckons_117, fX12_reckons_131, fX12_reckons_145, fX12_reckons_148, fX12_reckons_181, fX12_reckons_182, fX12_reckons_196, fX12_reckons_210, fX12_reckons_229, fX12_reckons_248, fX12_reckons_269, fX12_reckons_270, fX12_reckons_291, fX12_reckons_292, fX11_onNumbers_244, fX11_onNumbers_263, if_pos (inb3 a), c_giveNum, Option.bind_some, wide_x, rl_num R b, rl_num R c]
  have eb : gB M 3 (ix (b &&& 15)) = gB M 3 (ra b) := rfl
  have ec : gB M 3 (ix (c &&& 15)) = gB M 3 (ra c) := rfl
  rw [eb, ec]
  generalize gB M 3 (ra b) = x1
  generalize gB M 3 (ra c) = y1
  have ea : ix (a &&& 15) = ra a := rfl
  rw [ea]
  rcases o_1_12 h1 h2 with h9 | h9 | h9 | h9 | h9 | h9 | h9 | h9 | h9 | h9 | h9 | h9 <;> subst h9 <;> simp only [if_false, if_true]
  · exact sim_num R _ _
  · exact sim_num R _ _
  · exact sim_num R _ _
  · exact sim_num R _ _
  · by_cases c1 : y1 = 0
    · rw [if_pos c1, if_pos c1]; exact sim_err R 6 (by decide)
    · rw [if_neg c1, if_neg c1, if_neg c1, if_neg c1]; exact sim_num R _ _
  · show Sim w B S M (if y1 = 0 then some (6, S) else (if y1 = 0 then none else some (0, cpB S 16 (ra a) (x1 - x1 / y1 * y1)))) (if y1 = 0 then some (6, M) else (if y1 = 0 then none else some (0, pB M 3 (ra a) (x1 - x1 / y1 * y1))))
    by_cases c1 : y1 = 0
    · rw [if_pos c1, if_pos c1]; exact sim_err R 6 (by decide)
    · rw [if_neg c1, if_neg c1, if_neg c1, if_neg c1]; exact sim_num R _ _
  · exact sim_num R _ _
  · exact sim_num R _ _
  · exact sim_num R _ _
  · exact sim_num R _ _
  · by_cases c1 : y1 ≤ x1
    · rw [if_pos c1, if_pos c1]; exact sim_num R _ _
    · rw [if_neg c1, if_neg c1]; exact sim_num R _ _
  · by_cases c1 : x1 = y1
    · rw [if_pos c1, if_pos c1]; exact sim_num R _ _
    · rw [if_neg c1, if_neg c1]; exact sim_num R _ _
theorem lg_le {l B : Nat} (h : l ≤ B) (hB : B < 2147483647) : (200 ≤ nI l ↔ 200 ≤ l) ∧ nI l + 1 = nI (l + 1) := by
  constructor
  · rw [iZ_nI]
    have := iZ_le (a := 200) (b := (l : Int)) (by omega) (by omega)
    refine Iff.trans this ?_
    omega
  · rw [iZ_nI, iZ_nI]
    refine (iZ_add l 1).trans ?_
    rfl
theorem sim_log (R : Rel w B S M) (hB : B < 2147483647) (v : Int64) : Sim w B S M (fX11_keepLog S v) (fX12_controls_311 M v) := by
  obtain ⟨r1, r2, r3, r4, r5, r6, r7, r8⟩ := R
  obtain ⟨l1_, q1_, q2_, q3_, q4_⟩ := r5
  obtain ⟨e1_, e2_⟩ := lg_le q1_ hB
  unfold fX11_keepLog fX12_controls_311 fX11_keepLog_20 fX11_keepLog_30 fX12_controls_334 fX12_controls_344
  rw [q2_, q3_]
  by_cases c1 : 200 ≤ l1_
  · rw [if_pos (e1_.mpr c1), if_pos (e1_.mpr c1), e2_]
    refine ⟨0, _, _, by omega, rfl, rfl, ⟨r1, r2, r3, ?_, ⟨l1_ + 1, by omega, ?_, ?_, q4_⟩, ?_, ?_, fun t h1 h2 => ?_⟩, ⟨fun k h7 _ => gI_pI_ne _ _ h7, rfl⟩, ⟨fun k _ _ h => gI_pI_ne _ _ h, fun _ _ => rfl, rfl⟩, ?_⟩
    · obtain ⟨p1_, p2_, p3_, tk1_, p4_, p5_, p6_⟩ := r4
      exact ⟨p1_, p2_, p3_, tk1_, p4_, p5_, p6_⟩
    · exact gI_pI _ _ _
    · exact gI_pI _ _ _
    · exact r6
    · exact r7
    · exact Th_fr (by omega) (Nat.le_refl (nT M)) ⟨h1, h2⟩ (fun _ _ _ _ => rfl) (fun _ _ _ => rfl) (fun _ _ => rfl) rfl rfl rfl rfl rfl rfl rfl rfl rfl rfl (fun i _ => rfl) (fun i _ => rfl) (r8 t h1 h2)
    · rfl
  · have hi : ix (nI l1_) = l1_ := ix_nI (by omega)
    have hb : inb (nI l1_) 200 = true := inb_nI (by omega) (by omega)
    rw [if_neg (show ¬ 200 ≤ nI l1_ from fun h => c1 (e1_.mp h)), if_neg (show ¬ 200 ≤ nI l1_ from fun h => c1 (e1_.mp h)), if_pos (show inb (nI l1_) (clB 6) = true from hb), if_pos (show inb (nI l1_) (mlB 26) = true from hb), hi]
    have g1 : gI (cpB S 6 l1_ v).1 7 = nI l1_ := q2_
    have g2 : gI (pB M 26 l1_ v) 27 = nI l1_ := q3_
    rw [g1, g2, e2_]
    refine ⟨0, _, _, by omega, rfl, rfl, ⟨fun i h => ?_, fun i h => ?_, r3, ?_, ⟨l1_ + 1, by omega, ?_, ?_, fun i h => ?_⟩, ?_, ?_, fun t h1 h2 => ?_⟩, ⟨fun k h7 _ => gI_pI_ne _ _ h7, rfl⟩, ⟨fun k _ _ h => gI_pI_ne _ _ h, fun _ _ => rfl, by rw [gB_pI, gB_pB_ne _ _ _ (by decide)]⟩, ?_⟩
    · show gB (pB S.1 6 l1_ v) 16 i = gB (pB M 26 l1_ v) 3 i
      rw [gB_pB_ne _ _ _ (by decide), gB_pB_ne _ _ _ (by decide)]
      exact r1 i h
    · show gB (pB S.1 6 l1_ v) 17 i = gB (pB M 26 l1_ v) 4 i ∧ can64 (gB (pB M 26 l1_ v) 4 i)
      rw [gB_pB_ne _ _ _ (by decide), gB_pB_ne _ _ _ (by decide)]
      exact r2 i h
    · obtain ⟨p1_, p2_, p3_, tk1_, p4_, p5_, p6_⟩ := r4
      exact ⟨p1_, p2_, p3_, tk1_, p4_, p5_, p6_⟩
    · exact gI_pI _ _ _
    · exact gI_pI _ _ _
    · show gB (pB S.1 6 l1_ v) 6 i = gB (pB M 26 l1_ v) 26 i
      rw [gB_pB, gB_pB]
      by_cases c : i = l1_
      · rw [if_pos c, if_pos c]
      · rw [if_neg c, if_neg c]; exact q4_ i h
    · exact r6
    · exact r7
    · refine Th_fr (by omega) (Nat.le_refl (nT M)) ⟨h1, h2⟩ (fun _ _ _ _ => rfl) (fun _ _ _ => rfl) (fun _ _ => rfl) rfl rfl rfl rfl rfl rfl ?_ ?_ ?_ ?_ (fun i _ => ?_) (fun i _ => ?_) (r8 t h1 h2) <;> (rw [gB_pI, gB_pB_ne _ _ _ (by decide)])
    · rfl
end N
