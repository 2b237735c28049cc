/-! one step on both sides -/
theorem mEq_gI {M M' : MS} (h : mEq M M') : gI M' = gI M := h.1
theorem mEq_gA {M M' : MS} (h : mEq M M') : gA M' = gA M := by unfold gA; rw [h.2.1]
theorem mEq_gB {M M' : MS} (h : mEq M M') : gB M' = gB M := by unfold gB; rw [h.2.1]
section U
variable {w : Nat → Nat → Nat} {B : Nat} {S : CS} {M : MS}
theorem Rel_num (R : Rel w B S M) {k : Nat} (v : Int64) : Rel w B (cpB S 16 k v) (pB M 3 k v) := by
  obtain ⟨r1, r2, r3, r4, r5, r6, r7, r8⟩ := R
  refine ⟨fun i hi => ?_, fun i hi => ?_, r3, r4, ?_, r6, r7, fun t h1 h2 => ?_⟩
  · show gB (pB S.1 16 k v) 16 i = gB (pB M 3 k v) 3 i
    rw [gB_pB, gB_pB]
    by_cases c : i = k
    · rw [if_pos c, if_pos c]
    · rw [if_neg c, if_neg c]; exact r1 i hi
  · show gB (pB S.1 16 k v) 17 i = gB (pB M 3 k v) 4 i ∧ can64 (gB (pB M 3 k v) 4 i)
    rw [gB_pB_ne _ _ _ (by decide), gB_pB_ne _ _ _ (by decide)]
    exact r2 i hi
  · obtain ⟨l1_, q1_, q2_, q3_, q4_⟩ := r5
    refine ⟨l1_, q1_, q2_, q3_, fun i hi => ?_⟩
    show gB (pB S.1 16 k v) 6 i = gB (pB M 3 k v) 26 i
    rw [gB_pB_ne _ _ _ (by decide), gB_pB_ne _ _ _ (by decide)]
    exact q4_ i hi
  · refine Th_fr (Nat.le_refl _) (Nat.le_refl (nT M)) ⟨h1, h2⟩ (fun _ _ _ _ => rfl) (fun _ _ _ => rfl) (fun _ _ => rfl) rfl rfl rfl rfl rfl rfl ?_ ?_ ?_ ?_ (fun i _ => ?_) (fun i _ => ?_) (r8 t h1 h2) <;> rw [gB_pB_ne _ _ _ (by decide)]
theorem Rel_mea (R : Rel w B S M) {k : Nat} {v : Int64} (hv : can64 v) : Rel w B (cpB S 17 k v) (pB M 4 k v) := by
  obtain ⟨r1, r2, r3, r4, r5, r6, r7, r8⟩ := R
  refine ⟨fun i hi => ?_, fun i hi => ?_, r3, r4, ?_, r6, r7, fun t h1 h2 => ?_⟩
  · show gB (pB S.1 17 k v) 16 i = gB (pB M 4 k v) 3 i
    rw [gB_pB_ne _ _ _ (by decide), gB_pB_ne _ _ _ (by decide)]
    exact r1 i hi
  · show gB (pB S.1 17 k v) 17 i = gB (pB M 4 k v) 4 i ∧ can64 (gB (pB M 4 k v) 4 i)
    rw [gB_pB, gB_pB]
    by_cases c : i = k
    · rw [if_pos c, if_pos c]; exact ⟨rfl, hv⟩
    · rw [if_neg c, if_neg c]; exact r2 i hi
  · obtain ⟨l1_, q1_, q2_, q3_, q4_⟩ := r5
    refine ⟨l1_, q1_, q2_, q3_, fun i hi => ?_⟩
    show gB (pB S.1 17 k v) 6 i = gB (pB M 4 k v) 26 i
    rw [gB_pB_ne _ _ _ (by decide), gB_pB_ne _ _ _ (by decide)]
    exact q4_ i hi
  · refine Th_fr (Nat.le_refl _) (Nat.le_refl (nT M)) ⟨h1, h2⟩ (fun _ _ _ _ => rfl) (fun _ _ _ => rfl) (fun _ _ => rfl) rfl rfl rfl rfl rfl rfl ?_ ?_ ?_ ?_ (fun i _ => ?_) (fun i _ => ?_) (r8 t h1 h2) <;> rw [gB_pB_ne _ _ _ (by decide)]
theorem kN_pA5 (k : Nat) (v : Int32) (t : Nat) : kN (pA M 5 k v) t = kN M t := by unfold kN; rw [gA_pA_ne _ _ _ (by decide)]
theorem sN_pA5 (k : Nat) (v : Int32) (t : Nat) : sN (pA M 5 k v) t = sN M t := by unfold sN; rw [gA_pA_ne _ _ _ (by decide)]
theorem fN_pA5 (k : Nat) (v : Int32) (t : Nat) : fN (pA M 5 k v) t = fN M t := by unfold fN; rw [gA_pA_ne _ _ _ (by decide)]
theorem vld_pA5 (k : Nat) (v : Int32) (i t : Nat) : vld (pA M 5 k v) i t ↔ vld M i t := by unfold vld; rw [kN_pA5]
theorem Rel_slt (R : Rel w B S M) {k t0 : Nat} (ht : t0 ≤ nT M) : Rel w B (cpS S k (rfn w t0)) (pA M 5 k (nI t0)) := by
  obtain ⟨r1, r2, r3, r4, r5, r6, r7, r8⟩ := R
  refine ⟨r1, r2, fun i hi => ?_, ?_, r5, ?_, ?_, fun t h1 h2 => ?_⟩
  · show ∃ t, t ≤ nT M ∧ gA (pA M 5 k (nI t0)) 5 i = nI t ∧ va_up (cSl S) k (rfn w t0) i = rfn w t
    rw [gA_pA]
    by_cases c : i = k
    · subst c
      exact ⟨t0, ht, if_pos rfl, up_eq _ _ _⟩
    · rw [if_neg c, up_ne _ _ c]
      exact r3 i hi
  · obtain ⟨q1_, q2_, q3_, tk1_, q4_, q5_, q6_⟩ := r4
    exact ⟨q1_, q2_, q3_, tk1_, q4_, q5_, fun t h1 h2 => by rw [fN_pA5, sN_pA5]; exact q6_ t h1 h2⟩
  · exact fun t u h1 h2 h3 => by rw [fN_pA5, sN_pA5, fN_pA5]; exact r6 t u h1 h2 h3
  · exact ⟨fun i t h1 h2 h3 => r7.1 i t h1 h2 ((vld_pA5 _ _ _ _).mp h3), fun i t j u h1 h2 h3 h4 h5 h6 h7 => r7.2.1 i t j u h1 h2 h3 h4 ((vld_pA5 _ _ _ _).mp h5) ((vld_pA5 _ _ _ _).mp h6) h7, r7.2.2⟩
  · refine Th_fr (Nat.le_refl _) (Nat.le_refl (nT M)) ⟨h1, h2⟩ (fun _ _ _ _ => rfl) (fun u _ _ => ?_) (fun _ _ => rfl) ?_ ?_ ?_ ?_ ?_ ?_ rfl rfl rfl rfl (fun i _ => rfl) (fun i _ => rfl) (r8 t h1 h2) <;> rw [gA_pA_ne _ _ _ (by decide)]
theorem Rel_mEq {M' : MS} (R : Rel w B S M) (h : mEq M M') : Rel w B S M' := by
  have eI := mEq_gI h
  have eA := mEq_gA h
  have eB := mEq_gB h
  have eT : nT M' = nT M := by unfold nT; rw [eI]
  have eK : kN M' = kN M := by funext t; unfold kN; rw [eA]
  have eS : sN M' = sN M := by funext t; unfold sN; rw [eA]
  have eF : fN M' = fN M := by funext t; unfold fN; rw [eA]
  have eV : ∀ i t, vld M' i t ↔ vld M i t := fun i t => by unfold vld; rw [eK]
  obtain ⟨r1, r2, r3, r4, r5, r6, r7, r8⟩ := R
  refine ⟨?_, ?_, ?_, ?_, ?_, ?_, ?_, ?_⟩
  · unfold rlNum; rw [eB]; exact r1
  · unfold rlMea; rw [eB]; exact r2
  · unfold rlSlt; rw [eT, eA]; exact r3
  · unfold rlCnt; rw [eT, eI, eF, eS]; exact r4
  · unfold rlLog; rw [eI, eB]; exact r5
  · unfold rlPlc; rw [eT, eF, eS]; exact r6
  · unfold rlSep
    rw [eT]
    exact ⟨fun i t h1 h2 h3 => r7.1 i t h1 h2 ((eV _ _).mp h3), fun i t j u h1 h2 h3 h4 h5 h6 h7 => r7.2.1 i t j u h1 h2 h3 h4 ((eV _ _).mp h5) ((eV _ _).mp h6) h7, r7.2.2⟩
  · intro t h1 h2
    rw [eT] at h2
    exact Th_fr (Nat.le_refl _) (Nat.le_of_eq eT.symm) ⟨h1, h2⟩ (fun _ _ _ _ => rfl) (fun u _ _ => by rw [eA]) (fun _ _ => rfl) (by rw [eA]) (by rw [eA]) (by rw [eA]) (by rw [eA]) (by rw [eA]) (by rw [eA]) (by rw [eB]) (by rw [eB]) (by rw [eB]) (by rw [eB]) (fun i _ => by rw [eB]) (fun i _ => by rw [eB]) (r8 t h1 h2)
theorem Rel_B {B' : Nat} (R : Rel w B S M) (h : B ≤ B') : Rel w B' S M := by
  obtain ⟨r1, r2, r3, r4, r5, r6, r7, r8⟩ := R
  refine ⟨r1, r2, r3, r4, ?_, r6, r7, fun t h1 h2 => ?_⟩
  · obtain ⟨l1_, q1_, q2_, q3_, q4_⟩ := r5
    exact ⟨l1_, by omega, q2_, q3_, q4_⟩
  · exact Th_fr h (Nat.le_refl _) ⟨h1, h2⟩ (fun _ _ _ _ => rfl) (fun _ _ _ => rfl) (fun _ _ => rfl) rfl rfl rfl rfl rfl rfl rfl rfl rfl rfl (fun _ _ => rfl) (fun _ _ => rfl) (r8 t h1 h2)
/-- one thing is changed on both sides -/
theorem Rel_mut {B' t0 : Nat} {S' : CS} {M' : MS} (R : Rel w B S M) (h0 : 1 ≤ t0 ∧ t0 ≤ nT M) (hB : B ≤ B') (c1 : S'.1 = S.1) (c2 : cSl S' = cSl S) (c3 : cLs S' = cLs S) (c4 : cSz S' = cSz S) (c5 : ∀ a, (∀ i, vld M i t0 → a ≠ w i t0) → cH S' a = cH S a) (m1 : gI M' = gI M) (m2 : ∀ k, k = 5 ∨ k = 6 ∨ k = 7 ∨ k = 8 → gA M' k = gA M k) (m3 : ∀ k t, k = 16 ∨ k = 17 ∨ k = 18 ∨ k = 20 → t ≠ t0 → gA M' k t = gA M k t) (m4 : ∀ k, k = 3 ∨ k = 4 ∨ k = 26 → gB M' k = gB M k) (m5 : ∀ k t, k = 12 ∨ k = 13 ∨ k = 14 ∨ k = 15 → t ≠ t0 → gB M' k t = gB M k t) (m6 : ∀ j, j < fN M t0 ∨ fN M t0 + sN M t0 ≤ j → gB M' 9 j = gB M 9 j) (m7 : ∀ j, j < 5 * t0 ∨ 5 * t0 + 5 ≤ j → gB M' 19 j = gB M 19 j) (th : Th w B' (cH S') M' t0) : Rel w B' S' M' := by
  have eT : nT M' = nT M := by unfold nT; rw [m1]
  have eK : kN M' = kN M := by funext t; unfold kN; rw [m2 6 (by omega)]
  have eS : sN M' = sN M := by funext t; unfold sN; rw [m2 7 (by omega)]
  have eF : fN M' = fN M := by funext t; unfold fN; rw [m2 8 (by omega)]
  have eV : ∀ i t, vld M' i t ↔ vld M i t := fun i t => by unfold vld; rw [eK]
  obtain ⟨r1, r2, r3, r4, r5, r6, r7, r8⟩ := R
  refine ⟨?_, ?_, ?_, ?_, ?_, ?_, ?_, ?_⟩
  · unfold rlNum; rw [c1, m4 3 (by omega)]; exact r1
  · unfold rlMea; rw [c1, m4 4 (by omega)]; exact r2
  · unfold rlSlt; rw [eT, m2 5 (by omega), c2]; exact r3
  · unfold rlCnt; rw [eT, m1, eF, eS, c1]; exact r4
  · obtain ⟨l1_, q1_, q2_, q3_, q4_⟩ := r5
    unfold rlLog
    rw [m1, m4 26 (by omega), c1]
    exact ⟨l1_, by omega, q2_, q3_, q4_⟩
  · unfold rlPlc; rw [eT, eF, eS]; exact r6
  · unfold rlSep
    rw [eT, c3, c4]
    exact ⟨fun i t h1 h2 h3 => r7.1 i t h1 h2 ((eV _ _).mp h3), fun i t j u h1 h2 h3 h4 h5 h6 h7 => r7.2.1 i t j u h1 h2 h3 h4 ((eV _ _).mp h5) ((eV _ _).mp h6) h7, r7.2.2⟩
  · intro t h1 h2
    rw [eT] at h2
    by_cases c : t = t0
    · subst c; exact th
    · refine Th_fr hB (Nat.le_of_eq eT.symm) ⟨h1, h2⟩ (fun _ _ _ _ => rfl) (fun u _ _ => by rw [m2 6 (by omega)]) (fun i hi => ?_) (by rw [m2 7 (by omega)]) (by rw [m2 8 (by omega)]) (m3 16 t (by omega) c) (m3 17 t (by omega) c) (m3 18 t (by omega) c) (m3 20 t (by omega) c) (m5 12 t (by omega) c) (m5 13 t (by omega) c) (m5 14 t (by omega) c) (m5 15 t (by omega) c) (fun i hi => m6 _ ?_) (fun i hi => m7 _ (by omega)) (r8 t h1 h2)
      · refine c5 _ (fun j hj e => c ?_)
        exact (r7.2.1 i t j t0 h1 h2 h0.1 h0.2 hi hj e).2
      · by_cases c6 : t < t0
        · have := r6 t t0 h1 c6 h0.2
          omega
        · have := r6 t0 t h0.1 (by omega) h2
          omega
end U
