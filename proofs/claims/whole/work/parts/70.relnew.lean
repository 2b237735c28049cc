/-! a thing is made on both sides -/
section N
variable {w : Nat → Nat → Nat} {B : Nat} {S : CS} {M : MS}
theorem Rel_new {w' : Nat → Nat → Nat} {S' : CS} {M' : MS} {t tk tk' k n : Nat} (R : Rel w B S M) (ht : t = nT M + 1) (h4 : t ≤ 4000) (htk : gI M 11 = nI tk) (htk2 : tk < 2147483648) (k1 : tk + n ≤ tk') (k2 : tk' ≤ 64 * t) (i10 : gI M' 10 = nI t) (i11 : gI M' 11 = nI tk') (i27 : gI M' 27 = gI M 27) (m5 : gA M' 5 = gA M 5) (mA : ∀ j u, j = 6 ∨ j = 7 ∨ j = 8 ∨ j = 16 ∨ j = 17 ∨ j = 18 ∨ j = 20 → 1 ≤ u → u ≤ nT M → gA M' j u = gA M j u) (t6 : gA M' 6 t = nI k) (hk : k ≤ 16) (t7 : gA M' 7 t = nI n) (hn : n ≤ 64) (t8 : gA M' 8 t = nI tk) (mB : ∀ j, j = 3 ∨ j = 4 ∨ j = 26 → gB M' j = gB M j) (mC : ∀ j u, j = 12 ∨ j = 13 ∨ j = 14 ∨ j = 15 → 1 ≤ u → u ≤ nT M → gB M' j u = gB M j u) (m9 : ∀ j, j < tk → gB M' 9 j = gB M 9 j) (m19 : ∀ j, j < 5 * t → gB M' 19 j = gB M 19 j) (s16 : gB S'.1 16 = gB S.1 16) (s17 : gB S'.1 17 = gB S.1 17) (s6 : gB S'.1 6 = gB S.1 6) (s7 : gI S'.1 7 = gI S.1 7) (s8 : gI S'.1 8 = nI t) (sl : cSl S' = cSl S) (sL : ∀ a ∈ cLs S, a ∈ cLs S') (sZ : ∀ a ∈ cLs S', a < cSz S') (sH : ∀ a ∈ cLs S, cH S' a = cH S a) (wo : ∀ i u, 1 ≤ u → u ≤ nT M → w' i u = w i u) (wn : ∀ i, vld M' i t → w' i t ∈ cLs S' ∧ w' i t ∉ cLs S) (wi : ∀ i j, vld M' i t → vld M' j t → w' i t = w' j t → i = j) (th : Th w' B (cH S') M' t) : Rel w' B S' M' := by
  obtain ⟨r1, r2, r3, r4, r5, r6, r7, r8⟩ := R
  have eT : nT M' = t := by unfold nT; rw [i10, ix_nI (by omega)]
  have eK : ∀ u, 1 ≤ u → u ≤ nT M → kN M' u = kN M u := fun u g1 g2 => by unfold kN; rw [mA 6 u (by omega) g1 g2]
  have eS : ∀ u, 1 ≤ u → u ≤ nT M → sN M' u = sN M u := fun u g1 g2 => by unfold sN; rw [mA 7 u (by omega) g1 g2]
  have eF : ∀ u, 1 ≤ u → u ≤ nT M → fN M' u = fN M u := fun u g1 g2 => by unfold fN; rw [mA 8 u (by omega) g1 g2]
  have eV : ∀ i u, 1 ≤ u → u ≤ nT M → (vld M' i u ↔ vld M i u) := fun i u g1 g2 => by unfold vld; rw [eK u g1 g2]
  have nS : sN M' t = n := by unfold sN; rw [t7, ix_nI (by omega)]
  have nF : fN M' t = tk := by unfold fN; rw [t8, ix_nI htk2]
  obtain ⟨c1_, c2_, c3_, tk1_, c4_, c5_, c6_⟩ := r4
  have etk : tk1_ = tk := (nI_inj (by omega) htk2).mp (c5_.symm.trans htk)
  subst etk
  have eR : ∀ u, u ≤ nT M → rfn w' u = rfn w u := fun u h1 => by
    unfold rfn
    split
    · rfl
    · rw [wo 0 u (by omega) h1]
  refine ⟨?_, ?_, fun i hi => ?_, ⟨by rw [eT]; exact i10, by rw [eT]; exact h4, by rw [i10]; exact s8, tk', by rw [eT]; exact k2, i11, fun u g1 g2 => ?_⟩, ?_, fun u v g1 g2 g3 => ?_, ⟨fun i u g1 g2 g3 => ?_, fun i u j v g1 g2 g3 g4 g5 g6 g7 => ?_, sZ⟩, fun u g1 g2 => ?_⟩
  · unfold rlNum; rw [s16, mB 3 (by omega)]; exact r1
  · unfold rlMea; rw [s17, mB 4 (by omega)]; exact r2
  · obtain ⟨u, q1_, q2_, q3_⟩ := r3 i hi
    exact ⟨u, by omega, by rw [m5]; exact q2_, by rw [sl, eR u q1_]; exact q3_⟩
  · by_cases c : u = t
    · subst c; rw [nF, nS]; exact k1
    · rw [eF u g1 (by omega), eS u g1 (by omega)]
      have := c6_ u g1 (by omega)
      omega
  · obtain ⟨l1_, q1_, q2_, q3_, q4_⟩ := r5
    exact ⟨l1_, q1_, by rw [s7]; exact q2_, by rw [i27]; exact q3_, by rw [s6, mB 26 (by omega)]; exact q4_⟩
  · rw [eT] at g3
    by_cases c : v = t
    · subst c
      rw [nF, eF u g1 (by omega), eS u g1 (by omega)]
      exact c6_ u g1 (by omega)
    · rw [eF u g1 (by omega), eS u g1 (by omega), eF v (by omega) (by omega)]
      exact r6 u v g1 g2 (by omega)
  · rw [eT] at g2
    by_cases c : u = t
    · subst c; exact (wn i g3).1
    · rw [wo i u g1 (by omega)]
      exact sL _ (r7.1 i u g1 (by omega) ((eV i u g1 (by omega)).mp g3))
  · rw [eT] at g2 g4
    by_cases c : u = t
    · subst c
      by_cases d : v = u
      · subst d; exact ⟨wi i j g5 g6 g7, rfl⟩
      · exfalso
        rw [wo j v g3 (by omega)] at g7
        exact (wn i g5).2 (by rw [g7]; exact r7.1 j v g3 (by omega) ((eV j v g3 (by omega)).mp g6))
    · by_cases d : v = t
      · subst d
        exfalso
        rw [wo i u g1 (by omega)] at g7
        exact (wn j g6).2 (by rw [← g7]; exact r7.1 i u g1 (by omega) ((eV i u g1 (by omega)).mp g5))
      · rw [wo i u g1 (by omega), wo j v g3 (by omega)] at g7
        exact r7.2.1 i u j v g1 (by omega) g3 (by omega) ((eV i u g1 (by omega)).mp g5) ((eV j v g3 (by omega)).mp g6) g7
  · rw [eT] at g2
    by_cases c : u = t
    · subst c; exact th
    · have g2' : u ≤ nT M := by omega
      have hle := c6_ u g1 g2'
      exact Th_fr (Nat.le_refl _) (by omega) ⟨g1, g2'⟩ wo (fun v y1 y2 => mA 6 v (by omega) y1 y2) (fun i hi => sH _ (r7.1 i u g1 g2' hi)) (mA 7 u (by omega) g1 g2') (mA 8 u (by omega) g1 g2') (mA 16 u (by omega) g1 g2') (mA 17 u (by omega) g1 g2') (mA 18 u (by omega) g1 g2') (mA 20 u (by omega) g1 g2') (mC 12 u (by omega) g1 g2') (mC 13 u (by omega) g1 g2') (mC 14 u (by omega) g1 g2') (mC 15 u (by omega) g1 g2') (fun i hi => m9 _ (by omega)) (fun i hi => m19 _ (by omega)) (r8 u g1 g2')
/-- the reference's new thing -/
def nwM (M : MS) (t k : Nat) : MS := pA (pA (pA (pI M 10 (nI t)) 6 t (nI k)) 7 t 0) 8 t (gI M 11)
theorem m_newT (R : Rel w B S M) {t k : Nat} (ht : t = nT M + 1) (h4 : t ≤ 4000) : fX12_newThing M (nI k) = some (nI t, nwM M t k) := by
  have e10 : gI M 10 + 1 = nI t := by rw [R.2.2.2.1.1, nI_1, ht]
  have a : inb (nI t) 4001 = true := inb_nI (by omega) (by omega)
  unfold fX12_newThing fX12_newThing_10 fX12_newThing_20 fX12_newThing_30 fX12_newThing_43 nwM
  rw [e10]
  have g10 : gI (pI M 10 (nI t)) 10 = nI t := gI_pI _ _ _
  have g11 : gI (pI M 10 (nI t)) 11 = gI M 11 := gI_pI_ne _ _ (by decide)
  rw [gI_pA, gI_pA, gI_pA, g10, g11, if_pos (show inb (nI t) (mlA 6) = true from a), if_pos (show inb (nI t) (mlA 7) = true from a), if_pos (show inb (nI t) (mlA 8) = true from a), ix_nI (by omega)]
  show some (gI (pI M 10 (nI t)) 10, _) = _
  rw [g10]
theorem nw_A {t k : Nat} (j u : Nat) (h : u ≠ t) : gA (nwM M t k) j u = gA M j u := by
  unfold nwM
  have : ∀ (X : MS) (a : Nat) (v : Int32), gA (pA X a t v) j u = gA X j u := by
    intro X a v
    by_cases c : j = a
    · subst c; rw [gA_pA, if_neg h]
    · rw [gA_pA_ne _ _ _ c]
  rw [this, this, this]
  rfl
theorem nw_6 {t k : Nat} : gA (nwM M t k) 6 t = nI k := by
  unfold nwM
  rw [gA_pA_ne _ _ _ (by decide), gA_pA_ne _ _ _ (by decide), gA_pA, if_pos rfl]
theorem nw_7 {t k : Nat} : gA (nwM M t k) 7 t = 0 := by
  unfold nwM
  rw [gA_pA_ne _ _ _ (by decide), gA_pA, if_pos rfl]
theorem nw_8 {t k : Nat} : gA (nwM M t k) 8 t = gI M 11 := by
  unfold nwM
  rw [gA_pA, if_pos rfl]
theorem nw_An {t k j : Nat} (h : j ≠ 6) (h2 : j ≠ 7) (h3 : j ≠ 8) : gA (nwM M t k) j = gA M j := by
  unfold nwM
  rw [gA_pA_ne _ _ _ h3, gA_pA_ne _ _ _ h2, gA_pA_ne _ _ _ h]
  rfl
theorem nw_I {t k : Nat} : gI (nwM M t k) 10 = nI t ∧ ∀ j, j ≠ 10 → gI (nwM M t k) j = gI M j := ⟨show gI (pI M 10 (nI t)) 10 = nI t from gI_pI _ _ _, fun j h => show gI (pI M 10 (nI t)) j = gI M j from gI_pI_ne _ _ h⟩
theorem nw_B {t k : Nat} : gB (nwM M t k) = gB M := rfl
end N
