/-! the face: reset -/
section N
variable {w : Nat → Nat → Nat} {B : Nat} {S S' : CS} {M M' : MS}
theorem Rel_rst (R : Rel w B S M) (c1 : S'.2.2 = S.2.2) (c2 : ∀ i, i < 16 → cSl S' i = none) (c3 : ∀ i, i < 16 → gB S'.1 16 i = 0) (c4 : ∀ i, i < 16 → gB S'.1 17 i = 0) (c5 : gB S'.1 6 = gB S.1 6) (c6 : gI S'.1 7 = 0) (c7 : gI S'.1 8 = gI S.1 8) (m1 : ∀ i, i < 16 → gB M' 3 i = 0) (m2 : ∀ i, i < 16 → gB M' 4 i = 0) (m3 : ∀ i, i < 16 → gA M' 5 i = 0) (m4 : gI M' 27 = 0) (m5 : ∀ k, k = 10 ∨ k = 11 → gI M' k = gI M k) (m6 : ∀ k, k ≠ 5 → gA M' k = gA M k) (m7 : ∀ k, k ≠ 3 → k ≠ 4 → gB M' k = gB M k) : Rel w B S' M' := by
  have eT : nT M' = nT M := by unfold nT; rw [m5 10 (by omega)]
  have eK : kN M' = kN M := by funext t; unfold kN; rw [m6 6 (by decide)]
  have eS : sN M' = sN M := by funext t; unfold sN; rw [m6 7 (by decide)]
  have eF : fN M' = fN M := by funext t; unfold fN; rw [m6 8 (by decide)]
  have eV : ∀ i t, vld M' i t ↔ vld M i t := fun i t => by unfold vld; rw [eK]
  have eL : cLs S' = cLs S := by unfold cLs; rw [c1]
  have eZ : cSz S' = cSz S := by unfold cSz; rw [c1]
  have eH : cH S' = cH S := by unfold cH; rw [c1]
  obtain ⟨r1, r2, r3, r4, r5, r6, r7, r8⟩ := R
  refine ⟨fun i hi => ?_, fun i hi => ?_, fun i hi => ?_, ?_, ?_, ?_, ?_, ?_⟩
  · rw [c3 i hi, m1 i hi]
  · rw [c4 i hi, m2 i hi]; exact ⟨rfl, can64_0⟩
  · exact ⟨0, by omega, by rw [m3 i hi]; rfl, by rw [c2 i hi]; rfl⟩
  · unfold rlCnt; rw [eT, m5 10 (by omega), m5 11 (by omega), eF, eS, c7]; exact r4
  · obtain ⟨l1_, q1_, q2_, q3_, q4_⟩ := r5
    exact ⟨0, by omega, c6, m4, fun i hi => by rw [c5, m7 26 (by decide) (by decide)]; exact q4_ i hi⟩
  · unfold rlPlc; rw [eT, eF, eS]; exact r6
  · unfold rlSep
    rw [eT, eL, eZ]
    exact ⟨fun i t h1 h2 h3 => r7.1 i t h1 h2 ((eV _ _).mp h3), fun i t j u h1 h2 h3 h4 h5 h6 h7 => r7.2.1 i t j u h1 h2 h3 h4 ((eV _ _).mp h5) ((eV _ _).mp h6) h7, r7.2.2⟩
  · intro t h1 h2
    rw [eT] at h2
    rw [eH]
    exact Th_fr (Nat.le_refl _) (Nat.le_of_eq eT.symm) ⟨h1, h2⟩ (fun _ _ _ _ => rfl) (fun u _ _ => by rw [m6 6 (by decide)]) (fun _ _ => rfl) (by rw [m6 7 (by decide)]) (by rw [m6 8 (by decide)]) (by rw [m6 16 (by decide)]) (by rw [m6 17 (by decide)]) (by rw [m6 18 (by decide)]) (by rw [m6 20 (by decide)]) (by rw [m7 12 (by decide) (by decide)]) (by rw [m7 13 (by decide) (by decide)]) (by rw [m7 14 (by decide) (by decide)]) (by rw [m7 15 (by decide) (by decide)]) (fun i _ => by rw [m7 9 (by decide) (by decide)]) (fun i _ => by rw [m7 19 (by decide) (by decide)]) (r8 t h1 h2)
theorem fl_fill {k : Nat} (hk : clB k = 16) : ∀ (q i n : Nat) (S : CS), i + q = 16 → q < n → ∃ S', fJ7_fill_d0a16_6 n S k 0 (nI i) (nI 16) = some S' ∧ S'.2 = S.2 ∧ gI S'.1 = gI S.1 ∧ gA S'.1 = gA S.1 ∧ (∀ j, j ≠ k → gB S'.1 j = gB S.1 j) ∧ ∀ j, gB S'.1 k j = if i ≤ j ∧ j < 16 then 0 else gB S.1 k j := by
  intro q
  induction q with
  | zero =>
    intro i n S hi hn
    obtain ⟨n1, rfl⟩ : ∃ n1, n = n1 + 1 := ⟨n - 1, by omega⟩
    rw [fJ7_fill_d0a16_6, if_pos (show nI 16 ≤ nI i from (nI_leI (by omega) (by omega)).mpr (by omega))]
    exact ⟨S, rfl, rfl, rfl, rfl, fun _ _ => rfl, fun j => (if_neg (by omega)).symm⟩
  | succ q ih =>
    intro i n S hi hn
    obtain ⟨n1, rfl⟩ : ∃ n1, n = n1 + 1 := ⟨n - 1, by omega⟩
    rw [fJ7_fill_d0a16_6, if_neg (show ¬ nI 16 ≤ nI i from fun x => by have := (nI_leI (a := 16) (b := i) (by omega) (by omega)).mp x; omega), hk, if_pos (show inb (nI i) 16 = true from inb_nI (by omega) (by omega)), ix_nI (by omega)]
    unfold fJ7_fill_d0a16_16 fJ7_fill_d0a16_19
    rw [nI_1]
    obtain ⟨S', h1, h2, h3, h4, h5, h6⟩ := ih (i + 1) n1 (cpB S k i 0) (by omega) (by omega)
    refine ⟨S', h1, h2, h3, h4, fun j hj => ?_, fun j => ?_⟩
    · rw [h5 j hj]
      exact gB_pB_ne _ _ _ hj
    · rw [h6 j]
      have e : gB (cpB S k i 0).1 k j = if j = i then 0 else gB S.1 k j := gB_pB _ _ _ _ _
      rw [e]
      by_cases c : j = i
      · rw [if_neg (by omega), if_pos c, if_pos (by omega)]
      · by_cases c2 : i + 1 ≤ j ∧ j < 16
        · rw [if_pos c2, if_pos (by omega)]
        · rw [if_neg c2, if_neg c, if_neg (by omega)]
theorem em_loop : ∀ (q i n : Nat) (S : CS), i + q = 16 → q < n → ∃ S', fX7_empty_18 n S (nI i) = some S' ∧ S'.1 = S.1 ∧ S'.2.2 = S.2.2 ∧ ∀ j, cSl S' j = if i ≤ j ∧ j < 16 then none else cSl S j := by
  intro q
  induction q with
  | zero =>
    intro i n S hi hn
    obtain ⟨n1, rfl⟩ : ∃ n1, n = n1 + 1 := ⟨n - 1, by omega⟩
    rw [fX7_empty_18, if_pos (show 16 ≤ nI i from (nI_leI (a := 16) (by decide) (by omega)).mpr (by omega))]
    exact ⟨S, rfl, rfl, rfl, fun j => (if_neg (by omega)).symm⟩
  | succ q ih =>
    intro i n S hi hn
    obtain ⟨n1, rfl⟩ : ∃ n1, n = n1 + 1 := ⟨n - 1, by omega⟩
    rw [fX7_empty_18, if_neg (show ¬ 16 ≤ nI i from fun x => by have := (nI_leI (a := 16) (b := i) (by decide) (by omega)).mp x; omega), if_pos (show inb (nI i) 16 = true ∧ stK S none = true from ⟨inb_nI (by omega) (by omega), rfl⟩), ix_nI (by omega)]
    unfold fX7_empty_31 fX7_empty_34
    rw [nI_1]
    obtain ⟨S', h1, h2, h3, h4⟩ := ih (i + 1) n1 (cpS S i none) (by omega) (by omega)
    refine ⟨S', h1, h2, h3, fun j => ?_⟩
    rw [h4 j]
    have e : cSl (cpS S i none) j = if j = i then none else cSl S j := by
      show va_up (cSl S) i none j = _
      by_cases c : j = i
      · rw [if_pos c, c, up_eq]
      · rw [if_neg c, up_ne _ _ c]
    rw [e]
    by_cases c : j = i
    · rw [if_neg (by omega), if_pos c, if_pos (by omega)]
    · by_cases c2 : i + 1 ≤ j ∧ j < 16
      · rw [if_pos c2, if_pos (by omega)]
      · rw [if_neg c2, if_neg c, if_neg (by omega)]
def rsE (M : MS) : MS := pI (pI (pI (pI (pI M 25 0) 27 0) 45 0) 39 0) 42 (-1)
theorem rs_I (k : Nat) (h : k ≠ 25 ∧ k ≠ 27 ∧ k ≠ 45 ∧ k ≠ 39 ∧ k ≠ 42) : gI (rsE M) k = gI M k := by
  unfold rsE
  rw [gI_pI_ne _ _ h.2.2.2.2, gI_pI_ne _ _ h.2.2.2.1, gI_pI_ne _ _ h.2.2.1, gI_pI_ne _ _ h.2.1, gI_pI_ne _ _ h.1]
theorem rs_loop : ∀ (q i n : Nat) (M : MS), i + q = 16 → q < n → ∃ M', fX12_reset_7 n M (nI i) = some (rsE M') ∧ gI M' = gI M ∧ (∀ j, j ≠ 5 → gA M' j = gA M j) ∧ (∀ j, j ≠ 3 → j ≠ 4 → gB M' j = gB M j) ∧ (∀ j, gA M' 5 j = if i ≤ j ∧ j < 16 then 0 else gA M 5 j) ∧ (∀ j, gB M' 3 j = if i ≤ j ∧ j < 16 then 0 else gB M 3 j) ∧ ∀ j, gB M' 4 j = if i ≤ j ∧ j < 16 then 0 else gB M 4 j := by
  intro q
  induction q with
  | zero =>
    intro i n M hi hn
    obtain ⟨n1, rfl⟩ : ∃ n1, n = n1 + 1 := ⟨n - 1, by omega⟩
    rw [fX12_reset_7, if_pos (show 16 ≤ nI i from (nI_leI (a := 16) (by decide) (by omega)).mpr (by omega))]
    exact ⟨M, rfl, rfl, fun _ _ => rfl, fun _ _ _ => rfl, fun j => (if_neg (by omega)).symm, fun j => (if_neg (by omega)).symm, fun j => (if_neg (by omega)).symm⟩
  | succ q ih =>
    intro i n M hi hn
    obtain ⟨n1, rfl⟩ : ∃ n1, n = n1 + 1 := ⟨n - 1, by omega⟩
    have i16 : inb (nI i) 16 = true := inb_nI (by omega) (by omega)
    rw [fX12_reset_7, if_neg (show ¬ 16 ≤ nI i from fun x => by have := (nI_leI (a := 16) (b := i) (by decide) (by omega)).mp x; omega)]
    unfold fX12_reset_20 fX12_reset_27 fX12_reset_34 fX12_reset_37
    rw [if_pos (show inb (nI i) (mlB 3) = true from i16), if_pos (show inb (nI i) (mlB 4) = true from i16), if_pos (show inb (nI i) (mlA 5) = true from i16), ix_nI (by omega), nI_1]
    obtain ⟨M', h1, h2, h3, h4, h5, h6, h7⟩ := ih (i + 1) n1 (pA (pB (pB M 3 i 0) 4 i 0) 5 i 0) (by omega) (by omega)
    have pick : ∀ {α : Type} (j : Nat) (z x : α), (if i + 1 ≤ j ∧ j < 16 then z else if j = i then z else x) = if i ≤ j ∧ j < 16 then z else x := by
      intro α j z x
      by_cases c : j = i
      · rw [if_neg (by omega), if_pos c, if_pos (by omega)]
      · by_cases c2 : i + 1 ≤ j ∧ j < 16
        · rw [if_pos c2, if_pos (by omega)]
        · rw [if_neg c2, if_neg c, if_neg (by omega)]
    refine ⟨M', h1, h2, fun j hj => ?_, fun j hj hj2 => ?_, fun j => ?_, fun j => ?_, fun j => ?_⟩
    · rw [h3 j hj, gA_pA_ne _ _ _ hj]
      rfl
    · rw [h4 j hj hj2, gB_pA, gB_pB_ne _ _ _ hj2, gB_pB_ne _ _ _ hj]
    · rw [h5 j, gA_pA]
      exact pick j 0 _
    · rw [h6 j, gB_pA, gB_pB_ne _ _ _ (by decide), gB_pB]
      exact pick j 0 _
    · rw [h7 j, gB_pA, gB_pB, gB_pB_ne _ _ _ (by decide)]
      exact pick j 0 _
theorem sim_reset (h : Pb B S M) : ∃ S' M', fX11_reset S = some S' ∧ fX12_reset M = some M' ∧ Pb B S' M' ∧ nT M' = nT M := by
  obtain ⟨⟨w, R⟩, ⟨h1, h2, h3, h4, h5⟩, i⟩ := h
  obtain ⟨S1, a1, a2, a3, a4, a5, a6⟩ := fl_fill (k := 16) rfl 16 0 500 (cpI S 4 0) (by omega) (by omega)
  obtain ⟨S2, b1, b2, b3, b4, b5, b6⟩ := fl_fill (k := 17) rfl 16 0 500 S1 (by omega) (by omega)
  obtain ⟨S3, c1, c2, c3, c4⟩ := em_loop 16 0 20 S2 (by omega) (by omega)
  obtain ⟨M1, m1, m2, m3, m4, m5, m6, m7⟩ := rs_loop 16 0 20 (pI M 0 0) (by omega) (by omega)
  have ea : fJ7_fill_d0a16 (cpI S 4 0) 16 0 = some S1 := by
    unfold fJ7_fill_d0a16
    rw [if_pos (show cty 16 = 3 from rfl)]
    exact a1
  have eb : fJ7_fill_d0a16 S1 17 0 = some S2 := by
    unfold fJ7_fill_d0a16
    rw [if_pos (show cty 17 = 3 from rfl)]
    exact b1
  have ec : fX11_reset S = some (cpI (cpI (cpI (cpI S3 7 0) 11 0) 12 (-1)) 15 (-1)) := by
    unfold fX11_reset fX11_reset_5 fX7_empty
    rw [ea, Option.bind_some, eb, Option.bind_some]
    have c1' : fX7_empty_18 20 S2 0 = some S3 := c1
    rw [c1', Option.bind_some]
    rfl
  have eI : gI S3.1 = gI (cpI S 4 0).1 := by rw [c2, b3, a3]
  have eA : gA S3.1 = gA S.1 := by rw [c2, b4, a4]; rfl
  have cI : ∀ k, k ≠ 4 → k ≠ 7 → k ≠ 11 → k ≠ 12 → k ≠ 15 → gI (cpI (cpI (cpI (cpI S3 7 0) 11 0) 12 (-1)) 15 (-1)).1 k = gI S.1 k := by
    intro k k1 k2 k3 k4 k5
    show gI (pI (pI (pI (pI S3.1 7 0) 11 0) 12 (-1)) 15 (-1)) k = _
    rw [gI_pI_ne _ _ k5, gI_pI_ne _ _ k4, gI_pI_ne _ _ k3, gI_pI_ne _ _ k2, eI]
    exact gI_pI_ne _ _ k1
  have mI : ∀ k, k ≠ 0 → (k ≠ 25 ∧ k ≠ 27 ∧ k ≠ 45 ∧ k ≠ 39 ∧ k ≠ 42) → gI (rsE M1) k = gI M k := by
    intro k k0 k1
    rw [rs_I k k1, m2, gI_pI_ne _ _ k0]
  refine ⟨_, rsE M1, ec, m1, ⟨⟨w, ?_⟩, ⟨fun j hj => ?_, ⟨0, by omega, ?_, ?_⟩, ?_, ?_, ?_⟩, Or.inl ⟨gI_pI _ _ _, ?_⟩⟩, ?_⟩
  · refine Rel_rst R ?_ (fun j hj => ?_) (fun j hj => ?_) (fun j hj => ?_) ?_ ?_ (cI 8 (by decide) (by decide) (by decide) (by decide) (by decide)) (fun j hj => ?_) (fun j hj => ?_) (fun j hj => ?_) ?_ (fun k hk => mI k (by omega) (by omega)) (fun k hk => ?_) (fun k hk hk2 => ?_)
    · show S3.2.2 = S.2.2
      rw [c3, b2, a2]
      rfl
    · show cSl S3 j = none
      rw [c4 j, if_pos (by omega)]
    · show gB S3.1 16 j = 0
      rw [c2, b5 16 (by decide), a6 j, if_pos (by omega)]
    · show gB S3.1 17 j = 0
      rw [c2, b6 j, if_pos (by omega)]
    · show gB S3.1 6 = gB S.1 6
      rw [c2, b5 6 (by decide), a5 6 (by decide)]
      rfl
    · show gI (pI (pI (pI (pI S3.1 7 0) 11 0) 12 (-1)) 15 (-1)) 7 = _
      rw [gI_pI_ne _ _ (by decide), gI_pI_ne _ _ (by decide), gI_pI_ne _ _ (by decide), gI_pI]
    · show gB M1 3 j = 0
      rw [m6 j, if_pos (by omega)]
    · show gB M1 4 j = 0
      rw [m7 j, if_pos (by omega)]
    · show gA M1 5 j = 0
      rw [m5 j, if_pos (by omega)]
    · show gI (rsE M1) 27 = 0
      unfold rsE
      rw [gI_pI_ne _ _ (by decide), gI_pI_ne _ _ (by decide), gI_pI_ne _ _ (by decide), gI_pI]
    · show gA M1 k = gA M k
      rw [m3 k hk]
      rfl
    · show gB M1 k = gB M k
      rw [m4 k hk hk2]
      rfl
  · show gA S3.1 0 j = gA M1 21 j ∧ gA S3.1 1 j = gA M1 22 j ∧ gA S3.1 2 j = gA M1 23 j ∧ gA S3.1 3 j = gA M1 24 j
    rw [eA, m3 21 (by decide), m3 22 (by decide), m3 23 (by decide), m3 24 (by decide)]
    exact h1 j hj
  · show gI (pI (pI (pI (pI S3.1 7 0) 11 0) 12 (-1)) 15 (-1)) 4 = _
    rw [gI_pI_ne _ _ (by decide), gI_pI_ne _ _ (by decide), gI_pI_ne _ _ (by decide), gI_pI_ne _ _ (by decide), eI]
    exact gI_pI _ _ _
  · unfold rsE
    rw [gI_pI_ne _ _ (by decide), gI_pI_ne _ _ (by decide), gI_pI_ne _ _ (by decide), gI_pI_ne _ _ (by decide), gI_pI]
    rfl
  · have e1 : gI (cpI (cpI (cpI (cpI S3 7 0) 11 0) 12 (-1)) 15 (-1)).1 11 = 0 := by
      show gI (pI (pI (pI (pI S3.1 7 0) 11 0) 12 (-1)) 15 (-1)) 11 = _
      rw [gI_pI_ne _ _ (by decide), gI_pI_ne _ _ (by decide), gI_pI]
    have e2 : gI (rsE M1) 39 = 0 := by
      unfold rsE
      rw [gI_pI_ne _ _ (by decide), gI_pI]
    rw [e1, e2]
  · rw [cI 9 (by decide) (by decide) (by decide) (by decide) (by decide), mI 40 (by decide) (by decide)]
    exact h4
  · rw [cI 13 (by decide) (by decide) (by decide) (by decide) (by decide), cI 14 (by decide) (by decide) (by decide) (by decide) (by decide), mI 43 (by decide) (by decide), mI 44 (by decide) (by decide)]
    exact h5
  · unfold rsE
    rw [gI_pI_ne _ _ (by decide), gI_pI_ne _ _ (by decide), gI_pI]
  · unfold nT
    rw [mI 10 (by decide) (by decide)]
end N
