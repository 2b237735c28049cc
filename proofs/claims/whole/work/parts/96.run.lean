/-! the face: run -/
def idl (S : CS) (M : MS) : Prop := (gI S.1 15 = (-1) ∧ gI M 45 = 0) ∨ (gI M 45 = 1 ∧ ∃ z, z ≤ 10 ∧ gI S.1 15 = nI z ∧ gI M 42 = (if 1 ≤ z ∧ z ≤ 9 then gI S.1 12 else (-1)))
/-- class and reference between two calls -/
def Pb (B : Nat) (S : CS) (M : MS) : Prop := (∃ w, Rel w B S M) ∧ ctl S M ∧ idl S M
theorem Pb_0 {B : Nat} {S : CS} {M : MS} {v : Int32} (h : Pb B S M) : Pb B S (pI M 0 v) := by
  obtain ⟨⟨w, R⟩, c, i⟩ := h
  refine ⟨⟨w, Rel_ctl R (cst_refl S) (mst_I (by decide) (by decide) (by decide))⟩, ctl_eq c rfl (fun _ _ => rfl) (fun _ _ => rfl) (fun k hk => gI_pI_ne _ _ (by omega)), ?_⟩
  unfold idl
  rw [gI_pI_ne M v (show 45 ≠ 0 by decide), gI_pI_ne M v (show 42 ≠ 0 by decide)]
  exact i
theorem Pb_B {B B' : Nat} {S : CS} {M : MS} (h : Pb B S M) (hb : B ≤ B') : Pb B' S M := by
  obtain ⟨⟨w, R⟩, c, i⟩ := h
  exact ⟨⟨w, Rel_B R hb⟩, c, i⟩
def rnS (S : CS) (v : Int32) : CS := cpI (cpI (cpI (cpI (cpI S 10 v) 11 0) 12 (-1)) 13 0) 14 (-1)
def rnM0 (M : MS) (v : Int32) : MS := pI (pI (pI (pI (pI (pI (pI (pI M 0 0) 38 v) 39 0) 41 (-1)) 42 (-1)) 43 0) 45 1) 37 0
def rnM (M : MS) (v : Int32) : MS := opM (rnM0 M v) 0 0 0
theorem rn_I {M : MS} {v : Int32} (k : Nat) (h : k ≠ 0 ∧ k ≠ 37 ∧ k ≠ 38 ∧ k ≠ 39 ∧ k ≠ 41 ∧ k ≠ 42 ∧ k ≠ 43 ∧ k ≠ 45) : gI (rnM M v) k = gI M k := by
  show gI (pI (rnM0 M v) 37 (nI (0 + 1))) k = _
  unfold rnM0
  rw [gI_pI_ne _ _ h.2.1, gI_pI_ne _ _ h.2.1, gI_pI_ne _ _ h.2.2.2.2.2.2.2, gI_pI_ne _ _ h.2.2.2.2.2.2.1, gI_pI_ne _ _ h.2.2.2.2.2.1, gI_pI_ne _ _ h.2.2.2.2.1, gI_pI_ne _ _ h.2.2.2.1, gI_pI_ne _ _ h.2.2.1, gI_pI_ne _ _ h.1]
theorem rn_J {M : MS} {v : Int32} (k : Nat) (h : k ≠ 37) : gI (rnM M v) k = gI (pI (pI (pI (pI (pI (pI (pI M 0 0) 38 v) 39 0) 41 (-1)) 42 (-1)) 43 0) 45 1) k := by
  show gI (pI (rnM0 M v) 37 (nI (0 + 1))) k = _
  unfold rnM0
  rw [gI_pI_ne _ _ h, gI_pI_ne _ _ h]
theorem rn_v {M : MS} {v : Int32} : gI (rnM M v) 38 = v ∧ gI (rnM M v) 39 = 0 ∧ gI (rnM M v) 41 = (-1) ∧ gI (rnM M v) 42 = (-1) ∧ gI (rnM M v) 43 = 0 ∧ gI (rnM M v) 45 = 1 := by
  refine ⟨?_, ?_, ?_, ?_, ?_, ?_⟩ <;> rw [rn_J _ (by decide)]
  · rw [gI_pI_ne _ _ (by decide), gI_pI_ne _ _ (by decide), gI_pI_ne _ _ (by decide), gI_pI_ne _ _ (by decide), gI_pI_ne _ _ (by decide), gI_pI]
  · rw [gI_pI_ne _ _ (by decide), gI_pI_ne _ _ (by decide), gI_pI_ne _ _ (by decide), gI_pI_ne _ _ (by decide), gI_pI]
  · rw [gI_pI_ne _ _ (by decide), gI_pI_ne _ _ (by decide), gI_pI_ne _ _ (by decide), gI_pI]
  · rw [gI_pI_ne _ _ (by decide), gI_pI_ne _ _ (by decide), gI_pI]
  · rw [gI_pI_ne _ _ (by decide), gI_pI]
  · rw [gI_pI]
theorem rn_A {M : MS} {v : Int32} (k : Nat) (h : k < 28) : gA (rnM M v) k = gA M k := by
  show gA (pA (pA (pA (pA (rnM0 M v) 28 0 0) 29 0 0) 30 0 0) 34 0 0) k = _
  rw [gA_pA_ne _ _ _ (by omega), gA_pA_ne _ _ _ (by omega), gA_pA_ne _ _ _ (by omega), gA_pA_ne _ _ _ (by omega)]
  rfl
theorem rn_f {M : MS} {v : Int32} : gA (rnM M v) 28 0 = 0 ∧ gA (rnM M v) 29 0 = 0 := by
  constructor
  · show gA (pA (pA (pA (pA (rnM0 M v) 28 0 0) 29 0 0) 30 0 0) 34 0 0) 28 0 = _
    rw [gA_pA_ne _ _ _ (by decide), gA_pA_ne _ _ _ (by decide), gA_pA_ne _ _ _ (by decide), gA_pA, if_pos rfl]
  · show gA (pA (pA (pA (pA (rnM0 M v) 28 0 0) 29 0 0) 30 0 0) 34 0 0) 29 0 = _
    rw [gA_pA_ne _ _ _ (by decide), gA_pA_ne _ _ _ (by decide), gA_pA, if_pos rfl]
theorem rn_c {S : CS} {v : Int32} (k : Nat) (h : k ≠ 10 ∧ k ≠ 11 ∧ k ≠ 12 ∧ k ≠ 13 ∧ k ≠ 14) : gI (rnS S v).1 k = gI S.1 k := by
  show gI (pI (pI (pI (pI (pI S.1 10 v) 11 0) 12 (-1)) 13 0) 14 (-1)) k = _
  rw [gI_pI_ne _ _ h.2.2.2.2, gI_pI_ne _ _ h.2.2.2.1, gI_pI_ne _ _ h.2.2.1, gI_pI_ne _ _ h.2.1, gI_pI_ne _ _ h.1]
theorem rn_cv {S : CS} {v : Int32} : gI (rnS S v).1 10 = v ∧ gI (rnS S v).1 11 = 0 ∧ gI (rnS S v).1 13 = 0 := by
  refine ⟨?_, ?_, ?_⟩
  · show gI (pI (pI (pI (pI (pI S.1 10 v) 11 0) 12 (-1)) 13 0) 14 (-1)) 10 = _
    rw [gI_pI_ne _ _ (by decide), gI_pI_ne _ _ (by decide), gI_pI_ne _ _ (by decide), gI_pI_ne _ _ (by decide), gI_pI]
  · show gI (pI (pI (pI (pI (pI S.1 10 v) 11 0) 12 (-1)) 13 0) 14 (-1)) 11 = _
    rw [gI_pI_ne _ _ (by decide), gI_pI_ne _ _ (by decide), gI_pI_ne _ _ (by decide), gI_pI]
  · show gI (pI (pI (pI (pI (pI S.1 10 v) 11 0) 12 (-1)) 13 0) 14 (-1)) 13 = _
    rw [gI_pI_ne _ _ (by decide), gI_pI]
theorem rn_Gd {B F : Nat} {S : CS} {M : MS} (h : Pb B S M) (hF : F ≤ 20000) (hB : B + 20000 ≤ 2000000000) : Gd B F (rnS S (nI F)) (rnM M (nI F)) := by
  obtain ⟨⟨w, R⟩, ⟨h1, h2, h3, h4, h5⟩, i⟩ := h
  refine ⟨⟨w, Rel_ctl R ?_ ?_⟩, ?_, rn_cv.1, rn_v.1, hF, by omega⟩
  · exact ⟨rfl, rfl, rn_c 7 (by decide), rn_c 8 (by decide)⟩
  · exact ⟨fun k hk => rn_I k (by omega), fun k hk => rn_A k (by omega), fun _ _ => rfl⟩
  · refine ⟨fun j hj => ?_, ?_, ?_, ?_, ?_⟩
    · rw [rn_A 21 (by decide), rn_A 22 (by decide), rn_A 23 (by decide), rn_A 24 (by decide)]
      exact h1 j hj
    · rw [rn_c 4 (by decide), rn_I 25 (by decide)]
      exact h2
    · rw [rn_cv.2.1, rn_v.2.1]
    · rw [rn_c 9 (by decide), rn_I 40 (by decide)]
      exact h4
    · exact ⟨0, by omega, rn_cv.2.2, rn_v.2.2.2.2.1, fun q => absurd rfl q⟩
/-- the outermost block is gone through -/
theorem thr_out {M : MS} (h37 : gI M 37 = nI 1) (ht : gA M 28 0 = 0) : fX12_through M (nI 0) = some (pI (pI M 37 0) 41 0) := by
  have i : inb (nI 0) 40 = true := inb_nI (by omega) (by omega)
  unfold fX12_through
  rw [if_pos (show inb (nI 0) (mlA 28) = true from i), ix_nI (by omega), ht, if_neg (show ¬ (0 : Int32) = 1 by decide), if_neg (show ¬ (0 : Int32) = 2 by decide), if_neg (show ¬ (0 : Int32) = 3 by decide), if_neg (show ¬ (0 : Int32) = 4 by decide)]
  unfold fX12_through_171 fX12_through_181
  rw [h37, show nI 1 - 1 = 0 by decide, gI_pI, if_pos rfl]
  rfl
theorem sim_run {B : Nat} {S : CS} {M : MS} (h : Pb B S M) (hB : B + 20000 ≤ 2000000000) (v : Int32) : ∃ r S' M' k s, fX11_run S v = some ((r, S'), k, s) ∧ fX12_run M v = some (r, M') ∧ Pb (B + 20000) S' M' ∧ nT M ≤ nT M' ∧ k ≤ 3 * (nT M' - nT M) ∧ s ≤ 80 * (nT M' - nT M) := by
  have none' : ∃ r S' M' k s, fX11_run_11 S = some ((r, S'), k, s) ∧ fX12_run_16 (pI M 0 0) = some (r, M') ∧ Pb (B + 20000) S' M' ∧ nT M ≤ nT M' ∧ k ≤ 3 * (nT M' - nT M) ∧ s ≤ 80 * (nT M' - nT M) := ⟨(-1), S, pI M 0 0, 0, 0, rfl, rfl, Pb_B (Pb_0 h) (by omega), Nat.le_refl (nT M), by omega, by omega⟩
  unfold fX11_run fX12_run fX12_run_5
  by_cases c1 : v < 0
  · rw [if_pos c1, if_pos c1]
    exact none'
  · rw [if_neg c1, if_neg c1]
    by_cases c2 : v ≤ 20000
    · rw [if_pos c2, if_pos c2]
      obtain ⟨F, hF, rfl⟩ : ∃ F, F ≤ 20000 ∧ v = nI F := by
        rcases ix_c v (n := 20001) (by omega) with ⟨F, h1, h2⟩ | ⟨h', _⟩
        · exact ⟨F, by omega, h2⟩
        · rcases h' with h' | h'
          · exact absurd h' c1
          · have h2 := h'.2
            rw [Int32.le_iff_toInt_le, nI_int (by omega)] at h2
            rw [Int32.le_iff_toInt_le, show (20000 : Int32).toInt = 20000 by decide] at c2
            omega
      have G := rn_Gd h hF hB
      obtain ⟨r, S', k, s, e1, b⟩ := blk_ok 40 1 (by omega) (by omega) (by omega) F B _ _ 0 G rn_v.2.2.1 (gI_pI (rnM0 M (nI F)) 37 (nI 1)) rn_f.2
      rw [show 40 + 1 = 41 from rfl, show nI 1 = 1 from rfl] at e1
      have ec : fX11_run_18 (cpI S 10 (nI F)) = some ((r, cpI S' 15 r), k, s) := by
        unfold fX11_run_18 fX11_run_23 fX11_run_28 fX11_run_33 fX11_run_38
        have e1' : blk 41 (cpI (cpI (cpI (cpI (cpI S 10 (nI F)) 11 0) 12 (-1)) 13 0) 14 (-1)) 0 1 = some ((r, S'), k, s) := e1
        rw [e1', Option.bind_some]
        unfold fX11_run_48
        rw [addD_some, Nat.zero_add, Nat.zero_add]
        have : gI (cpI S' 15 r).1 15 = r := gI_pI _ _ _
        simp only
        rw [this]
      have er : ∀ (n : Nat) (M2 : MS), rch n (rnM M (nI F)) M2 → n < 199999 → ¬ gI M2 41 = (-1) → fX12_run_23 (pI (pI M 0 0) 38 (nI F)) = some (gI M2 41, M2) := by
        intro n M2 h1 h2 h3
        unfold fX12_run_23 fX12_run_28 fX12_run_33 fX12_run_38 fX12_run_43 fX12_run_48 fX12_run_53
        have mo : fX12_opens (pI (pI (pI (pI (pI (pI (pI (pI M 0 0) 38 (nI F)) 39 0) 41 (-1)) 42 (-1)) 43 0) 45 1) 37 0) 0 0 = some (rnM M (nI F)) := m_opens (d := 0) (by omega) (gI_pI _ _ _)
        rw [mo, Option.bind_some, show 200000 = n + ((199999 - n) + 1) by omega, rch_run _ h1, fX12_run_59, if_neg h3]
      have hT : nT (rnM M (nI F)) = nT M := by unfold nT; rw [rn_I 10 (by decide)]
      obtain ⟨n, F', B', M', a1, a2, a3, a4, a5, a6, a7, a8, a9⟩ := b
      rw [hT] at a4 a5 a6
      have h45 : gI M' 45 = 1 := by rw [a8.1 45 (by omega)]; exact rn_v.2.2.2.2.2
      have h42 : gI M' 42 = (-1) := by rw [a8.1 42 (by omega)]; exact rn_v.2.2.2.1
      have fin : ∀ (M2 : MS) (z : Nat), mst M' M2 → (∀ k, k = 25 ∨ k = 39 ∨ k = 40 ∨ k = 43 ∨ k = 44 → gI M2 k = gI M' k) → (∀ k, k = 21 ∨ k = 22 ∨ k = 23 ∨ k = 24 → gA M2 k = gA M' k) → gI M2 45 = 1 → z ≤ 10 → r = nI z → gI M2 42 = (if 1 ≤ z ∧ z ≤ 9 then gI S'.1 12 else (-1)) → Pb (B + 20000) (cpI S' 15 r) M2 := by
        intro M2 z m1 m2 m3 m4 m5 m6 m7
        obtain ⟨⟨w', R'⟩, c', _⟩ := a7
        refine ⟨⟨w', Rel_B (Rel_ctl R' (cst_I (by decide) (by decide)) m1) (by omega)⟩, ctl_eq c' rfl (fun k hk => gI_pI_ne _ _ (by omega)) m3 m2, Or.inr ⟨m4, z, m5, ?_, ?_⟩⟩
        · have : gI (cpI S' 15 r).1 15 = r := gI_pI _ _ _
          rw [this, m6]
        · have : gI (cpI S' 15 r).1 12 = gI S'.1 12 := gI_pI_ne _ _ (by decide)
          rw [this, m7]
      rcases a9 with ⟨b1, b2, b3⟩ | ⟨b1, b2, M0, b3, b4, b5⟩
      · refine ⟨r, cpI S' 15 r, M', k, s, ec, ?_, fin M' 10 (mst_refl _) (fun _ _ => rfl) (fun _ _ => rfl) h45 (by omega) b1 (by rw [h42, if_neg (by omega)]), a4, a5, a6⟩
        rw [er (n + 1) M' b2 (by omega) (by rw [b3]; decide), b3, b1]
      · have g37 : gI M' 37 = nI 1 := by rw [b2.2.2]; exact gI_pI (rnM0 M (nI F)) 37 (nI 1)
        have g28 : gA M' 28 0 = 0 := by rw [b2.1 28 0 (by decide) (by decide) (by decide) (Or.inl (by decide))]; exact rn_f.1
        rcases b5 with ⟨z1, z2⟩ | ⟨z, z1, z2, z3, z4⟩
        · rw [show 1 - 1 = 0 from rfl, thr_out g37 g28] at z2
          have e41 : gI (pI (pI M' 37 0) 41 0) 41 = 0 := gI_pI _ _ _
          refine ⟨r, cpI S' 15 r, pI (pI M' 37 0) 41 0, k, s, ec, ?_, fin _ 0 (mst_trans (mst_I (k := 37) (by decide) (by decide) (by decide)) (mst_I (by decide) (by decide) (by decide))) (fun j hj => by rw [gI_pI_ne _ _ (by omega), gI_pI_ne _ _ (by omega)]) (fun _ _ => rfl) (by rw [gI_pI_ne _ _ (by decide), gI_pI_ne _ _ (by decide)]; exact h45) (by omega) z1 (by rw [gI_pI_ne _ _ (by decide), gI_pI_ne _ _ (by decide), h42, if_neg (by omega)]), a4, a5, a6⟩
          rw [er (n + 1) _ (rch_snoc b3 b4 z2) (by omega) (by rw [e41]; decide), e41, z1]
        · rw [go_up (d := 1) (by omega) (by omega) g37 (by show ¬ gA M' 28 0 = 3; rw [g28]; decide) (fun q => by have q' : gA M' 28 0 = 2 := q; rw [g28] at q'; exact absurd q' (by decide)), go_end (M := pI M' 37 (nI (1 - 1))) (gI_pI _ _ _)] at z4
          have e41 : gI (pI (pI (pI M' 37 (nI (1 - 1))) 41 r) 42 (gI S'.1 12)) 41 = r := by rw [gI_pI_ne _ _ (by decide), gI_pI]
          refine ⟨r, cpI S' 15 r, pI (pI (pI M' 37 (nI (1 - 1))) 41 r) 42 (gI S'.1 12), k, s, ec, ?_, fin _ z (mst_trans (mst_I (k := 37) (by decide) (by decide) (by decide)) (mst_trans (mst_I (k := 41) (by decide) (by decide) (by decide)) (mst_I (by decide) (by decide) (by decide)))) (fun j hj => by rw [gI_pI_ne _ _ (by omega), gI_pI_ne _ _ (by omega), gI_pI_ne _ _ (by omega)]) (fun _ _ => rfl) (by rw [gI_pI_ne _ _ (by decide), gI_pI_ne _ _ (by decide), gI_pI_ne _ _ (by decide)]; exact h45) (by omega) z3 (by rw [gI_pI, if_pos ⟨z1, z2⟩]), a4, a5, a6⟩
          rw [er (n + 1) _ (rch_snoc b3 b4 z4) (by omega) (by rw [e41, z3]; exact nI_nm (by omega)), e41]
    · rw [if_neg c2, if_neg c2]
      exact none'
