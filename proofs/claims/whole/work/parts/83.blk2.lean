/-! blocks: how a block ends, on both sides -/
def oth (M M' : MS) : Prop := (∀ k, k = 0 ∨ k = 25 ∨ k = 42 ∨ k = 45 → gI M' k = gI M k) ∧ ∀ k, k = 21 ∨ k = 22 ∨ k = 23 ∨ k = 24 → gA M' k = gA M k
theorem oth_refl (M : MS) : oth M M := ⟨fun _ _ => rfl, fun _ _ => rfl⟩
theorem oth_trans {M M1 M2 : MS} (h : oth M M1) (g : oth M1 M2) : oth M M2 := ⟨fun k a => (g.1 k a).trans (h.1 k a), fun k a => (g.2 k a).trans (h.2 k a)⟩
theorem oth_mfr {M M' : MS} (h : mfr M M') : oth M M' := ⟨fun k a => h.1 k (by omega) (by omega) (by omega), fun k a => h.2.1 k (by omega)⟩
theorem oth_I {M : MS} {k : Nat} {v : Int32} (h : k ≠ 0) (h2 : k ≠ 25) (h3 : k ≠ 42) (h4 : k ≠ 45) : oth M (pI M k v) := ⟨fun j hj => gI_pI_ne _ _ (by omega), fun _ _ => rfl⟩
/-- r is how the block at depth d ends, from M; 0: through (M' is the state that goes through), 10: stopped, else the fault that goes on from M' -/
def BR (d F B : Nat) (M : MS) (r : Int32) (S' : CS) (k s : Nat) : Prop := ∃ (n F' B' : Nat) (M' : MS), F' ≤ F ∧ B' + F' ≤ B + F ∧ n ≤ 4 * (F - F') ∧ nT M ≤ nT M' ∧ k ≤ 3 * (nT M' - nT M) ∧ s ≤ 80 * (nT M' - nT M) ∧ Gd B' F' S' M' ∧ oth M M' ∧ ((r = 10 ∧ rch (n + 1) M M' ∧ gI M' 41 = 10) ∨ (gI M' 41 = (-1) ∧ stk d M M' ∧ ∃ M0, rch n M M0 ∧ gI M0 41 = (-1) ∧ ((r = 0 ∧ fX12_steps M0 = fX12_through M' (nI (d - 1))) ∨ (∃ z, 1 ≤ z ∧ z ≤ 9 ∧ r = nI z ∧ fX12_steps M0 = fX12_goesOn M' r (gI S'.1 12)))))
/-- steps before, and then the rest of the block -/
theorem br_pre {d F B F2 B2 n2 : Nat} {M M2 : MS} {r : Int32} {S' : CS} {k s k2 s2 : Nat} (h1 : F2 < F) (h2 : B2 + F2 ≤ B + F) (h3 : rch n2 M M2) (h4 : n2 ≤ 4 * (F - F2)) (h5 : stk d M M2) (h6 : oth M M2) (h7 : nT M ≤ nT M2) (h8 : k2 ≤ 3 * (nT M2 - nT M)) (h9 : s2 ≤ 80 * (nT M2 - nT M)) (h : BR d F2 B2 M2 r S' k s) : BR d F B M r S' (k + k2) (s + s2) := by
  obtain ⟨n, F', B', M', a1, a2, a3, a4, a5, a6, a7, a8, a9⟩ := h
  refine ⟨n2 + n, F', B', M', by omega, by omega, by omega, by omega, by omega, by omega, a7, oth_trans h6 a8, ?_⟩
  rcases a9 with ⟨b1, b2, b3⟩ | ⟨b1, b2, M0, b3, b4, b5⟩
  · refine Or.inl ⟨b1, ?_, b3⟩
    rw [show n2 + n + 1 = n2 + (n + 1) by omega]
    exact rch_trans h3 b2
  · exact Or.inr ⟨b1, stk_trans h5 b2, M0, rch_trans h3 b3, b4, b5⟩
theorem Gd_ctl {B F F' : Nat} {S S' : CS} {M M' : MS} (h : Gd B F S M) (c : cst S S') (m : mst M M') (g : ctl S' M') (f1 : gI S'.1 10 = nI F') (f2 : gI M' 38 = nI F') (f3 : F' ≤ F) : Gd B F' S' M' := by
  obtain ⟨⟨w, R⟩, _, _, _, h5, h6⟩ := h
  exact ⟨⟨w, Rel_ctl R c m⟩, g, f1, f2, by omega, by omega⟩
/-- the state after fuel is taken for an order -/
def fuS (S : CS) (F : Nat) : CS := cpI (cpI S 10 (nI F)) 11 (gI S.1 11 + 1)
def fuM (M : MS) (F d p : Nat) : MS := pA (pI (pI M 38 (nI F)) 39 (gI M 39 + 1)) 29 (d - 1) (nI (p + 1))
theorem fu_I {M : MS} {F d p : Nat} (k : Nat) (h : k ≠ 38) (h2 : k ≠ 39) : gI (fuM M F d p) k = gI M k := by
  show gI (pI (pI M 38 (nI F)) 39 (gI M 39 + 1)) k = _
  rw [gI_pI_ne _ _ h2, gI_pI_ne _ _ h]
theorem fu_A {M : MS} {F d p : Nat} (k : Nat) (h : k ≠ 29) : gA (fuM M F d p) k = gA M k := by
  unfold fuM
  rw [gA_pA_ne _ _ _ h]
  rfl
theorem fu_at {M : MS} {F d p : Nat} : gA (fuM M F d p) 29 (d - 1) = nI (p + 1) := by
  unfold fuM
  rw [gA_pA, if_pos rfl]
theorem fu_stk {M : MS} {F d p : Nat} (hd : 1 ≤ d) : stk d M (fuM M F d p) := by
  refine ⟨fun k f a b c e => ?_, fun f a => rfl, fu_I 37 (by decide) (by decide)⟩
  by_cases h : k = 29
  · subst h
    unfold fuM
    rw [gA_pA, if_neg (by omega)]
    rfl
  · rw [fu_A k h]
theorem fu_oth {M : MS} {F d p : Nat} : oth M (fuM M F d p) := ⟨fun k hk => fu_I k (by omega) (by omega), fun k hk => fu_A k (by omega)⟩
theorem fu_T {M : MS} {F d p : Nat} : nT (fuM M F d p) = nT M := by unfold nT; rw [fu_I 10 (by decide) (by decide)]
theorem fu_Gd {B F d p : Nat} {S : CS} {M : MS} (h : Gd B (F + 1) S M) : Gd B F (fuS S F) (fuM M F d p) := by
  obtain ⟨h1, h2, h3, h4, h5⟩ := h.2.1
  refine Gd_ctl h (cst_trans (cst_I (k := 10) (by decide) (by decide)) (cst_I (by decide) (by decide))) (mst_trans (mst_I (k := 38) (by decide) (by decide) (by decide)) (mst_trans (mst_I (k := 39) (by decide) (by decide) (by decide)) (mst_A (by decide)))) ?_ ?_ ?_ (by omega)
  · refine ⟨fun j hj => ?_, ?_, ?_, ?_, ?_⟩
    · rw [fu_A 21 (by decide), fu_A 22 (by decide), fu_A 23 (by decide), fu_A 24 (by decide)]
      exact h1 j hj
    · rw [fu_I 25 (by decide) (by decide)]
      show ∃ n, n ≤ 400 ∧ gI (pI (pI S.1 10 _) 11 _) 4 = nI n ∧ _
      rw [gI_pI_ne _ _ (by decide), gI_pI_ne _ _ (by decide)]
      exact h2
    · show gI (pI (pI S.1 10 (nI F)) 11 (gI S.1 11 + 1)) 11 = gI (pI (pI M 38 (nI F)) 39 (gI M 39 + 1)) 39
      rw [gI_pI, gI_pI, h3]
    · rw [fu_I 40 (by decide) (by decide)]
      show ∃ f, f ≤ 2000 ∧ gI (pI (pI S.1 10 _) 11 _) 9 = nI f ∧ _
      rw [gI_pI_ne _ _ (by decide), gI_pI_ne _ _ (by decide)]
      exact h4
    · rw [fu_I 43 (by decide) (by decide), fu_I 44 (by decide) (by decide)]
      show ∃ k, k ≤ 9 ∧ gI (pI (pI S.1 10 _) 11 _) 13 = nI k ∧ _ ∧ (k ≠ 0 → gI (pI (pI S.1 10 _) 11 _) 14 = _)
      rw [gI_pI_ne _ _ (by decide), gI_pI_ne _ _ (by decide), gI_pI_ne _ _ (by decide), gI_pI_ne _ _ (by decide)]
      exact h5
  · show gI (pI (pI S.1 10 (nI F)) 11 (gI S.1 11 + 1)) 10 = _
    rw [gI_pI_ne _ _ (by decide), gI_pI]
  · show gI (pI (pI M 38 (nI F)) 39 (gI M 39 + 1)) 38 = _
    rw [gI_pI_ne _ _ (by decide), gI_pI]
theorem c_fuel {S : CS} {F : Nat} (hF : F < 20000) (h : gI S.1 10 = nI (F + 1)) : fX11_takeFuel S = some (1, cpI S 10 (nI F)) := by
  unfold fX11_takeFuel fX11_takeFuel_19
  rw [h, if_pos (show (0 : Int32) < nI (F + 1) from (nI_ltI (a := 0) (by decide) (by omega)).mpr (by omega)), show nI (F + 1) - 1 = nI F from pk_sub (a := F + 1) (b := 1) (by omega)]
theorem c_dry {S : CS} (h : gI S.1 10 = nI 0) : fX11_takeFuel S = some (0, S) := by
  unfold fX11_takeFuel
  rw [h, if_neg (by decide)]
/-- a fault comes at an order, or there are too many of them -/
theorem br_raise {d F B p z : Nat} {S : CS} {M0 M : MS} (hz : 1 ≤ z ∧ z ≤ 9) (G : Gd B F S M) (h41 : gI M 41 = (-1)) (h0 : gI M0 41 = (-1)) (hs : fX12_steps M0 = Option.bind (fX12_comes M (nI z) (nI p)) (fun c104 => some c104)) (st : stk d M0 M) (ot : oth M0 M) {F0 B0 k s : Nat} (hF : F < F0) (hB : B + F ≤ B0 + F0) (hT : nT M0 ≤ nT M) (hk : k ≤ 3 * (nT M - nT M0)) (hq : s ≤ 80 * (nT M - nT M0)) : ∃ r S', fX11_raise S (nI z) (nI p) = some (r, S') ∧ ¬ r = 0 ∧ BR d F0 B0 M0 r S' k s := by
  obtain ⟨f1, f2, f3, f4⟩ := G.2.1.2.2.2.1
  have hfa : fX11_isFault (nI z) = 1 := by
    unfold fX11_isFault
    rw [if_neg (fun q => by have := (nI_ltI (a := z) (b := 1) (by omega) (by decide)).mp q; omega), if_neg (fun q => by have := (nI_ltI (a := 9) (b := z) (by decide) (by omega)).mp q; omega)]
  unfold fX11_raise fX11_raise_32 fX11_raise_37
  rw [hfa, if_neg (show ¬ (1 : Int32) = 0 by decide), f3]
  unfold fX12_comes fX12_comes_16 fX12_comes_27 at hs
  rw [f4] at hs
  have el : nI f1 < 2000 ↔ f1 < 2000 := nI_ltI (b := 2000) (by omega) (by decide)
  have ee : nI f1 = 2000 ↔ f1 = 2000 := nI_inj (b := 2000) (by omega) (by decide)
  by_cases c : f1 < 2000
  · rw [if_pos (el.mpr c), nI_1]
    rw [if_neg (fun q => by have := ee.mp q; omega), nI_1] at hs
    refine ⟨nI z, _, rfl, fun q => by have := (nI_inj (a := z) (b := 0) (by omega) (by decide)).mp q; omega, 0, F, B, pI M 40 (nI (f1 + 1)), by omega, by omega, by omega, hT, hk, hq, ?_, oth_trans ot (oth_I (by decide) (by decide) (by decide) (by decide)), Or.inr ⟨by rw [gI_pI_ne _ _ (by decide)]; exact h41, stk_trans st ⟨fun _ _ _ _ _ _ => rfl, fun _ _ => rfl, gI_pI_ne _ _ (by decide)⟩, M0, rfl, h0, Or.inr ⟨z, hz.1, hz.2, rfl, ?_⟩⟩⟩
    · obtain ⟨g1, g2, g3, g4, g5⟩ := G.2.1
      refine Gd_ctl G (cst_trans (cst_I (k := 9) (by decide) (by decide)) (cst_I (by decide) (by decide))) (mst_I (by decide) (by decide) (by decide)) ?_ ?_ ?_ (Nat.le_refl _)
      · refine ⟨g1, ?_, ?_, ⟨f1 + 1, by omega, ?_, gI_pI _ _ _⟩, ?_⟩
        · rw [gI_pI_ne _ _ (by decide)]
          show ∃ n, n ≤ 400 ∧ gI (pI (pI S.1 9 _) 12 _) 4 = nI n ∧ _
          rw [gI_pI_ne _ _ (by decide), gI_pI_ne _ _ (by decide)]
          exact g2
        · rw [gI_pI_ne _ _ (by decide)]
          show gI (pI (pI S.1 9 _) 12 _) 11 = _
          rw [gI_pI_ne _ _ (by decide), gI_pI_ne _ _ (by decide)]
          exact g3
        · show gI (pI (pI S.1 9 _) 12 _) 9 = _
          rw [gI_pI_ne _ _ (by decide), gI_pI]
        · rw [gI_pI_ne M _ (show 43 ≠ 40 by decide), gI_pI_ne M _ (show 44 ≠ 40 by decide)]
          show ∃ k, k ≤ 9 ∧ gI (pI (pI S.1 9 _) 12 _) 13 = nI k ∧ _ ∧ (k ≠ 0 → gI (pI (pI S.1 9 _) 12 _) 14 = _)
          rw [gI_pI_ne _ _ (by decide), gI_pI_ne _ _ (by decide), gI_pI_ne _ _ (by decide), gI_pI_ne _ _ (by decide)]
          exact g5
      · show gI (pI (pI S.1 9 _) 12 _) 10 = _
        rw [gI_pI_ne _ _ (by decide), gI_pI_ne _ _ (by decide)]
        exact G.2.2.1
      · rw [gI_pI_ne _ _ (by decide)]
        exact G.2.2.2.1
    · have e12 : gI (cpI (cpI S 9 (nI (f1 + 1))) 12 (nI p)).1 12 = nI p := gI_pI _ _ _
      rw [e12, hs]
      cases fX12_goesOn (pI M 40 (nI (f1 + 1))) (nI z) (nI p) <;> rfl
  · rw [if_neg (fun q => c (el.mp q))]
    rw [if_pos (ee.mpr (by omega)), Option.bind_some] at hs
    refine ⟨10, _, rfl, by decide, 0, F, B, pI M 41 10, by omega, by omega, by omega, hT, hk, hq, ?_, oth_trans ot (oth_I (by decide) (by decide) (by decide) (by decide)), Or.inl ⟨rfl, rch_1 h0 hs, gI_pI _ _ _⟩⟩
    exact Gd_ctl G (cst_refl S) (mst_I (by decide) (by decide) (by decide)) (ctl_eq G.2.1 rfl (fun _ _ => rfl) (fun _ _ => rfl) (fun k hk => gI_pI_ne _ _ (by omega))) G.2.2.1 (by rw [gI_pI_ne _ _ (by decide)]; exact G.2.2.2.1) (Nat.le_refl _)
