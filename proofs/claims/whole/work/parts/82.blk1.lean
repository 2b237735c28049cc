/-! blocks: what control keeps -/
def cst (S S' : CS) : Prop := S'.2 = S.2 ∧ gB S'.1 = gB S.1 ∧ gI S'.1 7 = gI S.1 7 ∧ gI S'.1 8 = gI S.1 8
def mst (M M' : MS) : Prop := (∀ k, k = 10 ∨ k = 11 ∨ k = 27 → gI M' k = gI M k) ∧ (∀ k, k ≤ 20 → gA M' k = gA M k) ∧ ∀ k, k ≠ 36 → gB M' k = gB M k
theorem cst_refl (S : CS) : cst S S := ⟨rfl, rfl, rfl, rfl⟩
theorem mst_refl (M : MS) : mst M M := ⟨fun _ _ => rfl, fun _ _ => rfl, fun _ _ => rfl⟩
theorem cst_trans {S S1 S2 : CS} (h : cst S S1) (g : cst S1 S2) : cst S S2 := ⟨g.1.trans h.1, g.2.1.trans h.2.1, g.2.2.1.trans h.2.2.1, g.2.2.2.trans h.2.2.2⟩
theorem mst_trans {M M1 M2 : MS} (h : mst M M1) (g : mst M1 M2) : mst M M2 := ⟨fun k a => (g.1 k a).trans (h.1 k a), fun k a => (g.2.1 k a).trans (h.2.1 k a), fun k a => (g.2.2 k a).trans (h.2.2 k a)⟩
theorem cst_I {S : CS} {k : Nat} {v : Int32} (h : k ≠ 7) (h2 : k ≠ 8) : cst S (cpI S k v) := ⟨rfl, rfl, gI_pI_ne _ _ (fun q => h q.symm), gI_pI_ne _ _ (fun q => h2 q.symm)⟩
theorem mst_I {M : MS} {k : Nat} {v : Int32} (h : k ≠ 10) (h2 : k ≠ 11) (h3 : k ≠ 27) : mst M (pI M k v) := ⟨fun j hj => gI_pI_ne _ _ (by omega), fun _ _ => rfl, fun _ _ => rfl⟩
theorem mst_A {M : MS} {k i : Nat} {v : Int32} (h : 21 ≤ k) : mst M (pA M k i v) := ⟨fun _ _ => rfl, fun j hj => gA_pA_ne _ _ _ (by omega), fun _ _ => rfl⟩
theorem mst_B {M : MS} {i : Nat} {v : Int64} : mst M (pB M 36 i v) := ⟨fun _ _ => rfl, fun _ _ => rfl, fun j hj => gB_pB_ne _ _ _ hj⟩
theorem Rel_ctl {w : Nat → Nat → Nat} {B : Nat} {S S' : CS} {M M' : MS} (R : Rel w B S M) (c : cst S S') (m : mst M M') : Rel w B S' M' := by
  obtain ⟨c1, c2, c3, c4⟩ := c
  obtain ⟨m1, m2, m3⟩ := m
  have eT : nT M' = nT M := by unfold nT; rw [m1 10 (by omega)]
  have eK : kN M' = kN M := by funext t; unfold kN; rw [m2 6 (by omega)]
  have eS : sN M' = sN M := by funext t; unfold sN; rw [m2 7 (by omega)]
  have eF : fN M' = fN M := by funext t; unfold fN; rw [m2 8 (by omega)]
  have eV : ∀ i t, vld M' i t ↔ vld M i t := fun i t => by unfold vld; rw [eK]
  have eL : cLs S' = cLs S := by unfold cLs; rw [c1]
  have eZ : cSz S' = cSz S := by unfold cSz; rw [c1]
  have eH : cH S' = cH S := by unfold cH; rw [c1]
  have eSl : cSl S' = cSl S := by unfold cSl; rw [c1]
  obtain ⟨r1, r2, r3, r4, r5, r6, r7, r8⟩ := R
  refine ⟨?_, ?_, ?_, ?_, ?_, ?_, ?_, ?_⟩
  · unfold rlNum; rw [c2, m3 3 (by decide)]; exact r1
  · unfold rlMea; rw [c2, m3 4 (by decide)]; exact r2
  · unfold rlSlt; rw [eT, m2 5 (by omega), eSl]; exact r3
  · unfold rlCnt; rw [eT, m1 10 (by omega), m1 11 (by omega), eF, eS, c4]; exact r4
  · unfold rlLog; rw [m1 27 (by omega), m3 26 (by decide), c2, c3]; exact r5
  · unfold rlPlc; rw [eT, eF, eS]; exact r6
  · unfold rlSep
    rw [eT, eL, eZ]
    exact ⟨fun i t h1 h2 h3 => r7.1 i t h1 h2 ((eV _ _).mp h3), fun i t j u h1 h2 h3 h4 h5 h6 h7 => r7.2.1 i t j u h1 h2 h3 h4 ((eV _ _).mp h5) ((eV _ _).mp h6) h7, r7.2.2⟩
  · intro t h1 h2
    rw [eT] at h2
    rw [eH]
    exact Th_fr (Nat.le_refl _) (Nat.le_of_eq eT.symm) ⟨h1, h2⟩ (fun _ _ _ _ => rfl) (fun u _ _ => by rw [m2 6 (by omega)]) (fun _ _ => rfl) (by rw [m2 7 (by omega)]) (by rw [m2 8 (by omega)]) (by rw [m2 16 (by omega)]) (by rw [m2 17 (by omega)]) (by rw [m2 18 (by omega)]) (by rw [m2 20 (by omega)]) (by rw [m3 12 (by decide)]) (by rw [m3 13 (by decide)]) (by rw [m3 14 (by decide)]) (by rw [m3 15 (by decide)]) (fun i _ => by rw [m3 9 (by decide)]) (fun i _ => by rw [m3 19 (by decide)]) (r8 t h1 h2)
/-- orders, counts and the kept fault are one on both sides -/
def ctl (S : CS) (M : MS) : Prop := (∀ j, j < 400 → gA S.1 0 j = gA M 21 j ∧ gA S.1 1 j = gA M 22 j ∧ gA S.1 2 j = gA M 23 j ∧ gA S.1 3 j = gA M 24 j) ∧ (∃ n, n ≤ 400 ∧ gI S.1 4 = nI n ∧ gI M 25 = nI n) ∧ gI S.1 11 = gI M 39 ∧ (∃ f, f ≤ 2000 ∧ gI S.1 9 = nI f ∧ gI M 40 = nI f) ∧ (∃ k, k ≤ 9 ∧ gI S.1 13 = nI k ∧ gI M 43 = nI k ∧ (k ≠ 0 → gI S.1 14 = gI M 44))
theorem ctl_fr {S S' : CS} {M M' : MS} (h : ctl S M) (c : cfr S S') (m : mfr M M') : ctl S' M' := by
  obtain ⟨h1, h2, h3, h4, h5⟩ := h
  unfold ctl
  rw [c.2, c.1 4 (by decide) (by decide), c.1 11 (by decide) (by decide), c.1 9 (by decide) (by decide), c.1 13 (by decide) (by decide), c.1 14 (by decide) (by decide), m.2.1 21 (by decide), m.2.1 22 (by decide), m.2.1 23 (by decide), m.2.1 24 (by decide), m.1 25 (by decide) (by decide) (by decide), m.1 39 (by decide) (by decide) (by decide), m.1 40 (by decide) (by decide) (by decide), m.1 43 (by decide) (by decide) (by decide), m.1 44 (by decide) (by decide) (by decide)]
  exact ⟨h1, h2, h3, h4, h5⟩
/-- only fields that ctl doesn't tell of are changed -/
theorem ctl_eq {S S' : CS} {M M' : MS} (h : ctl S M) (c1 : gA S'.1 = gA S.1) (c2 : ∀ k, k = 4 ∨ k = 9 ∨ k = 11 ∨ k = 13 ∨ k = 14 → gI S'.1 k = gI S.1 k) (m1 : ∀ k, k = 21 ∨ k = 22 ∨ k = 23 ∨ k = 24 → gA M' k = gA M k) (m2 : ∀ k, k = 25 ∨ k = 39 ∨ k = 40 ∨ k = 43 ∨ k = 44 → gI M' k = gI M k) : ctl S' M' := by
  obtain ⟨h1, h2, h3, h4, h5⟩ := h
  unfold ctl
  rw [c1, c2 4 (by omega), c2 11 (by omega), c2 9 (by omega), c2 13 (by omega), c2 14 (by omega), m1 21 (by omega), m1 22 (by omega), m1 23 (by omega), m1 24 (by omega), m2 25 (by omega), m2 39 (by omega), m2 40 (by omega), m2 43 (by omega), m2 44 (by omega)]
  exact ⟨h1, h2, h3, h4, h5⟩
def Gd (B F : Nat) (S : CS) (M : MS) : Prop := (∃ w, Rel w B S M) ∧ ctl S M ∧ gI S.1 10 = nI F ∧ gI M 38 = nI F ∧ F ≤ 20000 ∧ B + F ≤ 2000000000
/-- one step at a block whose place is an order's: fuel is taken, the order is done, the place goes on -/
theorem step_go {M : MS} {d p n F : Nat} {o : Int32} (h41 : gI M 41 = (-1)) (hd : 1 ≤ d) (hd2 : d ≤ 40) (h37 : gI M 37 = nI d) (hat : gA M 29 (d - 1) = nI p) (hn : n ≤ 400) (h25 : gI M 25 = nI n) (hp : p < n) (h38 : gI M 38 = nI (F + 1)) (hF : F < 20000) (ho : gA M 21 p = o) : fX12_steps M = (if o = 0 then fX12_through (pA (pI (pI M 38 (nI F)) 39 (gI M 39 + 1)) 29 (d - 1) (nI (p + 1))) (nI (d - 1)) else Option.bind (fX12_does (pA (pI (pI M 38 (nI F)) 39 (gI M 39 + 1)) 29 (d - 1) (nI (p + 1))) (nI p)) (fun c93 => if c93.1 ≤ 0 then some c93.2 else (Option.bind (fX12_comes c93.2 c93.1 (nI p)) (fun c104 => some c104)))) := by
  have e1 : nI d - 1 = nI (d - 1) := pk_sub (a := d) (b := 1) (by omega)
  have eF : nI (F + 1) - 1 = nI F := pk_sub (a := F + 1) (b := 1) (by omega)
  have i : inb (nI (d - 1)) 40 = true := inb_nI (by omega) (by omega)
  unfold fX12_steps fX12_steps_7 fX12_steps_14 fX12_steps_56 fX12_steps_66 fX12_steps_76
  rw [h37, e1, if_pos (show inb (nI (d - 1)) (mlA 29) = true from i), ix_nI (by omega), hat, if_neg (nI_n0 (by omega)), h25, if_pos (show nI p < nI n from (nI_ltI (by omega) (by omega)).mpr hp), h38, if_neg (show ¬ nI (F + 1) = 0 from fun q => by have := (nI_inj (b := 0) (by omega) (by decide)).mp q; omega), eF, if_pos (show inb (nI (d - 1)) (mlA 29) = true from i), if_pos (show inb (nI (d - 1)) (mlA 29) = true from i)]
  have g29 : gA (pI (pI M 38 (nI F)) 39 (gI (pI M 38 (nI F)) 39 + 1)) 29 (d - 1) = nI p := hat
  have g39 : gI (pI M 38 (nI F)) 39 = gI M 39 := gI_pI_ne _ _ (by decide)
  rw [g29, g39, nI_1, ix_nI (by omega), if_pos (show inb (nI p) (mlA 21) = true from inb_nI (by omega) (by show p < 400; omega))]
  have g21 : gA (pA (pI (pI M 38 (nI F)) 39 (gI M 39 + 1)) 29 (d - 1) (nI (p + 1))) 21 p = o := by rw [gA_pA_ne _ _ _ (by decide)]; exact ho
  rw [g21]
  by_cases c : o = 0
  · rw [if_pos c, if_pos c]
    cases fX12_through (pA (pI (pI M 38 (nI F)) 39 (gI M 39 + 1)) 29 (d - 1) (nI (p + 1))) (nI (d - 1)) <;> rfl
  · rw [if_neg c, if_neg c]
/-- one step at a block whose place is no order's -/
theorem step_out {M : MS} {d : Nat} {v : Int32} {n : Nat} (hd : 1 ≤ d) (hd2 : d ≤ 40) (h37 : gI M 37 = nI d) (hat : gA M 29 (d - 1) = v) (h25 : gI M 25 = nI n) (hv : v < 0 ∨ nI n ≤ v) : fX12_steps M = fX12_through M (nI (d - 1)) := by
  have e1 : nI d - 1 = nI (d - 1) := pk_sub (a := d) (b := 1) (by omega)
  have i : inb (nI (d - 1)) 40 = true := inb_nI (by omega) (by omega)
  have e26 : fX12_steps_26 M (nI (d - 1)) = fX12_through M (nI (d - 1)) := by
    unfold fX12_steps_26
    cases fX12_through M (nI (d - 1)) <;> rfl
  unfold fX12_steps fX12_steps_7 fX12_steps_14
  rw [h37, e1, if_pos (show inb (nI (d - 1)) (mlA 29) = true from i), ix_nI (by omega), hat, h25, e26]
  by_cases c : v < 0
  · rw [if_pos c]
  · rw [if_neg c, if_neg (fun q => by
      rcases hv with h | h
      · exact c h
      · rw [Int32.lt_iff_toInt_lt] at q
        rw [Int32.le_iff_toInt_le] at h
        omega)]
/-- no fuel is left -/
theorem step_dry {M : MS} {d p n : Nat} (hd : 1 ≤ d) (hd2 : d ≤ 40) (h37 : gI M 37 = nI d) (hat : gA M 29 (d - 1) = nI p) (hn : n ≤ 400) (h25 : gI M 25 = nI n) (hp : p < n) (h38 : gI M 38 = 0) : fX12_steps M = some (pI M 41 10) := by
  have e1 : nI d - 1 = nI (d - 1) := pk_sub (a := d) (b := 1) (by omega)
  have i : inb (nI (d - 1)) 40 = true := inb_nI (by omega) (by omega)
  unfold fX12_steps fX12_steps_7 fX12_steps_14 fX12_steps_45
  rw [h37, e1, if_pos (show inb (nI (d - 1)) (mlA 29) = true from i), ix_nI (by omega), hat, if_neg (nI_n0 (by omega)), h25, if_pos (show nI p < nI n from (nI_ltI (by omega) (by omega)).mpr hp), h38, if_pos rfl]
