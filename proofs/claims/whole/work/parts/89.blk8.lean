/-! blocks: SCOPE -/
theorem br_inn2 {d F B F0 B0 n0 k0 s0 : Nat} {M M1 M2 : MS} {r : Int32} {S' : CS} {k s : Nat} (h : BR (d + 1) F B M2 r S' k s) (hF : F < F0) (hB : B + F ≤ B0 + F0) (h0 : rch n0 M M2) (hn : n0 ≤ 4 * (F0 - F)) (hA : stkA d M1 M2) (hO : oth M M2) (hT : nT M ≤ nT M2) (hk0 : k0 ≤ 3 * (nT M2 - nT M)) (hs0 : s0 ≤ 80 * (nT M2 - nT M)) (h37 : gI M2 37 = nI (d + 1)) : (r = 10 ∧ BR d F0 B0 M r S' (k + k0) (s + s0)) ∨ ∃ (n' F' B' : Nat) (M' : MS), F' ≤ F ∧ B' + F' ≤ B + F ∧ n' ≤ 4 * (F - F') ∧ nT M ≤ nT M' ∧ k + k0 ≤ 3 * (nT M' - nT M) ∧ s + s0 ≤ 80 * (nT M' - nT M) ∧ Gd B' F' S' M' ∧ oth M M' ∧ gI M' 41 = (-1) ∧ gI M' 37 = nI (d + 1) ∧ stkA d M1 M' ∧ (∀ j, 28 ≤ j → j ≤ 35 → j ≠ 29 → gA M' j d = gA M2 j d) ∧ ∃ M0, rch (n0 + n') M M0 ∧ gI M0 41 = (-1) ∧ ((r = 0 ∧ fX12_steps M0 = fX12_through M' (nI d)) ∨ (∃ z, 1 ≤ z ∧ z ≤ 9 ∧ r = nI z ∧ fX12_steps M0 = fX12_goesOn M' r (gI S'.1 12))) := by
  obtain ⟨m, F', B', M', a1, a2, a3, a4, a5, a6, a7, a8, a9⟩ := h
  rcases a9 with ⟨b1, b2, b3⟩ | ⟨b1, b2, M0, b3, b4, b5⟩
  · refine Or.inl ⟨b1, n0 + m, F', B', M', by omega, by omega, by omega, by omega, by omega, by omega, a7, oth_trans hO a8, Or.inl ⟨b1, ?_, b3⟩⟩
    rw [show n0 + m + 1 = n0 + (m + 1) by omega]
    exact rch_trans h0 b2
  · refine Or.inr ⟨m, F', B', M', a1, a2, a3, by omega, by omega, by omega, a7, oth_trans hO a8, b1, by rw [b2.2.2]; exact h37, stkA_trans hA (stkA_of b2), fun j j1 j2 j3 => b2.1 j d j1 j2 (by omega) (Or.inl j3), M0, rch_trans h0 b3, b4, ?_⟩
    rw [show d + 1 - 1 = d by omega] at b5
    exact b5
/-- a scope's first block ends: the second one is begun -/
theorem thr_3 {M : MS} {d : Nat} (hd2 : d < 40) (ht : gA M 28 d = 3) : fX12_through M (nI d) = some (pA (pA M 28 d 4) 29 d (gA M 33 d)) := by
  have i : inb (nI d) 40 = true := inb_nI (by omega) (by omega)
  have g33 : gA (pA M 28 d 4) 33 = gA M 33 := gA_pA_ne _ _ _ (by decide)
  unfold fX12_through fX12_through_118 fX12_through_130 fX12_through_193
  rw [if_pos (show inb (nI d) (mlA 28) = true from i), if_pos (show inb (nI d) (mlA 28) = true from i), if_pos (show inb (nI d) (mlA 33) = true from i), if_pos (show inb (nI d) (mlA 29) = true from i), ix_nI (by omega), ht, if_neg (show ¬ (3 : Int32) = 1 by decide), if_neg (show ¬ (3 : Int32) = 2 by decide), if_pos (show (3 : Int32) = 3 from rfl), g33]
/-- a scope's second block ends -/
theorem thr_4 {M : MS} {d : Nat} (hd2 : d < 40) (h37 : gI M 37 = nI (d + 1)) (ht : gA M 28 d = 4) : fX12_through M (nI d) = (if gA M 34 d ≤ 0 then some (pI M 37 (nI d)) else fX12_goesOn (pI M 37 (nI d)) (gA M 34 d) (gA M 35 d)) := by
  have i : inb (nI d) 40 = true := inb_nI (by omega) (by omega)
  have e1 : nI (d + 1) - 1 = nI d := pk_sub (a := d + 1) (b := 1) (by omega)
  unfold fX12_through fX12_through_143 fX12_through_193
  rw [if_pos (show inb (nI d) (mlA 28) = true from i), if_pos (show inb (nI d) (mlA 34) = true from i), if_pos (show inb (nI d) (mlA 34) = true from i), if_pos (show inb (nI d) (mlA 35) = true from i), ix_nI (by omega), ht, if_neg (show ¬ (4 : Int32) = 1 by decide), if_neg (show ¬ (4 : Int32) = 2 by decide), if_neg (show ¬ (4 : Int32) = 3 by decide), if_pos (show (4 : Int32) = 4 from rfl), h37, e1]
  have g34 : gA (pI M 37 (nI d)) 34 d = gA M 34 d := rfl
  have g35 : gA (pI M 37 (nI d)) 35 d = gA M 35 d := rfl
  rw [g34, g35]
  split
  · rfl
  · cases fX12_goesOn (pI M 37 (nI d)) (gA M 34 d) (gA M 35 d) <;> rfl
