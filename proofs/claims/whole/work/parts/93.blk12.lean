/-! blocks: REPEAT, the reference's pieces -/
/-- a repeated block ends a turn -/
theorem thr_1 {M : MS} {d F : Nat} {T : Int64} (hd2 : d < 40) (h37 : gI M 37 = nI (d + 1)) (ht : gA M 28 d = 1) (hT : gB M 36 d = T) (hF : F ≤ 20000) (h38 : gI M 38 = nI F) : fX12_through M (nI d) = (if T - 1 = 0 then some (pI (pB M 36 d (T - 1)) 37 (nI d)) else if F = 0 then some (pI (pB M 36 d (T - 1)) 41 10) else some (pA (pI (pB M 36 d (T - 1)) 38 (nI (F - 1))) 29 d (gA M 30 d))) := by
  have i : inb (nI d) 40 = true := inb_nI (by omega) (by omega)
  have e1 : nI (d + 1) - 1 = nI d := pk_sub (a := d + 1) (b := 1) (by omega)
  have g36 : gB (pB M 36 d (T - 1)) 36 d = T - 1 := by rw [gB_pB, if_pos rfl]
  have g37 : gI (pB M 36 d (T - 1)) 37 = nI (d + 1) := h37
  have g38 : gI (pB M 36 d (T - 1)) 38 = nI F := h38
  unfold fX12_through fX12_through_46 fX12_through_67 fX12_through_83 fX12_through_96 fX12_through_108
  rw [if_pos (show inb (nI d) (mlA 28) = true from i), ix_nI (by omega), ht, if_pos (show (1 : Int32) = 1 from rfl), if_pos (show inb (nI d) (mlB 36) = true from i), if_pos (show inb (nI d) (mlB 36) = true from i), if_pos (show inb (nI d) (mlB 36) = true from i), hT, g36, g37, g38, e1]
  by_cases c : T - 1 = 0
  · rw [if_pos c, if_pos c]
  · rw [if_neg c, if_neg c]
    by_cases c2 : F = 0
    · subst c2
      rw [if_pos (show nI 0 = 0 from rfl), if_pos rfl]
    · rw [if_neg (show ¬ nI F = 0 from fun q => c2 ((nI_inj (b := 0) (by omega) (by decide)).mp q)), if_neg c2, show nI F - 1 = nI (F - 1) from pk_sub (a := F) (b := 1) (by omega), if_pos (show inb (nI d) (mlA 30) = true from i), if_pos (show inb (nI d) (mlA 29) = true from i)]
      rfl
def rpM (M : MS) (d F : Nat) (b : Int32) (T : Int64) : MS := pB (opM (pI M 38 (nI F)) d 1 b) 36 d T
/-- REPEAT's order, in the reference -/
theorem m_rep {M : MS} {d F : Nat} {a b c i : Int32} (hd : d ≤ 40) (h37 : gI M 37 = nI d) (hF : F ≤ 20000) (h38 : gI M 38 = nI F) : fX12_controls M 15 (a &&& 15) b c i = (if 0 < gB M 3 (ra a) then (if F = 0 then some (0, pI M 41 10) else if d = 40 then some (9, pI M 38 (nI (F - 1))) else some (0, rpM M d (F - 1) b (gB M 3 (ra a)))) else some (0, M)) := by
  have ea : gB M 3 (ix (a &&& 15)) = gB M 3 (ra a) := rfl
  unfold fX12_controls fX12_controls_8 fX12_controls_75
  rw [if_neg (show ¬ (15 : Int32) = 13 by decide), if_pos (show (15 : Int32) = 15 from rfl), if_pos (inb3 a), ea, h38]
  by_cases c1 : 0 < gB M 3 (ra a)
  · rw [if_pos c1, if_pos c1]
    by_cases c2 : F = 0
    · subst c2
      rw [if_pos (show nI 0 = 0 from rfl), if_pos rfl]
    · rw [if_neg (show ¬ nI F = 0 from fun q => c2 ((nI_inj (b := 0) (by omega) (by decide)).mp q)), if_neg c2, show nI F - 1 = nI (F - 1) from pk_sub (a := F) (b := 1) (by omega)]
      have g37 : gI (pI M 38 (nI (F - 1))) 37 = nI d := by rw [gI_pI_ne _ _ (by decide)]; exact h37
      unfold fX12_controls_87 fX12_controls_122 fX12_controls_344
      rw [g37]
      by_cases c3 : d = 40
      · rw [if_pos (show nI d = 40 by rw [c3]; rfl), if_pos c3]
      · have i40 : inb (nI d) 40 = true := inb_nI (by omega) (by omega)
        have e37 : gI (opM (pI M 38 (nI (F - 1))) d 1 b) 37 - 1 = nI d := by
          show gI (pI (pA (pA (pA (pA (pI M 38 (nI (F - 1))) 28 d 1) 29 d b) 30 d b) 34 d 0) 37 (nI (d + 1))) 37 - 1 = nI d
          rw [gI_pI]
          exact pk_sub (a := d + 1) (b := 1) (by omega)
        rw [if_neg (show ¬ nI d = 40 from fun q => c3 ((nI_inj (b := 40) (by omega) (by decide)).mp q)), if_neg c3, m_opens (by omega) g37, Option.bind_some, if_pos (inb3 a), e37, if_pos (show inb (nI d) (mlB 36) = true from i40), ix_nI (by omega)]
        rfl
  · rw [if_neg c1, if_neg c1]
