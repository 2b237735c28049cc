/-! any plain order -/
theorem addD_0 {α : Type} (x : Option (α × Nat × Nat)) : addD 0 0 x = x := by cases x <;> rfl
section N
variable {w : Nat → Nat → Nat} {B : Nat} {S : CS} {M : MS}
def PlR (B : Nat) (S : CS) (M : MS) (rB : CS → Int32 → Int32 → Option ((Int32 × CS) × Nat × Nat)) (i : Int32) (X : Option ((Int32 × CS) × Nat × Nat)) (Y : Option (Int32 × MS)) : Prop := ∃ (r : Nat) (w' : Nat → Nat → Nat) (S' : CS) (M' : MS) (k q : Nat), r ≤ 9 ∧ X = addD k q (fX11_doOrder_231 rB S' i (nI r)) ∧ Y = some (nI r, M') ∧ Rel w' (B + 1) S' M' ∧ cfr S S' ∧ mfr M M' ∧ nT M ≤ nT M' ∧ k ≤ 3 * (nT M' - nT M) ∧ q ≤ 80 * (nT M' - nT M)
theorem plr_s {rB : CS → Int32 → Int32 → Option ((Int32 × CS) × Nat × Nat)} {i : Int32} {c : Option (Int32 × CS)} {m : Option (Int32 × MS)} (h : Sim w B S M c m) : PlR B S M rB i (Option.bind c (fun c76 => fX11_doOrder_231 rB c76.2 i c76.1)) (Option.bind m (fun y => some (y.1, y.2))) := by
  obtain ⟨r1_, S1_, M1_, q1_, q2_, q3_, q4_, q5_, q6_, q7_⟩ := h
  exact ⟨r1_, w, S1_, M1_, 0, 0, q1_, by rw [q2_, addD_0]; rfl, by rw [q3_]; rfl, q4_, q5_, q6_, by omega, by omega, by omega⟩
theorem plr_a {rB : CS → Int32 → Int32 → Option ((Int32 × CS) × Nat × Nat)} {i : Int32} {c : Option ((Int32 × CS) × Nat × Nat)} {m : Option (Int32 × MS)} (h : SimA B S M c m) : PlR B S M rB i (Option.bind c (fun c76 => addD c76.2.1 c76.2.2 (fX11_doOrder_231 rB c76.1.2 i c76.1.1))) (Option.bind m (fun y => some (y.1, y.2))) := by
  obtain ⟨r1_, w1_, S1_, M1_, k1_, p1_, q1_, q2_, q3_, q4_⟩ := h
  exact ⟨r1_, w1_, S1_, M1_, k1_, p1_, q1_, by rw [q2_]; rfl, by rw [q3_]; rfl, q4_⟩
theorem plr_2 {rB : CS → Int32 → Int32 → Option ((Int32 × CS) × Nat × Nat)} {i : Int32} (R : Rel w B S M) {X : Option ((Int32 × CS) × Nat × Nat)} {Y : Option (Int32 × MS)} (hX : X = fX11_doOrder_231 rB S i 2) (hY : Y = some (2, M)) : PlR B S M rB i X Y := ⟨2, w, S, M, 0, 0, by decide, by rw [hX, addD_0]; rfl, hY, Rel_B R (by omega), cfr_refl S, mfr_refl M, by omega, by omega, by omega⟩
theorem sim_plain (R : Rel w B S M) (hB : B < 2147483647) (rB : CS → Int32 → Int32 → Option ((Int32 × CS) × Nat × Nat)) (i : Int32) {o : Int32} (a b c : Int32) (hz : o.toInt < 0 ∨ (1 ≤ o.toInt ∧ o.toInt ≤ 12) ∨ (18 ≤ o.toInt ∧ o.toInt ≠ 19)) : PlR B S M rB i (fX11_doOrder_62 rB S i o a b c) (fX12_does_30 M i o a b c) := by
  have e0 : (0 : Int32).toInt = 0 := by decide
  have e1 : (1 : Int32).toInt = 1 := by decide
  have e12 : (12 : Int32).toInt = 12 := by decide
  have e13 : (13 : Int32).toInt = 13 := by decide
  have e14 : (14 : Int32).toInt = 14 := by decide
  have e17 : (17 : Int32).toInt = 17 := by decide
  have e18 : (18 : Int32).toInt = 18 := by decide
  have e22 : (22 : Int32).toInt = 22 := by decide
  have e24 : (24 : Int32).toInt = 24 := by decide
  have e34 : (34 : Int32).toInt = 34 := by decide
  have e40 : (40 : Int32).toInt = 40 := by decide
  have e47 : (47 : Int32).toInt = 47 := by decide
  have e48 : (48 : Int32).toInt = 48 := by decide
  have e58 : (58 : Int32).toInt = 58 := by decide
  have e64 : (64 : Int32).toInt = 64 := by decide
  have e74 : (74 : Int32).toInt = 74 := by decide
  have e80 : (80 : Int32).toInt = 80 := by decide
  have e84 : (84 : Int32).toInt = 84 := by decide
  have e88 : (88 : Int32).toInt = 88 := by decide
  have e92 : (92 : Int32).toInt = 92 := by decide
  unfold fX11_doOrder_62 fX11_doOrder_215 fX11_doOrder_143
  by_cases z0 : o.toInt < 0
  · rw [if_neg (show ¬ 14 ≤ o by simp only [Int32.lt_iff_toInt_lt, Int32.le_iff_toInt_le]; omega)]
    exact plr_2 R (by rw [k_num a b c z0]; rfl) (d_30 i a b c (by omega) (by omega))
  by_cases z1 : o.toInt ≤ 12
  · unfold fX12_does_30
    rw [if_neg (show ¬ 14 ≤ o by simp only [Int32.lt_iff_toInt_lt, Int32.le_iff_toInt_le]; omega), if_neg (show ¬ o ≤ 0 by simp only [Int32.lt_iff_toInt_lt, Int32.le_iff_toInt_le]; omega), if_neg (show ¬ 13 ≤ o by simp only [Int32.lt_iff_toInt_lt, Int32.le_iff_toInt_le]; omega)]
    exact plr_s (sim_reckon R (show 0 < o by simp only [Int32.lt_iff_toInt_lt, Int32.le_iff_toInt_le]; omega) (show o < 13 by simp only [Int32.lt_iff_toInt_lt, Int32.le_iff_toInt_le]; omega) a b c)
  rw [if_pos (show 14 ≤ o by simp only [Int32.lt_iff_toInt_lt, Int32.le_iff_toInt_le]; omega)]
  by_cases z2 : o.toInt < 22
  · unfold fX12_does_30 fX12_does_54
    rw [if_neg (show ¬ 24 ≤ o by simp only [Int32.lt_iff_toInt_lt, Int32.le_iff_toInt_le]; omega), if_neg (show ¬ o ≤ 0 by simp only [Int32.lt_iff_toInt_lt, Int32.le_iff_toInt_le]; omega), if_pos (show 13 ≤ o by simp only [Int32.lt_iff_toInt_lt, Int32.le_iff_toInt_le]; omega), if_neg (show ¬ o ≤ 12 by simp only [Int32.lt_iff_toInt_lt, Int32.le_iff_toInt_le]; omega), if_neg (show ¬ 22 ≤ o by simp only [Int32.lt_iff_toInt_lt, Int32.le_iff_toInt_le]; omega)]
    have hz3 : o.toInt = 18 ∨ o.toInt = 20 ∨ o.toInt = 21 := by omega
    have ho : o = 18 ∨ o = 20 ∨ o = 21 := by
      rcases hz3 with h9 | h9 | h9 <;> have h8 := o_int _ h9 <;> rw [h8] <;> decide
    exact plr_s (sim_rol R hB ho a b c i)
  by_cases z3 : o.toInt < 24
  · rw [if_neg (show ¬ 24 ≤ o by simp only [Int32.lt_iff_toInt_lt, Int32.le_iff_toInt_le]; omega)]
    exact plr_2 R (by rw [k_rol a (by omega)]; rfl) (d_30 i a b c (by omega) (by omega))
  rw [if_pos (show 24 ≤ o by simp only [Int32.lt_iff_toInt_lt, Int32.le_iff_toInt_le]; omega)]
  by_cases z4 : o.toInt ≤ 34
  · unfold fX12_does_30 fX12_does_54 fX12_does_81
    rw [if_neg (show ¬ 40 ≤ o by simp only [Int32.lt_iff_toInt_lt, Int32.le_iff_toInt_le]; omega), if_neg (show ¬ o ≤ 0 by simp only [Int32.lt_iff_toInt_lt, Int32.le_iff_toInt_le]; omega), if_pos (show 13 ≤ o by simp only [Int32.lt_iff_toInt_lt, Int32.le_iff_toInt_le]; omega), if_neg (show ¬ o ≤ 12 by simp only [Int32.lt_iff_toInt_lt, Int32.le_iff_toInt_le]; omega), if_pos (show 22 ≤ o by simp only [Int32.lt_iff_toInt_lt, Int32.le_iff_toInt_le]; omega), if_neg (show ¬ o < 24 by simp only [Int32.lt_iff_toInt_lt, Int32.le_iff_toInt_le]; omega), if_neg (show ¬ 34 < o by simp only [Int32.lt_iff_toInt_lt, Int32.le_iff_toInt_le]; omega)]
    exact plr_s (sim_measure R (show 24 ≤ o by simp only [Int32.lt_iff_toInt_lt, Int32.le_iff_toInt_le]; omega) (show o ≤ 34 by simp only [Int32.lt_iff_toInt_lt, Int32.le_iff_toInt_le]; omega) a b c)
  by_cases z5 : o.toInt < 40
  · rw [if_neg (show ¬ 40 ≤ o by simp only [Int32.lt_iff_toInt_lt, Int32.le_iff_toInt_le]; omega)]
    exact plr_2 R (by rw [k_mea a b c (by omega)]; rfl) (d_30 i a b c (by omega) (by omega))
  rw [if_pos (show 40 ≤ o by simp only [Int32.lt_iff_toInt_lt, Int32.le_iff_toInt_le]; omega)]
  by_cases z6 : o.toInt ≤ 47
  · unfold fX12_does_30 fX12_does_54 fX12_does_81 fX12_does_107
    rw [if_neg (show ¬ 48 ≤ o by simp only [Int32.lt_iff_toInt_lt, Int32.le_iff_toInt_le]; omega), if_neg (show ¬ o ≤ 0 by simp only [Int32.lt_iff_toInt_lt, Int32.le_iff_toInt_le]; omega), if_pos (show 13 ≤ o by simp only [Int32.lt_iff_toInt_lt, Int32.le_iff_toInt_le]; omega), if_neg (show ¬ o ≤ 12 by simp only [Int32.lt_iff_toInt_lt, Int32.le_iff_toInt_le]; omega), if_pos (show 22 ≤ o by simp only [Int32.lt_iff_toInt_lt, Int32.le_iff_toInt_le]; omega), if_neg (show ¬ o < 24 by simp only [Int32.lt_iff_toInt_lt, Int32.le_iff_toInt_le]; omega), if_pos (show 34 < o by simp only [Int32.lt_iff_toInt_lt, Int32.le_iff_toInt_le]; omega), if_neg (show ¬ o < 40 by simp only [Int32.lt_iff_toInt_lt, Int32.le_iff_toInt_le]; omega), if_neg (show ¬ 47 < o by simp only [Int32.lt_iff_toInt_lt, Int32.le_iff_toInt_le]; omega)]
    exact plr_a (sim_things R (show 40 ≤ o by simp only [Int32.lt_iff_toInt_lt, Int32.le_iff_toInt_le]; omega) (show o ≤ 47 by simp only [Int32.lt_iff_toInt_lt, Int32.le_iff_toInt_le]; omega) a b c)
  rw [if_pos (show 48 ≤ o by simp only [Int32.lt_iff_toInt_lt, Int32.le_iff_toInt_le]; omega)]
  by_cases z7 : o.toInt < 64
  · rw [if_neg (show ¬ 64 ≤ o by simp only [Int32.lt_iff_toInt_lt, Int32.le_iff_toInt_le]; omega)]
    obtain ⟨v, hv⟩ : ∃ v : Nat, o.toInt = 48 + v ∧ v < 16 := ⟨(o.toInt - 48).toNat, by omega⟩
    have ev : o - 48 = nI v := by
      have h8 := o_int _ hv.1
      rw [h8]
      refine (iZ_sub _ 48).trans ?_
      rw [iZ_nI]
      congr 1
      omega
    by_cases z8 : o.toInt ≤ 58
    · unfold fX12_does_30 fX12_does_54 fX12_does_81 fX12_does_107 fX12_does_130
      rw [if_neg (show ¬ o ≤ 0 by simp only [Int32.lt_iff_toInt_lt, Int32.le_iff_toInt_le]; omega), if_pos (show 13 ≤ o by simp only [Int32.lt_iff_toInt_lt, Int32.le_iff_toInt_le]; omega), if_neg (show ¬ o ≤ 12 by simp only [Int32.lt_iff_toInt_lt, Int32.le_iff_toInt_le]; omega), if_pos (show 22 ≤ o by simp only [Int32.lt_iff_toInt_lt, Int32.le_iff_toInt_le]; omega), if_neg (show ¬ o < 24 by simp only [Int32.lt_iff_toInt_lt, Int32.le_iff_toInt_le]; omega), if_pos (show 34 < o by simp only [Int32.lt_iff_toInt_lt, Int32.le_iff_toInt_le]; omega), if_neg (show ¬ o < 40 by simp only [Int32.lt_iff_toInt_lt, Int32.le_iff_toInt_le]; omega), if_pos (show 47 < o by simp only [Int32.lt_iff_toInt_lt, Int32.le_iff_toInt_le]; omega), if_neg (show ¬ o < 48 by simp only [Int32.lt_iff_toInt_lt, Int32.le_iff_toInt_le]; omega), if_neg (show ¬ 58 < o by simp only [Int32.lt_iff_toInt_lt, Int32.le_iff_toInt_le]; omega), ev]
      exact plr_s (sim_load R (v := v) (by omega) a b c)
    · refine plr_2 R ?_ (d_30 i a b c (by omega) (by omega))
      unfold fX11_load
      rw [ev, if_neg (show ¬ nI v ≤ 10 from fun q => by have := (nI_leI (b := 10) (by omega) (by decide)).mp q; omega)]
      rfl
  rw [if_pos (show 64 ≤ o by simp only [Int32.lt_iff_toInt_lt, Int32.le_iff_toInt_le]; omega)]
  by_cases z9 : o.toInt < 80
  · rw [if_neg (show ¬ 80 ≤ o by simp only [Int32.lt_iff_toInt_lt, Int32.le_iff_toInt_le]; omega)]
    obtain ⟨v, hv⟩ : ∃ v : Nat, o.toInt = 64 + v ∧ v < 16 := ⟨(o.toInt - 64).toNat, by omega⟩
    have ev : o - 64 = nI v := by
      have h8 := o_int _ hv.1
      rw [h8]
      refine (iZ_sub _ 64).trans ?_
      rw [iZ_nI]
      congr 1
      omega
    by_cases z8 : o.toInt ≤ 74
    · unfold fX12_does_30 fX12_does_54 fX12_does_81 fX12_does_107 fX12_does_130 fX12_does_159
      rw [if_neg (show ¬ o ≤ 0 by simp only [Int32.lt_iff_toInt_lt, Int32.le_iff_toInt_le]; omega), if_pos (show 13 ≤ o by simp only [Int32.lt_iff_toInt_lt, Int32.le_iff_toInt_le]; omega), if_neg (show ¬ o ≤ 12 by simp only [Int32.lt_iff_toInt_lt, Int32.le_iff_toInt_le]; omega), if_pos (show 22 ≤ o by simp only [Int32.lt_iff_toInt_lt, Int32.le_iff_toInt_le]; omega), if_neg (show ¬ o < 24 by simp only [Int32.lt_iff_toInt_lt, Int32.le_iff_toInt_le]; omega), if_pos (show 34 < o by simp only [Int32.lt_iff_toInt_lt, Int32.le_iff_toInt_le]; omega), if_neg (show ¬ o < 40 by simp only [Int32.lt_iff_toInt_lt, Int32.le_iff_toInt_le]; omega), if_pos (show 47 < o by simp only [Int32.lt_iff_toInt_lt, Int32.le_iff_toInt_le]; omega), if_neg (show ¬ o < 48 by simp only [Int32.lt_iff_toInt_lt, Int32.le_iff_toInt_le]; omega), if_pos (show 58 < o by simp only [Int32.lt_iff_toInt_lt, Int32.le_iff_toInt_le]; omega), if_neg (show ¬ o < 64 by simp only [Int32.lt_iff_toInt_lt, Int32.le_iff_toInt_le]; omega), if_neg (show ¬ 74 < o by simp only [Int32.lt_iff_toInt_lt, Int32.le_iff_toInt_le]; omega), ev]
      exact plr_s (sim_store R (v := v) (by omega) a b c)
    · refine plr_2 R ?_ (d_30 i a b c (by omega) (by omega))
      unfold fX11_store
      rw [ev, if_neg (show ¬ nI v ≤ 10 from fun q => by have := (nI_leI (b := 10) (by omega) (by decide)).mp q; omega)]
      rfl
  rw [if_pos (show 80 ≤ o by simp only [Int32.lt_iff_toInt_lt, Int32.le_iff_toInt_le]; omega)]
  by_cases z10 : o.toInt ≤ 84
  · unfold fX12_does_30 fX12_does_54 fX12_does_81 fX12_does_107 fX12_does_130 fX12_does_159 fX12_does_188
    rw [if_neg (show ¬ 88 ≤ o by simp only [Int32.lt_iff_toInt_lt, Int32.le_iff_toInt_le]; omega), if_neg (show ¬ o ≤ 0 by simp only [Int32.lt_iff_toInt_lt, Int32.le_iff_toInt_le]; omega), if_pos (show 13 ≤ o by simp only [Int32.lt_iff_toInt_lt, Int32.le_iff_toInt_le]; omega), if_neg (show ¬ o ≤ 12 by simp only [Int32.lt_iff_toInt_lt, Int32.le_iff_toInt_le]; omega), if_pos (show 22 ≤ o by simp only [Int32.lt_iff_toInt_lt, Int32.le_iff_toInt_le]; omega), if_neg (show ¬ o < 24 by simp only [Int32.lt_iff_toInt_lt, Int32.le_iff_toInt_le]; omega), if_pos (show 34 < o by simp only [Int32.lt_iff_toInt_lt, Int32.le_iff_toInt_le]; omega), if_neg (show ¬ o < 40 by simp only [Int32.lt_iff_toInt_lt, Int32.le_iff_toInt_le]; omega), if_pos (show 47 < o by simp only [Int32.lt_iff_toInt_lt, Int32.le_iff_toInt_le]; omega), if_neg (show ¬ o < 48 by simp only [Int32.lt_iff_toInt_lt, Int32.le_iff_toInt_le]; omega), if_pos (show 58 < o by simp only [Int32.lt_iff_toInt_lt, Int32.le_iff_toInt_le]; omega), if_neg (show ¬ o < 64 by simp only [Int32.lt_iff_toInt_lt, Int32.le_iff_toInt_le]; omega), if_pos (show 74 < o by simp only [Int32.lt_iff_toInt_lt, Int32.le_iff_toInt_le]; omega), if_neg (show ¬ o < 80 by simp only [Int32.lt_iff_toInt_lt, Int32.le_iff_toInt_le]; omega), if_neg (show ¬ 84 < o by simp only [Int32.lt_iff_toInt_lt, Int32.le_iff_toInt_le]; omega)]
    exact plr_a (sim_poses R (show 80 ≤ o by simp only [Int32.lt_iff_toInt_lt, Int32.le_iff_toInt_le]; omega) (show o ≤ 84 by simp only [Int32.lt_iff_toInt_lt, Int32.le_iff_toInt_le]; omega) a b c)
  by_cases z11 : o.toInt < 88
  · rw [if_neg (show ¬ 88 ≤ o by simp only [Int32.lt_iff_toInt_lt, Int32.le_iff_toInt_le]; omega)]
    exact plr_2 R (by rw [k_pos a b c (by omega), Option.bind_some]; exact addD_0 _) (d_30 i a b c (by omega) (by omega))
  rw [if_pos (show 88 ≤ o by simp only [Int32.lt_iff_toInt_lt, Int32.le_iff_toInt_le]; omega)]
  by_cases z12 : o.toInt ≤ 92
  · unfold fX12_does_30 fX12_does_54 fX12_does_81 fX12_does_107 fX12_does_130 fX12_does_159 fX12_does_188 fX12_does_211
    rw [if_neg (show ¬ o ≤ 0 by simp only [Int32.lt_iff_toInt_lt, Int32.le_iff_toInt_le]; omega), if_pos (show 13 ≤ o by simp only [Int32.lt_iff_toInt_lt, Int32.le_iff_toInt_le]; omega), if_neg (show ¬ o ≤ 12 by simp only [Int32.lt_iff_toInt_lt, Int32.le_iff_toInt_le]; omega), if_pos (show 22 ≤ o by simp only [Int32.lt_iff_toInt_lt, Int32.le_iff_toInt_le]; omega), if_neg (show ¬ o < 24 by simp only [Int32.lt_iff_toInt_lt, Int32.le_iff_toInt_le]; omega), if_pos (show 34 < o by simp only [Int32.lt_iff_toInt_lt, Int32.le_iff_toInt_le]; omega), if_neg (show ¬ o < 40 by simp only [Int32.lt_iff_toInt_lt, Int32.le_iff_toInt_le]; omega), if_pos (show 47 < o by simp only [Int32.lt_iff_toInt_lt, Int32.le_iff_toInt_le]; omega), if_neg (show ¬ o < 48 by simp only [Int32.lt_iff_toInt_lt, Int32.le_iff_toInt_le]; omega), if_pos (show 58 < o by simp only [Int32.lt_iff_toInt_lt, Int32.le_iff_toInt_le]; omega), if_neg (show ¬ o < 64 by simp only [Int32.lt_iff_toInt_lt, Int32.le_iff_toInt_le]; omega), if_pos (show 74 < o by simp only [Int32.lt_iff_toInt_lt, Int32.le_iff_toInt_le]; omega), if_neg (show ¬ o < 80 by simp only [Int32.lt_iff_toInt_lt, Int32.le_iff_toInt_le]; omega), if_pos (show 84 < o by simp only [Int32.lt_iff_toInt_lt, Int32.le_iff_toInt_le]; omega), if_neg (show ¬ o < 88 by simp only [Int32.lt_iff_toInt_lt, Int32.le_iff_toInt_le]; omega), if_neg (show ¬ 92 < o by simp only [Int32.lt_iff_toInt_lt, Int32.le_iff_toInt_le]; omega)]
    exact plr_a (sim_devs R hB (show 88 ≤ o by simp only [Int32.lt_iff_toInt_lt, Int32.le_iff_toInt_le]; omega) (show o ≤ 92 by simp only [Int32.lt_iff_toInt_lt, Int32.le_iff_toInt_le]; omega) a b c)
  · exact plr_2 R (by rw [k_dev a b c (by omega), Option.bind_some]; exact addD_0 _) (d_30 i a b c (by omega) (by omega))
end N
