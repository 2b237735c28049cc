/-! any order that begins no block, on both sides -/
section N
variable {w : Nat → Nat → Nat} {B : Nat} {S : CS} {M : MS}
theorem d_211 {o : Int32} (a b c : Int32) (h : o.toInt < 88 ∨ 92 < o.toInt) : fX12_does_211 M o a b c = some (2, M) := by
  have e0 : (0 : Int32).toInt = 0 := by decide
  have e1 : (1 : Int32).toInt = 1 := by decide
  have e9 : (9 : Int32).toInt = 9 := by decide
  have e10 : (10 : Int32).toInt = 10 := by decide
  have e12 : (12 : Int32).toInt = 12 := by decide
  have e13 : (13 : Int32).toInt = 13 := by decide
  have e14 : (14 : Int32).toInt = 14 := by decide
  have e18 : (18 : Int32).toInt = 18 := by decide
  have e19 : (19 : Int32).toInt = 19 := by decide
  have e20 : (20 : Int32).toInt = 20 := by decide
  have e21 : (21 : Int32).toInt = 21 := by decide
  have e22 : (22 : Int32).toInt = 22 := by decide
  have e24 : (24 : Int32).toInt = 24 := by decide
  have e34 : (34 : Int32).toInt = 34 := by decide
  have e39 : (39 : Int32).toInt = 39 := by decide
  have e40 : (40 : Int32).toInt = 40 := by decide
  have e47 : (47 : Int32).toInt = 47 := by decide
  have e48 : (48 : Int32).toInt = 48 := by decide
  have e58 : (58 : Int32).toInt = 58 := by decide
  have e64 : (64 : Int32).toInt = 64 := by decide
  have e74 : (74 : Int32).toInt = 74 := by decide
  have e80 : (80 : Int32).toInt = 80 := by decide
  have e84 : (84 : Int32).toInt = 84 := by decide
  have e88 : (88 : Int32).toInt = 88 := by decide
  have e92 : (92 : Int32).toInt = 92 := by decide
  unfold fX12_does_211 fX12_does_236
  by_cases c1 : o.toInt < 88
  · rw [if_pos (show o < 88 by simp only [Int32.lt_iff_toInt_lt, Int32.le_iff_toInt_le]; omega)]
  · rw [if_neg (show ¬ o < 88 by simp only [Int32.lt_iff_toInt_lt, Int32.le_iff_toInt_le]; omega), if_pos (show 92 < o by simp only [Int32.lt_iff_toInt_lt, Int32.le_iff_toInt_le]; omega)]
theorem d_188 {o : Int32} (a b c : Int32) (h : (o.toInt < 80 ∨ 84 < o.toInt) ∧ (o.toInt < 88 ∨ 92 < o.toInt)) : fX12_does_188 M o a b c = some (2, M) := by
  have e0 : (0 : Int32).toInt = 0 := by decide
  have e1 : (1 : Int32).toInt = 1 := by decide
  have e9 : (9 : Int32).toInt = 9 := by decide
  have e10 : (10 : Int32).toInt = 10 := by decide
  have e12 : (12 : Int32).toInt = 12 := by decide
  have e13 : (13 : Int32).toInt = 13 := by decide
  have e14 : (14 : Int32).toInt = 14 := by decide
  have e18 : (18 : Int32).toInt = 18 := by decide
  have e19 : (19 : Int32).toInt = 19 := by decide
  have e20 : (20 : Int32).toInt = 20 := by decide
  have e21 : (21 : Int32).toInt = 21 := by decide
  have e22 : (22 : Int32).toInt = 22 := by decide
  have e24 : (24 : Int32).toInt = 24 := by decide
  have e34 : (34 : Int32).toInt = 34 := by decide
  have e39 : (39 : Int32).toInt = 39 := by decide
  have e40 : (40 : Int32).toInt = 40 := by decide
  have e47 : (47 : Int32).toInt = 47 := by decide
  have e48 : (48 : Int32).toInt = 48 := by decide
  have e58 : (58 : Int32).toInt = 58 := by decide
  have e64 : (64 : Int32).toInt = 64 := by decide
  have e74 : (74 : Int32).toInt = 74 := by decide
  have e80 : (80 : Int32).toInt = 80 := by decide
  have e84 : (84 : Int32).toInt = 84 := by decide
  have e88 : (88 : Int32).toInt = 88 := by decide
  have e92 : (92 : Int32).toInt = 92 := by decide
  unfold fX12_does_188
  by_cases c1 : o.toInt < 80
  · rw [if_pos (show o < 80 by simp only [Int32.lt_iff_toInt_lt, Int32.le_iff_toInt_le]; omega)]; exact d_211 a b c (by omega)
  · rw [if_neg (show ¬ o < 80 by simp only [Int32.lt_iff_toInt_lt, Int32.le_iff_toInt_le]; omega), if_pos (show 84 < o by simp only [Int32.lt_iff_toInt_lt, Int32.le_iff_toInt_le]; omega)]; exact d_211 a b c (by omega)
theorem d_159 {o : Int32} (a b c : Int32) (h : (o.toInt < 64 ∨ 74 < o.toInt) ∧ (o.toInt < 80 ∨ 84 < o.toInt) ∧ (o.toInt < 88 ∨ 92 < o.toInt)) : fX12_does_159 M o a b c = some (2, M) := by
  have e0 : (0 : Int32).toInt = 0 := by decide
  have e1 : (1 : Int32).toInt = 1 := by decide
  have e9 : (9 : Int32).toInt = 9 := by decide
  have e10 : (10 : Int32).toInt = 10 := by decide
  have e12 : (12 : Int32).toInt = 12 := by decide
  have e13 : (13 : Int32).toInt = 13 := by decide
  have e14 : (14 : Int32).toInt = 14 := by decide
  have e18 : (18 : Int32).toInt = 18 := by decide
  have e19 : (19 : Int32).toInt = 19 := by decide
  have e20 : (20 : Int32).toInt = 20 := by decide
  have e21 : (21 : Int32).toInt = 21 := by decide
  have e22 : (22 : Int32).toInt = 22 := by decide
  have e24 : (24 : Int32).toInt = 24 := by decide
  have e34 : (34 : Int32).toInt = 34 := by decide
  have e39 : (39 : Int32).toInt = 39 := by decide
  have e40 : (40 : Int32).toInt = 40 := by decide
  have e47 : (47 : Int32).toInt = 47 := by decide
  have e48 : (48 : Int32).toInt = 48 := by decide
  have e58 : (58 : Int32).toInt = 58 := by decide
  have e64 : (64 : Int32).toInt = 64 := by decide
  have e74 : (74 : Int32).toInt = 74 := by decide
  have e80 : (80 : Int32).toInt = 80 := by decide
  have e84 : (84 : Int32).toInt = 84 := by decide
  have e88 : (88 : Int32).toInt = 88 := by decide
  have e92 : (92 : Int32).toInt = 92 := by decide
  unfold fX12_does_159
  by_cases c1 : o.toInt < 64
  · rw [if_pos (show o < 64 by simp only [Int32.lt_iff_toInt_lt, Int32.le_iff_toInt_le]; omega)]; exact d_188 a b c (by omega)
  · rw [if_neg (show ¬ o < 64 by simp only [Int32.lt_iff_toInt_lt, Int32.le_iff_toInt_le]; omega), if_pos (show 74 < o by simp only [Int32.lt_iff_toInt_lt, Int32.le_iff_toInt_le]; omega)]; exact d_188 a b c (by omega)
theorem d_130 {o : Int32} (a b c : Int32) (h : (o.toInt < 48 ∨ 58 < o.toInt) ∧ (o.toInt < 64 ∨ 74 < o.toInt) ∧ (o.toInt < 80 ∨ 84 < o.toInt) ∧ (o.toInt < 88 ∨ 92 < o.toInt)) : fX12_does_130 M o a b c = some (2, M) := by
  have e0 : (0 : Int32).toInt = 0 := by decide
  have e1 : (1 : Int32).toInt = 1 := by decide
  have e9 : (9 : Int32).toInt = 9 := by decide
  have e10 : (10 : Int32).toInt = 10 := by decide
  have e12 : (12 : Int32).toInt = 12 := by decide
  have e13 : (13 : Int32).toInt = 13 := by decide
  have e14 : (14 : Int32).toInt = 14 := by decide
  have e18 : (18 : Int32).toInt = 18 := by decide
  have e19 : (19 : Int32).toInt = 19 := by decide
  have e20 : (20 : Int32).toInt = 20 := by decide
  have e21 : (21 : Int32).toInt = 21 := by decide
  have e22 : (22 : Int32).toInt = 22 := by decide
  have e24 : (24 : Int32).toInt = 24 := by decide
  have e34 : (34 : Int32).toInt = 34 := by decide
  have e39 : (39 : Int32).toInt = 39 := by decide
  have e40 : (40 : Int32).toInt = 40 := by decide
  have e47 : (47 : Int32).toInt = 47 := by decide
  have e48 : (48 : Int32).toInt = 48 := by decide
  have e58 : (58 : Int32).toInt = 58 := by decide
  have e64 : (64 : Int32).toInt = 64 := by decide
  have e74 : (74 : Int32).toInt = 74 := by decide
  have e80 : (80 : Int32).toInt = 80 := by decide
  have e84 : (84 : Int32).toInt = 84 := by decide
  have e88 : (88 : Int32).toInt = 88 := by decide
  have e92 : (92 : Int32).toInt = 92 := by decide
  unfold fX12_does_130
  by_cases c1 : o.toInt < 48
  · rw [if_pos (show o < 48 by simp only [Int32.lt_iff_toInt_lt, Int32.le_iff_toInt_le]; omega)]; exact d_159 a b c (by omega)
  · rw [if_neg (show ¬ o < 48 by simp only [Int32.lt_iff_toInt_lt, Int32.le_iff_toInt_le]; omega), if_pos (show 58 < o by simp only [Int32.lt_iff_toInt_lt, Int32.le_iff_toInt_le]; omega)]; exact d_159 a b c (by omega)
theorem d_107 {o : Int32} (a b c : Int32) (h : (o.toInt < 40 ∨ 47 < o.toInt) ∧ (o.toInt < 48 ∨ 58 < o.toInt) ∧ (o.toInt < 64 ∨ 74 < o.toInt) ∧ (o.toInt < 80 ∨ 84 < o.toInt) ∧ (o.toInt < 88 ∨ 92 < o.toInt)) : fX12_does_107 M o a b c = some (2, M) := by
  have e0 : (0 : Int32).toInt = 0 := by decide
  have e1 : (1 : Int32).toInt = 1 := by decide
  have e9 : (9 : Int32).toInt = 9 := by decide
  have e10 : (10 : Int32).toInt = 10 := by decide
  have e12 : (12 : Int32).toInt = 12 := by decide
  have e13 : (13 : Int32).toInt = 13 := by decide
  have e14 : (14 : Int32).toInt = 14 := by decide
  have e18 : (18 : Int32).toInt = 18 := by decide
  have e19 : (19 : Int32).toInt = 19 := by decide
  have e20 : (20 : Int32).toInt = 20 := by decide
  have e21 : (21 : Int32).toInt = 21 := by decide
  have e22 : (22 : Int32).toInt = 22 := by decide
  have e24 : (24 : Int32).toInt = 24 := by decide
  have e34 : (34 : Int32).toInt = 34 := by decide
  have e39 : (39 : Int32).toInt = 39 := by decide
  have e40 : (40 : Int32).toInt = 40 := by decide
  have e47 : (47 : Int32).toInt = 47 := by decide
  have e48 : (48 : Int32).toInt = 48 := by decide
  have e58 : (58 : Int32).toInt = 58 := by decide
  have e64 : (64 : Int32).toInt = 64 := by decide
  have e74 : (74 : Int32).toInt = 74 := by decide
  have e80 : (80 : Int32).toInt = 80 := by decide
  have e84 : (84 : Int32).toInt = 84 := by decide
  have e88 : (88 : Int32).toInt = 88 := by decide
  have e92 : (92 : Int32).toInt = 92 := by decide
  unfold fX12_does_107
  by_cases c1 : o.toInt < 40
  · rw [if_pos (show o < 40 by simp only [Int32.lt_iff_toInt_lt, Int32.le_iff_toInt_le]; omega)]; exact d_130 a b c (by omega)
  · rw [if_neg (show ¬ o < 40 by simp only [Int32.lt_iff_toInt_lt, Int32.le_iff_toInt_le]; omega), if_pos (show 47 < o by simp only [Int32.lt_iff_toInt_lt, Int32.le_iff_toInt_le]; omega)]; exact d_130 a b c (by omega)
theorem d_81 {o : Int32} (a b c : Int32) (h : (o.toInt < 24 ∨ 34 < o.toInt) ∧ (o.toInt < 40 ∨ 47 < o.toInt) ∧ (o.toInt < 48 ∨ 58 < o.toInt) ∧ (o.toInt < 64 ∨ 74 < o.toInt) ∧ (o.toInt < 80 ∨ 84 < o.toInt) ∧ (o.toInt < 88 ∨ 92 < o.toInt)) : fX12_does_81 M o a b c = some (2, M) := by
  have e0 : (0 : Int32).toInt = 0 := by decide
  have e1 : (1 : Int32).toInt = 1 := by decide
  have e9 : (9 : Int32).toInt = 9 := by decide
  have e10 : (10 : Int32).toInt = 10 := by decide
  have e12 : (12 : Int32).toInt = 12 := by decide
  have e13 : (13 : Int32).toInt = 13 := by decide
  have e14 : (14 : Int32).toInt = 14 := by decide
  have e18 : (18 : Int32).toInt = 18 := by decide
  have e19 : (19 : Int32).toInt = 19 := by decide
  have e20 : (20 : Int32).toInt = 20 := by decide
  have e21 : (21 : Int32).toInt = 21 := by decide
  have e22 : (22 : Int32).toInt = 22 := by decide
  have e24 : (24 : Int32).toInt = 24 := by decide
  have e34 : (34 : Int32).toInt = 34 := by decide
  have e39 : (39 : Int32).toInt = 39 := by decide
  have e40 : (40 : Int32).toInt = 40 := by decide
  have e47 : (47 : Int32).toInt = 47 := by decide
  have e48 : (48 : Int32).toInt = 48 := by decide
  have e58 : (58 : Int32).toInt = 58 := by decide
  have e64 : (64 : Int32).toInt = 64 := by decide
  have e74 : (74 : Int32).toInt = 74 := by decide
  have e80 : (80 : Int32).toInt = 80 := by decide
  have e84 : (84 : Int32).toInt = 84 := by decide
  have e88 : (88 : Int32).toInt = 88 := by decide
  have e92 : (92 : Int32).toInt = 92 := by decide
  unfold fX12_does_81
  by_cases c1 : o.toInt < 24
  · rw [if_pos (show o < 24 by simp only [Int32.lt_iff_toInt_lt, Int32.le_iff_toInt_le]; omega)]; exact d_107 a b c (by omega)
  · rw [if_neg (show ¬ o < 24 by simp only [Int32.lt_iff_toInt_lt, Int32.le_iff_toInt_le]; omega), if_pos (show 34 < o by simp only [Int32.lt_iff_toInt_lt, Int32.le_iff_toInt_le]; omega)]; exact d_107 a b c (by omega)
theorem d_30 {o : Int32} (i a b c : Int32) (h0 : o.toInt ≤ 0 ∨ 22 ≤ o.toInt) (h : (o.toInt < 24 ∨ 34 < o.toInt) ∧ (o.toInt < 40 ∨ 47 < o.toInt) ∧ (o.toInt < 48 ∨ 58 < o.toInt) ∧ (o.toInt < 64 ∨ 74 < o.toInt) ∧ (o.toInt < 80 ∨ 84 < o.toInt) ∧ (o.toInt < 88 ∨ 92 < o.toInt)) : fX12_does_30 M i o a b c = some (2, M) := by
  have e0 : (0 : Int32).toInt = 0 := by decide
  have e1 : (1 : Int32).toInt = 1 := by decide
  have e9 : (9 : Int32).toInt = 9 := by decide
  have e10 : (10 : Int32).toInt = 10 := by decide
  have e12 : (12 : Int32).toInt = 12 := by decide
  have e13 : (13 : Int32).toInt = 13 := by decide
  have e14 : (14 : Int32).toInt = 14 := by decide
  have e18 : (18 : Int32).toInt = 18 := by decide
  have e19 : (19 : Int32).toInt = 19 := by decide
  have e20 : (20 : Int32).toInt = 20 := by decide
  have e21 : (21 : Int32).toInt = 21 := by decide
  have e22 : (22 : Int32).toInt = 22 := by decide
  have e24 : (24 : Int32).toInt = 24 := by decide
  have e34 : (34 : Int32).toInt = 34 := by decide
  have e39 : (39 : Int32).toInt = 39 := by decide
  have e40 : (40 : Int32).toInt = 40 := by decide
  have e47 : (47 : Int32).toInt = 47 := by decide
  have e48 : (48 : Int32).toInt = 48 := by decide
  have e58 : (58 : Int32).toInt = 58 := by decide
  have e64 : (64 : Int32).toInt = 64 := by decide
  have e74 : (74 : Int32).toInt = 74 := by decide
  have e80 : (80 : Int32).toInt = 80 := by decide
  have e84 : (84 : Int32).toInt = 84 := by decide
  have e88 : (88 : Int32).toInt = 88 := by decide
  have e92 : (92 : Int32).toInt = 92 := by decide
  unfold fX12_does_30 fX12_does_54
  by_cases c1 : o.toInt ≤ 0
  · rw [if_pos (show o ≤ 0 by simp only [Int32.lt_iff_toInt_lt, Int32.le_iff_toInt_le]; omega), if_pos (show o ≤ 12 by simp only [Int32.lt_iff_toInt_lt, Int32.le_iff_toInt_le]; omega)]; exact d_81 a b c h
  · rw [if_neg (show ¬ o ≤ 0 by simp only [Int32.lt_iff_toInt_lt, Int32.le_iff_toInt_le]; omega), if_pos (show 13 ≤ o by simp only [Int32.lt_iff_toInt_lt, Int32.le_iff_toInt_le]; omega), if_neg (show ¬ o ≤ 12 by simp only [Int32.lt_iff_toInt_lt, Int32.le_iff_toInt_le]; omega), if_pos (show 22 ≤ o by simp only [Int32.lt_iff_toInt_lt, Int32.le_iff_toInt_le]; omega)]; exact d_81 a b c h
theorem k_num {o : Int32} (a b c : Int32) (h : o.toInt < 0) : fX11_onNumbers S o a b c = some (2, S) := by
  unfold fX11_onNumbers
  rw [c_numAt, Option.bind_some, c_numAt, Option.bind_some]
  simp only
  rw [if_neg (show ¬ o = 1 from fun q => by rw [q] at h; revert h; decide), if_neg (show ¬ o = 2 from fun q => by rw [q] at h; revert h; decide), if_neg (show ¬ o = 3 from fun q => by rw [q] at h; revert h; decide), if_neg (show ¬ o = 4 from fun q => by rw [q] at h; revert h; decide), if_neg (show ¬ o = 5 from fun q => by rw [q] at h; revert h; decide), if_neg (show ¬ o = 6 from fun q => by rw [q] at h; revert h; decide), if_neg (show ¬ o = 7 from fun q => by rw [q] at h; revert h; decide), if_neg (show ¬ o = 8 from fun q => by rw [q] at h; revert h; decide), if_neg (show ¬ o = 9 from fun q => by rw [q] at h; revert h; decide), if_neg (show ¬ o = 10 from fun q => by rw [q] at h; revert h; decide), if_neg (show ¬ o = 11 from fun q => by rw [q] at h; revert h; decide), if_neg (show ¬ o = 12 from fun q => by rw [q] at h; revert h; decide)]
theorem k_rol {o : Int32} (a : Int32) (h : 22 ≤ o.toInt) : fX11_raiseOrLog S o a = some (2, S) := by
  unfold fX11_raiseOrLog fX11_raiseOrLog_88
  rw [if_neg (show ¬ o = 18 from fun q => by rw [q] at h; revert h; decide), if_neg (show ¬ o = 19 from fun q => by rw [q] at h; revert h; decide), if_neg (show ¬ o = 20 from fun q => by rw [q] at h; revert h; decide), if_neg (show ¬ o = 21 from fun q => by rw [q] at h; revert h; decide)]
theorem k_mea {o : Int32} (a b c : Int32) (h : 35 ≤ o.toInt) : fX11_onMeasures S o a b c = some (2, S) := by
  unfold fX11_onMeasures
  rw [c_meaAt, Option.bind_some, c_meaAt, Option.bind_some]
  simp only
  rw [if_neg (show ¬ o = 24 from fun q => by rw [q] at h; revert h; decide), if_neg (show ¬ o = 25 from fun q => by rw [q] at h; revert h; decide), if_neg (show ¬ o = 26 from fun q => by rw [q] at h; revert h; decide), if_neg (show ¬ o = 27 from fun q => by rw [q] at h; revert h; decide), if_neg (show ¬ o = 28 from fun q => by rw [q] at h; revert h; decide), if_neg (show ¬ o = 29 from fun q => by rw [q] at h; revert h; decide), if_neg (show ¬ o = 30 from fun q => by rw [q] at h; revert h; decide), if_neg (show ¬ o = 31 from fun q => by rw [q] at h; revert h; decide), if_neg (show ¬ o = 32 from fun q => by rw [q] at h; revert h; decide), if_neg (show ¬ o = 33 from fun q => by rw [q] at h; revert h; decide), if_neg (show ¬ o = 34 from fun q => by rw [q] at h; revert h; decide)]
theorem k_pos {o : Int32} (a b c : Int32) (h : 85 ≤ o.toInt) : fX11_onPoses S o a b c = some ((2, S), 0, 0) := by
  unfold fX11_onPoses
  rw [if_neg (show ¬ o = 80 from fun q => by rw [q] at h; revert h; decide), if_neg (show ¬ o = 81 from fun q => by rw [q] at h; revert h; decide), if_neg (show ¬ o = 82 from fun q => by rw [q] at h; revert h; decide), if_neg (show ¬ o = 83 from fun q => by rw [q] at h; revert h; decide), if_neg (show ¬ o = 84 from fun q => by rw [q] at h; revert h; decide)]
theorem k_dev {o : Int32} (a b c : Int32) (h : 93 ≤ o.toInt) : fX11_onDevices S o a b c = some ((2, S), 0, 0) := by
  unfold fX11_onDevices
  rw [if_neg (show ¬ o = 88 from fun q => by rw [q] at h; revert h; decide), if_neg (show ¬ o = 89 from fun q => by rw [q] at h; revert h; decide), if_neg (show ¬ o = 90 from fun q => by rw [q] at h; revert h; decide), if_neg (show ¬ o = 91 from fun q => by rw [q] at h; revert h; decide), if_neg (show ¬ o = 92 from fun q => by rw [q] at h; revert h; decide)]
theorem sim_rol (R : Rel w B S M) (hB : B < 2147483647) {o : Int32} (h : o = 18 ∨ o = 20 ∨ o = 21) (a b c i : Int32) : Sim w B S M (fX11_raiseOrLog S o a) (fX12_controls M o (a &&& 15) b c i) := by
  unfold fX11_raiseOrLog fX12_controls fX12_controls_8 fX11_raiseOrLog_60 fX12_controls_255
  simp only [c_numAt, c_meaAt, Option.bind_some, rl_num R a, rl_mea R a]
  have ea : gB M 3 (ix (a &&& 15)) = gB M 3 (ra a) := rfl
  have em : gB M 4 (ix (a &&& 15)) = gB M 4 (ra a) := rfl
  rcases h with h9 | h9 | h9 <;> subst h9
  · rw [if_pos (show (18 : Int32) = 18 from rfl), if_neg (show ¬ (18 : Int32) = 13 by decide), if_neg (show ¬ (18 : Int32) = 15 by decide), if_neg (show ¬ (18 : Int32) = 14 by decide), if_neg (show ¬ (18 : Int32) = 16 by decide), if_neg (show ¬ (18 : Int32) = 17 by decide), if_pos (show (18 : Int32) = 18 from rfl), if_pos (inb3 a), if_pos (inb3 a), if_pos (inb3 a), ea]
    by_cases c1 : gB M 3 (ra a) < 1
    · rw [if_pos c1, if_pos c1]; exact sim_err R 2 (by decide)
    · rw [if_neg c1, if_neg c1]
      by_cases c2 : 9 < gB M 3 (ra a)
      · rw [if_pos c2, if_pos c2]; exact sim_err R 2 (by decide)
      · rw [if_neg c2, if_neg c2]
        have c0 : 0 ≤ gB M 3 (ra a) := by
          have e1 : (1 : Int64).toInt = 1 := by decide
          have e0 : (0 : Int64).toInt = 0 := by decide
          rw [Int64.lt_iff_toInt_lt] at c1
          rw [Int64.le_iff_toInt_le]
          omega
        obtain ⟨n1_, g1_, g2_⟩ := l_small (m := 9) (by decide) c0 c2
        rw [g2_, lN_i]
        exact sim_err R n1_ g1_
  · rw [if_neg (show ¬ (20 : Int32) = 18 by decide), if_neg (show ¬ (20 : Int32) = 19 by decide), if_pos (show (20 : Int32) = 20 from rfl), if_neg (show ¬ (20 : Int32) = 13 by decide), if_neg (show ¬ (20 : Int32) = 15 by decide), if_neg (show ¬ (20 : Int32) = 14 by decide), if_neg (show ¬ (20 : Int32) = 16 by decide), if_neg (show ¬ (20 : Int32) = 17 by decide), if_neg (show ¬ (20 : Int32) = 18 by decide), if_neg (show ¬ (20 : Int32) = 19 by decide), if_pos (show (20 : Int32) = 20 from rfl), if_pos (inb3 a), ea]
    obtain ⟨r1_, S1_, M1_, q1_, q2_, q3_, q4_⟩ := sim_log R hB (gB M 3 (ra a))
    exact ⟨r1_, S1_, M1_, q1_, by rw [q2_]; rfl, q3_, q4_⟩
  · rw [if_neg (show ¬ (21 : Int32) = 18 by decide), if_neg (show ¬ (21 : Int32) = 19 by decide), if_neg (show ¬ (21 : Int32) = 20 by decide), if_pos (show (21 : Int32) = 21 from rfl), if_neg (show ¬ (21 : Int32) = 13 by decide), if_neg (show ¬ (21 : Int32) = 15 by decide), if_neg (show ¬ (21 : Int32) = 14 by decide), if_neg (show ¬ (21 : Int32) = 16 by decide), if_neg (show ¬ (21 : Int32) = 17 by decide), if_neg (show ¬ (21 : Int32) = 18 by decide), if_neg (show ¬ (21 : Int32) = 19 by decide), if_neg (show ¬ (21 : Int32) = 20 by decide), if_pos (inb4 a), em, fl_one _ (rl_can R a)]
    obtain ⟨r1_, S1_, M1_, q1_, q2_, q3_, q4_⟩ := sim_log R hB (gB M 4 (ra a))
    exact ⟨r1_, S1_, M1_, q1_, by rw [q2_]; rfl, q3_, q4_⟩
end N
