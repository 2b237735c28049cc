/-! TELL, and the devices' orders but DEVICE -/
section N
variable {w : Nat → Nat → Nat} {B : Nat} {S : CS} {M : MS}
theorem dsp (R : Rel w B S M) {t : Nat} (h1 : t ≠ 0) (h2 : t ≤ nT M) {α : Type} (X0 X3 X4 X6 : Option α) : (kN M t = 13 → (if isKx S (some (w 0 t)) [0] = true then X0 else if isKx S (some (w 0 t)) [3] = true then X3 else if isKx S (some (w 0 t)) [4] = true then X4 else if isKx S (some (w 0 t)) [6] = true then X6 else none) = X0) ∧ (kN M t = 14 → (if isKx S (some (w 0 t)) [0] = true then X0 else if isKx S (some (w 0 t)) [3] = true then X3 else if isKx S (some (w 0 t)) [4] = true then X4 else if isKx S (some (w 0 t)) [6] = true then X6 else none) = X4) ∧ (kN M t = 15 → (if isKx S (some (w 0 t)) [0] = true then X0 else if isKx S (some (w 0 t)) [3] = true then X3 else if isKx S (some (w 0 t)) [4] = true then X4 else if isKx S (some (w 0 t)) [6] = true then X6 else none) = X6) ∧ (kN M t = 16 → (if isKx S (some (w 0 t)) [0] = true then X0 else if isKx S (some (w 0 t)) [3] = true then X3 else if isKx S (some (w 0 t)) [4] = true then X4 else if isKx S (some (w 0 t)) [6] = true then X6 else none) = X3) := by
  rw [c_isKx R h1 h2, c_isKx R h1 h2, c_isKx R h1 h2, c_isKx R h1 h2]
  refine ⟨fun q => ?_, fun q => ?_, fun q => ?_, fun q => ?_⟩ <;> rw [q]
  · rw [if_pos (show [0].contains (tagK 13) = true by decide)]
  · rw [if_neg (show ¬ [0].contains (tagK 14) = true by decide), if_neg (show ¬ [3].contains (tagK 14) = true by decide), if_pos (show [4].contains (tagK 14) = true by decide)]
  · rw [if_neg (show ¬ [0].contains (tagK 15) = true by decide), if_neg (show ¬ [3].contains (tagK 15) = true by decide), if_neg (show ¬ [4].contains (tagK 15) = true by decide), if_pos (show [6].contains (tagK 15) = true by decide)]
  · rw [if_neg (show ¬ [0].contains (tagK 16) = true by decide), if_pos (show [3].contains (tagK 16) = true by decide)]
theorem c_dev (R : Rel w B S M) (hB : B < 2147483647) {t : Nat} (h1 : t ≠ 0) (h2 : t ≤ nT M) (hk : 13 ≤ kN M t) : can64 (gB M 12 t) ∧ can64 (gB M 13 t) ∧ ∃ mv, mv ≤ B ∧ gA M 18 t = nI mv ∧ (if kN M t = 16 then tgJ S (some (w 0 t)) [3] 1 = some (lN mv) else (tgJ S (some (w 0 t)) [0, 4, 6] 0 = some (gB M 12 t) ∧ tgJ S (some (w 0 t)) [0, 4, 6] 1 = some (gB M 13 t) ∧ tgJ S (some (w 0 t)) [0, 4, 6] 2 = some (lN mv))) := by
  have hm := rl_in R h1 h2
  have hkN := (rl_kN R h1 h2).2
  by_cases c : kN M t = 16
  · obtain ⟨mv, f, hH, b1, b2, b3, b4⟩ := rl_prH R h1 h2 c
    have ha := c_prAt R hB h1 h2 c
    refine ⟨ha.2.2.1, ha.2.2.2, mv, b1, b2, ?_⟩
    rw [if_pos c]
    exact (pr_get hH).2.1
  · have hk2 : 13 ≤ kN M t ∧ kN M t ≤ 15 := by omega
    obtain ⟨mv, b1_, b2_, b3_, b4_, b5_⟩ := rl_axis R h1 h2 hk2
    refine ⟨b4_, b5_, mv, b1_, b2_, ?_⟩
    rw [if_neg c]
    unfold tgJ
    rw [tF_at hm b3_ (ax_tag hk2).2, tF_at hm b3_ (ax_tag hk2).2, tF_at hm b3_ (ax_tag hk2).2]
    exact ⟨rfl, rfl, rfl⟩
theorem c_told (R : Rel w B S M) (hB : B < 2147483647) {t : Nat} (h1 : t ≠ 0) (h2 : t ≤ nT M) (hk : 13 ≤ kN M t) {p : Nat} (hp : p < 8) (a : Int32) : ∃ v, can64 v ∧ fX11_toldOf S (some (w 0 t)) (nI p) = some (v, S) ∧ fX12_devices_249 M a (nI (kN M t)) (nI t) (nI p) = some (0, pB M 4 (ra a) v) := by
  have h4 := rl_4000 R
  have hkN := (rl_kN R h1 h2).2
  have hq : kN M t = 13 ∨ kN M t = 14 ∨ kN M t = 15 ∨ kN M t = 16 := by omega
  have i12 : inb (nI t) 4001 = true := inb_nI (by omega) (by omega)
  obtain ⟨d1_, d2_, mv, d3_, d4_, d5_⟩ := c_dev R hB h1 h2 hk
  have e354 : ∀ v, fX12_devices_354 M 4 (a &&& 15) v = some (0, pB M 4 (ra a) v) := by
    intro v
    unfold fX12_devices_354 fX12_devices_355 fX12_devices_426
    rw [if_pos (inb4 a)]
    rfl
  have e351 : ∀ v, fX12_devices_351 M 4 (a &&& 15) v = some (0, pB M 4 (ra a) (fX2_ofWhole v)) := by
    intro v
    unfold fX12_devices_351
    rw [fl_number, Option.bind_some, e354]
  unfold fX11_toldOf fX12_devices_249
  rcases lt8 hp with h9 | h9 | h9 | h9 | h9 | h9 | h9 | h9 <;> rw [h9]
  · refine ⟨gB M 12 t, d1_, ?_, ?_⟩
    · rw [if_pos (show (0 : Int32) = 0 from rfl)]
      rcases hq with q | q | q | q
      · rw [if_neg (by omega)] at d5_
        rw [(dsp R h1 h2 _ _ _ _).1 q]
        unfold fX0_at fX11_toldOf_44
        rw [d5_.1]; rfl
      · rw [if_neg (by omega)] at d5_
        rw [(dsp R h1 h2 _ _ _ _).2.1 q]
        unfold fX0_at fX11_toldOf_44
        rw [d5_.1]; rfl
      · rw [if_neg (by omega)] at d5_
        rw [(dsp R h1 h2 _ _ _ _).2.2.1 q]
        unfold fX0_at fX11_toldOf_44
        rw [d5_.1]; rfl
      · rw [(dsp R h1 h2 _ _ _ _).2.2.2 q, (c_prAt R hB h1 h2 q).1]; rfl
    · rw [if_pos (show (0 : Int32) = 0 from rfl), if_pos (show inb (nI t) (mlB 12) = true from i12), ix_nI (by omega), e354]
  · refine ⟨fX2_ofWhole (fX12_spanOf (nI (kN M t))).toInt64, can_whole _, ?_, ?_⟩
    · rw [if_neg (show ¬ (1 : Int32) = 0 by decide), if_pos (show (1 : Int32) = 1 from rfl)]
      rcases hq with q | q | q | q
      · rw [(dsp R h1 h2 _ _ _ _).1 q, q]; rfl
      · rw [(dsp R h1 h2 _ _ _ _).2.1 q]
        unfold fX6_span fX6_span_6 fX0_span fX11_toldOf_49
        rw [c_isKx R h1 h2, q, if_pos (show [4].contains (tagK 14) = true by decide), Option.bind_some, Option.bind_some]
        simp only
        rw [show (10 : Int32) * 100 = fX12_spanOf (nI 14) by decide]
      · rw [(dsp R h1 h2 _ _ _ _).2.2.1 q, q]; rfl
      · rw [(dsp R h1 h2 _ _ _ _).2.2.2 q, q]; rfl
    · rw [if_neg (show ¬ (1 : Int32) = 0 by decide), if_neg (show ¬ (1 : Int32) = 3 by decide), if_pos (show (1 : Int32) = 1 from rfl), e351]
  · refine ⟨fX2_ofWhole (fX12_rankOf (nI (kN M t))).toInt64, can_whole _, ?_, ?_⟩
    · rw [if_neg (show ¬ (2 : Int32) = 0 by decide), if_neg (show ¬ (2 : Int32) = 1 by decide), if_pos (show (2 : Int32) = 2 from rfl)]
      rcases hq with q | q | q | q
      · rw [(dsp R h1 h2 _ _ _ _).1 q, q]; rfl
      · rw [(dsp R h1 h2 _ _ _ _).2.1 q]
        unfold fX6_rank fX6_rank_4 fX0_rank fX11_toldOf_58
        rw [c_isKx R h1 h2, q, if_pos (show [4].contains (tagK 14) = true by decide), Option.bind_some, Option.bind_some]
        simp only
        rw [show (3 : Int32) + 1 = fX12_rankOf (nI 14) by decide]
      · rw [(dsp R h1 h2 _ _ _ _).2.2.1 q]
        unfold fX10_rank fX6_rank fX6_rank_4 fX0_rank fX11_toldOf_58
        rw [c_isKx R h1 h2, c_isKx R h1 h2, q, if_pos (show [6].contains (tagK 15) = true by decide), if_neg (show ¬ [4].contains (tagK 15) = true by decide), if_pos (show [6].contains (tagK 15) = true by decide), Option.bind_some, Option.bind_some, Option.bind_some]
        simp only
        rw [show (2 : Int32) * (3 + 1) = fX12_rankOf (nI 15) by decide]
      · rw [(dsp R h1 h2 _ _ _ _).2.2.2 q, q]; rfl
    · rw [if_neg (show ¬ (2 : Int32) = 0 by decide), if_neg (show ¬ (2 : Int32) = 3 by decide), if_neg (show ¬ (2 : Int32) = 1 by decide), if_pos (show (2 : Int32) = 2 from rfl), e351]
  · refine ⟨gB M 13 t, d2_, ?_, ?_⟩
    · rw [if_neg (show ¬ (3 : Int32) = 0 by decide), if_neg (show ¬ (3 : Int32) = 1 by decide), if_neg (show ¬ (3 : Int32) = 2 by decide), if_pos (show (3 : Int32) = 3 from rfl)]
      rcases hq with q | q | q | q
      · rw [if_neg (by omega)] at d5_
        rw [(dsp R h1 h2 _ _ _ _).1 q]
        unfold fX0_travelled fX11_toldOf_67
        rw [d5_.2.1]; rfl
      · rw [if_neg (by omega)] at d5_
        rw [(dsp R h1 h2 _ _ _ _).2.1 q]
        unfold fX0_travelled fX11_toldOf_67
        rw [d5_.2.1]; rfl
      · rw [if_neg (by omega)] at d5_
        rw [(dsp R h1 h2 _ _ _ _).2.2.1 q]
        unfold fX0_travelled fX11_toldOf_67
        rw [d5_.2.1]; rfl
      · rw [(dsp R h1 h2 _ _ _ _).2.2.2 q, (c_prAt R hB h1 h2 q).2.1]; rfl
    · rw [if_neg (show ¬ (3 : Int32) = 0 by decide), if_pos (show (3 : Int32) = 3 from rfl), if_pos (show inb (nI t) (mlB 13) = true from i12), ix_nI (by omega), e354]
  · refine ⟨fX2_ofWhole (lN mv), can_whole _, ?_, ?_⟩
    · rw [if_neg (show ¬ (4 : Int32) = 0 by decide), if_neg (show ¬ (4 : Int32) = 1 by decide), if_neg (show ¬ (4 : Int32) = 2 by decide), if_neg (show ¬ (4 : Int32) = 3 by decide), if_pos (show (4 : Int32) = 4 from rfl)]
      rcases hq with q | q | q | q
      · rw [if_neg (by omega)] at d5_
        rw [(dsp R h1 h2 _ _ _ _).1 q]
        unfold fX0_moves fX11_toldOf_72
        rw [d5_.2.2]; rfl
      · rw [if_neg (by omega)] at d5_
        rw [(dsp R h1 h2 _ _ _ _).2.1 q]
        unfold fX0_moves fX11_toldOf_72
        rw [d5_.2.2]; rfl
      · rw [if_neg (by omega)] at d5_
        rw [(dsp R h1 h2 _ _ _ _).2.2.1 q]
        unfold fX0_moves fX11_toldOf_72
        rw [d5_.2.2]; rfl
      · rw [if_pos q] at d5_
        rw [(dsp R h1 h2 _ _ _ _).2.2.2 q]
        unfold fX5_moves fX11_toldOf_72
        rw [d5_]; rfl
    · rw [if_neg (show ¬ (4 : Int32) = 0 by decide), if_neg (show ¬ (4 : Int32) = 3 by decide), if_neg (show ¬ (4 : Int32) = 1 by decide), if_neg (show ¬ (4 : Int32) = 2 by decide), if_pos (show (4 : Int32) = 4 from rfl), if_pos (show inb (nI t) (mlA 18) = true from i12), ix_nI (by omega), d4_, e351, nI_l (by omega)]
  · refine ⟨fX2_ofWhole (fX12_speedOf (nI (kN M t))).toInt64, can_whole _, ?_, ?_⟩
    · rw [if_neg (show ¬ (5 : Int32) = 0 by decide), if_neg (show ¬ (5 : Int32) = 1 by decide), if_neg (show ¬ (5 : Int32) = 2 by decide), if_neg (show ¬ (5 : Int32) = 3 by decide), if_neg (show ¬ (5 : Int32) = 4 by decide), if_pos (show (5 : Int32) = 5 from rfl)]
      rcases hq with q | q | q | q
      · rw [(dsp R h1 h2 _ _ _ _).1 q, q]; rfl
      · rw [(dsp R h1 h2 _ _ _ _).2.1 q, q]; rfl
      · rw [(dsp R h1 h2 _ _ _ _).2.2.1 q, q]; rfl
      · rw [(dsp R h1 h2 _ _ _ _).2.2.2 q, q]; rfl
    · rw [if_neg (show ¬ (5 : Int32) = 0 by decide), if_neg (show ¬ (5 : Int32) = 3 by decide), if_neg (show ¬ (5 : Int32) = 1 by decide), if_neg (show ¬ (5 : Int32) = 2 by decide), if_neg (show ¬ (5 : Int32) = 4 by decide), if_pos (show (5 : Int32) = 5 from rfl), e351]
  · refine ⟨0, can64_0, ?_, ?_⟩
    · rw [if_neg (show ¬ (6 : Int32) = 0 by decide), if_neg (show ¬ (6 : Int32) = 1 by decide), if_neg (show ¬ (6 : Int32) = 2 by decide), if_neg (show ¬ (6 : Int32) = 3 by decide), if_neg (show ¬ (6 : Int32) = 4 by decide), if_neg (show ¬ (6 : Int32) = 5 by decide)]
    · rw [if_neg (show ¬ (6 : Int32) = 0 by decide), if_neg (show ¬ (6 : Int32) = 3 by decide), if_neg (show ¬ (6 : Int32) = 1 by decide), if_neg (show ¬ (6 : Int32) = 2 by decide), if_neg (show ¬ (6 : Int32) = 4 by decide), if_neg (show ¬ (6 : Int32) = 5 by decide), e351, show fX2_ofWhole 0 = 0 by decide]
  · refine ⟨0, can64_0, ?_, ?_⟩
    · rw [if_neg (show ¬ (7 : Int32) = 0 by decide), if_neg (show ¬ (7 : Int32) = 1 by decide), if_neg (show ¬ (7 : Int32) = 2 by decide), if_neg (show ¬ (7 : Int32) = 3 by decide), if_neg (show ¬ (7 : Int32) = 4 by decide), if_neg (show ¬ (7 : Int32) = 5 by decide)]
    · rw [if_neg (show ¬ (7 : Int32) = 0 by decide), if_neg (show ¬ (7 : Int32) = 3 by decide), if_neg (show ¬ (7 : Int32) = 1 by decide), if_neg (show ¬ (7 : Int32) = 2 by decide), if_neg (show ¬ (7 : Int32) = 4 by decide), if_neg (show ¬ (7 : Int32) = 5 by decide), e351, show fX2_ofWhole 0 = 0 by decide]
end N
