/-! the devices' orders but DEVICE -/
section N
variable {w : Nat → Nat → Nat} {B : Nat} {S : CS} {M : MS}
theorem sim_wrap {X : Option (Int32 × MS)} {c : Option (Int32 × CS)} (h : Sim w B S M c X) : Sim w B S M c (Option.bind X (fun c232 => some (c232.1, c232.2))) := by
  obtain ⟨r1_, S1_, M1_, q1_, q2_, q3_, q4_⟩ := h
  exact ⟨r1_, S1_, M1_, q1_, q2_, by rw [q3_]; rfl, q4_⟩
/-- the reference's way to its device -/
theorem m_110 (R : Rel w B S M) (v1 a b c r : Int32) {t : Nat} (h2 : t ≤ nT M) (er : gA M 5 (ra r) = nI t) : fX12_devices_110 M v1 a b c r = (if t = 0 then some (1, M) else if v1 = 91 then (if 13 ≤ kN M t ∧ kN M t ≤ 15 then fX12_devices_209 M v1 a b c (nI (kN M t)) (nI t) else some (2, M)) else if v1 = 92 then (if kN M t = 16 then fX12_devices_209 M v1 a b c (nI (kN M t)) (nI t) else some (2, M)) else (if 13 ≤ kN M t then fX12_devices_209 M v1 a b c (nI (kN M t)) (nI t) else some (2, M))) := by
  have h4 := rl_4000 R
  have e5 : gA M 5 (ix (r &&& 15)) = nI t := er
  unfold fX12_devices_110 fX12_devices_144 fX12_devices_174 fX12_devices_189
  rw [m_kindOf R r er h2, Option.bind_some]
  simp only [if_true]
  by_cases ct : t = 0
  · rw [if_pos ct, if_pos ct, if_pos rfl]
    split
    · split
      · rfl
      · split <;> rfl
    · split
      · split <;> rfl
      · rfl
  · have hk := (rl_kN R ct h2).2
    rw [if_neg ct, if_neg ct, if_neg (nI_nm (by omega)), if_pos (inb5 r), e5, if_neg (nI_nm (by omega)), if_neg (show ¬ (1 : Int32) = 0 by decide)]
    have l13 : nI (kN M t) < 13 ↔ kN M t < 13 := nI_ltI (b := 13) (by omega) (by decide)
    have g15 : (15 : Int32) < nI (kN M t) ↔ 15 < kN M t := nI_ltI (a := 15) (by decide) (by omega)
    have e16 : nI (kN M t) = 16 ↔ kN M t = 16 := nI_inj (b := 16) (by omega) (by decide)
    have l12 : nI (kN M t) ≤ 12 ↔ kN M t ≤ 12 := nI_leI (b := 12) (by omega) (by decide)
    have nm : ¬ nI (kN M t) = (-1) := nI_nm (by omega)
    by_cases c1 : v1 = 91
    · rw [if_pos c1, if_pos c1]
      by_cases c2 : kN M t < 13
      · rw [if_pos (l13.mpr c2), if_neg (show ¬ (13 ≤ kN M t ∧ kN M t ≤ 15) by omega)]
      · rw [if_neg (fun h => c2 (l13.mp h))]
        by_cases c3 : 15 < kN M t
        · rw [if_pos (g15.mpr c3), if_neg (show ¬ (13 ≤ kN M t ∧ kN M t ≤ 15) by omega)]
        · rw [if_neg (fun h => c3 (g15.mp h)), if_pos (show 13 ≤ kN M t ∧ kN M t ≤ 15 by omega), if_neg nm]
    · rw [if_neg c1, if_neg c1]
      by_cases c2 : v1 = 92
      · rw [if_pos c2, if_pos c2]
        by_cases c3 : kN M t = 16
        · rw [if_pos (e16.mpr c3), if_pos c3, if_neg nm]
        · rw [if_neg (fun h => c3 (e16.mp h)), if_neg c3]
      · rw [if_neg c2, if_neg c2]
        unfold fX12_isDevice
        by_cases c3 : kN M t ≤ 12
        · rw [if_pos (l12.mpr c3), if_neg nm, if_pos rfl, if_neg (show ¬ 13 ≤ kN M t by omega)]
        · rw [if_neg (fun h => c3 (l12.mp h)), if_neg nm, if_neg (show ¬ (1 : Int32) = 0 by decide), if_pos (show 13 ≤ kN M t by omega), if_neg nm]
theorem sim_go (R : Rel w B S M) (hB : B < 2147483647) (a b c : Int32) : Sim w B S M (fX11_go S a (cSl S (ra b)) (gB S.1 17 (ra c))) (fX12_devices_110 M 89 a b c b) := by
  obtain ⟨t, h2, e1_, e2_⟩ := rl_slot R b
  have h4 := rl_4000 R
  rw [m_110 R 89 a b c b h2 e1_, e2_, rl_mea R c, if_neg (show ¬ (89 : Int32) = 91 by decide), if_neg (show ¬ (89 : Int32) = 92 by decide)]
  unfold fX11_go
  by_cases ct : t = 0
  · subst ct
    rw [if_pos rfl]
    exact sim_err R 1 (by decide)
  · have hk := (rl_kN R ct h2).2
    rw [if_neg ct, onul_r ct, rfn_s w ct, c_inst R ct h2 _ _ inst0346, Option.bind_some, c_cast R ct h2]
    by_cases c1 : 13 ≤ kN M t
    · rw [if_pos ((tag0346 hk).mpr c1), if_neg (show ¬ (1 : Int32) = 0 by decide), if_pos ((tag0346 hk).mpr c1), if_pos c1]
      unfold fX12_devices_209
      have ec : gB M 4 (ix (c &&& 15)) = gB M 4 (ra c) := rfl
      rw [if_pos (show (89 : Int32) = 89 from rfl), if_pos (inb4 c), ec]
      apply sim_wrap
      have hq : kN M t = 13 ∨ kN M t = 14 ∨ kN M t = 15 ∨ kN M t = 16 := by omega
      rcases hq with q | q | q | q
      · rw [(dsp R ct h2 _ _ _ _).1 q]; exact sim_goA R hB a ct h2 (by omega) (rl_can R c)
      · rw [(dsp R ct h2 _ _ _ _).2.1 q]; exact sim_goA R hB a ct h2 (by omega) (rl_can R c)
      · rw [(dsp R ct h2 _ _ _ _).2.2.1 q]; exact sim_goA R hB a ct h2 (by omega) (rl_can R c)
      · rw [(dsp R ct h2 _ _ _ _).2.2.2 q]
        unfold fX5_goTo fX12_goes fX12_goes_8 fX12_goes_50 fX12_goes_91 fX12_goes_129
        rw [if_pos (show inb (nI t) (mlA 6) = true from inb_nI (by omega) (by show t < 4001; omega)), ix_nI (by omega), (rl_kN R ct h2).1, q, if_neg (show ¬ nI 16 = 15 by decide), if_neg (show ¬ nI 16 = 14 by decide), if_neg (show ¬ nI 16 = 15 by decide), if_pos (show nI 16 = 16 from rfl)]
        by_cases cl : fX2_isLost (gB M 4 (ra c)) = 0
        · rw [if_pos cl, if_pos (show fX12_isLost (gB M 4 (ra c)) = 0 from cl), Option.bind_some]
          exact sim_err R 8 (by decide)
        · rw [if_neg cl, if_neg (show ¬ fX12_isLost (gB M 4 (ra c)) = 0 from cl), Option.bind_some]
          exact sim_err R 7 (by decide)
    · rw [if_neg (show ¬ [0, 3, 4, 6].contains (tagK (kN M t)) = true from fun h => c1 ((tag0346 hk).mp h)), if_pos rfl, if_neg c1]
      exact sim_err R 2 (by decide)
theorem sim_tell (R : Rel w B S M) (hB : B < 2147483647) (a b c : Int32) : Sim w B S M (fX11_tell S a (cSl S (ra b)) (c &&& 7)) (fX12_devices_110 M 90 a b c b) := by
  obtain ⟨t, h2, e1_, e2_⟩ := rl_slot R b
  have h4 := rl_4000 R
  rw [m_110 R 90 a b c b h2 e1_, e2_, if_neg (show ¬ (90 : Int32) = 91 by decide), if_neg (show ¬ (90 : Int32) = 92 by decide)]
  unfold fX11_tell
  by_cases ct : t = 0
  · subst ct
    rw [if_pos rfl]
    exact sim_err R 1 (by decide)
  · have hk := (rl_kN R ct h2).2
    rw [if_neg ct, onul_r ct, rfn_s w ct, c_inst R ct h2 _ _ inst0346, Option.bind_some, c_cast R ct h2]
    by_cases c1 : 13 ≤ kN M t
    · rw [if_pos ((tag0346 hk).mpr c1), if_neg (show ¬ (1 : Int32) = 0 by decide), if_pos ((tag0346 hk).mpr c1), if_pos c1]
      unfold fX12_devices_209
      obtain ⟨k7, g1_, g2_⟩ := and_7 c
      obtain ⟨v, q1_, q2_, q3_⟩ := c_told R hB ct h2 c1 g1_ a
      rw [if_neg (show ¬ (90 : Int32) = 89 by decide), if_pos (show (90 : Int32) = 90 from rfl), g2_, q2_, q3_, Option.bind_some, c_giveMea, Option.bind_some]
      exact sim_mea R _ q1_ (mEq_refl M)
    · rw [if_neg (show ¬ [0, 3, 4, 6].contains (tagK (kN M t)) = true from fun h => c1 ((tag0346 hk).mp h)), if_pos rfl, if_neg c1]
      exact sim_err R 2 (by decide)
theorem sim_restO (R : Rel w B S M) (hB : B < 2147483647) (a b c : Int32) : Sim w B S M (fX11_rest S (cSl S (ra a))) (fX12_devices_105 M 91 a b c) := by
  obtain ⟨t, h2, e1_, e2_⟩ := rl_slot R a
  have h4 := rl_4000 R
  unfold fX12_devices_105
  rw [m_110 R 91 a b c a h2 e1_, e2_, if_pos (show (91 : Int32) = 91 from rfl)]
  unfold fX11_rest
  by_cases ct : t = 0
  · subst ct
    rw [if_pos rfl]
    exact sim_err R 1 (by decide)
  · have hk := (rl_kN R ct h2).2
    rw [if_neg ct, onul_r ct, rfn_s w ct, c_inst R ct h2 _ _ inst046, Option.bind_some, c_cast R ct h2]
    by_cases c1 : 13 ≤ kN M t ∧ kN M t ≤ 15
    · rw [if_pos ((tag046 hk).mpr c1), if_neg (show ¬ (1 : Int32) = 0 by decide), if_pos ((tag046 hk).mpr c1), if_pos c1]
      unfold fX12_devices_209
      rw [if_neg (show ¬ (91 : Int32) = 89 by decide), if_neg (show ¬ (91 : Int32) = 90 by decide), if_pos (show (91 : Int32) = 91 from rfl), if_pos (show inb (nI t) (mlB 12) = true from inb_nI (by omega) (by show t < 4001; omega)), ix_nI (by omega)]
      exact sim_rest R hB ct h2 c1
    · rw [if_neg (show ¬ [0, 4, 6].contains (tagK (kN M t)) = true from fun h => c1 ((tag046 hk).mp h)), if_pos rfl, if_neg c1]
      exact sim_err R 2 (by decide)
theorem sim_senseO (R : Rel w B S M) (hB : B < 2147483647) (a b c : Int32) : Sim w B S M (fX11_sense S (cSl S (ra a)) (gB S.1 17 (ra b))) (fX12_devices_105 M 92 a b c) := by
  obtain ⟨t, h2, e1_, e2_⟩ := rl_slot R a
  have h4 := rl_4000 R
  unfold fX12_devices_105
  rw [m_110 R 92 a b c a h2 e1_, e2_, rl_mea R b, if_neg (show ¬ (92 : Int32) = 91 by decide), if_pos (show (92 : Int32) = 92 from rfl)]
  unfold fX11_sense
  by_cases ct : t = 0
  · subst ct
    rw [if_pos rfl]
    exact sim_err R 1 (by decide)
  · have hk := (rl_kN R ct h2).2
    rw [if_neg ct, onul_r ct, rfn_s w ct, c_inst R ct h2 _ _ inst3, Option.bind_some, c_cast R ct h2, c_isKx R ct h2]
    by_cases c1 : kN M t = 16
    · rw [if_pos ((tag3 hk).mpr c1), if_neg (show ¬ (1 : Int32) = 0 by decide), if_pos ((tag3 hk).mpr c1), if_pos ((tag3 hk).mpr c1), if_pos c1]
      unfold fX12_devices_209
      have eb : gB M 4 (ix (b &&& 15)) = gB M 4 (ra b) := rfl
      rw [if_neg (show ¬ (92 : Int32) = 89 by decide), if_neg (show ¬ (92 : Int32) = 90 by decide), if_neg (show ¬ (92 : Int32) = 91 by decide), if_pos (inb4 b), eb]
      exact sim_sense R hB ct h2 c1 (rl_can R b)
    · rw [if_neg (show ¬ [3].contains (tagK (kN M t)) = true from fun h => c1 ((tag3 hk).mp h)), if_pos rfl, if_neg c1]
      exact sim_err R 2 (by decide)
end N
