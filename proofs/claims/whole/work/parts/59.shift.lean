/-! SHIFT, APART -/
section N
variable {w : Nat → Nat → Nat} {B : Nat} {S : CS} {M : MS}
theorem sim_shift (R : Rel w B S M) (a b c : Int32) : Sim w B S M (fX11_shift S (cSl S (ra a)) (gB S.1 17 (ra b)) (gB S.1 17 (ra c))) (Option.bind (fX12_kindOf M a) (fun c145 => if c145.1 = (-1) then fX12_poses_165 c145.2 a b c else (Option.bind (fX12_kindOf c145.2 a) (fun c154 => if (fX12_isPose c154.1) = 0 then some (2, c154.2) else fX12_poses_165 c154.2 a b c)))) := by
  obtain ⟨t, h2, e1_, e2_⟩ := rl_slot R a
  have h4 := rl_4000 R
  have hK := m_kindOf R a e1_ h2
  rw [e2_, rl_mea R b, rl_mea R c]
  unfold fX11_shift fX12_poses_165
  simp only [hK, Option.bind_some]
  by_cases ct : t = 0
  · subst ct
    rw [if_pos rfl, if_pos rfl]
    exact sim_err R 1 (by decide)
  · have hk := rl_kN R ct h2
    have e5 : gA M 5 (ix (a &&& 15)) = nI t := e1_
    rw [if_neg ct, if_neg (nI_nm (by omega)), if_neg (nI_nm (by omega)), onul_r ct, rfn_s w ct, c_inst R ct h2 _ _ inst21, Option.bind_some, c_cast R ct h2, m_isPose hk.2, if_pos (inb5 a), e5]
    by_cases c1 : kN M t = 11 ∨ kN M t = 12
    · have hg := c_pget R ct h2 c1
      have hps := rl_pose R ct h2 c1
      have i12 : inb (nI t) 4001 = true := inb_nI (by omega) (by omega)
      obtain ⟨S1_, q1_, q2_, q3_⟩ := sim_pm R ct h2 c1 (k := 0) (by decide) (can_add hps.2.2.2.2.1 (rl_can R b))
      have q3' : Rel w B S1_ (pB M 12 t (fX2_add (gB M 12 t) (gB M 4 (ra b)))) := q3_
      have c1' : kN (pB M 12 t (fX2_add (gB M 12 t) (gB M 4 (ra b)))) t = 11 ∨ kN (pB M 12 t (fX2_add (gB M 12 t) (gB M 4 (ra b)))) t = 12 := c1
      have h2' : t ≤ nT (pB M 12 t (fX2_add (gB M 12 t) (gB M 4 (ra b)))) := h2
      have hg2 := (c_pget q3' ct h2' c1').2.1
      have hps2 := (rl_pose q3' ct h2' c1').2.2.2.2.2.1
      have e13 : gB (pB M 12 t (fX2_add (gB M 12 t) (gB M 4 (ra b)))) 13 = gB M 13 := gB_pB_ne _ _ _ (by decide)
      have e4 : gB (pB M 12 t (fX2_add (gB M 12 t) (gB M 4 (ra b)))) 4 = gB M 4 := gB_pB_ne _ _ _ (by decide)
      obtain ⟨S2_, y1_, y2_, y3_⟩ := sim_pm q3' ct h2' c1' (k := 1) (by decide) (can_add hps2 (rl_can R c))
      rw [if_pos ((tag21 hk.2).mpr c1), if_neg (show ¬ (1 : Int32) = 0 by decide), if_pos ((tag21 hk.2).mpr c1), if_pos c1, if_neg (show ¬ (1 : Int32) = 0 by decide), hg.1, Option.bind_some, q1_, Option.bind_some, hg2, Option.bind_some, y1_, Option.bind_some]
      unfold fX12_poses_187 fX12_poses_213 fX12_poses_240
      have eb : gB M 4 (ix (b &&& 15)) = gB M 4 (ra b) := rfl
      have ec : gB M 4 (ix (c &&& 15)) = gB M 4 (ra c) := rfl
      rw [if_pos (show inb (nI t) (mlB 12) = true from i12), if_pos (inb4 b), ix_nI (by omega), eb, fl_sum, Option.bind_some, if_pos (show inb (nI t) (mlB 12) = true from i12), if_pos (show inb (nI t) (mlB 13) = true from i12), if_pos (inb4 c), e4, ec, fl_sum, Option.bind_some, if_pos (show inb (nI t) (mlB 13) = true from i12)]
      exact sim_one (r := 0) R (by decide) (Rel_B y3_ (by omega)) (cfr_trans (S1 := S1_) (by rw [q2_]; exact ⟨fun _ _ _ => rfl, rfl⟩) (by rw [y2_]; exact ⟨fun _ _ _ => rfl, rfl⟩)) (mfr_trans (mfr_B (k := 12) (by decide)) (mfr_B (by decide))) rfl
    · rw [if_neg (show ¬ [2, 1].contains (tagK (kN M t)) = true from fun h => c1 ((tag21 hk.2).mp h)), if_pos (show (0 : Int32) = 0 from rfl), if_neg c1, if_pos rfl]
      exact sim_err R 2 (by decide)
theorem sim_330 (R : Rel w B S M) (a : Int32) {t u : Nat} (h1 : t ≠ 0) (h2 : t ≤ nT M) (h3 : u ≠ 0) (h4 : u ≤ nT M) (hk : kN M t = 11 ∨ kN M t = 12) (hl : kN M u = 11 ∨ kN M u = 12) : Sim w B S M (Option.bind (fX4_apartFrom S (some (w 0 t)) (some (w 0 u))) (fun c61 => fX11_tellApart_64 c61.2 a c61.1)) (fX12_poses_330 M a (nI t) (nI u)) := by
  have h40 := rl_4000 R
  have g1 := c_pget R h1 h2 hk
  have g2 := c_pget R h3 h4 hl
  have p1 := rl_pose R h1 h2 hk
  have p2 := rl_pose R h3 h4 hl
  have it : inb (nI t) 4001 = true := inb_nI (by omega) (by omega)
  have iu : inb (nI u) 4001 = true := inb_nI (by omega) (by omega)
  unfold fX4_apartFrom fX4_apartFrom_12 fX4_apartFrom_25 fX12_poses_330 fX12_poses_399 fX11_tellApart_64
  rw [g1.1, Option.bind_some, g2.1, Option.bind_some, g1.2.1, Option.bind_some, g2.2.1, Option.bind_some]
  rw [if_pos (show inb (nI t) (mlB 12) = true from it), if_pos (show inb (nI u) (mlB 12) = true from iu), ix_nI (by omega), ix_nI (by omega), fl_less, Option.bind_some, if_pos (show inb (nI t) (mlB 13) = true from it), if_pos (show inb (nI u) (mlB 13) = true from iu), fl_less, Option.bind_some]
  have dx := can_sub p1.2.2.2.2.1 p2.2.2.2.2.1
  have dy := can_sub p1.2.2.2.2.2.1 p2.2.2.2.2.2.1
  obtain ⟨M1_, e1_, e2_⟩ := fl_prod M (fX2_subtract (gB M 12 t) (gB M 12 u)) (fX2_subtract (gB M 12 t) (gB M 12 u))
  obtain ⟨M2_, e3_, e4_⟩ := fl_prod M1_ (fX2_subtract (gB M 13 t) (gB M 13 u)) (fX2_subtract (gB M 13 t) (gB M 13 u))
  have ds := can_add (can_mul dx dx) (can_mul dy dy)
  obtain ⟨r1_, z1_, r2_⟩ := fl_root _ ds
  rw [e1_, Option.bind_some, e3_, Option.bind_some, fl_sum, Option.bind_some, r1_, r2_, Option.bind_some, Option.bind_some, Option.bind_some, c_giveMea, Option.bind_some, if_pos (inb4 a)]
  exact sim_mea R _ (can_root ds r2_) (mEq_trans e2_ e4_)
theorem sim_apart (R : Rel w B S M) (a b c : Int32) : Sim w B S M (fX11_tellApart S a (cSl S (ra b)) (cSl S (ra c))) (Option.bind (fX12_kindOf M b) (fun c244 => if c244.1 = (-1) then fX12_poses_262 c244.2 a b c else (Option.bind (fX12_kindOf c244.2 b) (fun c253 => if (fX12_isPose c253.1) = 0 then fX12_poses_284 c253.2 else fX12_poses_262 c253.2 a b c)))) := by
  obtain ⟨t, h2, e1_, e2_⟩ := rl_slot R b
  obtain ⟨u, h4, e3_, e4_⟩ := rl_slot R c
  have h40 := rl_4000 R
  have hK := m_kindOf R b e1_ h2
  have hU := m_kindOf R c e3_ h4
  have e5 : gA M 5 (ix (b &&& 15)) = nI t := e1_
  have e6 : gA M 5 (ix (c &&& 15)) = nI u := e3_
  rw [e2_, e4_]
  unfold fX11_tellApart fX11_tellApart_11 fX11_tellApart_22 fX11_tellApart_24 fX11_tellApart_53 fX12_poses_262 fX12_poses_284 fX12_poses_286 fX12_poses_305 fX12_poses_318
  simp only [hK, hU, Option.bind_some, if_pos (inb5 b), if_pos (inb5 c), e5, e6]
  by_cases ct : t = 0
  · subst ct
    rw [if_pos rfl, if_pos rfl]
    by_cases cu : u = 0
    · subst cu
      rw [if_pos rfl]
      exact sim_err R 1 (by decide)
    · have hl := rl_kN R cu h4
      rw [if_neg cu, if_neg (nI_nm (by omega)), rfn_0, rfn_s w cu, m_isPose hl.2]
      show Sim w B S M (Option.bind (cInst S (some (w 0 u)) [2, 1] [0, 3, 4, 5, 6]) (fun c16 => if c16 = 0 then some (2, S) else some (1, S))) _
      rw [c_inst R cu h4 _ _ inst21, Option.bind_some]
      by_cases c2 : kN M u = 11 ∨ kN M u = 12
      · rw [if_pos ((tag21 hl.2).mpr c2), if_neg (show ¬ (1 : Int32) = 0 by decide), if_pos c2, if_neg (show ¬ (1 : Int32) = 0 by decide)]
        exact sim_err R 1 (by decide)
      · rw [if_neg (show ¬ [2, 1].contains (tagK (kN M u)) = true from fun h => c2 ((tag21 hl.2).mp h)), if_pos (show (0 : Int32) = 0 from rfl), if_neg c2, if_pos rfl]
        exact sim_err R 2 (by decide)
  · have hk := rl_kN R ct h2
    rw [if_neg ct, if_neg (nI_nm (by omega)), if_neg (nI_nm (by omega)), onul_r ct, rfn_s w ct, c_inst R ct h2 _ _ inst21, Option.bind_some, m_isPose hk.2, c_cast R ct h2, c_isKx R ct h2, c_isKx R ct h2]
    by_cases c1 : kN M t = 11 ∨ kN M t = 12
    · rw [if_pos ((tag21 hk.2).mpr c1), if_neg (show ¬ (1 : Int32) = 0 by decide), if_pos c1, if_neg (show ¬ (1 : Int32) = 0 by decide), if_pos ((tag21 hk.2).mpr c1)]
      by_cases cu : u = 0
      · subst cu
        rw [if_pos rfl]
        exact sim_err R 1 (by decide)
      · have hl := rl_kN R cu h4
        rw [if_neg cu, if_neg (nI_nm (by omega)), if_neg (nI_nm (by omega)), onul_r cu, rfn_s w cu, c_inst R cu h4 _ _ inst21, Option.bind_some, Option.bind_some, c_cast R cu h4, m_isPose hl.2]
        by_cases c2 : kN M u = 11 ∨ kN M u = 12
        · rw [if_pos ((tag21 hl.2).mpr c2), if_neg (show ¬ (1 : Int32) = 0 by decide), if_pos ((tag21 hl.2).mpr c2), if_pos c2, if_neg (show ¬ (1 : Int32) = 0 by decide)]
          have fin := sim_330 R a ct h2 cu h4 c1 c2
          rcases c1 with c3 | c3
          · rw [if_pos ((tag2 hk.2).mpr c3)]; exact fin
          · rw [if_neg (fun h => by have := (tag2 hk.2).mp h; omega), if_pos ((tag1 hk.2).mpr c3)]; exact fin
        · rw [if_neg (show ¬ [2, 1].contains (tagK (kN M u)) = true from fun h => c2 ((tag21 hl.2).mp h)), if_pos (show (0 : Int32) = 0 from rfl), if_neg c2, if_pos rfl]
          exact sim_err R 2 (by decide)
    · rw [if_neg (show ¬ [2, 1].contains (tagK (kN M t)) = true from fun h => c1 ((tag21 hk.2).mp h)), if_pos (show (0 : Int32) = 0 from rfl), if_neg c1, if_pos rfl]
      exact sim_err R 2 (by decide)
end N
