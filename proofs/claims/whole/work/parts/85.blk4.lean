/-! blocks: SKIP and AGAIN -/
section N
variable {d F B p n : Nat} {S : CS} {M : MS} {rB : CS → Int32 → Int32 → Option ((Int32 × CS) × Nat × Nat)} {r2 : CS → Int32 → Int32 → Option ((Int32 × CS) × Nat × Nat)}
theorem d_ctl {o : Int32} (i a b c : Int32) (h1 : 13 ≤ o.toInt) (h2 : o.toInt ≤ 21) : fX12_does_30 M i o a b c = Option.bind (fX12_controls M o (a &&& 15) b c i) (fun c77 => some (c77.1, c77.2)) := by
  have e0 : (0 : Int32).toInt = 0 := by decide
  have e12 : (12 : Int32).toInt = 12 := by decide
  have e13 : (13 : Int32).toInt = 13 := by decide
  have e22 : (22 : Int32).toInt = 22 := by decide
  unfold fX12_does_30 fX12_does_54
  rw [if_neg (show ¬ o ≤ 0 by rw [Int32.le_iff_toInt_le]; omega), if_pos (show 13 ≤ o by rw [Int32.le_iff_toInt_le]; omega), if_neg (show ¬ o ≤ 12 by rw [Int32.le_iff_toInt_le]; omega), if_neg (show ¬ 22 ≤ o by rw [Int32.le_iff_toInt_le]; omega)]
theorem bl_skip (hd : 1 ≤ d) (hd2 : d ≤ 40) (G : Gd B (F + 1) S M) (h41 : gI M 41 = (-1)) (h37 : gI M 37 = nI d) (hat : gA M 29 (d - 1) = nI p) (hn : n ≤ 400) (h25 : gI M 25 = nI n) (hp : p < n) (ho : gA M 21 p = 13) (ih : Nxt d F r2) : ∃ r S' k s, fX11_doBlock_42 rB r2 (fuS S F) (nI d) (nI p) 13 = some ((r, S'), k, s) ∧ BR d (F + 1) B M r S' k s := by
  have hF : F < 20000 := by have := G.2.2.2.2.1; omega
  have hp4 : p < 400 := by omega
  have G1 := fu_Gd (d := d) (p := p) G
  have hst := step_go h41 hd hd2 h37 hat hn h25 hp G.2.2.2.1 hF ho
  rw [if_neg (show ¬ (13 : Int32) = 0 by decide)] at hst
  have hst' : fX12_steps M = Option.bind (fX12_does (fuM M F d p) (nI p)) (fun c93 => if c93.1 ≤ 0 then some c93.2 else (Option.bind (fX12_comes c93.2 c93.1 (nI p)) (fun c104 => some c104))) := hst
  have ho1 : gA (fuM M F d p) 21 p = 13 := by rw [fu_A 21 (by decide)]; exact ho
  have ha := c_arr G1 hp4
  have e1 : nI d - 1 = nI (d - 1) := pk_sub (a := d) (b := 1) (by omega)
  have i40 : inb (nI (d - 1)) 40 = true := inb_nI (by omega) (by omega)
  have g37 : gI (fuM M F d p) 37 = nI d := by rw [fu_I 37 (by decide) (by decide)]; exact h37
  have g41 : gI (fuM M F d p) 41 = (-1) := by rw [fu_I 41 (by decide) (by decide)]; exact h41
  obtain ⟨⟨w, R⟩, _⟩ := G1
  have G1 := fu_Gd (d := d) (p := p) G
  obtain ⟨x, hx, ex⟩ := and_255 (gA (fuM M F d p) 23 p)
  have hm : fX12_does (fuM M F d p) (nI p) = some (0, if gB (fuM M F d p) 3 (ra (gA (fuM M F d p) 22 p)) = 0 then fuM M F d p else pA (fuM M F d p) 29 (d - 1) (nI (p + 1 + x))) := by
    rw [m_does hp4 ho1, d_ctl _ _ _ _ (by decide) (by decide)]
    unfold fX12_controls fX12_controls_8 fX12_controls_40 fX12_controls_344
    rw [if_pos (show (13 : Int32) = 13 from rfl), if_pos (inb3 _), g37, e1, if_pos (show inb (nI (d - 1)) (mlA 29) = true from i40), if_pos (show inb (nI (d - 1)) (mlA 29) = true from i40), ix_nI (n := d - 1) (by omega), fu_at, ex, nI_add]
    have ea : gB (fuM M F d p) 3 (ix (gA (fuM M F d p) 22 p &&& 15)) = gB (fuM M F d p) 3 (ra (gA (fuM M F d p) 22 p)) := rfl
    rw [ea]
    split <;> rfl
  have hc : fX11_passed (fuS S F) (nI p) = some (if gB (fuM M F d p) 3 (ra (gA (fuM M F d p) 22 p)) = 0 then 0 else nI x, fuS S F) := by
    unfold fX11_passed
    rw [if_pos (show inb (nI p) (clA 1) = true from inbO hp4), ix_nI (by omega), ha.2.1, c_numAt, Option.bind_some, rl_num R]
    simp only
    rw [if_pos (show inb (nI p) (clA 2) = true from inbO hp4), ha.2.2.1, ex]
    split <;> rfl
  rw [hm, Option.bind_some, if_pos (show (0 : Int32) ≤ 0 by decide)] at hst'
  unfold fX11_doBlock_42 fX11_doBlock_64 fX11_doBlock_83 fX11_doBlock_86
  rw [if_neg (show ¬ (13 : Int32) = 0 by decide), if_pos (show (13 : Int32) = 13 from rfl), hc, Option.bind_some]
  simp only
  have hT : nT (fuM M F d p) = nT M := fu_T
  by_cases c : gB (fuM M F d p) 3 (ra (gA (fuM M F d p) 22 p)) = 0
  · simp only [if_pos c] at hst'
    rw [if_pos c, show nI p + 0 + 1 = nI (p + 1) from by rw [show (0 : Int32) = nI 0 from rfl, nI_add, nI_1, Nat.add_zero]]
    obtain ⟨r3, S3, k3, s3, e3, b3⟩ := ih F B (fuS S F) (fuM M F d p) (nI (p + 1)) (Nat.le_refl _) G1 g41 g37 fu_at
    refine ⟨r3, S3, k3, s3, e3, ?_⟩
    exact br_pre (n2 := 1) (k2 := 0) (s2 := 0) (M2 := fuM M F d p) (by omega) (by omega) (show rch 1 M (fuM M F d p) from rch_1 h41 hst') (by omega) (fu_stk hd) fu_oth (by omega) (by omega) (by omega) b3
  · simp only [if_neg c] at hst'
    rw [if_neg c, nI_add, nI_1, show p + x + 1 = p + 1 + x by omega]
    have G2 : Gd B F (fuS S F) (pA (fuM M F d p) 29 (d - 1) (nI (p + 1 + x))) := Gd_ctl G1 (cst_refl _) (mst_A (by decide)) (ctl_eq G1.2.1 rfl (fun _ _ => rfl) (fun k hk => gA_pA_ne _ _ _ (by omega)) (fun _ _ => rfl)) G1.2.2.1 G1.2.2.2.1 (Nat.le_refl _)
    obtain ⟨r3, S3, k3, s3, e3, b3⟩ := ih F B (fuS S F) (pA (fuM M F d p) 29 (d - 1) (nI (p + 1 + x))) (nI (p + 1 + x)) (Nat.le_refl _) G2 g41 g37 (by rw [gA_pA, if_pos rfl])
    refine ⟨r3, S3, k3, s3, e3, ?_⟩
    refine br_pre (n2 := 1) (k2 := 0) (s2 := 0) (M2 := pA (fuM M F d p) 29 (d - 1) (nI (p + 1 + x))) (by omega) (by omega) (show rch 1 M _ from rch_1 h41 hst') (by omega) (stk_trans (fu_stk (F := F) (p := p) hd) ⟨fun k f a b c e => ?_, fun _ _ => rfl, rfl⟩) ⟨fun k hk => (fu_oth (M := M) (F := F) (d := d) (p := p)).1 k hk, fun k hk => (gA_pA_ne _ _ _ (by omega)).trans ((fu_oth (M := M) (F := F) (d := d) (p := p)).2 k hk)⟩ ?_ ?_ ?_ b3
    · by_cases h : k = 29
      · subst h
        rw [gA_pA, if_neg (by omega)]
      · rw [gA_pA_ne _ _ _ h]
    · show nT M ≤ nT (fuM M F d p)
      omega
    · omega
    · omega
theorem bl_again (hd : 1 ≤ d) (hd2 : d ≤ 40) (G : Gd B (F + 1) S M) (h41 : gI M 41 = (-1)) (h37 : gI M 37 = nI d) (hat : gA M 29 (d - 1) = nI p) (hn : n ≤ 400) (h25 : gI M 25 = nI n) (hp : p < n) (ho : gA M 21 p = 19) : ∃ r S' k s, fX11_doBlock_42 rB r2 (fuS S F) (nI d) (nI p) 19 = some ((r, S'), k, s) ∧ BR d (F + 1) B M r S' k s := by
  have hF : F < 20000 := by have := G.2.2.2.2.1; omega
  have hp4 : p < 400 := by omega
  have G1 := fu_Gd (d := d) (p := p) G
  have hst := step_go h41 hd hd2 h37 hat hn h25 hp G.2.2.2.1 hF ho
  rw [if_neg (show ¬ (19 : Int32) = 0 by decide)] at hst
  have hst' : fX12_steps M = Option.bind (fX12_does (fuM M F d p) (nI p)) (fun c93 => if c93.1 ≤ 0 then some c93.2 else (Option.bind (fX12_comes c93.2 c93.1 (nI p)) (fun c104 => some c104))) := hst
  have ho1 : gA (fuM M F d p) 21 p = 19 := by rw [fu_A 21 (by decide)]; exact ho
  have hoS : gA (fuS S F).1 0 p = 19 := (c_arr G hp4).1.trans ho
  have g41 : gI (fuM M F d p) 41 = (-1) := by rw [fu_I 41 (by decide) (by decide)]; exact h41
  have hT : nT (fuM M F d p) = nT M := fu_T
  obtain ⟨z, z1, z2, z3, z4⟩ := G1.2.1.2.2.2.2
  have hm : fX12_does (fuM M F d p) (nI p) = Option.bind (fX12_controls (fuM M F d p) 19 (gA (fuM M F d p) 22 p &&& 15) (gA (fuM M F d p) 23 p) (gA (fuM M F d p) 24 p) (nI p)) (fun c77 => some (c77.1, c77.2)) := by rw [m_does hp4 ho1, d_ctl _ _ _ _ (by decide) (by decide)]
  have hm2 : fX12_controls (fuM M F d p) 19 (gA (fuM M F d p) 22 p &&& 15) (gA (fuM M F d p) 23 p) (gA (fuM M F d p) 24 p) (nI p) = if nI z = 0 then some (1, fuM M F d p) else Option.bind (fX12_goesOn (fuM M F d p) (nI z) (gI (fuM M F d p) 44)) (fun c281 => some (0, c281)) := by
    unfold fX12_controls fX12_controls_8 fX12_controls_344
    rw [if_neg (show ¬ (19 : Int32) = 13 by decide), if_neg (show ¬ (19 : Int32) = 15 by decide), if_neg (show ¬ (19 : Int32) = 14 by decide), if_neg (show ¬ (19 : Int32) = 16 by decide), if_neg (show ¬ (19 : Int32) = 17 by decide), if_neg (show ¬ (19 : Int32) = 18 by decide), if_pos (show (19 : Int32) = 19 from rfl), z3]
  have hdo : fX11_doOrder rB (fuS S F) (nI p) (nI d) = Option.bind (fX11_raiseAgain (fuS S F) (nI p)) (fun c34 => some ((c34.1, c34.2), 0, 0)) := by
    unfold fX11_doOrder fX11_doOrder_7 fX11_doOrder_26
    rw [if_pos (show inb (nI p) (clA 0) = true from inbO hp4), ix_nI (by omega), hoS, if_neg (show ¬ (19 : Int32) < 14 by decide), if_pos (show (17 : Int32) < 19 by decide), if_pos (show (19 : Int32) = 19 from rfl)]
  unfold fX11_doBlock_42
  rw [if_neg (show ¬ (19 : Int32) = 0 by decide), if_neg (show ¬ (19 : Int32) = 13 by decide), hdo]
  unfold fX11_raiseAgain fX11_raiseAgain_22 fX11_doBlock_75
  rw [z2]
  by_cases c : z = 0
  · subst c
    rw [if_pos (show nI 0 = 0 from rfl)]
    rw [hm, hm2, if_pos (show nI 0 = 0 from rfl), Option.bind_some, Option.bind_some, if_neg (show ¬ (1 : Int32) ≤ 0 by decide)] at hst'
    obtain ⟨r3, S3, e3, e4, b3⟩ := br_raise (z := 1) (p := p) ⟨by omega, by omega⟩ G1 g41 h41 hst' (fu_stk hd) fu_oth (F0 := F + 1) (B0 := B) (k := 0) (s := 0) (by omega) (by omega) (by omega) (by omega) (by omega)
    have e3' : fX11_raise (fuS S F) 1 (nI p) = some (r3, S3) := e3
    rw [e3', Option.bind_some, Option.bind_some, Option.bind_some]
    simp only
    rw [if_neg e4]
    exact ⟨r3, S3, 0, 0, rfl, b3⟩
  · have cz : ¬ nI z = 0 := fun q => c ((nI_inj (b := 0) (by omega) (by decide)).mp q)
    rw [if_neg cz]
    rw [hm, hm2, if_neg cz] at hst'
    have hg : fX12_steps M = fX12_goesOn (fuM M F d p) (nI z) (gI (fuM M F d p) 44) := by
      rw [hst']
      cases fX12_goesOn (fuM M F d p) (nI z) (gI (fuM M F d p) 44) with
      | none => rfl
      | some X => rfl
    have e12 : gI (cpI (fuS S F) 12 (gI (fuS S F).1 14)).1 12 = gI (fuM M F d p) 44 := by
      show gI (pI (fuS S F).1 12 _) 12 = _
      rw [gI_pI]
      exact z4 c
    have e13 : gI (cpI (fuS S F) 12 (gI (fuS S F).1 14)).1 13 = nI z := by
      show gI (pI (fuS S F).1 12 _) 13 = _
      rw [gI_pI_ne _ _ (by decide)]
      exact z2
    rw [Option.bind_some, Option.bind_some]
    simp only
    rw [e13, if_neg cz]
    refine ⟨nI z, _, 0, 0, rfl, 0, F, B, fuM M F d p, by omega, by omega, by omega, by omega, by omega, by omega, ?_, fu_oth, Or.inr ⟨g41, fu_stk hd, M, rfl, h41, Or.inr ⟨z, by omega, z1, rfl, ?_⟩⟩⟩
    · exact Gd_ctl G1 (cst_I (by decide) (by decide)) (mst_refl _) (ctl_eq G1.2.1 rfl (fun k hk => gI_pI_ne _ _ (by omega)) (fun _ _ => rfl) (fun _ _ => rfl)) (by show gI (pI (fuS S F).1 12 _) 10 = _; rw [gI_pI_ne _ _ (by decide)]; exact G1.2.2.1) G1.2.2.2.1 (Nat.le_refl _)
    · rw [e12]; exact hg
end N
