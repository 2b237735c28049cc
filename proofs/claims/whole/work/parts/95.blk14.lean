/-! blocks: REPEAT, the order -/
section N
variable {d : Nat} {rB : CS → Int32 → Int32 → Option ((Int32 × CS) × Nat × Nat)}
theorem rp_I {M : MS} {F : Nat} {b : Int32} {T : Int64} (k : Nat) (h : k ≠ 37) (h2 : k ≠ 38) : gI (rpM M d F b T) k = gI M k := by
  show gI (pI (pI M 38 (nI F)) 37 (nI (d + 1))) k = _
  rw [gI_pI_ne _ _ h, gI_pI_ne _ _ h2]
theorem rp_37 {M : MS} {F : Nat} {b : Int32} {T : Int64} : gI (rpM M d F b T) 37 = nI (d + 1) := gI_pI (pI M 38 (nI F)) 37 (nI (d + 1))
theorem rp_38 {M : MS} {F : Nat} {b : Int32} {T : Int64} : gI (rpM M d F b T) 38 = nI F := by
  show gI (pI (pI M 38 (nI F)) 37 (nI (d + 1))) 38 = _
  rw [gI_pI_ne _ _ (by decide), gI_pI]
theorem rp_A {M : MS} {F : Nat} {b : Int32} {T : Int64} (k : Nat) (h : k < 28) : gA (rpM M d F b T) k = gA M k := by
  show gA (pA (pA (pA (pA (pI M 38 (nI F)) 28 d 1) 29 d b) 30 d b) 34 d 0) k = _
  rw [gA_pA_ne _ _ _ (by omega), gA_pA_ne _ _ _ (by omega), gA_pA_ne _ _ _ (by omega), gA_pA_ne _ _ _ (by omega)]
  rfl
theorem rp_lo {M : MS} {F : Nat} {b : Int32} {T : Int64} (k f : Nat) (h : f ≠ d) : gA (rpM M d F b T) k f = gA M k f := by
  have : ∀ (X : MS) (j : Nat) (u : Int32), gA (pA X j d u) k f = gA X k f := by
    intro X j u
    by_cases e : k = j
    · subst e; rw [gA_pA, if_neg h]
    · rw [gA_pA_ne _ _ _ e]
  show gA (pA (pA (pA (pA (pI M 38 (nI F)) 28 d 1) 29 d b) 30 d b) 34 d 0) k f = _
  rw [this, this, this, this]
  rfl
theorem rp_f {M : MS} {F : Nat} {b : Int32} {T : Int64} : gA (rpM M d F b T) 28 d = 1 ∧ gA (rpM M d F b T) 29 d = b ∧ gA (rpM M d F b T) 30 d = b ∧ gB (rpM M d F b T) 36 d = T := by
  refine ⟨?_, ?_, ?_, ?_⟩
  · show gA (pA (pA (pA (pA (pI M 38 (nI F)) 28 d 1) 29 d b) 30 d b) 34 d 0) 28 d = _
    rw [gA_pA_ne _ _ _ (by decide), gA_pA_ne _ _ _ (by decide), gA_pA_ne _ _ _ (by decide), gA_pA, if_pos rfl]
  · show gA (pA (pA (pA (pA (pI M 38 (nI F)) 28 d 1) 29 d b) 30 d b) 34 d 0) 29 d = _
    rw [gA_pA_ne _ _ _ (by decide), gA_pA_ne _ _ _ (by decide), gA_pA, if_pos rfl]
  · show gA (pA (pA (pA (pA (pI M 38 (nI F)) 28 d 1) 29 d b) 30 d b) 34 d 0) 30 d = _
    rw [gA_pA_ne _ _ _ (by decide), gA_pA, if_pos rfl]
  · unfold rpM
    rw [gB_pB, if_pos rfl]
theorem rp_mst {M : MS} {F : Nat} {b : Int32} {T : Int64} : mst M (rpM M d F b T) := ⟨fun k hk => rp_I k (by omega) (by omega), fun k hk => rp_A k (by omega), fun k hk => by unfold rpM; rw [gB_pB_ne _ _ _ hk]; rfl⟩
theorem rp_stk {M : MS} {F : Nat} {b : Int32} {T : Int64} : stkA d M (rpM M d F b T) := ⟨fun k f _ _ h => rp_lo k f (by omega), fun f h => by unfold rpM; rw [gB_pB, if_neg (by omega)]; rfl⟩
theorem rp_Gd {B F F2 : Nat} {S : CS} {M : MS} {b : Int32} {T : Int64} (G : Gd B F S M) (h : F2 ≤ F) : Gd B F2 (cpI S 10 (nI F2)) (rpM M d F2 b T) := Gd_ctl G (cst_I (by decide) (by decide)) rp_mst (ctl_eq G.2.1 rfl (fun i hi => gI_pI_ne _ _ (by omega)) (fun i hi => rp_A i (by omega)) (fun i hi => rp_I i (by omega) (by omega))) (gI_pI _ _ _) rp_38 h
theorem bl_rep (hd : 1 ≤ d) (hd2 : d ≤ 40) (hI : d < 40 → Inn d rB) : RepOk d rB := by
  intro F B p n S M r2 G h41 h37 hat hn h25 hp ho ih
  have hF : F < 20000 := by have := G.2.2.2.2.1; omega
  have hp4 : p < 400 := by omega
  have G1 := fu_Gd (d := d) (p := p) G
  have hst := step_go h41 hd hd2 h37 hat hn h25 hp G.2.2.2.1 hF ho
  rw [if_neg (show ¬ (15 : Int32) = 0 by decide)] at hst
  have hst' : fX12_steps M = Option.bind (fX12_does (fuM M F d p) (nI p)) (fun c93 => if c93.1 ≤ 0 then some c93.2 else (Option.bind (fX12_comes c93.2 c93.1 (nI p)) (fun c104 => some c104))) := hst
  have ho1 : gA (fuM M F d p) 21 p = 15 := by rw [fu_A 21 (by decide)]; exact ho
  have hoS : gA (fuS S F).1 0 p = 15 := (c_arr G hp4).1.trans ho
  have g37 : gI (fuM M F d p) 37 = nI d := by rw [fu_I 37 (by decide) (by decide)]; exact h37
  have g41 : gI (fuM M F d p) 41 = (-1) := by rw [fu_I 41 (by decide) (by decide)]; exact h41
  have hT : nT (fuM M F d p) = nT M := fu_T
  have ha := c_arr G hp4
  have eT : gB (fuS S F).1 16 (ra (gA M 22 p)) = gB M 3 (ra (gA M 22 p)) := by
    obtain ⟨w, R⟩ := G.1
    exact R.1 _ (ra_lt _)
  have eB : gB (fuM M F d p) 3 (ra (gA M 22 p)) = gB M 3 (ra (gA M 22 p)) := rfl
  rw [m_does hp4 ho1, d_ctl _ _ _ _ (by decide) (by decide), m_rep hd2 g37 (by omega) G1.2.2.2.1, fu_A 22 (by decide), fu_A 23 (by decide), eB] at hst'
  have hin : fX11_doInner rB (fuS S F) (nI p) (nI d) = fX11_repeat_17 rB (20009 + 1) (fuS S F) (nI p) (nI d) (gB M 3 (ra (gA M 22 p))) (nI 0) := by
    unfold fX11_doInner fX11_repeat
    have e22 : gA (fuS S F).1 1 p = gA M 22 p := ha.2.1
    rw [if_pos (show inb (nI p) (clA 0) = true from inbO hp4), if_pos (show inb (nI p) (clA 1) = true from inbO hp4), ix_nI (by omega), hoS, if_pos (show (15 : Int32) = 15 from rfl), e22, c_numAt, Option.bind_some, addD_id, eT, show nI 0 = 0 from rfl]
  clear eB eT
  generalize gB M 3 (ra (gA M 22 p)) = T at hst' hin
  unfold fX11_doBlock_42
  have e0 : lN 0 = 0 := rfl
  rw [if_neg (show ¬ (15 : Int32) = 0 by decide), if_neg (show ¬ (15 : Int32) = 13 by decide), c_doInner hp4 hoS (by decide), addD_id, hin, fX11_repeat_17, nI_l (by omega), e0]
  by_cases c : 0 < T
  · rw [if_pos c] at hst'
    rw [if_neg (show ¬ T ≤ 0 from fun q => by rw [Int64.lt_iff_toInt_lt] at c; rw [Int64.le_iff_toInt_le] at q; omega), if_neg (show ¬ (20000 : Int32) < nI 0 by decide)]
    by_cases c0 : F = 0
    · subst c0
      rw [if_pos rfl, Option.bind_some, Option.bind_some, if_pos (show (0 : Int32) ≤ 0 by decide)] at hst'
      rw [c_dry G1.2.2.1, Option.bind_some, if_pos rfl, Option.bind_some]
      unfold fX11_doBlock_75
      simp only
      rw [if_neg (show ¬ (10 : Int32) = 0 by decide)]
      refine ⟨10, fuS S 0, 0, 0, rfl, 0, 0, B, pI (fuM M 0 d p) 41 10, by omega, by omega, by omega, by show nT M ≤ nT (fuM M 0 d p); omega, by omega, by omega, ?_, oth_trans fu_oth (oth_I (by decide) (by decide) (by decide) (by decide)), Or.inl ⟨rfl, rch_1 h41 hst', gI_pI _ _ _⟩⟩
      exact Gd_ctl G1 (cst_refl _) (mst_I (by decide) (by decide) (by decide)) (ctl_eq G1.2.1 rfl (fun _ _ => rfl) (fun _ _ => rfl) (fun k hk => gI_pI_ne _ _ (by omega))) G1.2.2.1 (by rw [gI_pI_ne _ _ (by decide)]; exact G1.2.2.2.1) (Nat.le_refl _)
    · obtain ⟨F2, rfl⟩ : ∃ F2, F = F2 + 1 := ⟨F - 1, by omega⟩
      rw [if_neg c0, show F2 + 1 - 1 = F2 by omega] at hst'
      rw [c_fuel (by omega) G1.2.2.1, Option.bind_some, if_neg (show ¬ (1 : Int32) = 0 by decide)]
      by_cases c4 : d = 40
      · rw [if_pos c4, Option.bind_some, Option.bind_some, if_neg (show ¬ (9 : Int32) ≤ 0 by decide)] at hst'
        have G2 : Gd B F2 (cpI (fuS S (F2 + 1)) 10 (nI F2)) (pI (fuM M (F2 + 1) d p) 38 (nI F2)) := Gd_ctl G1 (cst_I (by decide) (by decide)) (mst_I (by decide) (by decide) (by decide)) (ctl_eq G1.2.1 rfl (fun i hi => gI_pI_ne _ _ (by omega)) (fun _ _ => rfl) (fun i hi => gI_pI_ne _ _ (by omega))) (gI_pI _ _ _) (gI_pI _ _ _) (by omega)
        have s2 : stk d M (pI (fuM M (F2 + 1) d p) 38 (nI F2)) := stk_trans (fu_stk hd) ⟨fun _ _ _ _ _ _ => rfl, fun _ _ => rfl, gI_pI_ne _ _ (by decide)⟩
        have o2 : oth M (pI (fuM M (F2 + 1) d p) 38 (nI F2)) := oth_trans fu_oth (oth_I (by decide) (by decide) (by decide) (by decide))
        obtain ⟨r3, S3, e3, e4, b3⟩ := br_raise (z := 9) (p := p) ⟨by omega, by omega⟩ G2 (by rw [gI_pI_ne _ _ (by decide)]; exact g41) h41 hst' s2 o2 (F0 := F2 + 1 + 1) (B0 := B) (k := 0) (s := 0) (by omega) (by omega) (by show nT M ≤ nT (fuM M (F2 + 1) d p); omega) (by omega) (by omega)
        have e3' : fX11_raise (cpI (fuS S (F2 + 1)) 10 (nI F2)) 9 (nI p) = some (r3, S3) := e3
        rw [if_neg (show ¬ nI d < 40 from fun q => by have := (nI_ltI (b := 40) (by omega) (by decide)).mp q; omega), e3', Option.bind_some]
        unfold fX11_repeat_72
        simp only
        rw [if_neg e4, Option.bind_some]
        unfold fX11_doBlock_75
        simp only
        rw [if_neg e4]
        exact ⟨r3, S3, 0, 0, rfl, b3⟩
      · have hd3 : d < 40 := by omega
        rw [if_neg c4, Option.bind_some, Option.bind_some, if_pos (show (0 : Int32) ≤ 0 by decide)] at hst'
        have e23 : gA (cpI (fuS S (F2 + 1)) 10 (nI F2)).1 2 p = gA M 23 p := ha.2.2.1
        have hTT : nT (rpM (fuM M (F2 + 1) d p) d F2 (gA M 23 p) T) = nT M := by unfold nT; rw [rp_I 10 (by decide) (by decide), fu_I 10 (by decide) (by decide)]
        have hO : oth M (rpM (fuM M (F2 + 1) d p) d F2 (gA M 23 p) T) := oth_trans (fu_oth (F := F2 + 1) (d := d) (p := p)) ⟨fun j hj => rp_I j (by omega) (by omega), fun j hj => rp_A j (by omega)⟩
        have hTj : gB (rpM (fuM M (F2 + 1) d p) d F2 (gA M 23 p) T) 36 d = T - lN 0 := by rw [rp_f.2.2.2, e0, Int64.sub_zero]
        obtain ⟨rr, SS, kk, ss, f1, f2⟩ := rp_loop (F0 := F2 + 1 + 1) (B0 := B) (M := M) (M1 := fuM M (F2 + 1) d p) (T := T) hd hd3 hp4 (hI hd3) (fu_stk hd) h37 F2 20009 B 1 0 0 0 (cpI (fuS S (F2 + 1)) 10 (nI F2)) (rpM (fuM M (F2 + 1) d p) d F2 (gA M 23 p) T) (rp_Gd G1 (by omega)) (by omega) (by omega) (rch_1 h41 hst') (by omega) rp_stk hO (by omega) (by omega) (by omega) rp_37 (by rw [rp_I 41 (by decide) (by decide)]; exact g41) rp_f.1 rp_f.2.1 rp_f.2.2.1 hTj (by rw [e0]; exact c) (by omega) (by omega)
        rw [if_pos (show nI d < 40 from (nI_ltI (b := 40) (by omega) (by decide)).mpr hd3), if_pos (show inb (nI p) (clA 2) = true from inbO hp4), ix_nI (by omega)]
        simp only
        rw [e23, nI_1, f1, Option.bind_some]
        unfold fX11_doBlock_75 fX11_doBlock_83 fX11_doBlock_86
        simp only
        rcases f2 with g | ⟨g1, n2, F3, B3, M2, y1, y2, y3, y4, y5, y6, y7, y8, y9, y10, y11, y12, y13⟩
        · rw [if_neg g.1, addD_some, Nat.zero_add, Nat.zero_add]
          exact ⟨rr, SS, _, _, rfl, g.2⟩
        · rw [if_pos g1, nI_1]
          obtain ⟨r3, S3, k3, s3, e3, b3⟩ := ih F3 B3 SS M2 (nI (p + 1)) (by omega) y5 y6 y7 (by rw [y8]; exact fu_at)
          rw [e3, addD_some]
          refine ⟨r3, S3, _, _, rfl, ?_⟩
          exact br_pre (n2 := n2) (M2 := M2) (by omega) (by omega) y4 y3 y9 y10 y11 y12 y13 b3
  · rw [if_neg c, Option.bind_some, Option.bind_some, if_pos (show (0 : Int32) ≤ 0 by decide)] at hst'
    rw [if_pos (show T ≤ 0 by rw [Int64.lt_iff_toInt_lt] at c; rw [Int64.le_iff_toInt_le]; omega)]
    unfold fX11_repeat_88
    rw [Option.bind_some]
    unfold fX11_doBlock_75 fX11_doBlock_83 fX11_doBlock_86
    simp only
    rw [if_pos trivial, nI_1]
    obtain ⟨r3, S3, k3, s3, e3, b3⟩ := ih F B (fuS S F) (fuM M F d p) (nI (p + 1)) (Nat.le_refl _) G1 g41 g37 fu_at
    rw [e3, addD_some]
    refine ⟨r3, S3, _, _, rfl, ?_⟩
    exact br_pre (n2 := 1) (M2 := fuM M F d p) (by omega) (by omega) (rch_1 h41 hst') (by omega) (fu_stk hd) fu_oth (by omega) (by omega) (by omega) b3
/-- blocks by depth -/
theorem blk_ok : ∀ (q d : Nat), 1 ≤ d → d ≤ 40 → q + d = 41 → ∀ (F B : Nat) (S : CS) (M : MS) (v : Int32), Gd B F S M → gI M 41 = (-1) → gI M 37 = nI d → gA M 29 (d - 1) = v → ∃ r S' k s, blk (q + 1) S v (nI d) = some ((r, S'), k, s) ∧ BR d F B M r S' k s := by
  intro q
  induction q with
  | zero => intro d h1 h2 h3; omega
  | succ q ih =>
    intro d h1 h2 h3 F B S M v G h41 h37 hat
    have hI : d < 40 → Inn d (blk (q + 1)) := by
      intro h F B S M v G h41 h37 hat
      exact ih (d + 1) (by omega) (by omega) (by omega) F B S M v G h41 h37 hat
    have hR := bl_rep h1 h2 hI
    have hF := G.2.2.2.2.1
    rw [blk]
    unfold fX11_doBlock
    exact bl_loop h1 h2 hI hR 20005 20010 (by omega) F B S M v (by omega) G h41 h37 hat
end N
