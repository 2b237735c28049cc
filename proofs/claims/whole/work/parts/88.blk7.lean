/-! blocks: too deep, and TRY -/
section N
variable {d F B p n : Nat} {S : CS} {M : MS} {rB : CS → Int32 → Int32 → Option ((Int32 × CS) × Nat × Nat)} {r2 : CS → Int32 → Int32 → Option ((Int32 × CS) × Nat × Nat)}
theorem bl_deep (G : Gd B (F + 1) S M) (h41 : gI M 41 = (-1)) (h37 : gI M 37 = nI 40) (hat : gA M 29 39 = nI p) (hn : n ≤ 400) (h25 : gI M 25 = nI n) (hp : p < n) {o : Int32} (ho : gA M 21 p = o) (hz : o = 14 ∨ o = 16 ∨ o = 17) : ∃ r S' k s, fX11_doBlock_42 rB r2 (fuS S F) (nI 40) (nI p) o = some ((r, S'), k, s) ∧ BR 40 (F + 1) B M r S' k s := by
  have hF : F < 20000 := by have := G.2.2.2.2.1; omega
  have hp4 : p < 400 := by omega
  have G1 := fu_Gd (d := 40) (p := p) G
  have n0 : ¬ o = 0 := fun q => by rw [q] at hz; revert hz; decide
  have n13 : ¬ o = 13 := fun q => by rw [q] at hz; revert hz; decide
  have n15 : ¬ o = 15 := fun q => by rw [q] at hz; revert hz; decide
  have hst := step_go (d := 40) h41 (by decide) (by decide) h37 hat hn h25 hp G.2.2.2.1 hF ho
  rw [if_neg n0] at hst
  have hst' : fX12_steps M = Option.bind (fX12_does (fuM M F 40 p) (nI p)) (fun c93 => if c93.1 ≤ 0 then some c93.2 else (Option.bind (fX12_comes c93.2 c93.1 (nI p)) (fun c104 => some c104))) := hst
  have ho1 : gA (fuM M F 40 p) 21 p = o := by rw [fu_A 21 (by decide)]; exact ho
  have hoS : gA (fuS S F).1 0 p = o := (c_arr G hp4).1.trans ho
  have g37 : gI (fuM M F 40 p) 37 = 40 := by rw [fu_I 37 (by decide) (by decide)]; exact h37
  have g41 : gI (fuM M F 40 p) 41 = (-1) := by rw [fu_I 41 (by decide) (by decide)]; exact h41
  have hT : nT (fuM M F 40 p) = nT M := fu_T
  have hzz : 13 ≤ o.toInt ∧ o.toInt ≤ 21 := by rcases hz with h | h | h <;> subst h <;> decide
  have hzy : 14 ≤ o.toInt ∧ o.toInt ≤ 17 := by rcases hz with h | h | h <;> subst h <;> decide
  have hc : ∀ a b c i, fX12_controls (fuM M F 40 p) o a b c i = some (9, fuM M F 40 p) := by
    intro a b c i
    unfold fX12_controls fX12_controls_8 fX12_controls_143
    rw [g37, if_neg n13, if_neg n15]
    rcases hz with h | h | h <;> subst h
    · rw [if_pos (show (14 : Int32) = 14 from rfl), if_pos (show (40 : Int32) = 40 from rfl)]
    · rw [if_neg (show ¬ (16 : Int32) = 14 by decide), if_pos (show (16 : Int32) = 16 from rfl), if_pos (show (40 : Int32) = 40 from rfl)]
    · rw [if_neg (show ¬ (17 : Int32) = 14 by decide), if_neg (show ¬ (17 : Int32) = 16 by decide), if_pos (show (17 : Int32) = 17 from rfl), if_pos (show (40 : Int32) = 40 from rfl)]
  rw [m_does hp4 ho1, d_ctl _ _ _ _ hzz.1 hzz.2, hc, Option.bind_some, Option.bind_some, if_neg (show ¬ (9 : Int32) ≤ 0 by decide)] at hst'
  obtain ⟨r3, S3, e3, e4, b3⟩ := br_raise (z := 9) (p := p) ⟨by omega, by omega⟩ G1 g41 h41 hst' (fu_stk (d := 40) (by decide)) fu_oth (F0 := F + 1) (B0 := B) (k := 0) (s := 0) (by omega) (by omega) (by omega) (by omega) (by omega)
  have e3' : fX11_raise (fuS S F) 9 (nI p) = some (r3, S3) := e3
  have hcl : fX11_doInner rB (fuS S F) (nI p) (nI 40) = some ((r3, S3), 0, 0) := by
    unfold fX11_doInner
    rw [if_pos (show inb (nI p) (clA 0) = true from inbO hp4), ix_nI (by omega), hoS, if_neg n15, if_neg (show ¬ nI 40 < 40 by decide), e3', Option.bind_some]
  unfold fX11_doBlock_42
  rw [if_neg n0, if_neg n13, c_doInner hp4 hoS hzy, hcl, addD_id, Option.bind_some]
  unfold fX11_doBlock_75
  simp only
  rw [if_neg e4]
  exact ⟨r3, S3, 0, 0, rfl, b3⟩
theorem isF {z : Nat} (h : z ≤ 10) : fX11_isFault (nI z) = if 1 ≤ z ∧ z ≤ 9 then 1 else 0 := by
  have : ∀ z, z ≤ 10 → fX11_isFault (nI z) = if 1 ≤ z ∧ z ≤ 9 then 1 else 0 := by decide
  exact this z h
theorem bl_try (hd : 1 ≤ d) (hd2 : d < 40) (G : Gd B (F + 1) S M) (h41 : gI M 41 = (-1)) (h37 : gI M 37 = nI d) (hat : gA M 29 (d - 1) = nI p) (hn : n ≤ 400) (h25 : gI M 25 = nI n) (hp : p < n) (ho : gA M 21 p = 16) (ih : Nxt d F r2) (hI : Inn d rB) : ∃ r S' k s, fX11_doBlock_42 rB r2 (fuS S F) (nI d) (nI p) 16 = some ((r, S'), k, s) ∧ BR d (F + 1) B M r S' k s := by
  have hp4 : p < 400 := by omega
  have G1 := fu_Gd (d := d) (p := p) G
  have hst := st_begin hd hd2 G h41 h37 hat hn h25 hp ho (Or.inr (Or.inl rfl))
  rw [if_neg (show ¬ (16 : Int32) = 14 by decide), show (16 : Int32) - 14 = 2 by decide] at hst
  have hoS : gA (fuS S F).1 0 p = 16 := (c_arr G hp4).1.trans ho
  have ha := c_arr G hp4
  have G2 : Gd B F (fuS S F) (opF (fuM M F d p) d 2 (gA M 23 p) (gA M 22 p &&& 15) (gA M 24 p)) := opF_Gd G1
  have g41 : gI (opF (fuM M F d p) d 2 (gA M 23 p) (gA M 22 p &&& 15) (gA M 24 p)) 41 = (-1) := by rw [opF_I 41 (by decide), fu_I 41 (by decide) (by decide)]; exact h41
  obtain ⟨r, S', k, s, e1, b1⟩ := hI F B (fuS S F) _ (gA M 23 p) G2 g41 opF_37 opF_f.2.1
  have hTT : nT (opF (fuM M F d p) d 2 (gA M 23 p) (gA M 22 p &&& 15) (gA M 24 p)) = nT M := by unfold nT; rw [opF_I 10 (by decide), fu_I 10 (by decide) (by decide)]
  have hO : oth M (opF (fuM M F d p) d 2 (gA M 23 p) (gA M 22 p &&& 15) (gA M 24 p)) := oth_trans (fu_oth (F := F) (d := d) (p := p)) ⟨fun j hj => opF_I j (by omega), fun j hj => opF_An j (by omega)⟩
  have res := br_inn (F0 := F + 1) (B0 := B) (n0 := 1) b1 (by omega) (by omega) (rch_1 h41 hst) (by omega) opF_stk hO hTT opF_37
  have hcl : ∀ r' S'' , fX11_attempt_12 rB S' (nI p) r = some ((r', S''), 0, 0) → fX11_doInner rB (fuS S F) (nI p) (nI d) = some ((r', S''), k, s) := by
    intro r' S'' h12
    unfold fX11_doInner fX11_attempt
    have e23 : gA (fuS S F).1 2 p = gA M 23 p := ha.2.2.1
    rw [if_pos (show inb (nI p) (clA 0) = true from inbO hp4), if_pos (show inb (nI p) (clA 0) = true from inbO hp4), if_pos (show inb (nI p) (clA 2) = true from inbO hp4), ix_nI (by omega), hoS, if_neg (show ¬ (16 : Int32) = 15 by decide), if_pos (show nI d < 40 from (nI_ltI (b := 40) (by omega) (by decide)).mpr hd2), if_pos (show (16 : Int32) = 16 from rfl), e23, nI_1, e1, Option.bind_some]
    simp only
    rw [h12, addD_some, addD_id, Nat.zero_add, Nat.zero_add]
  have h38 : fX11_isFault r = 0 → fX11_attempt_12 rB S' (nI p) r = some ((r, S'), 0, 0) := by
    intro h
    unfold fX11_attempt_12 fX11_attempt_20 fX11_attempt_38
    rw [if_pos (show inb (nI p) (clA 3) = true from inbO hp4), if_pos h]
  unfold fX11_doBlock_42
  rw [if_neg (show ¬ (16 : Int32) = 0 by decide), if_neg (show ¬ (16 : Int32) = 13 by decide), c_doInner hp4 hoS (by decide), addD_id]
  unfold fX11_doBlock_75 fX11_doBlock_83 fX11_doBlock_86
  rcases res with ⟨q1, q2⟩ | ⟨n', F', B', M', a1, a2, a3, a4, a5, a6, a7, a8, a9, a10, a11, a12, a13, M0, c1, c2, c3⟩
  · have hf : fX11_isFault r = 0 := by rw [q1]; decide
    rw [hcl r S' (h38 hf), Option.bind_some]
    simp only
    rw [if_neg (show ¬ r = 0 by rw [q1]; decide), addD_some]
    exact ⟨r, S', k, s, by rw [Nat.zero_add, Nat.zero_add], q2⟩
  · have ht : gA M' 28 d = 2 := by rw [a12 28 (by decide) (by decide) (by decide)]; exact opF_f.1
    have s3 : ∀ X : MS, gA X = gA M' → gB X 36 = gB M' 36 → gI X 37 = nI d → stk d M X := fun X x1 x2 x3 => stk_A (fu_stk (F := F) (p := p) hd) ⟨fun j f x y c => by rw [x1]; exact a11.1 j f x y c, fun f x => by rw [x2]; exact a11.2 f x⟩ (by rw [x3]; exact h37.symm)
    have G3 : Gd B' F' S' (pI M' 37 (nI d)) := Gd_ctl a7 (cst_refl _) (mst_I (by decide) (by decide) (by decide)) (ctl_eq a7.2.1 rfl (fun _ _ => rfl) (fun _ _ => rfl) (fun j hj => gI_pI_ne _ _ (by omega))) a7.2.2.1 (by rw [gI_pI_ne _ _ (by decide)]; exact a7.2.2.2.1) (Nat.le_refl _)
    have o3 : oth M (pI M' 37 (nI d)) := oth_trans a8 (oth_I (by decide) (by decide) (by decide) (by decide))
    have h341 : gI (pI M' 37 (nI d)) 41 = (-1) := by rw [gI_pI_ne _ _ (by decide)]; exact a9
    have h29 : gA M' 29 (d - 1) = nI (p + 1) := by
      rw [a11.1 29 (d - 1) (by decide) (by decide) (by omega)]
      exact fu_at
    rcases c3 with ⟨z1, z2⟩ | ⟨z, z1, z2, z3, z4⟩
    · rw [hcl r S' (h38 (by rw [z1]; decide)), Option.bind_some]
      simp only
      rw [if_pos z1, nI_1]
      rw [thr_pop hd hd2 a10 (Or.inr ht)] at z2
      obtain ⟨r3, S3, k3, s3', e3, b3⟩ := ih F' B' S' (pI M' 37 (nI d)) (nI (p + 1)) (by omega) G3 h341 (gI_pI _ _ _) h29
      rw [e3, addD_some]
      refine ⟨r3, S3, _, _, rfl, ?_⟩
      exact br_pre (n2 := 1 + n' + 1) (M2 := pI M' 37 (nI d)) (by omega) (by omega) (rch_snoc c1 c2 z2) (by omega) (s3 _ rfl rfl (gI_pI _ _ _)) o3 a4 a5 a6 b3
    · have hf : fX11_isFault r = 1 := by rw [z3, isF (by omega), if_pos ⟨z1, z2⟩]
      have hw : gA M' 32 d = gA M 24 p := by rw [a12 32 (by decide) (by decide) (by decide)]; exact opF_f.2.2.2.1
      have hwS : gA S'.1 3 p = gA M 24 p := by rw [(c_arr a7 hp4).2.2.2, a8.2 24 (by omega)]
      have h1S : gA S'.1 1 p = gA M 22 p := by rw [(c_arr a7 hp4).2.1, a8.2 22 (by omega)]
      have rn0 : ¬ r = 0 := by rw [z3]; exact fun q => by have := (nI_inj (a := z) (b := 0) (by omega) (by decide)).mp q; omega
      by_cases cm : gA M 24 p = 0 ∨ gA M 24 p = r
      · obtain ⟨g, g1, g2⟩ := and_15 (gA M 22 p)
        have eg : ra (gA M 22 p) = g := by unfold ra; rw [g2, ix_nI (by omega)]
        have hreg : gA M' 31 d = nI g := by rw [a12 31 (by decide) (by decide) (by decide), opF_f.2.2.1]; exact g2
        have ht2 := go_try (d := d + 1) (M := M') (k := r) (p := gI S'.1 12) (by omega) (by omega) a10 ht (by show gA M' 32 d = 0 ∨ gA M' 32 d = r; rw [hw]; exact cm) hreg g1
        rw [show d + 1 - 1 = d by omega] at ht2
        rw [ht2] at z4
        have h12 : fX11_attempt_12 rB S' (nI p) r = some ((0, cpB (cpI (cpI S' 13 r) 14 (gI S'.1 12)) 16 g r.toInt64), 0, 0) := by
          have e12 : gI (cpI S' 13 r).1 12 = gI S'.1 12 := gI_pI_ne _ _ (by decide)
          have e53 : fX11_attempt_40 rB S' (nI p) r = some ((0, cpB (cpI (cpI S' 13 r) 14 (gI S'.1 12)) 16 g r.toInt64), 0, 0) := by
            unfold fX11_attempt_40 fX11_attempt_45 fX11_attempt_53
            have eA : gA (cpI (cpI S' 13 r) 14 (gI (cpI S' 13 r).1 12)).1 1 p = gA M 22 p := h1S
            rw [if_pos (show inb (nI p) (clA 1) = true from inbO hp4), ix_nI (by omega), eA, c_giveNum, Option.bind_some, eg, e12]
          unfold fX11_attempt_12 fX11_attempt_20
          rw [if_pos (show inb (nI p) (clA 3) = true from inbO hp4), ix_nI (by omega), hf, if_neg (show ¬ (1 : Int32) = 0 by decide), hwS, e53]
          by_cases c0 : gA M 24 p = 0
          · rw [if_pos c0]
          · rw [if_neg c0, if_pos (cm.resolve_left c0)]
        rw [hcl _ _ h12, Option.bind_some]
        simp only
        rw [if_pos trivial, nI_1]
        have G4 : Gd B' F' (cpB (cpI (cpI S' 13 r) 14 (gI S'.1 12)) 16 g r.toInt64) (pI (pI (pB (pI M' 37 (nI d)) 3 g r.toInt64) 43 r) 44 (gI S'.1 12)) := by
          obtain ⟨⟨w, R⟩, t2, t3, t4, t5, t6⟩ := a7
          obtain ⟨u1, u2, u3, u4, u5⟩ := t2
          have R1 : Rel w B' (cpI (cpI S' 13 r) 14 (gI S'.1 12)) (pI (pI (pI M' 37 (nI d)) 43 r) 44 (gI S'.1 12)) := Rel_ctl R (cst_trans (cst_I (k := 13) (by decide) (by decide)) (cst_I (by decide) (by decide))) (mst_trans (mst_I (k := 37) (by decide) (by decide) (by decide)) (mst_trans (mst_I (k := 43) (by decide) (by decide) (by decide)) (mst_I (by decide) (by decide) (by decide))))
          refine ⟨⟨w, Rel_num (k := g) R1 r.toInt64⟩, ⟨u1, ?_, ?_, ?_, z, z2, ?_, ?_, fun _ => ?_⟩, ?_, ?_, t5, t6⟩
          · show ∃ n, n ≤ 400 ∧ gI (pI (pI S'.1 13 r) 14 (gI S'.1 12)) 4 = nI n ∧ gI (pI (pI (pI M' 37 (nI d)) 43 r) 44 (gI S'.1 12)) 25 = nI n
            rw [gI_pI_ne _ _ (by decide), gI_pI_ne _ _ (by decide), gI_pI_ne _ _ (by decide), gI_pI_ne _ _ (by decide), gI_pI_ne _ _ (by decide)]
            exact u2
          · show gI (pI (pI S'.1 13 r) 14 (gI S'.1 12)) 11 = gI (pI (pI (pI M' 37 (nI d)) 43 r) 44 (gI S'.1 12)) 39
            rw [gI_pI_ne _ _ (by decide), gI_pI_ne _ _ (by decide), gI_pI_ne _ _ (by decide), gI_pI_ne _ _ (by decide), gI_pI_ne _ _ (by decide)]
            exact u3
          · show ∃ f, f ≤ 2000 ∧ gI (pI (pI S'.1 13 r) 14 (gI S'.1 12)) 9 = nI f ∧ gI (pI (pI (pI M' 37 (nI d)) 43 r) 44 (gI S'.1 12)) 40 = nI f
            rw [gI_pI_ne _ _ (by decide), gI_pI_ne _ _ (by decide), gI_pI_ne _ _ (by decide), gI_pI_ne _ _ (by decide), gI_pI_ne _ _ (by decide)]
            exact u4
          · show gI (pI (pI S'.1 13 r) 14 (gI S'.1 12)) 13 = nI z
            rw [gI_pI_ne _ _ (by decide), gI_pI]; exact z3
          · show gI (pI (pI (pI M' 37 (nI d)) 43 r) 44 (gI S'.1 12)) 43 = nI z
            rw [gI_pI_ne _ _ (by decide), gI_pI]; exact z3
          · show gI (pI (pI S'.1 13 r) 14 (gI S'.1 12)) 14 = gI (pI (pI (pI M' 37 (nI d)) 43 r) 44 (gI S'.1 12)) 44
            rw [gI_pI, gI_pI]
          · show gI (pI (pI S'.1 13 r) 14 (gI S'.1 12)) 10 = nI F'
            rw [gI_pI_ne _ _ (by decide), gI_pI_ne _ _ (by decide)]; exact t3
          · show gI (pI (pI (pI M' 37 (nI d)) 43 r) 44 (gI S'.1 12)) 38 = nI F'
            rw [gI_pI_ne _ _ (by decide), gI_pI_ne _ _ (by decide), gI_pI_ne _ _ (by decide)]; exact t4
        have h37' : gI (pI (pI (pB (pI M' 37 (nI d)) 3 g r.toInt64) 43 r) 44 (gI S'.1 12)) 37 = nI d := by
          rw [gI_pI_ne _ _ (by decide), gI_pI_ne _ _ (by decide), gI_pB, gI_pI]
        have h41' : gI (pI (pI (pB (pI M' 37 (nI d)) 3 g r.toInt64) 43 r) 44 (gI S'.1 12)) 41 = (-1) := by
          rw [gI_pI_ne _ _ (by decide), gI_pI_ne _ _ (by decide), gI_pB]; exact h341
        obtain ⟨r3, S3, k3, s3', e3, b3⟩ := ih F' B' _ _ (nI (p + 1)) (by omega) G4 h41' h37' h29
        rw [e3, addD_some]
        refine ⟨r3, S3, _, _, rfl, ?_⟩
        refine br_pre (n2 := 1 + n' + 1) (M2 := pI (pI (pB (pI M' 37 (nI d)) 3 g r.toInt64) 43 r) 44 (gI S'.1 12)) (by omega) (by omega) (rch_snoc c1 c2 z4) (by omega) (s3 _ rfl (by rw [gB_pI, gB_pI, gB_pB_ne _ _ _ (by decide)]; rfl) h37') (oth_trans o3 (oth_trans (M1 := pB (pI M' 37 (nI d)) 3 g r.toInt64) ⟨fun _ _ => rfl, fun _ _ => rfl⟩ (oth_trans (oth_I (k := 43) (by decide) (by decide) (by decide) (by decide)) (oth_I (by decide) (by decide) (by decide) (by decide))))) a4 a5 a6 b3
      · have h12 : fX11_attempt_12 rB S' (nI p) r = some ((r, S'), 0, 0) := by
          unfold fX11_attempt_12 fX11_attempt_20 fX11_attempt_38
          rw [if_pos (show inb (nI p) (clA 3) = true from inbO hp4), ix_nI (by omega), hf, if_neg (show ¬ (1 : Int32) = 0 by decide), hwS, if_neg (fun q => cm (Or.inl q)), if_neg (fun q => cm (Or.inr q))]
        rw [hcl _ _ h12, Option.bind_some]
        simp only
        rw [if_neg rn0, addD_some]
        refine ⟨r, S', k, s, by rw [Nat.zero_add, Nat.zero_add], 1 + n', F', B', pI M' 37 (nI d), by omega, by omega, by omega, a4, a5, a6, G3, o3, Or.inr ⟨h341, s3 _ rfl rfl (gI_pI _ _ _), M0, c1, c2, Or.inr ⟨z, z1, z2, z3, ?_⟩⟩⟩
        rw [z4]
        exact go_up (d := d + 1) (M := M') (k := r) (p := gI S'.1 12) (by omega) (by omega) a10 (by show ¬ gA M' 28 d = 3; rw [ht]; decide) (fun _ => by show ¬ gA M' 32 d = 0 ∧ ¬ gA M' 32 d = r; rw [hw]; exact ⟨fun q => cm (Or.inl q), fun q => cm (Or.inr q)⟩)
end N
