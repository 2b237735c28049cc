/-! blocks: SCOPE, the order -/
section N
variable {d F B p n : Nat} {S : CS} {M : MS} {rB : CS → Int32 → Int32 → Option ((Int32 × CS) × Nat × Nat)} {r2 : CS → Int32 → Int32 → Option ((Int32 × CS) × Nat × Nat)}
theorem bl_scope (hd : 1 ≤ d) (hd2 : d < 40) (G : Gd B (F + 1) S M) (h41 : gI M 41 = (-1)) (h37 : gI M 37 = nI d) (hat : gA M 29 (d - 1) = nI p) (hn : n ≤ 400) (h25 : gI M 25 = nI n) (hp : p < n) (ho : gA M 21 p = 17) (ih : Nxt d F r2) (hI : Inn d rB) : ∃ r S' k s, fX11_doBlock_42 rB r2 (fuS S F) (nI d) (nI p) 17 = some ((r, S'), k, s) ∧ BR d (F + 1) B M r S' k s := by
  have hp4 : p < 400 := by omega
  have G1 := fu_Gd (d := d) (p := p) G
  have hst := st_begin hd hd2 G h41 h37 hat hn h25 hp ho (Or.inr (Or.inr rfl))
  rw [if_neg (show ¬ (17 : Int32) = 14 by decide), show (17 : Int32) - 14 = 3 by decide] at hst
  have hoS : gA (fuS S F).1 0 p = 17 := (c_arr G hp4).1.trans ho
  have ha := c_arr G hp4
  have G2 : Gd B F (fuS S F) (opF (fuM M F d p) d 3 (gA M 23 p) (gA M 22 p &&& 15) (gA M 24 p)) := opF_Gd G1
  have g41 : gI (opF (fuM M F d p) d 3 (gA M 23 p) (gA M 22 p &&& 15) (gA M 24 p)) 41 = (-1) := by rw [opF_I 41 (by decide), fu_I 41 (by decide) (by decide)]; exact h41
  obtain ⟨r, S', k, s, e1, b1⟩ := hI F B (fuS S F) _ (gA M 23 p) G2 g41 opF_37 opF_f.2.1
  have hTT : nT (opF (fuM M F d p) d 3 (gA M 23 p) (gA M 22 p &&& 15) (gA M 24 p)) = nT M := by unfold nT; rw [opF_I 10 (by decide), fu_I 10 (by decide) (by decide)]
  have hO : oth M (opF (fuM M F d p) d 3 (gA M 23 p) (gA M 22 p &&& 15) (gA M 24 p)) := oth_trans (fu_oth (F := F) (d := d) (p := p)) ⟨fun j hj => opF_I j (by omega), fun j hj => opF_An j (by omega)⟩
  have res := br_inn (F0 := F + 1) (B0 := B) (n0 := 1) b1 (by omega) (by omega) (rch_1 h41 hst) (by omega) opF_stk hO hTT opF_37
  have hcl : ∀ r' S'' k' s', fX11_scope_12 rB S' (nI p) (nI (d + 1)) r = some ((r', S''), k', s') → fX11_doInner rB (fuS S F) (nI p) (nI d) = some ((r', S''), k' + k, s' + s) := by
    intro r' S'' k' s' h12
    unfold fX11_doInner fX11_scope
    have e23 : gA (fuS S F).1 2 p = gA M 23 p := ha.2.2.1
    rw [if_pos (show inb (nI p) (clA 0) = true from inbO hp4), if_pos (show inb (nI p) (clA 0) = true from inbO hp4), if_pos (show inb (nI p) (clA 2) = true from inbO hp4), ix_nI (by omega), hoS, if_neg (show ¬ (17 : Int32) = 15 by decide), if_pos (show nI d < 40 from (nI_ltI (b := 40) (by omega) (by decide)).mpr hd2), if_neg (show ¬ (17 : Int32) = 16 by decide), if_pos (show (17 : Int32) = 17 from rfl), e23, nI_1, e1, Option.bind_some]
    simp only
    rw [h12, addD_some, addD_id]
  unfold fX11_doBlock_42
  rw [if_neg (show ¬ (17 : Int32) = 0 by decide), if_neg (show ¬ (17 : Int32) = 13 by decide), c_doInner hp4 hoS (by decide), addD_id]
  unfold fX11_doBlock_75 fX11_doBlock_83 fX11_doBlock_86
  rcases res with ⟨q1, q2⟩ | ⟨n', F', B', M', a1, a2, a3, a4, a5, a6, a7, a8, a9, a10, a11, a12, a13, M0, c1, c2, c3⟩
  · have h12 : fX11_scope_12 rB S' (nI p) (nI (d + 1)) r = some ((r, S'), 0, 0) := by
      unfold fX11_scope_12
      rw [if_pos q1, q1]
    rw [hcl _ _ _ _ h12, Option.bind_some]
    simp only
    rw [if_neg (show ¬ r = 0 by rw [q1]; decide), addD_some]
    exact ⟨r, S', k, s, by rw [Nat.zero_add, Nat.zero_add, Nat.zero_add, Nat.zero_add], q2⟩
  · have ht : gA M' 28 d = 3 := by rw [a12 28 (by decide) (by decide) (by decide)]; exact opF_f.1
    have hb : gA M' 33 d = gA M 24 p := by rw [a12 33 (by decide) (by decide) (by decide)]; exact opF_f.2.2.2.2.1
    have h34 : gA M' 34 d = 0 := by rw [a12 34 (by decide) (by decide) (by decide)]; exact opF_f.2.2.2.2.2
    have r10 : ¬ r = 10 := by
      rcases c3 with ⟨z1, _⟩ | ⟨z, z1, z2, z3, _⟩
      · rw [z1]; decide
      · rw [z3]; exact fun q => by have := (nI_inj (a := z) (b := 10) (by omega) (by decide)).mp q; omega
    have h12e : fX11_scope_12 rB S' (nI p) (nI (d + 1)) r = fX11_scope_27 rB S' (nI p) (nI (d + 1)) r (gI S'.1 12) := by
      unfold fX11_scope_12
      rw [if_neg r10]
    have fin : ∀ M3 : MS, fX12_steps M0 = some M3 → Gd B' F' S' M3 → stkA d (fuM M F d p) M3 → oth M M3 → nT M3 = nT M' → gI M3 37 = nI (d + 1) → gI M3 41 = (-1) → gA M3 28 d = 4 → gA M3 29 d = gA M 24 p → gA M3 34 d = r → (¬ r = 0 → gA M3 35 d = gI S'.1 12) → (r = 0 ∨ ∃ z, 1 ≤ z ∧ z ≤ 9 ∧ r = nI z) → ∃ r_ S_ k_ s_, (Option.bind (fX11_doInner rB (fuS S F) (nI p) (nI d)) (fun c70 => addD c70.2.1 c70.2.2 (if c70.1.1 = 0 then r2 c70.1.2 (nI d) (nI p + 1) else some ((c70.1.1, c70.1.2), 0, 0)))) = some ((r_, S_), k_, s_) ∧ BR d (F + 1) B M r_ S_ k_ s_ := by
      intro M3 x1 x2 x3 x4 x5 x6 x7 x8 x9 x10 x11 x12
      obtain ⟨rr, SS, kk, ss, f1, f2⟩ := bl_sc2 (F0 := F + 1) (B0 := B) (n0 := 1 + n' + 1) (k := k) (s := s) (M := M) (M1 := fuM M F d p) (M3 := M3) hd hd2 hp4 hI x2 (by omega) (by omega) (rch_snoc c1 c2 x1) (by omega) x3 (fu_stk hd) x4 (by omega) (by omega) (by omega) x6 h37 x7 x8 x9 x10 x11 x12
      rw [hcl _ _ _ _ (h12e.trans f1), Option.bind_some]
      simp only
      rcases f2 with ⟨g1, g2⟩ | ⟨g1, n2, F2, B2, M2, t1, t2, t3, t4, t5, t6, t7, t8, t9, t10, t11, t12, t13⟩
      · rw [if_neg g1, addD_some, Nat.zero_add, Nat.zero_add]
        exact ⟨rr, SS, _, _, rfl, g2⟩
      · rw [if_pos g1, nI_1]
        obtain ⟨r3, S3, k3, s3', e3, b3⟩ := ih F2 B2 SS M2 (nI (p + 1)) (by omega) t5 t6 t7 (by rw [t8]; exact fu_at)
        rw [e3, addD_some]
        refine ⟨r3, S3, _, _, rfl, ?_⟩
        exact br_pre (n2 := n2) (M2 := M2) (by omega) (by omega) t4 t3 t9 t10 t11 t12 t13 b3
    rcases c3 with ⟨z1, z2⟩ | ⟨z, z1, z2, z3, z4⟩
    · rw [thr_3 hd2 ht, hb] at z2
      refine fin _ z2 ?_ ?_ ?_ rfl a10 a9 ?_ ?_ ?_ (fun h => absurd z1 h) (Or.inl z1)
      · exact Gd_ctl a7 (cst_refl _) (mst_trans (mst_A (k := 28) (by decide)) (mst_A (by decide))) (ctl_eq a7.2.1 rfl (fun _ _ => rfl) (fun j hj => by rw [gA_pA_ne _ _ _ (by omega), gA_pA_ne _ _ _ (by omega)]) (fun _ _ => rfl)) a7.2.2.1 a7.2.2.2.1 (Nat.le_refl _)
      · refine stkA_trans a11 ⟨fun j f x y c => ?_, fun _ _ => rfl⟩
        have : ∀ (X : MS) (i : Nat) (u : Int32), gA (pA X i d u) j f = gA X j f := by
          intro X i u
          by_cases e : j = i
          · subst e; rw [gA_pA, if_neg (by omega)]
          · rw [gA_pA_ne _ _ _ e]
        rw [this, this]
      · exact oth_trans a8 ⟨fun _ _ => rfl, fun j hj => by rw [gA_pA_ne _ _ _ (by omega), gA_pA_ne _ _ _ (by omega)]⟩
      · rw [gA_pA_ne _ _ _ (by decide), gA_pA, if_pos rfl]
      · rw [gA_pA, if_pos rfl]
      · rw [gA_pA_ne _ _ _ (by decide), gA_pA_ne _ _ _ (by decide), h34, z1]
    · have gs := go_scope (d := d + 1) (M := M') (k := r) (p := gI S'.1 12) (by omega) (by omega) a10 ht
      rw [show d + 1 - 1 = d by omega, hb] at gs
      rw [gs] at z4
      refine fin _ z4 ?_ ?_ ?_ rfl a10 a9 ?_ ?_ ?_ (fun _ => ?_) (Or.inr ⟨z, z1, z2, z3⟩)
      · exact Gd_ctl a7 (cst_refl _) (mst_trans (mst_A (k := 28) (by decide)) (mst_trans (mst_A (k := 29) (by decide)) (mst_trans (mst_A (k := 34) (by decide)) (mst_A (by decide))))) (ctl_eq a7.2.1 rfl (fun _ _ => rfl) (fun j hj => by rw [gA_pA_ne _ _ _ (by omega), gA_pA_ne _ _ _ (by omega), gA_pA_ne _ _ _ (by omega), gA_pA_ne _ _ _ (by omega)]) (fun _ _ => rfl)) a7.2.2.1 a7.2.2.2.1 (Nat.le_refl _)
      · refine stkA_trans a11 ⟨fun j f x y c => ?_, fun _ _ => rfl⟩
        have : ∀ (X : MS) (i : Nat) (u : Int32), gA (pA X i d u) j f = gA X j f := by
          intro X i u
          by_cases e : j = i
          · subst e; rw [gA_pA, if_neg (by omega)]
          · rw [gA_pA_ne _ _ _ e]
        rw [this, this, this, this]
      · exact oth_trans a8 ⟨fun _ _ => rfl, fun j hj => by rw [gA_pA_ne _ _ _ (by omega), gA_pA_ne _ _ _ (by omega), gA_pA_ne _ _ _ (by omega), gA_pA_ne _ _ _ (by omega)]⟩
      · rw [gA_pA_ne _ _ _ (by decide), gA_pA_ne _ _ _ (by decide), gA_pA_ne _ _ _ (by decide), gA_pA, if_pos rfl]
      · rw [gA_pA_ne _ _ _ (by decide), gA_pA_ne _ _ _ (by decide), gA_pA, if_pos rfl]
      · rw [gA_pA_ne _ _ _ (by decide), gA_pA, if_pos rfl]
      · rw [gA_pA, if_pos rfl]
end N
