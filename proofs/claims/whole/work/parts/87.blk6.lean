/-! blocks: CALL -/
section N
variable {d F B p n : Nat} {S : CS} {M : MS} {rB : CS → Int32 → Int32 → Option ((Int32 × CS) × Nat × Nat)} {r2 : CS → Int32 → Int32 → Option ((Int32 × CS) × Nat × Nat)}
/-- blocks one deeper end alike on both sides -/
def Inn (d : Nat) (rB : CS → Int32 → Int32 → Option ((Int32 × CS) × Nat × Nat)) : Prop := ∀ (F B : Nat) (S : CS) (M : MS) (v : Int32), Gd B F S M → gI M 41 = (-1) → gI M 37 = nI (d + 1) → gA M 29 d = v → ∃ r S' k s, rB S v (nI (d + 1)) = some ((r, S'), k, s) ∧ BR (d + 1) F B M r S' k s
/-- what an inner block's end is to the one around it: n0 steps led to its beginning, at M2 -/
theorem br_inn {d F B F0 B0 n0 : Nat} {M M1 M2 : MS} {r : Int32} {S' : CS} {k s : Nat} (h : BR (d + 1) F B M2 r S' k s) (hF : F < F0) (hB : B + F ≤ B0 + F0) (h0 : rch n0 M M2) (hn : n0 ≤ 4 * (F0 - F)) (hA : stkA d M1 M2) (hO : oth M M2) (hT : nT M2 = nT M) (h37 : gI M2 37 = nI (d + 1)) : (r = 10 ∧ BR d F0 B0 M r S' k s) ∨ ∃ (n' F' B' : Nat) (M' : MS), F' ≤ F ∧ B' + F' ≤ B + F ∧ n' ≤ 4 * (F - F') ∧ nT M ≤ nT M' ∧ k ≤ 3 * (nT M' - nT M) ∧ s ≤ 80 * (nT M' - nT M) ∧ Gd B' F' S' M' ∧ oth M M' ∧ gI M' 41 = (-1) ∧ gI M' 37 = nI (d + 1) ∧ stkA d M1 M' ∧ (∀ j, 28 ≤ j → j ≤ 35 → j ≠ 29 → gA M' j d = gA M2 j d) ∧ gB M' 36 d = gB M2 36 d ∧ ∃ M0, rch (n0 + n') M M0 ∧ gI M0 41 = (-1) ∧ ((r = 0 ∧ fX12_steps M0 = fX12_through M' (nI d)) ∨ (∃ z, 1 ≤ z ∧ z ≤ 9 ∧ r = nI z ∧ fX12_steps M0 = fX12_goesOn M' r (gI S'.1 12))) := by
  obtain ⟨m, F', B', M', a1, a2, a3, a4, a5, a6, a7, a8, a9⟩ := h
  rcases a9 with ⟨b1, b2, b3⟩ | ⟨b1, b2, M0, b3, b4, b5⟩
  · refine Or.inl ⟨b1, n0 + m, F', B', M', by omega, by omega, by omega, by omega, by omega, by omega, a7, oth_trans hO a8, Or.inl ⟨b1, ?_, b3⟩⟩
    rw [show n0 + m + 1 = n0 + (m + 1) by omega]
    exact rch_trans h0 b2
  · refine Or.inr ⟨m, F', B', M', a1, a2, a3, by omega, by omega, by omega, a7, oth_trans hO a8, b1, by rw [b2.2.2]; exact h37, stkA_trans hA (stkA_of b2), fun j j1 j2 j3 => b2.1 j d j1 j2 (by omega) (Or.inl j3), b2.2.1 d (by omega), M0, rch_trans h0 b3, b4, ?_⟩
    rw [show d + 1 - 1 = d by omega] at b5
    exact b5
/-- the class's way to an order that begins a block -/
theorem c_doInner (hp : p < 400) {o : Int32} (ho : gA S.1 0 p = o) (hz : 14 ≤ o.toInt ∧ o.toInt ≤ 17) (v2 : Int32) : fX11_doOrder rB S (nI p) v2 = Option.bind (fX11_doInner rB S (nI p) v2) (fun c22 => addD c22.2.1 c22.2.2 (some ((c22.1.1, c22.1.2), 0, 0))) := by
  have e14 : (14 : Int32).toInt = 14 := by decide
  have e17 : (17 : Int32).toInt = 17 := by decide
  unfold fX11_doOrder fX11_doOrder_7
  rw [if_pos (show inb (nI p) (clA 0) = true from inbO hp), ix_nI (by omega), ho, if_neg (show ¬ o < 14 by rw [Int32.lt_iff_toInt_lt]; omega), if_neg (show ¬ 17 < o by rw [Int32.lt_iff_toInt_lt]; omega)]
theorem addD_id (x : Option ((Int32 × CS) × Nat × Nat)) : Option.bind x (fun c => addD c.2.1 c.2.2 (some ((c.1.1, c.1.2), 0, 0))) = x := by
  cases x with
  | none => rfl
  | some y =>
    obtain ⟨⟨a, b⟩, c, e⟩ := y
    show some ((a, b), 0 + c, 0 + e) = some ((a, b), c, e)
    rw [Nat.zero_add, Nat.zero_add]
/-- the step that begins a block, on the reference's side -/
theorem st_begin (hd : 1 ≤ d) (hd2 : d < 40) (G : Gd B (F + 1) S M) (h41 : gI M 41 = (-1)) (h37 : gI M 37 = nI d) (hat : gA M 29 (d - 1) = nI p) (hn : n ≤ 400) (h25 : gI M 25 = nI n) (hp : p < n) {o : Int32} (ho : gA M 21 p = o) (hz : o = 14 ∨ o = 16 ∨ o = 17) : fX12_steps M = some (opF (fuM M F d p) d (if o = 14 then 0 else o - 14) (gA M 23 p) (gA M 22 p &&& 15) (gA M 24 p)) := by
  have hF : F < 20000 := by have := G.2.2.2.2.1; omega
  have hp4 : p < 400 := by omega
  have n0 : ¬ o = 0 := fun q => by rw [q] at hz; revert hz; decide
  have hst := step_go h41 hd (by omega) h37 hat hn h25 hp G.2.2.2.1 hF ho
  rw [if_neg n0] at hst
  have hst' : fX12_steps M = Option.bind (fX12_does (fuM M F d p) (nI p)) (fun c93 => if c93.1 ≤ 0 then some c93.2 else (Option.bind (fX12_comes c93.2 c93.1 (nI p)) (fun c104 => some c104))) := hst
  have ho1 : gA (fuM M F d p) 21 p = o := by rw [fu_A 21 (by decide)]; exact ho
  have g37 : gI (fuM M F d p) 37 = nI d := by rw [fu_I 37 (by decide) (by decide)]; exact h37
  have hzz : 13 ≤ o.toInt ∧ o.toInt ≤ 21 := by rcases hz with h | h | h <;> subst h <;> decide
  rw [m_does hp4 ho1, d_ctl _ _ _ _ hzz.1 hzz.2, m_begin hd2 g37 hz, Option.bind_some, Option.bind_some, if_pos (show (0 : Int32) ≤ 0 by decide), fu_A 22 (by decide), fu_A 23 (by decide), fu_A 24 (by decide)] at hst'
  exact hst'
theorem bl_call (hd : 1 ≤ d) (hd2 : d < 40) (G : Gd B (F + 1) S M) (h41 : gI M 41 = (-1)) (h37 : gI M 37 = nI d) (hat : gA M 29 (d - 1) = nI p) (hn : n ≤ 400) (h25 : gI M 25 = nI n) (hp : p < n) (ho : gA M 21 p = 14) (ih : Nxt d F r2) (hI : Inn d rB) : ∃ r S' k s, fX11_doBlock_42 rB r2 (fuS S F) (nI d) (nI p) 14 = some ((r, S'), k, s) ∧ BR d (F + 1) B M r S' k s := by
  have hp4 : p < 400 := by omega
  have G1 := fu_Gd (d := d) (p := p) G
  have hst := st_begin hd hd2 G h41 h37 hat hn h25 hp ho (Or.inl rfl)
  rw [if_pos (show (14 : Int32) = 14 from rfl)] at hst
  have hoS : gA (fuS S F).1 0 p = 14 := (c_arr G hp4).1.trans ho
  have ha := c_arr G hp4
  have G2 : Gd B F (fuS S F) (opF (fuM M F d p) d 0 (gA M 23 p) (gA M 22 p &&& 15) (gA M 24 p)) := opF_Gd G1
  have g41 : gI (opF (fuM M F d p) d 0 (gA M 23 p) (gA M 22 p &&& 15) (gA M 24 p)) 41 = (-1) := by rw [opF_I 41 (by decide), fu_I 41 (by decide) (by decide)]; exact h41
  obtain ⟨r, S', k, s, e1, b1⟩ := hI F B (fuS S F) _ (gA M 23 p) G2 g41 opF_37 opF_f.2.1
  have hTT : nT (opF (fuM M F d p) d 0 (gA M 23 p) (gA M 22 p &&& 15) (gA M 24 p)) = nT M := by unfold nT; rw [opF_I 10 (by decide), fu_I 10 (by decide) (by decide)]
  have hO : oth M (opF (fuM M F d p) d 0 (gA M 23 p) (gA M 22 p &&& 15) (gA M 24 p)) := oth_trans (fu_oth (F := F) (d := d) (p := p)) ⟨fun j hj => opF_I j (by omega), fun j hj => opF_An j (by omega)⟩
  have res := br_inn (F0 := F + 1) (B0 := B) (n0 := 1) b1 (by omega) (by omega) (rch_1 h41 hst) (by omega) opF_stk hO hTT opF_37
  have hcl : fX11_doInner rB (fuS S F) (nI p) (nI d) = some ((r, S'), k, s) := by
    unfold fX11_doInner
    have e23 : gA (fuS S F).1 2 p = gA M 23 p := ha.2.2.1
    rw [if_pos (show inb (nI p) (clA 0) = true from inbO hp4), if_pos (show inb (nI p) (clA 0) = true from inbO hp4), if_pos (show inb (nI p) (clA 2) = true from inbO hp4), ix_nI (by omega), hoS, if_neg (show ¬ (14 : Int32) = 15 by decide), if_pos (show nI d < 40 from (nI_ltI (b := 40) (by omega) (by decide)).mpr hd2), if_neg (show ¬ (14 : Int32) = 16 by decide), if_neg (show ¬ (14 : Int32) = 17 by decide), e23, nI_1, e1]
    exact addD_id (some ((r, S'), k, s))
  unfold fX11_doBlock_42
  rw [if_neg (show ¬ (14 : Int32) = 0 by decide), if_neg (show ¬ (14 : Int32) = 13 by decide), c_doInner hp4 hoS (by decide), hcl, addD_id, Option.bind_some]
  unfold fX11_doBlock_75 fX11_doBlock_83 fX11_doBlock_86
  simp only
  rcases res with ⟨q1, q2⟩ | ⟨n', F', B', M', a1, a2, a3, a4, a5, a6, a7, a8, a9, a10, a11, a12, a13, M0, c1, c2, c3⟩
  · rw [if_neg (show ¬ r = 0 by rw [q1]; decide), addD_some]
    refine ⟨r, S', k, s, ?_, q2⟩
    rw [Nat.zero_add, Nat.zero_add]
  · have ht : gA M' 28 d = 0 := by rw [a12 28 (by decide) (by decide) (by decide)]; exact opF_f.1
    have s3 : stk d M (pI M' 37 (nI d)) := stk_A (fu_stk (F := F) (p := p) hd) ⟨fun j f x y c => a11.1 j f x y c, fun f x => a11.2 f x⟩ (by rw [gI_pI]; exact h37.symm)
    have G3 : Gd B' F' S' (pI M' 37 (nI d)) := Gd_ctl a7 (cst_refl _) (mst_I (by decide) (by decide) (by decide)) (ctl_eq a7.2.1 rfl (fun _ _ => rfl) (fun _ _ => rfl) (fun j hj => gI_pI_ne _ _ (by omega))) a7.2.2.1 (by rw [gI_pI_ne _ _ (by decide)]; exact a7.2.2.2.1) (Nat.le_refl _)
    have o3 : oth M (pI M' 37 (nI d)) := oth_trans a8 (oth_I (by decide) (by decide) (by decide) (by decide))
    have h341 : gI (pI M' 37 (nI d)) 41 = (-1) := by rw [gI_pI_ne _ _ (by decide)]; exact a9
    rcases c3 with ⟨z1, z2⟩ | ⟨z, z1, z2, z3, z4⟩
    · rw [if_pos z1, nI_1]
      rw [thr_pop hd hd2 a10 (Or.inl ht)] at z2
      have h29 : gA (pI M' 37 (nI d)) 29 (d - 1) = nI (p + 1) := by
        show gA M' 29 (d - 1) = _
        rw [a11.1 29 (d - 1) (by decide) (by decide) (by omega)]
        exact fu_at
      obtain ⟨r3, S3, k3, s3', e3, b3⟩ := ih F' B' S' (pI M' 37 (nI d)) (nI (p + 1)) (by omega) G3 h341 (gI_pI _ _ _) h29
      rw [e3, addD_some]
      refine ⟨r3, S3, _, _, rfl, ?_⟩
      exact br_pre (n2 := 1 + n' + 1) (M2 := pI M' 37 (nI d)) (by omega) (by omega) (rch_snoc c1 c2 z2) (by omega) s3 o3 a4 a5 a6 b3
    · rw [if_neg (show ¬ r = 0 by rw [z3]; exact fun q => by have := (nI_inj (a := z) (b := 0) (by omega) (by decide)).mp q; omega), addD_some]
      refine ⟨r, S', k, s, by rw [Nat.zero_add, Nat.zero_add], 1 + n', F', B', pI M' 37 (nI d), by omega, by omega, by omega, a4, a5, a6, G3, o3, Or.inr ⟨h341, s3, M0, c1, c2, Or.inr ⟨z, z1, z2, z3, ?_⟩⟩⟩
      rw [z4]
      have := go_up (d := d + 1) (M := M') (k := r) (p := gI S'.1 12) (by omega) (by omega) a10 (by show ¬ gA M' 28 d = 3; rw [ht]; decide) (fun h => by have h' : gA M' 28 d = 2 := h; rw [ht] at h'; exact absurd h' (by decide))
      exact this
end N
