/-! blocks: SCOPE, its second block -/
section N
variable {d p : Nat} {rB : CS → Int32 → Int32 → Option ((Int32 × CS) × Nat × Nat)}
theorem bl_sc2 {F F0 B B0 n0 k s : Nat} {S : CS} {M M1 M3 : MS} {r1 : Int32} (hd : 1 ≤ d) (hd2 : d < 40) (hp4 : p < 400) (hI : Inn d rB) (G : Gd B F S M3) (hF : F < F0) (hB : B + F ≤ B0 + F0) (h0 : rch n0 M M3) (hn : n0 + 1 ≤ 4 * (F0 - F)) (hA : stkA d M1 M3) (hs1 : stk d M M1) (hO : oth M M3) (hT : nT M ≤ nT M3) (hk : k ≤ 3 * (nT M3 - nT M)) (hs : s ≤ 80 * (nT M3 - nT M)) (h37 : gI M3 37 = nI (d + 1)) (hM37 : gI M 37 = nI d) (h41 : gI M3 41 = (-1)) (h28 : gA M3 28 d = 4) (h29 : gA M3 29 d = gA M 24 p) (h34 : gA M3 34 d = r1) (h35 : ¬ r1 = 0 → gA M3 35 d = gI S.1 12) (hr1 : r1 = 0 ∨ ∃ z, 1 ≤ z ∧ z ≤ 9 ∧ r1 = nI z) : ∃ rr SS kk ss, fX11_scope_27 rB S (nI p) (nI (d + 1)) r1 (gI S.1 12) = some ((rr, SS), kk, ss) ∧ ((¬ rr = 0 ∧ BR d F0 B0 M rr SS (kk + k) (ss + s)) ∨ (rr = 0 ∧ ∃ (n2 F2 B2 : Nat) (M2 : MS), F2 ≤ F ∧ B2 + F2 ≤ B + F ∧ n2 ≤ 4 * (F0 - F2) ∧ rch n2 M M2 ∧ Gd B2 F2 SS M2 ∧ gI M2 41 = (-1) ∧ gI M2 37 = nI d ∧ gA M2 29 (d - 1) = gA M1 29 (d - 1) ∧ stk d M M2 ∧ oth M M2 ∧ nT M ≤ nT M2 ∧ kk + k ≤ 3 * (nT M2 - nT M) ∧ ss + s ≤ 80 * (nT M2 - nT M))) := by
  obtain ⟨r, S', k2, s2, e1, b1⟩ := hI F B S M3 (gA M 24 p) G h41 h37 h29
  have res := br_inn2 (F0 := F0) (B0 := B0) (n0 := n0) (k0 := k) (s0 := s) b1 hF hB h0 (by omega) hA hO hT hk hs h37
  have hwS : gA S.1 3 p = gA M 24 p := by rw [(c_arr G hp4).2.2.2, hO.2 24 (by omega)]
  have hcl : fX11_scope_27 rB S (nI p) (nI (d + 1)) r1 (gI S.1 12) = addD k2 s2 (fX11_scope_40 rB S' r1 (gI S.1 12) r) := by
    unfold fX11_scope_27
    rw [if_pos (show inb (nI p) (clA 3) = true from inbO hp4), ix_nI (by omega), hwS, e1, Option.bind_some]
  rw [hcl]
  unfold fX11_scope_40 fX11_scope_54
  rcases res with ⟨q1, q2⟩ | ⟨n', F', B', M', a1, a2, a3, a4, a5, a6, a7, a8, a9, a10, a11, a12, M0, c1, c2, c3⟩
  · have rn : ¬ r = 0 := by rw [q1]; decide
    rw [if_neg rn, addD_some, Nat.zero_add, Nat.zero_add]
    exact ⟨r, S', k2, s2, rfl, Or.inl ⟨rn, q2⟩⟩
  · have ht : gA M' 28 d = 4 := by rw [a12 28 (by decide) (by decide) (by decide)]; exact h28
    have hp34 : gA M' 34 d = r1 := by rw [a12 34 (by decide) (by decide) (by decide)]; exact h34
    have hp35 : gA M' 35 d = gA M3 35 d := a12 35 (by decide) (by decide) (by decide)
    have s3 : stk d M (pI M' 37 (nI d)) := stk_A hs1 ⟨fun j f x y c => a11.1 j f x y c, fun f x => a11.2 f x⟩ (by rw [gI_pI]; exact hM37.symm)
    have o3 : oth M (pI M' 37 (nI d)) := oth_trans a8 (oth_I (by decide) (by decide) (by decide) (by decide))
    have h341 : gI (pI M' 37 (nI d)) 41 = (-1) := by rw [gI_pI_ne _ _ (by decide)]; exact a9
    have G3 : ∀ v, Gd B' F' (cpI S' 12 v) (pI M' 37 (nI d)) := fun v => Gd_ctl a7 (cst_I (by decide) (by decide)) (mst_I (by decide) (by decide) (by decide)) (ctl_eq a7.2.1 rfl (fun j hj => gI_pI_ne _ _ (by omega)) (fun _ _ => rfl) (fun j hj => gI_pI_ne _ _ (by omega))) (by show gI (pI S'.1 12 v) 10 = _; rw [gI_pI_ne _ _ (by decide)]; exact a7.2.2.1) (by rw [gI_pI_ne _ _ (by decide)]; exact a7.2.2.2.1) (Nat.le_refl _)
    have G3' : Gd B' F' S' (pI M' 37 (nI d)) := Gd_ctl a7 (cst_refl _) (mst_I (by decide) (by decide) (by decide)) (ctl_eq a7.2.1 rfl (fun _ _ => rfl) (fun _ _ => rfl) (fun j hj => gI_pI_ne _ _ (by omega))) a7.2.2.1 (by rw [gI_pI_ne _ _ (by decide)]; exact a7.2.2.2.1) (Nat.le_refl _)
    rcases c3 with ⟨z1, z2⟩ | ⟨z, z1, z2, z3, z4⟩
    · rw [thr_4 hd2 a10 ht, hp34] at z2
      rw [if_pos z1, addD_some, Nat.zero_add, Nat.zero_add]
      rcases hr1 with hr1 | ⟨y, y1, y2, y3⟩
      · rw [hr1, if_pos (show (0 : Int32) ≤ 0 by decide)] at z2
        refine ⟨r1, _, k2, s2, rfl, Or.inr ⟨hr1, n0 + n' + 1, F', B', pI M' 37 (nI d), a1, a2, by omega, rch_snoc c1 c2 z2, G3 _, h341, gI_pI _ _ _, ?_, s3, o3, a4, a5, a6⟩⟩
        show gA M' 29 (d - 1) = _
        exact a11.1 29 (d - 1) (by decide) (by decide) (by omega)
      · have rn : ¬ r1 = 0 := by rw [y3]; exact fun q => by have := (nI_inj (a := y) (b := 0) (by omega) (by decide)).mp q; omega
        rw [if_neg (show ¬ r1 ≤ 0 by rw [y3]; exact fun q => by have := (nI_leI (a := y) (b := 0) (by omega) (by decide)).mp q; omega)] at z2
        refine ⟨r1, _, k2, s2, rfl, Or.inl ⟨rn, n0 + n', F', B', pI M' 37 (nI d), by omega, by omega, by omega, a4, a5, a6, G3 _, o3, Or.inr ⟨h341, s3, M0, c1, c2, Or.inr ⟨y, y1, y2, y3, ?_⟩⟩⟩⟩
        have e12 : gI (cpI S' 12 (gI S.1 12)).1 12 = gI S.1 12 := gI_pI _ _ _
        rw [e12, z2, hp35, h35 rn]
    · have rn : ¬ r = 0 := by rw [z3]; exact fun q => by have := (nI_inj (a := z) (b := 0) (by omega) (by decide)).mp q; omega
      rw [if_neg rn, addD_some, Nat.zero_add, Nat.zero_add]
      refine ⟨r, S', k2, s2, rfl, Or.inl ⟨rn, n0 + n', F', B', pI M' 37 (nI d), by omega, by omega, by omega, a4, a5, a6, G3', o3, Or.inr ⟨h341, s3, M0, c1, c2, Or.inr ⟨z, z1, z2, z3, ?_⟩⟩⟩⟩
      rw [z4]
      exact go_up (d := d + 1) (M := M') (k := r) (p := gI S'.1 12) (by omega) (by omega) a10 (by show ¬ gA M' 28 d = 3; rw [ht]; decide) (fun h => by have h' : gA M' 28 d = 2 := h; rw [ht] at h'; exact absurd h' (by decide))
end N
