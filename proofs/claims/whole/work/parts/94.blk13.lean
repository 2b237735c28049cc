/-! blocks: REPEAT, its turns -/
section N
variable {d p : Nat} {rB : CS → Int32 → Int32 → Option ((Int32 × CS) × Nat × Nat)}
theorem T_step {T : Int64} {j : Nat} (hj : j < 20000) (h : lN j < T) : T - lN j - 1 = T - lN (j + 1) ∧ (T - lN (j + 1) = 0 ↔ T ≤ lN (j + 1)) := by
  have e : T - lN j - 1 = T - lN (j + 1) := by rw [Int64.sub_sub, lN_1]
  refine ⟨e, ?_⟩
  have h1 : (lN j).toInt = (j : Int) := fl_lI (by omega)
  have h2 : (lN (j + 1)).toInt = (j : Int) + 1 := by rw [fl_lI (by omega)]; omega
  rw [Int64.lt_iff_toInt_lt, h1] at h
  constructor
  · intro q
    have e2 : T - lN (j + 1) + lN (j + 1) = T := Int64.sub_add_cancel _ _
    rw [q, Int64.zero_add] at e2
    rw [← e2]
    exact Int64.le_refl _
  · intro q
    rw [Int64.le_iff_toInt_le, h2] at q
    have : T = lN (j + 1) := Int64.toInt_inj.mp (by omega)
    rw [this, Int64.sub_self]
theorem rp_loop {F0 B0 : Nat} {M M1 : MS} {T : Int64} (hd : 1 ≤ d) (hd2 : d < 40) (hp4 : p < 400) (hI : Inn d rB) (hs1 : stk d M M1) (hM37 : gI M 37 = nI d) : ∀ (F L B n0 k s j : Nat) (S : CS) (M3 : MS), Gd B F S M3 → F < F0 → B + F ≤ B0 + F0 → rch n0 M M3 → n0 + 1 ≤ 4 * (F0 - F) → stkA d M1 M3 → oth M M3 → nT M ≤ nT M3 → k ≤ 3 * (nT M3 - nT M) → s ≤ 80 * (nT M3 - nT M) → gI M3 37 = nI (d + 1) → gI M3 41 = (-1) → gA M3 28 d = 1 → gA M3 29 d = gA M 23 p → gA M3 30 d = gA M 23 p → gB M3 36 d = T - lN j → lN j < T → j + F < 20000 → F < L → ∃ rr SS kk ss, Option.bind (rB S (gA M 23 p) (nI (d + 1))) (fun c69 => addD c69.2.1 c69.2.2 (fX11_repeat_72 rB (fX11_repeat_17 rB L) c69.1.2 (nI p) (nI d) T (nI j) c69.1.1)) = some ((rr, SS), kk, ss) ∧ ((¬ rr = 0 ∧ BR d F0 B0 M rr SS (kk + k) (ss + s)) ∨ (rr = 0 ∧ ∃ (n2 F2 B2 : Nat) (M2 : MS), F2 ≤ F ∧ B2 + F2 ≤ B + F ∧ n2 ≤ 4 * (F0 - F2) ∧ rch n2 M M2 ∧ Gd B2 F2 SS M2 ∧ gI M2 41 = (-1) ∧ gI M2 37 = nI d ∧ gA M2 29 (d - 1) = gA M1 29 (d - 1) ∧ stk d M M2 ∧ oth M M2 ∧ nT M ≤ nT M2 ∧ kk + k ≤ 3 * (nT M2 - nT M) ∧ ss + s ≤ 80 * (nT M2 - nT M))) := by
  intro F
  induction F using Nat.strongRecOn with
  | _ F ih =>
    intro L B n0 k s j S M3 G hF hB h0 hn hA hO hT hk hs h37 h41 h28 h29 h30 h36 hj hjF hL
    obtain ⟨r, S', k2, s2, e1, b1⟩ := hI F B S M3 (gA M 23 p) G h41 h37 h29
    obtain ⟨m, F', B', M', a1, a2, a3, a4, a5, a6, a7, a8, a9⟩ := b1
    rw [e1, Option.bind_some]
    unfold fX11_repeat_72 fX11_repeat_85
    simp only
    rcases a9 with ⟨b1, b2, b3⟩ | ⟨b1, b2, M0, b3, b4, b5⟩
    · have rn : ¬ r = 0 := by rw [b1]; decide
      rw [if_neg rn, addD_some, Nat.zero_add, Nat.zero_add]
      refine ⟨r, S', k2, s2, rfl, Or.inl ⟨rn, n0 + m, F', B', M', by omega, by omega, by omega, by omega, by omega, by omega, a7, oth_trans hO a8, Or.inl ⟨b1, ?_, b3⟩⟩⟩
      rw [show n0 + m + 1 = n0 + (m + 1) by omega]
      exact rch_trans h0 b2
    · rw [show d + 1 - 1 = d by omega] at b5
      have A := stkA_trans hA (stkA_of b2)
      have ht : gA M' 28 d = 1 := by rw [b2.1 28 d (by decide) (by decide) (by omega) (Or.inl (by decide))]; exact h28
      have ht30 : gA M' 30 d = gA M 23 p := by rw [b2.1 30 d (by decide) (by decide) (by omega) (Or.inl (by decide))]; exact h30
      have ht36 : gB M' 36 d = T - lN j := by rw [b2.2.1 d (by omega)]; exact h36
      have ht37 : gI M' 37 = nI (d + 1) := by rw [b2.2.2]; exact h37
      have o1 := oth_trans hO a8
      have rM0 := rch_trans h0 b3
      rcases b5 with ⟨z1, z2⟩ | ⟨z, z1, z2, z3, z4⟩
      · obtain ⟨t1, t2⟩ := T_step (by omega) hj
        rw [thr_1 hd2 ht37 ht ht36 (by omega) a7.2.2.2.1, t1] at z2
        rw [if_pos z1, nI_1]
        obtain ⟨L1, rfl⟩ : ∃ L1, L = L1 + 1 := ⟨L - 1, by omega⟩
        rw [fX11_repeat_17, nI_l (by omega)]
        unfold fX11_repeat_88
        by_cases c : T ≤ lN (j + 1)
        · rw [if_pos (t2.mpr c)] at z2
          rw [if_pos c, addD_some, Nat.zero_add, Nat.zero_add]
          refine ⟨0, S', k2, s2, rfl, Or.inr ⟨rfl, n0 + m + 1, F', B', _, a1, a2, by omega, rch_snoc rM0 b4 z2, ?_, ?_, gI_pI _ _ _, ?_, ?_, ?_, by show nT M ≤ nT M'; omega, by show k2 + k ≤ 3 * (nT M' - nT M); omega, by show s2 + s ≤ 80 * (nT M' - nT M); omega⟩⟩
          · exact Gd_ctl a7 (cst_refl _) (mst_trans mst_B (mst_I (by decide) (by decide) (by decide))) (ctl_eq a7.2.1 rfl (fun _ _ => rfl) (fun _ _ => rfl) (fun i hi => gI_pI_ne _ _ (by omega))) a7.2.2.1 (by rw [gI_pI_ne _ _ (by decide)]; exact a7.2.2.2.1) (Nat.le_refl _)
          · rw [gI_pI_ne _ _ (by decide)]; exact b1
          · show gA M' 29 (d - 1) = _
            exact A.1 29 (d - 1) (by decide) (by decide) (by omega)
          · refine stk_A hs1 ⟨fun i f x y c => A.1 i f x y c, fun f x => ?_⟩ (by rw [gI_pI]; exact hM37.symm)
            rw [gB_pI, gB_pB, if_neg (by omega)]
            exact A.2 f x
          · exact oth_trans o1 (oth_trans (M1 := pB M' 36 d (T - lN (j + 1))) ⟨fun _ _ => rfl, fun _ _ => rfl⟩ (oth_I (by decide) (by decide) (by decide) (by decide)))
        · rw [if_neg (fun q => c (t2.mp q))] at z2
          rw [if_neg c, if_neg (show ¬ (20000 : Int32) < nI (j + 1) from fun q => by have := (nI_ltI (a := 20000) (b := j + 1) (by decide) (by omega)).mp q; omega)]
          by_cases c0 : F' = 0
          · subst c0
            rw [if_pos rfl] at z2
            rw [c_dry a7.2.2.1, Option.bind_some, if_pos rfl, addD_some, Nat.zero_add, Nat.zero_add]
            refine ⟨10, S', k2, s2, rfl, Or.inl ⟨by decide, n0 + m, 0, B', _, by omega, by omega, by omega, by show nT M ≤ nT M'; omega, by show k2 + k ≤ 3 * (nT M' - nT M); omega, by show s2 + s ≤ 80 * (nT M' - nT M); omega, ?_, ?_, Or.inl ⟨rfl, rch_snoc rM0 b4 z2, gI_pI _ _ _⟩⟩⟩
            · exact Gd_ctl a7 (cst_refl _) (mst_trans mst_B (mst_I (by decide) (by decide) (by decide))) (ctl_eq a7.2.1 rfl (fun _ _ => rfl) (fun _ _ => rfl) (fun i hi => gI_pI_ne _ _ (by omega))) a7.2.2.1 (by rw [gI_pI_ne _ _ (by decide)]; exact a7.2.2.2.1) (Nat.le_refl _)
            · exact oth_trans o1 (oth_trans (M1 := pB M' 36 d (T - lN (j + 1))) ⟨fun _ _ => rfl, fun _ _ => rfl⟩ (oth_I (by decide) (by decide) (by decide) (by decide)))
          · obtain ⟨F2, rfl⟩ : ∃ F2, F' = F2 + 1 := ⟨F' - 1, by omega⟩
            rw [if_neg c0, show F2 + 1 - 1 = F2 by omega, ht30] at z2
            have hse : gA S'.1 2 p = gA M 23 p := by rw [(c_arr a7 hp4).2.2.1, o1.2 23 (by omega)]
            rw [c_fuel (by omega) a7.2.2.1, Option.bind_some, if_neg (show ¬ (1 : Int32) = 0 by decide), if_pos (show nI d < 40 from (nI_ltI (b := 40) (by omega) (by decide)).mpr hd2), if_pos (show inb (nI p) (clA 2) = true from inbO hp4), ix_nI (by omega)]
            have hse' : gA (cpI S' 10 (nI F2)).1 2 p = gA M 23 p := hse
            simp only
            rw [hse', nI_1]
            have G4 : Gd B' F2 (cpI S' 10 (nI F2)) (pA (pI (pB M' 36 d (T - lN (j + 1))) 38 (nI F2)) 29 d (gA M 23 p)) := Gd_ctl a7 (cst_I (by decide) (by decide)) (mst_trans mst_B (mst_trans (mst_I (k := 38) (by decide) (by decide) (by decide)) (mst_A (by decide)))) (ctl_eq a7.2.1 rfl (fun i hi => gI_pI_ne _ _ (by omega)) (fun i hi => gA_pA_ne _ _ _ (by omega)) (fun i hi => gI_pI_ne _ _ (by omega))) (gI_pI _ _ _) (gI_pI (pB M' 36 d (T - lN (j + 1))) 38 (nI F2)) (by omega)
            have hA4 : stkA d M1 (pA (pI (pB M' 36 d (T - lN (j + 1))) 38 (nI F2)) 29 d (gA M 23 p)) := by
              refine stkA_trans A ⟨fun i f x y c => ?_, fun f x => ?_⟩
              · by_cases e : i = 29
                · subst e; rw [gA_pA, if_neg (by omega)]; rfl
                · rw [gA_pA_ne _ _ _ e]; rfl
              · rw [gB_pA, gB_pI, gB_pB, if_neg (by omega)]
            have hO4 : oth M (pA (pI (pB M' 36 d (T - lN (j + 1))) 38 (nI F2)) 29 d (gA M 23 p)) := oth_trans o1 ⟨fun i hi => gI_pI_ne _ _ (by omega), fun i hi => gA_pA_ne _ _ _ (by omega)⟩
            have h374 : gI (pA (pI (pB M' 36 d (T - lN (j + 1))) 38 (nI F2)) 29 d (gA M 23 p)) 37 = nI (d + 1) := (gI_pI_ne (pB M' 36 d (T - lN (j + 1))) (nI F2) (show 37 ≠ 38 by decide)).trans ht37
            have h414 : gI (pA (pI (pB M' 36 d (T - lN (j + 1))) 38 (nI F2)) 29 d (gA M 23 p)) 41 = (-1) := (gI_pI_ne (pB M' 36 d (T - lN (j + 1))) (nI F2) (show 41 ≠ 38 by decide)).trans b1
            have hj2 : lN (j + 1) < T := by
              rw [Int64.lt_iff_toInt_lt]
              rw [Int64.le_iff_toInt_le] at c
              omega
            obtain ⟨rr, SS, kk, ss, f1, f2⟩ := ih F2 (by omega) L1 B' (n0 + m + 1) (k2 + k) (s2 + s) (j + 1) _ _ G4 (by omega) (by omega) (rch_snoc rM0 b4 z2) (by omega) hA4 hO4 (by show nT M ≤ nT M'; omega) (by show k2 + k ≤ 3 * (nT M' - nT M); omega) (by show s2 + s ≤ 80 * (nT M' - nT M); omega) h374 h414 (by rw [gA_pA_ne _ _ _ (by decide)]; exact ht) (by rw [gA_pA, if_pos rfl]) (by rw [gA_pA_ne _ _ _ (by decide)]; exact ht30) (by rw [gB_pA, gB_pI, gB_pB, if_pos rfl]) hj2 (by omega) (by omega)
            unfold fX11_repeat_72 fX11_repeat_85 at f1
            unfold fX11_repeat_72 fX11_repeat_85
            rw [f1, addD_some]
            refine ⟨rr, SS, _, _, rfl, ?_⟩
            rw [show kk + k2 + k = kk + (k2 + k) by omega, show ss + s2 + s = ss + (s2 + s) by omega]
            rcases f2 with f2 | ⟨g1, n2, F3, B3, M4, y1, y2, y3⟩
            · exact Or.inl f2
            · exact Or.inr ⟨g1, n2, F3, B3, M4, by omega, by omega, y3⟩
      · have rn : ¬ r = 0 := by rw [z3]; exact fun q => by have := (nI_inj (a := z) (b := 0) (by omega) (by decide)).mp q; omega
        rw [if_neg rn, addD_some, Nat.zero_add, Nat.zero_add]
        refine ⟨r, S', k2, s2, rfl, Or.inl ⟨rn, n0 + m, F', B', pI M' 37 (nI d), by omega, by omega, by omega, by show nT M ≤ nT M'; omega, by show k2 + k ≤ 3 * (nT M' - nT M); omega, by show s2 + s ≤ 80 * (nT M' - nT M); omega, ?_, oth_trans o1 (oth_I (by decide) (by decide) (by decide) (by decide)), Or.inr ⟨by rw [gI_pI_ne _ _ (by decide)]; exact b1, stk_A hs1 ⟨fun i f x y c => A.1 i f x y c, fun f x => A.2 f x⟩ (by rw [gI_pI]; exact hM37.symm), M0, rM0, b4, Or.inr ⟨z, z1, z2, z3, ?_⟩⟩⟩⟩
        · exact Gd_ctl a7 (cst_refl _) (mst_I (by decide) (by decide) (by decide)) (ctl_eq a7.2.1 rfl (fun _ _ => rfl) (fun _ _ => rfl) (fun i hi => gI_pI_ne _ _ (by omega))) a7.2.2.1 (by rw [gI_pI_ne _ _ (by decide)]; exact a7.2.2.2.1) (Nat.le_refl _)
        · rw [z4]
          exact go_up (d := d + 1) (M := M') (k := r) (p := gI S'.1 12) (by omega) (by omega) ht37 (by show ¬ gA M' 28 d = 3; rw [ht]; decide) (fun h => by have h' : gA M' 28 d = 2 := h; rw [ht] at h'; exact absurd h' (by decide))
end N
