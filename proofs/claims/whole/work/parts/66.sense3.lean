/-! SENSE, the order -/
section N
variable {w : Nat → Nat → Nat} {B : Nat} {S : CS} {M : MS}
theorem sim_sn {M3 : MS} {mv : Nat} {f' : Nat → Int32} (R : Rel w B S M) {t : Nat} (h1 : t ≠ 0) (h2 : t ≤ nT M) (hk : kN M t = 16) (hmv : mv ≤ B) (m1 : gI M3 = gI M) (m2 : ∀ k, k = 5 ∨ k = 6 ∨ k = 7 ∨ k = 8 ∨ k = 16 ∨ k = 17 ∨ 21 ≤ k → gA M3 k = gA M k) (m3 : ∀ k u, k = 18 ∨ k = 20 → u ≠ t → gA M3 k u = gA M k u) (m4 : ∀ k, k ≠ 19 → gB M3 k = gB M k) (m5 : ∀ j, j < 5 * t ∨ 5 * t + 5 ≤ j → gB M3 19 j = gB M 19 j) (a1 : gA M3 18 t = nI (mv + 1)) (a2 : gA M3 20 t = nI (min (mv + 1) 5)) (a3 : ∀ i, i < min (mv + 1) 5 → can32 (f' i) ∧ gB M3 19 (5 * t + i) = fX2_ofBits32 (f' i)) : Sim w B S M (some (0, cpH (cpH S (w 1 t) (.inl (5, .inl f'))) (w 0 t) (.inr (3, [.ref (w 1 t), .long (lN (mv + 1))])))) (Option.bind (snE M3 t (fun i => fX2_ofBits32 (f' i)) (min (mv + 1) 5)) (fun c423 => fX12_devices_426 c423)) := by
  have hinv := prS_inv (fun i => fX2_ofBits32 (f' i)) (min (mv + 1) 5)
  have hcan := prS_can (fun i => fX2_ofBits32 (f' i)) (min (mv + 1) 5) (fun i _ => can_ofb _)
  have fin : ∀ X Y, _ → _ → Sim w B S M (some (0, cpH (cpH S (w 1 t) (.inl (5, .inl f'))) (w 0 t) (.inr (3, [.ref (w 1 t), .long (lN (mv + 1))])))) (some (0, pB (pB M3 12 t X) 13 t Y)) := fun X Y a4 a5 => sim_one (r := 0) R (by decide) (Rel_sense R h1 h2 hk hmv m1 (fun k hk2 => m2 k (by omega)) m3 m4 m5 a1 a2 a3 (X := X) (Y := Y) a4 a5) ⟨fun _ _ _ => rfl, rfl⟩ ⟨fun k _ _ _ => by show gI M3 k = _; rw [m1], fun k hk2 => by show gA M3 k = _; exact m2 k (by omega), by rw [gB_pB_ne _ _ _ (by decide), gB_pB_ne _ _ _ (by decide), m4 36 (by decide)]⟩ (by show ix (gI M3 10) = _; rw [m1]; rfl)
  unfold snE fX12_devices_426
  rcases hinv with ⟨i1_, i2_, i3_⟩ | ⟨i1_, i2_, i3_⟩
  · rw [if_pos i1_, Option.bind_some]
    refine fin _ _ ⟨by rw [if_pos i1_], ?_⟩ ⟨can64_L, can64_0⟩
    rw [i2_, if_neg lost_L]
  · obtain ⟨z1_, d1_, d2_⟩ := div_ex (prS (fun i => fX2_ofBits32 (f' i)) (min (mv + 1) 5)).1 (fX2_ofWhole (lN (prS (fun i => fX2_ofBits32 (f' i)) (min (mv + 1) 5)).2.1))
    rw [if_neg i1_, d2_, Option.bind_some, Option.bind_some]
    refine fin _ _ ⟨by rw [if_neg i1_]; exact d1_, ?_⟩ ⟨can_div hcan.1 (can_whole _) d1_, can_sub hcan.2.1 hcan.2.2⟩
    rw [if_pos i2_]
    rfl
theorem sim_sense (R : Rel w B S M) (hB : B < 2147483647) {t : Nat} (h1 : t ≠ 0) (h2 : t ≤ nT M) (hk : kN M t = 16) {x : Int64} (hx : can64 x) : Sim w B S M (Option.bind (fX5_keep S (some (w 0 t)) x) (fun c25 => some (0, c25))) (Option.bind (fX12_small x) (fun c420 => Option.bind (fX12_senses M (nI t) c420) (fun c423 => fX12_devices_426 c423))) := by
  have h4 := rl_4000 R
  obtain ⟨mv, f, hH, b1, b2, b3, b4⟩ := rl_prH R h1 h2 hk
  have v1 : vld M 1 t := Or.inr (Or.inl ⟨rfl, Or.inr hk⟩)
  have ne : w 0 t ≠ w 1 t := fun h => absurd (R.2.2.2.2.2.2.1.2.1 0 t 1 t (by omega) h2 (by omega) h2 (Or.inl rfl) v1 h).1 (by decide)
  have i20 : inb (nI t) (mlA 20) = true := inb_nI (by omega) (by show t < 4001; omega)
  rw [c_keep hH ne (by omega) x, Option.bind_some, fl_small x hx, Option.bind_some]
  unfold fX12_senses fX12_senses_5
  rw [show (5 : Int32) * nI t = nI (5 * t) from pk_mul 5 t, if_pos i20, ix_nI (by omega), b3]
  have ct := can32_tob x
  generalize fX2_toBits32 x = p at ct ⊢
  by_cases c : mv < 5
  · rw [show min mv 5 = mv by omega] at b3 b4 ⊢
    rw [if_neg (show ¬ nI mv = 5 from fun q => by have := (nI_inj (b := 5) (by omega) (by decide)).mp q; omega)]
    have ef : va_up (shF f mv) (min mv 4) p = va_up f mv p := by
      unfold shF
      rw [if_pos c, show min mv 4 = mv by omega]
    rw [ef]
    have hr : ∀ i, i < mv + 1 → gB (pB M 19 (5 * t + mv) (fX2_ofBits32 p)) 19 (5 * t + i) = fX2_ofBits32 (va_up f mv p i) := by
      intro i hi
      rw [gB_pB]
      by_cases d : i = mv
      · subst d
        rw [if_pos rfl, up_eq]
      · rw [if_neg (by omega), up_ne _ _ d]
        exact (b4 i (by omega)).2
    rw [sn_tail (M := M) (t := t) (n := mv) (mv := mv) (r := fun i => fX2_ofBits32 (va_up f mv p i)) (by omega) b3 b2 (by omega) hr]
    have e5 : mv + 1 = min (mv + 1) 5 := by omega
    have := sim_sn (M3 := pA (pA (pB M 19 (5 * t + mv) (fX2_ofBits32 p)) 20 t (nI (mv + 1))) 18 t (nI (mv + 1))) (f' := va_up f mv p) R h1 h2 hk b1 rfl (fun k hk2 => by rw [gA_pA_ne _ _ _ (by omega), gA_pA_ne _ _ _ (by omega)]; rfl) (fun k u hk2 hu => by
      rcases hk2 with e | e
      · subst e; rw [gA_pA, if_neg hu, gA_pA_ne _ _ _ (by decide)]; rfl
      · subst e; rw [gA_pA_ne _ _ _ (by decide), gA_pA, if_neg hu]; rfl) (fun k hk2 => by rw [gB_pA, gB_pA, gB_pB_ne _ _ _ hk2]) (fun j hj => by rw [gB_pA, gB_pA, gB_pB, if_neg (by omega)]) (by rw [gA_pA, if_pos rfl]) (by rw [gA_pA_ne _ _ _ (by decide), gA_pA, if_pos rfl, ← e5]) (fun i hi => ⟨by
        by_cases d : i = mv
        · subst d; rw [up_eq]; exact ct
        · rw [up_ne _ _ d]; exact (b4 i (by omega)).1, hr i (by omega)⟩)
    rw [← e5] at this
    exact this
  · rw [show min mv 5 = 5 by omega] at b3 b4 ⊢
    rw [if_pos (show nI 5 = 5 from rfl)]
    have ef : va_up (shF f mv) (min mv 4) p = va_up (va_cpy f f 1 0 4) 4 p := by
      unfold shF
      rw [if_neg c, show min mv 4 = 4 by omega]
    rw [ef]
    have hs := sh_loop (M := M) (t := t) (by omega) (fX2_ofBits32 p) (gB M 19) 4 0 5 (by omega)
    rw [cpy_0, s19_id, show 4 + 1 + 5 = 10 from rfl, show nI 0 = 0 from rfl] at hs
    rw [hs]
    have hr : ∀ i, i < 4 + 1 → gB (pB (pA (s19 M (va_cpy (gB M 19) (gB M 19) (5 * t + 1) (5 * t) 4)) 20 t 4) 19 (5 * t + 4) (fX2_ofBits32 p)) 19 (5 * t + i) = fX2_ofBits32 (va_up (va_cpy f f 1 0 4) 4 p i) := by
      intro i hi
      rw [gB_pB, gB_pA, gB_s19]
      by_cases d : i = 4
      · subst d
        rw [if_pos rfl, up_eq]
      · rw [if_neg (by omega), up_ne _ _ d, pk_cpy_in (by omega) (by omega), pk_cpy_in (by omega) (by omega), show 5 * t + 1 + (5 * t + i - 5 * t) = 5 * t + (1 + (i - 0)) by omega]
        exact (b4 _ (by omega)).2
    have g20 : gA (pA (s19 M (va_cpy (gB M 19) (gB M 19) (5 * t + 1) (5 * t) 4)) 20 t 4) 20 t = nI 4 := by rw [gA_pA, if_pos rfl]; rfl
    have g18 : gA (pA (s19 M (va_cpy (gB M 19) (gB M 19) (5 * t + 1) (5 * t) 4)) 20 t 4) 18 t = nI mv := by rw [gA_pA_ne _ _ _ (by decide)]; exact b2
    rw [sn_tail (t := t) (n := 4) (mv := mv) (r := fun i => fX2_ofBits32 (va_up (va_cpy f f 1 0 4) 4 p i)) (by omega) g20 g18 (by omega) hr]
    have e5 : 4 + 1 = min (mv + 1) 5 := by omega
    have := sim_sn (M3 := pA (pA (pB (pA (s19 M (va_cpy (gB M 19) (gB M 19) (5 * t + 1) (5 * t) 4)) 20 t 4) 19 (5 * t + 4) (fX2_ofBits32 p)) 20 t (nI (4 + 1))) 18 t (nI (mv + 1))) (f' := va_up (va_cpy f f 1 0 4) 4 p) R h1 h2 hk b1 rfl (fun k hk2 => by rw [gA_pA_ne _ _ _ (by omega), gA_pA_ne _ _ _ (by omega), gA_pB, gA_pA_ne _ _ _ (by omega)]; rfl) (fun k u hk2 hu => by
      rcases hk2 with e | e
      · subst e; rw [gA_pA, if_neg hu, gA_pA_ne _ _ _ (by decide), gA_pB, gA_pA_ne _ _ _ (by decide)]; rfl
      · subst e; rw [gA_pA_ne _ _ _ (by decide), gA_pA, if_neg hu, gA_pB, gA_pA, if_neg hu]; rfl) (fun k hk2 => by rw [gB_pA, gB_pA, gB_pB_ne _ _ _ hk2, gB_pA, gB_s19n _ _ hk2]) (fun j hj => by rw [gB_pA, gB_pA, gB_pB, if_neg (by omega), gB_pA, gB_s19, pk_cpy_out (by omega)]) (by rw [gA_pA, if_pos rfl]) (by rw [gA_pA_ne _ _ _ (by decide), gA_pA, if_pos rfl, e5]) (fun i hi => ⟨by
        by_cases d : i = 4
        · subst d; rw [up_eq]; exact ct
        · rw [up_ne _ _ d, pk_cpy_in (by omega) (by omega)]; exact (b4 _ (by omega)).1, hr i (by omega)⟩)
    rw [← e5] at this
    exact this
end N
