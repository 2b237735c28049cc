/-! MAKE -/
def SimA (B : Nat) (S : CS) (M : MS) (c : Option ((Int32 × CS) × Nat × Nat)) (m : Option (Int32 × MS)) : Prop := ∃ (r : Nat) (w' : Nat → Nat → Nat) (S' : CS) (M' : MS) (k q : Nat), r ≤ 9 ∧ c = some ((nI r, S'), k, q) ∧ m = some (nI r, M') ∧ Rel w' (B + 1) S' M' ∧ cfr S S' ∧ mfr M M' ∧ nT M ≤ nT M' ∧ k ≤ 3 * (nT M' - nT M) ∧ q ≤ 80 * (nT M' - nT M)
theorem l_small {v : Int64} {m : Nat} (hm : m < 2147483648) (h1 : 0 ≤ v) (h2 : ¬ lN m < v) : ∃ n, n ≤ m ∧ v = lN n := by
  have e0 : (0 : Int64).toInt = 0 := by decide
  rw [Int64.le_iff_toInt_le, e0] at h1
  rw [Int64.lt_iff_toInt_lt, fl_lI (by omega)] at h2
  refine ⟨v.toInt.toNat, by omega, ?_⟩
  apply Int64.toInt_inj.mp
  rw [fl_lI (by omega)]
  omega
section N
variable {w : Nat → Nat → Nat} {B : Nat} {S : CS} {M : MS}
theorem sim_lift {c : Option (Int32 × CS)} {m : Option (Int32 × MS)} (h : Sim w B S M c m) : SimA B S M (Option.bind c (fun x => some ((x.1, x.2), 0, 0))) m := by
  obtain ⟨r1_, S1_, M1_, q1_, q2_, q3_, q4_, q5_, q6_, q7_⟩ := h
  exact ⟨r1_, w, S1_, M1_, 0, 0, q1_, by rw [q2_]; rfl, q3_, q4_, q5_, q6_, by omega, by omega, by omega⟩
theorem sima_err (R : Rel w B S M) (r : Nat) (hr : r ≤ 9) : SimA B S M (some ((nI r, S), 0, 0)) (some (nI r, M)) := ⟨r, w, S, M, 0, 0, hr, rfl, rfl, Rel_B R (by omega), cfr_refl S, mfr_refl M, by omega, by omega, by omega⟩
theorem c_room (R : Rel w B S M) : (nT M < 4000 → fX11_mayMake S 1 = some (1, S) ∧ fX12_hasRoom M 1 = some (1, M)) ∧ (¬ nT M < 4000 → fX11_mayMake S 1 = some (0, S) ∧ fX12_hasRoom M 1 = some (0, M)) := by
  have h4 := rl_4000 R
  have e10 := R.2.2.2.1.1
  have e8 := R.2.2.2.1.2.2.1
  unfold fX11_mayMake fX12_hasRoom
  rw [e8, e10, nI_1, nI_l (by omega), lN_1]
  have k1 : (4000 : Int32) < nI (nT M + 1) ↔ 4000 < nT M + 1 := nI_ltI (a := 4000) (by decide) (by omega)
  have k2 : (4000 : Int64) < lN (nT M + 1) ↔ 4000 < nT M + 1 := lN_lt (a := 4000) (by decide) (by omega)
  refine ⟨fun h => ?_, fun h => ?_⟩
  · rw [if_neg (fun q => by have := k1.mp q; omega), if_neg (fun q => by have := k2.mp q; omega)]
    exact ⟨rfl, rfl⟩
  · rw [if_pos (k1.mpr (by omega)), if_pos (k2.mpr (by omega))]
    exact ⟨rfl, rfl⟩
theorem rw_fr {t k n tk : Nat} : mfr M (rwM M t k n tk) := ⟨fun j h1 h2 _ => rw_I.2.2 j h1 h2, fun j hj => rw_An (by omega) (by omega) (by omega), rw_Bn (by decide)⟩
theorem rw_T {t k n tk : Nat} (h : t ≤ 4000) : nT (rwM M t k n tk) = t := by unfold nT; rw [rw_I.1, ix_nI (by omega)]
theorem sim_mkrow (R : Rel w B S M) (hT : nT M < 4000) {k n : Nat} (hk : k ≤ 10) (hn : n ≤ 64) (a : Int32) : SimA B S M (addD 1 4 (fX11_makeRow_46 (cnew S (.inr (5, [.int 0, .int 0, .null, .null]))) (lN n) (nI k) a (some (cSz S)))) (Option.bind (fX12_newRow M (nI k) (nI n)) (fun c55 => if inb (a &&& 15) (mlA 5) = true then some (0, pA c55.2 5 (ix (a &&& 15)) c55.1) else none)) := by
  obtain ⟨S1, i1_, i2_, i3_, i4_, i5_, i6_⟩ := c_init8 S hk hn
  obtain ⟨tk, k1_, k2_⟩ := rl_tk R
  have R' := Rel_newR (t := nT M + 1) (tk := tk) R rfl (by omega) hk hn k2_ k1_ i2_ i3_ i4_ i5_ i6_
  have eT : nT (rwM M (nT M + 1) k n tk) = nT M + 1 := rw_T (by omega)
  have ei : ix (a &&& 15) = ra a := rfl
  have hm1 : cSz S ∈ cLs (cnew S (.inr (5, [.int 0, .int 0, .null, .null]))) := by rw [cLs_new]; simp
  have h1 : cH (cnew S (.inr (5, [.int 0, .int 0, .null, .null]))) (cSz S) = .inr (5, [.int 0, .int 0, .null, .null]) := by rw [cH_new, if_pos rfl]
  have kx : isKx (cnew S (.inr (5, [.int 0, .int 0, .null, .null]))) (some (cSz S)) [5] = true := (isK_at hm1 h1 [5]).trans (by decide)
  have e8 : gI S1.1 8 + 1 = nI (nT M + 1) := by rw [i2_, R.2.2.2.1.2.2.1, R.2.2.2.1.1, nI_1]
  have er : rfn (wNew w (nT M + 1) (cSz S)) (nT M + 1) = some (cSz S) := by rw [rfn_s _ (by omega)]; show some (if nT M + 1 = nT M + 1 then cSz S + 0 else _) = _; rw [if_pos rfl]; rfl
  have hg : fX11_giveNew S1 a (some (cSz S)) = some (0, cpS (cpI S1 8 (nI (nT M + 1))) (ra a) (some (cSz S))) := by
    unfold fX11_giveNew fX11_giveNew_10
    rw [e8, c_giveThg _ a _ (by have := c_stK R' (t := nT M + 1) (by omega); rw [er] at this; exact this), Option.bind_some]
  rw [m_newR R (t := nT M + 1) rfl (by omega) hn k2_ (by omega), Option.bind_some]
  simp only
  rw [if_pos (inb5 a), ei]
  unfold fX11_makeRow_46
  rw [kx, if_pos rfl, lN_i, i1_, Option.bind_some]
  simp only
  rw [hg, Option.bind_some]
  have R2 := Rel_slt (k := ra a) R' (t0 := nT M + 1) (by omega)
  rw [er] at R2
  refine ⟨0, _, _, _, 3, n + 4, by omega, ?_, rfl, Rel_B R2 (by omega), ?_, mfr_trans rw_fr (mfr_A (by decide)), ?_, ?_, ?_⟩
  · show some (((0 : Int32), _), 0 + 2 + 1, 0 + n + 4) = _
    rw [Nat.zero_add, Nat.zero_add]
    rfl
  · refine ⟨fun j h7 h8 => ?_, ?_⟩
    · show gI (pI S1.1 8 _) j = _
      rw [gI_pI_ne _ _ h8, i2_]
    · show gA S1.1 = _
      rw [i2_]
  · show nT M ≤ nT (rwM M (nT M + 1) k n tk)
    omega
  · show 3 ≤ 3 * (nT (rwM M (nT M + 1) k n tk) - nT M)
    omega
  · show n + 4 ≤ 80 * (nT (rwM M (nT M + 1) k n tk) - nT M)
    omega
theorem sim_make (R : Rel w B S M) (a c : Int32) (v : Int64) : SimA B S M (fX11_makeRow S a v c) (fX12_makes M 0 (a &&& 15) v c) := by
  unfold fX11_makeRow fX12_makes fX11_makeRow_12 fX11_makeRow_38 fX12_makes_16 fX12_makes_42 fX12_makes_59
  rw [if_pos (show (0 : Int32) = 0 from rfl)]
  by_cases c1 : c < 0
  · rw [if_pos c1, if_pos c1]; exact sima_err R 2 (by decide)
  · rw [if_neg c1, if_neg c1]
    by_cases c2 : c ≤ 9
    · rw [if_pos c2, if_pos c2]
      by_cases c3 : 0 ≤ v
      · rw [if_pos c3, if_pos c3]
        by_cases c4 : 64 < v
        · rw [if_pos c4, if_pos c4]; exact sima_err R 8 (by decide)
        · rw [if_neg c4, if_neg c4]
          by_cases c5 : nT M < 4000
          · rw [((c_room R).1 c5).1, ((c_room R).1 c5).2, Option.bind_some, Option.bind_some, if_neg (show ¬ (1 : Int32) = 0 by decide), if_neg (show ¬ (1 : Int32) = 0 by decide)]
            obtain ⟨k1_, g1_, g2_⟩ := nI_of c1
            have hk : k1_ ≤ 9 := by
              rw [g2_] at c2
              exact (nI_leI (b := 9) g1_ (by decide)).mp c2
            obtain ⟨n1_, f1_, f2_⟩ := l_small (m := 64) (by decide) c3 c4
            rw [g2_, f2_, lN_i]
            exact sim_mkrow R c5 (by omega) f1_ a
          · rw [((c_room R).2 c5).1, ((c_room R).2 c5).2, Option.bind_some, Option.bind_some, if_pos rfl, if_pos rfl]; exact sima_err R 8 (by decide)
      · rw [if_neg c3, if_neg c3]; exact sima_err R 4 (by decide)
    · rw [if_neg c2, if_neg c2]; exact sima_err R 2 (by decide)
end N
