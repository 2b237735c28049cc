/-! READ -/
section N
variable {w : Nat → Nat → Nat} {B : Nat} {S : CS} {M : MS}
theorem m_la (R : Rel w B S M) {b : Int32} {t : Nat} (h2 : t ≤ nT M) (eb : gA M 5 (ra b) = nI t) (v1 v2 : Int32) {p : Nat} (hp : p < 8) : fX12_looksAt_32 M v1 v2 b (nI p) = if t = 0 then some (1, M) else if (p = 5 ∧ kN M t = 12) ∨ (p ≠ 5 ∧ (kN M t = 11 ∨ kN M t = 12)) then fX12_looksAt_90 M v1 v2 (nI p) (nI t) else some (2, M) := by
  have h4 := rl_4000 R
  have e5 : gA M 5 (ix (b &&& 15)) = nI t := eb
  unfold fX12_looksAt_32 fX12_looksAt_69 fX12_looksAt_71
  rw [m_kindOf R b eb h2, Option.bind_some]
  simp only
  by_cases c : t = 0
  · rw [if_pos c, if_pos c, if_pos rfl, if_pos rfl]
  · have hk := rl_kN R c h2
    rw [if_neg c, if_neg c, if_neg (nI_nm (by omega)), if_neg (nI_nm (by omega)), if_pos (inb5 b), e5, m_isPose hk.2]
    have ep : nI p = 5 ↔ p = 5 := nI_inj (b := 5) (by omega) (by decide)
    have e12 : nI (kN M t) = 12 ↔ kN M t = 12 := nI_inj (b := 12) (by omega) (by decide)
    by_cases c1 : p = 5
    · rw [if_pos (ep.mpr c1)]
      by_cases c2 : kN M t = 12
      · rw [if_pos (e12.mpr c2), if_pos (Or.inl ⟨c1, c2⟩)]
      · rw [if_neg (fun h => c2 (e12.mp h)), if_neg (by omega)]
    · rw [if_neg (fun h => c1 (ep.mp h))]
      by_cases c2 : kN M t = 11 ∨ kN M t = 12
      · rw [if_pos c2, if_neg (show ¬ (1 : Int32) = 0 by decide), if_pos (Or.inr ⟨c1, c2⟩)]
      · rw [if_neg c2, if_pos rfl, if_neg (by omega)]
theorem ch_loop (R : Rel w B S M) (v : Int32) : ∀ (q k u : Nat), k + q = 100 → u ≤ nT M → (u = 0 ∨ kN M u = 11 ∨ kN M u = 12) → ∃ r, r ≤ 100 ∧ fX4_chainLength_4 (q + 20) S (nI k) (rfn w u) = some (nI r, S) ∧ fX12_looksAt_282 (q + 10) M v (nI k) (nI u) = fX12_looksAt_309 M v (nI r) := by
  have h4 := rl_4000 R
  intro q
  induction q with
  | zero =>
    intro k u h h2 hk
    have e : k = 100 := by omega
    subst e
    refine ⟨100, by omega, ?_, ?_⟩
    · rw [show 0 + 20 = 19 + 1 by omega, fX4_chainLength_4]
      unfold fX4_chainLength_25
      by_cases c : u = 0
      · rw [c]; rfl
      · rw [onul_r c, if_pos (show (100 : Int32) ≤ nI 100 by decide)]
    · rw [show 0 + 10 = 9 + 1 by omega, fX12_looksAt_282]
      by_cases c : u = 0
      · rw [c, if_pos (show nI 0 = 0 from rfl)]
      · rw [if_neg (show ¬ nI u = 0 from fun h => c ((nI_inj (b := 0) (by omega) (by decide)).mp h)), if_pos (show (100 : Int32) ≤ nI 100 by decide)]
  | succ q ih =>
    intro k u h h2 hk
    have nk : ¬ (100 : Int32) ≤ nI k := fun x => by have := (nI_leI (a := 100) (b := k) (by decide) (by omega)).mp x; omega
    rw [show q + 1 + 20 = (q + 20) + 1 by omega, show q + 1 + 10 = (q + 10) + 1 by omega, fX4_chainLength_4, fX12_looksAt_282]
    by_cases c : u = 0
    · subst c
      refine ⟨k, by omega, rfl, ?_⟩
      rw [if_pos (show nI 0 = 0 from rfl)]
    · have hkk : kN M u = 11 ∨ kN M u = 12 := hk.elim (fun x => absurd x c) id
      have hg := c_pget R c h2 hkk
      have hp := rl_pose R c h2 hkk
      obtain ⟨r1_, q1_, q2_, q3_⟩ := ih (k + 1) (aN M u) (by omega) hp.2.1 hp.2.2.2.1
      refine ⟨r1_, q1_, ?_, ?_⟩
      · rw [onul_r c, if_neg nk]
        unfold fX4_chainLength_17
        rw [rfn_s w c, hg.2.2.2.2.1, Option.bind_some, nI_1]
        exact q2_
      · rw [if_neg (show ¬ nI u = 0 from fun h => c ((nI_inj (b := 0) (by omega) (by decide)).mp h)), if_neg nk]
        unfold fX12_looksAt_297 fX12_looksAt_306
        rw [if_pos (show inb (nI u) (mlA 17) = true from inb_nI (by omega) (by show u < 4001; omega)), ix_nI (by omega), hp.2.2.1, nI_1]
        exact q3_
theorem la_lo (v1 v2 v6 : Int32) : fX12_looksAt_90 M v1 v2 0 v6 = fX12_looksAt_144 M v1 v2 v6 12 ∧ fX12_looksAt_90 M v1 v2 1 v6 = fX12_looksAt_144 M v1 v2 v6 13 ∧ fX12_looksAt_90 M v1 v2 2 v6 = fX12_looksAt_144 M v1 v2 v6 14 ∧ fX12_looksAt_90 M v1 v2 5 v6 = fX12_looksAt_144 M v1 v2 v6 15 := by
  unfold fX12_looksAt_90 fX12_looksAt_102
  refine ⟨?_, ?_, ?_, ?_⟩
  · rw [if_pos (show (0 : Int32) < 3 by decide), if_pos (show (0 : Int32) = 0 by decide)]
  · rw [if_pos (show (1 : Int32) < 3 by decide), if_neg (show ¬ (1 : Int32) = 0 by decide), if_pos (show (1 : Int32) = 1 by decide)]
  · rw [if_pos (show (2 : Int32) < 3 by decide), if_neg (show ¬ (2 : Int32) = 0 by decide), if_neg (show ¬ (2 : Int32) = 1 by decide), if_pos (show (2 : Int32) = 2 by decide)]
  · rw [if_neg (show ¬ (5 : Int32) < 3 by decide), if_pos (show (5 : Int32) = 5 by decide), if_neg (show ¬ (5 : Int32) = 0 by decide), if_neg (show ¬ (5 : Int32) = 1 by decide), if_neg (show ¬ (5 : Int32) = 2 by decide)]
theorem la_6 (v2 v6 : Int32) : fX12_looksAt_90 M 0 v2 6 v6 = fX12_looksAt_282 110 M v2 0 v6 := by
  unfold fX12_looksAt_90
  rw [if_neg (show ¬ (6 : Int32) < 3 by decide), if_neg (show ¬ (6 : Int32) = 5 by decide), if_neg (show ¬ (6 : Int32) = 3 by decide), if_neg (show ¬ (6 : Int32) = 4 by decide), if_pos (show (6 : Int32) = 6 by decide), if_pos (show (0 : Int32) = 0 by decide)]
theorem la_6w (v2 v6 : Int32) : fX12_looksAt_90 M 1 v2 6 v6 = some (0, M) := by
  unfold fX12_looksAt_90 fX12_looksAt_318
  rw [if_neg (show ¬ (6 : Int32) < 3 by decide), if_neg (show ¬ (6 : Int32) = 5 by decide), if_neg (show ¬ (6 : Int32) = 3 by decide), if_neg (show ¬ (6 : Int32) = 4 by decide), if_pos (show (6 : Int32) = 6 by decide), if_neg (show ¬ (1 : Int32) = 0 by decide)]
theorem la_7 (v1 v2 v6 : Int32) : fX12_looksAt_90 M v1 v2 7 v6 = some (0, M) := by
  unfold fX12_looksAt_90 fX12_looksAt_318
  rw [if_neg (show ¬ (7 : Int32) < 3 by decide), if_neg (show ¬ (7 : Int32) = 5 by decide), if_neg (show ¬ (7 : Int32) = 3 by decide), if_neg (show ¬ (7 : Int32) = 4 by decide), if_neg (show ¬ (7 : Int32) = 6 by decide)]
theorem la_3 (v1 v2 v6 : Int32) : fX12_looksAt_90 M v1 v2 3 v6 = (if v1 = 0 then (if inb v6 (mlA 16) = true then (if inb v2 (mlB 3) = true then some (0, pB M 3 (ix v2) ((gA M 16 (ix v6)).toInt64)) else none) else none) else (if inb v2 (mlB 3) = true then (if inb v6 (mlA 16) = true then some (0, pA M 16 (ix v6) ((gB M 3 (ix v2)).toInt32)) else none) else none)) := by
  unfold fX12_looksAt_90 fX12_looksAt_219 fX12_looksAt_202 fX12_looksAt_318
  rw [if_neg (show ¬ (3 : Int32) < 3 by decide), if_neg (show ¬ (3 : Int32) = 5 by decide), if_pos (show (3 : Int32) = 3 by decide)]
theorem la_4 (v1 v2 v6 : Int32) : fX12_looksAt_90 M v1 v2 4 v6 = (if v1 = 0 then (if inb v6 (mlA 17) = true then (if inb v2 (mlA 5) = true then some (0, pA M 5 (ix v2) (gA M 17 (ix v6))) else none) else none) else (if inb v2 (mlA 5) = true then (if inb v6 (mlA 17) = true then some (0, pA M 17 (ix v6) (gA M 5 (ix v2))) else none) else none)) := by
  unfold fX12_looksAt_90 fX12_looksAt_261 fX12_looksAt_245 fX12_looksAt_318
  rw [if_neg (show ¬ (4 : Int32) < 3 by decide), if_neg (show ¬ (4 : Int32) = 5 by decide), if_neg (show ¬ (4 : Int32) = 3 by decide), if_pos (show (4 : Int32) = 4 by decide)]
theorem ch_all (R : Rel w B S M) (v : Int32) {t : Nat} (c : t ≠ 0) (h2 : t ≤ nT M) (hk : kN M t = 11 ∨ kN M t = 12) : ∃ r, r ≤ 100 ∧ fX4_chainLength S (some (w 0 t)) = some (nI r, S) ∧ fX12_looksAt_282 110 M v 0 (nI t) = fX12_looksAt_309 M v (nI r) := by
  obtain ⟨r1_, q1_, q2_, q3_⟩ := ch_loop R v 100 0 t (by omega) h2 (Or.inr hk)
  rw [show 100 + 20 = 120 from rfl, show nI 0 = 0 from rfl, rfn_s w c] at q2_
  rw [show 100 + 10 = 110 from rfl, show nI 0 = 0 from rfl] at q3_
  refine ⟨r1_, q1_, ?_, q3_⟩
  unfold fX4_chainLength
  exact q2_
theorem sim_read (R : Rel w B S M) (a b : Int32) {p : Nat} (hp : p < 8) : Sim w B S M (fX11_read S a (cSl S (ra b)) (nI p)) (fX12_looksAt M 0 (a &&& 15) b (nI p)) := by
  obtain ⟨t, h2, e1_, e2_⟩ := rl_slot R b
  have h4 := rl_4000 R
  have eM : fX12_looksAt M 0 (a &&& 15) b (nI p) = fX12_looksAt_32 M 0 (a &&& 15) b (nI p) := by unfold fX12_looksAt; rw [if_pos rfl]
  rw [eM, m_la R h2 e1_ 0 (a &&& 15) hp, e2_]
  unfold fX11_read
  by_cases c : t = 0
  · subst c
    rw [if_pos rfl]
    exact sim_err R 1 (by decide)
  · have hk := rl_kN R c h2
    rw [if_neg c, onul_r c, rfn_s w c, c_inst R c h2 _ _ inst21, Option.bind_some, c_cast R c h2, c_inst R c h2 _ _ inst1, Option.bind_some, c_cast R c h2, c_isKx R c h2, c_isKx R c h2]
    by_cases c1 : kN M t = 11 ∨ kN M t = 12
    · have hg := c_pget R c h2 c1
      have hps := rl_pose R c h2 c1
      rw [if_pos ((tag21 hk.2).mpr c1), if_neg (show ¬ (1 : Int32) = 0 by decide), if_pos ((tag21 hk.2).mpr c1)]
      have i12 : inb (nI t) 4001 = true := inb_nI (by omega) (by omega)
      have gm : ∀ x, x = 12 ∨ x = 13 ∨ x = 14 ∨ x = 15 → can64 (gB M x t) → Sim w B S M (Option.bind (some (gB M x t)) (fun c72 => Option.bind (fX11_giveMeasure S a c72) (fun c75 => some (c75.1, c75.2)))) (fX12_looksAt_144 M 0 (a &&& 15) (nI t) x) := by
        intro x hx hc
        unfold fX12_looksAt_144 fX12_looksAt_175 fX12_looksAt_318
        rw [Option.bind_some, c_giveMea, Option.bind_some, if_pos rfl, if_pos (show inb (nI t) (mlB x) = true by rcases hx with h | h | h | h <;> rw [h] <;> exact i12), if_pos (inb4 a), ix_nI (by omega)]
        exact sim_mea R _ hc (mEq_refl M)
      rcases lt8 hp with h9 | h9 | h9 | h9 | h9 | h9 | h9 | h9
      · have hp0 : p = 0 := (nI_inj (b := 0) (by omega) (by decide)).mp h9
        rw [h9, if_pos (Or.inr ⟨by omega, c1⟩), hg.1, if_pos (show (0 : Int32) = 0 by decide), (la_lo _ _ _).1]
        exact gm 12 (by omega) hps.2.2.2.2.1
      · have hp0 : p = 1 := (nI_inj (b := 1) (by omega) (by decide)).mp h9
        rw [h9, if_pos (Or.inr ⟨by omega, c1⟩), hg.2.1, if_neg (show ¬ (1 : Int32) = 0 by decide), if_pos (show (1 : Int32) = 1 by decide), (la_lo _ _ _).2.1]
        exact gm 13 (by omega) hps.2.2.2.2.2.1
      · have hp0 : p = 2 := (nI_inj (b := 2) (by omega) (by decide)).mp h9
        rw [h9, if_pos (Or.inr ⟨by omega, c1⟩), hg.2.2.1, if_neg (show ¬ (2 : Int32) = 0 by decide), if_neg (show ¬ (2 : Int32) = 1 by decide), if_pos (show (2 : Int32) = 2 by decide), (la_lo _ _ _).2.2.1]
        exact gm 14 (by omega) hps.2.2.2.2.2.2.1
      · have hp0 : p = 3 := (nI_inj (b := 3) (by omega) (by decide)).mp h9
        rw [h9, if_pos (Or.inr ⟨by omega, c1⟩), hg.2.2.2.1, if_neg (show ¬ (3 : Int32) = 0 by decide), if_neg (show ¬ (3 : Int32) = 1 by decide), if_neg (show ¬ (3 : Int32) = 2 by decide), if_pos (show (3 : Int32) = 3 by decide), la_3, if_pos (show (0 : Int32) = 0 by decide), Option.bind_some, c_giveNum, Option.bind_some, if_pos (show inb (nI t) (mlA 16) = true from i12), if_pos (inb3 a), ix_nI (by omega)]
        exact sim_num R _ _
      · have hp0 : p = 4 := (nI_inj (b := 4) (by omega) (by decide)).mp h9
        rw [h9, if_pos (Or.inr ⟨by omega, c1⟩), hg.2.2.2.2.1, if_neg (show ¬ (4 : Int32) = 0 by decide), if_neg (show ¬ (4 : Int32) = 1 by decide), if_neg (show ¬ (4 : Int32) = 2 by decide), if_neg (show ¬ (4 : Int32) = 3 by decide), if_pos (show (4 : Int32) = 4 by decide), la_4, if_pos (show (0 : Int32) = 0 by decide), Option.bind_some, c_giveThg S a _ (c_stK R hps.2.1), Option.bind_some, if_pos (show inb (nI t) (mlA 17) = true from i12), if_pos (inb5 a), ix_nI (by omega), hps.2.2.1]
        exact sim_slt R _ hps.2.1
      · have hp0 : p = 5 := (nI_inj (b := 5) (by omega) (by decide)).mp h9
        rw [h9, if_neg (show ¬ (5 : Int32) = 0 by decide), if_neg (show ¬ (5 : Int32) = 1 by decide), if_neg (show ¬ (5 : Int32) = 2 by decide), if_neg (show ¬ (5 : Int32) = 3 by decide), if_neg (show ¬ (5 : Int32) = 4 by decide), if_pos (show (5 : Int32) = 5 by decide)]
        by_cases c2 : kN M t = 12
        · rw [if_pos (Or.inl ⟨hp0, c2⟩), if_pos ((tag1 hk.2).mpr c2), if_neg (show ¬ (1 : Int32) = 0 by decide), if_pos ((tag1 hk.2).mpr c2), hg.2.2.2.2.2 c2, (la_lo _ _ _).2.2.2]
          exact gm 15 (by omega) hps.2.2.2.2.2.2.2
        · rw [if_neg (show ¬ ((p = 5 ∧ kN M t = 12) ∨ (p ≠ 5 ∧ (kN M t = 11 ∨ kN M t = 12))) by omega), if_neg (show ¬ [1].contains (tagK (kN M t)) = true from fun h => c2 ((tag1 hk.2).mp h)), if_pos (show (0 : Int32) = 0 from rfl)]
          exact sim_err R 2 (by decide)
      · have hp0 : p = 6 := (nI_inj (b := 6) (by omega) (by decide)).mp h9
        obtain ⟨r1_, q1_, q2_, q3_⟩ := ch_all R (a &&& 15) c h2 c1
        rw [h9, if_pos (Or.inr ⟨by omega, c1⟩), if_neg (show ¬ (6 : Int32) = 0 by decide), if_neg (show ¬ (6 : Int32) = 1 by decide), if_neg (show ¬ (6 : Int32) = 2 by decide), if_neg (show ¬ (6 : Int32) = 3 by decide), if_neg (show ¬ (6 : Int32) = 4 by decide), if_neg (show ¬ (6 : Int32) = 5 by decide), if_pos (show (6 : Int32) = 6 by decide), la_6, q2_, q3_, Option.bind_some]
        have eX : (if [2].contains (tagK (kN M t)) = true then fX11_read_161 S a (nI r1_) else if [1].contains (tagK (kN M t)) = true then fX11_read_161 S a (nI r1_) else none) = fX11_read_161 S a (nI r1_) := by
          rcases c1 with c3 | c3
          · rw [if_pos ((tag2 hk.2).mpr c3)]
          · rw [if_neg (fun h => by have := (tag2 hk.2).mp h; omega), if_pos ((tag1 hk.2).mpr c3)]
        rw [eX]
        unfold fX11_read_161 fX12_looksAt_309 fX12_looksAt_318
        rw [c_giveNum, Option.bind_some, if_pos (inb3 a)]
        exact sim_num R _ _
      · have hp0 : p = 7 := (nI_inj (b := 7) (by omega) (by decide)).mp h9
        rw [h9, if_pos (Or.inr ⟨by omega, c1⟩), if_neg (show ¬ (7 : Int32) = 0 by decide), if_neg (show ¬ (7 : Int32) = 1 by decide), if_neg (show ¬ (7 : Int32) = 2 by decide), if_neg (show ¬ (7 : Int32) = 3 by decide), if_neg (show ¬ (7 : Int32) = 4 by decide), if_neg (show ¬ (7 : Int32) = 5 by decide), if_neg (show ¬ (7 : Int32) = 6 by decide), la_7]
        exact sim_err R 0 (by decide)
    · rw [if_neg (show ¬ ((p = 5 ∧ kN M t = 12) ∨ (p ≠ 5 ∧ (kN M t = 11 ∨ kN M t = 12))) by omega), if_neg (show ¬ [2, 1].contains (tagK (kN M t)) = true from fun h => c1 ((tag21 hk.2).mp h)), if_pos rfl]
      exact sim_err R 2 (by decide)
end N
