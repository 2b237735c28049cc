/-! SENSE, on both sides -/
def s19 (M : MS) (P : Nat → Int64) : MS := (M.1, M.2.1, M.2.2.1, va_up M.2.2.2 19 P)
theorem gB_s19 (M : MS) (P : Nat → Int64) : gB (s19 M P) 19 = P := by
  funext j
  simp [gB, s19, va_up]
theorem gB_s19n (M : MS) (P : Nat → Int64) {k : Nat} (h : k ≠ 19) : gB (s19 M P) k = gB M k := by
  funext j
  simp [gB, s19, va_up, h]
theorem pB_s19 (M : MS) (P : Nat → Int64) (i : Nat) (v : Int64) : pB (s19 M P) 19 i v = s19 M (va_up P i v) := by
  unfold pB s19
  simp only [Prod.mk.injEq, true_and]
  funext k
  by_cases c : k = 19
  · subst c
    simp [va_up]
  · simp [va_up, c]
theorem s19_id (M : MS) : s19 M (gB M 19) = M := by
  unfold s19
  have : va_up M.2.2.2 19 (gB M 19) = M.2.2.2 := by
    funext k
    by_cases c : k = 19
    · subst c
      simp [va_up, gB]
      rfl
    · simp [va_up, c]
  rw [this]
theorem sh_loop {M : MS} {t : Nat} (ht : t < 4001) (v : Int64) (P : Nat → Int64) : ∀ (q i k : Nat), i + q = 4 → fX12_senses_18 (q + 1 + k) (s19 M (va_cpy P P (5 * t + 1) (5 * t) i)) (nI t) v (nI (5 * t)) (nI i) = fX12_senses_59 (pA (s19 M (va_cpy P P (5 * t + 1) (5 * t) 4)) 20 t 4) (nI t) v (nI (5 * t)) := by
  have i20 : inb (nI t) (mlA 20) = true := inb_nI (by omega) (by show t < 4001; omega)
  intro q
  induction q with
  | zero =>
    intro i k hi
    have e : i = 4 := by omega
    subst e
    rw [show 0 + 1 + k = k + 1 by omega, fX12_senses_18, if_pos (show (4 : Int32) ≤ nI 4 by decide), if_pos i20, ix_nI (by omega)]
  | succ q ih =>
    intro i k hi
    have fin := ih (i + 1) k (by omega)
    rw [show q + 1 + 1 + k = (q + 1 + k) + 1 by omega, fX12_senses_18, if_neg (fun x => by have := (nI_leI (a := 4) (b := i) (by decide) (by omega)).mp x; omega), nI_add, nI_1, if_pos (show inb (nI (5 * t + i + 1)) (mlB 19) = true from inb_nI (by omega) (by show 5 * t + i + 1 < 20005; omega)), if_pos (show inb (nI (5 * t + i)) (mlB 19) = true from inb_nI (by omega) (by show 5 * t + i < 20005; omega)), ix_nI (by omega), ix_nI (by omega)]
    unfold fX12_senses_46 fX12_senses_49
    have e1 : va_cpy P P (5 * t + 1) (5 * t) i (5 * t + i + 1) = P (5 * t + 1 + i) := by
      rw [pk_cpy_out (by omega)]
      congr 1
      omega
    rw [pB_s19, gB_s19, e1, cpy_up, nI_1]
    exact fin
theorem sn_tail {M : MS} {t n mv : Nat} {v : Int64} {r : Nat → Int64} (ht : t < 4001) (h20 : gA M 20 t = nI n) (h18 : gA M 18 t = nI mv) (hn : n ≤ 4) (hr : ∀ i, i < n + 1 → gB (pB M 19 (5 * t + n) v) 19 (5 * t + i) = r i) : fX12_senses_59 M (nI t) v (nI (5 * t)) = snE (pA (pA (pB M 19 (5 * t + n) v) 20 t (nI (n + 1))) 18 t (nI (mv + 1))) t r (n + 1) := by
  have i20 : inb (nI t) (mlA 20) = true := inb_nI (by omega) (by show t < 4001; omega)
  have i18 : inb (nI t) (mlA 18) = true := inb_nI (by omega) (by show t < 4001; omega)
  have e1 : gA (pB M 19 (5 * t + n) v) 20 t = nI n := h20
  have e2 : gA (pA (pB M 19 (5 * t + n) v) 20 t (nI (n + 1))) 18 t = nI mv := by rw [gA_pA_ne _ _ _ (by decide)]; exact h18
  unfold fX12_senses_59 fX12_senses_74 fX12_senses_84 fX12_senses_94
  rw [if_pos i20, ix_nI (n := t) (by omega), h20, nI_add, if_pos (show inb (nI (5 * t + n)) (mlB 19) = true from inb_nI (by omega) (by show 5 * t + n < 20005; omega)), if_pos i20, if_pos i20, ix_nI (by omega), e1, nI_1, if_pos i18, if_pos i18, e2, nI_1]
  have := sn_loop (M := pA (pA (pB M 19 (5 * t + n) v) 20 t (nI (n + 1))) 18 t (nI (mv + 1))) (t := t) (n := n + 1) (r := r) ht (by rw [gA_pA_ne _ _ _ (by decide), gA_pA, if_pos rfl]) (by omega) (fun i hi => hr i hi) (n + 1) 0 (8 - n) 0 0 (by omega) (Or.inl rfl)
  rw [show n + 1 + 1 + (8 - n) = 10 by omega] at this
  exact this
theorem c_keep25 {S : CS} {a b mv : Nat} {f : Nat → Int32} (h : prH S a b mv f) (hne : a ≠ b) (hm : mv < 2147483648) (v : Int64) : fX5_keep_25 S (some a) v = some (cpH (cpH S b (.inl (5, .inl (va_up f (min mv 4) (fX2_toBits32 v))))) a (.inr (3, [.ref b, .long (lN (mv + 1))]))) := by
  have hg := pr_get h
  have hc := pr_cnt h hm
  have e45 : ∀ i, i < 5 → fX5_keep_45 S (some a) v (some b) (nI i) = some (cpH (cpH S b (.inl (5, .inl (va_up f i (fX2_toBits32 v))))) a (.inr (3, [.ref b, .long (lN (mv + 1))]))) := by
    intro i hi
    unfold fX5_keep_45 tasI
    rw [arI_at h.2.1 h.2.2.2, Option.bind_some]
    simp only
    rw [if_pos (inb_nI (by omega) hi), ix_nI (by omega), Option.bind_some]
    have hS : cH (cpH S b (.inl (5, .inl (va_up f i (fX2_toBits32 v))))) a = .inr (3, [.ref b, .long (lN mv)]) := by
      rw [cH_pH, if_neg hne]; exact h.2.2.1
    unfold tgJ
    rw [tF_at (S := cpH S b (.inl (5, .inl (va_up f i (fX2_toBits32 v))))) h.1 hS (by decide)]
    have e1 : (([.ref b, .long (lN mv)] : List Value)[1]?).bind vJ = some (lN mv) := rfl
    rw [e1, Option.bind_some, tp_at (S := cpH S b (.inl (5, .inl (va_up f i (fX2_toBits32 v))))) h.1 hS (by decide) (show 1 < 2 by decide), Option.bind_some, lN_1]
    rfl
  unfold fX5_keep_25
  rw [hg.1, Option.bind_some, hg.2.2, if_pos rfl, hc, Option.bind_some]
  simp only
  rw [hg.2.2, if_pos rfl, hc, Option.bind_some]
  by_cases c : 5 ≤ mv
  · rw [if_pos (show (5 : Int32) ≤ nI (min mv 5) from (nI_leI (a := 5) (by decide) (by omega)).mpr (by omega)), show min mv 4 = 4 by omega]
    exact e45 4 (by omega)
  · rw [if_neg (show ¬ (5 : Int32) ≤ nI (min mv 5) from fun x => by have := (nI_leI (a := 5) (by decide) (by omega)).mp x; omega), show min mv 5 = min mv 4 by omega]
    exact e45 _ (by omega)
def shF (f : Nat → Int32) (mv : Nat) : Nat → Int32 := if mv < 5 then f else va_cpy f f 1 0 4
theorem c_keep {S : CS} {a b mv : Nat} {f : Nat → Int32} (h : prH S a b mv f) (hne : a ≠ b) (hm : mv < 2147483648) (v : Int64) : fX5_keep S (some a) v = some (cpH (cpH S b (.inl (5, .inl (va_up (shF f mv) (min mv 4) (fX2_toBits32 v))))) a (.inr (3, [.ref b, .long (lN (mv + 1))]))) := by
  have hg := pr_get h
  unfold fX5_keep shF
  rw [hg.2.1, Option.bind_some]
  have e : lN mv < (5 : Int64) ↔ mv < 5 := lN_lt (b := 5) (by omega) (by decide)
  by_cases c : mv < 5
  · rw [if_pos (e.mpr c), if_pos c]
    exact c_keep25 h hne hm v
  · rw [if_neg (fun q => c (e.mp q)), if_neg c, hg.1, Option.bind_some, Option.bind_some]
    have e1 : tcpI S (some b) 1 (some b) 0 4 = some (cpH S b (.inl (5, .inl (va_cpy f f 1 0 4)))) := by
      unfold tcpI
      rw [arI_at h.2.1 h.2.2.2, Option.bind_some, Option.bind_some]
      simp only
      rw [if_pos (by decide)]
      rfl
    rw [e1, Option.bind_some]
    have h' : prH (cpH S b (.inl (5, .inl (va_cpy f f 1 0 4)))) a b mv (va_cpy f f 1 0 4) := ⟨h.1, h.2.1, by rw [cH_pH, if_neg hne]; exact h.2.2.1, cH_eq _ _ _⟩
    rw [c_keep25 h' hne hm v, cpH2]
section N
variable {w : Nat → Nat → Nat} {B : Nat} {S : CS} {M : MS}
theorem Rel_sense {M3 : MS} {X Y : Int64} {mv : Nat} {f' : Nat → Int32} (R : Rel w B S M) {t : Nat} (h1 : t ≠ 0) (h2 : t ≤ nT M) (hk : kN M t = 16) (hmv : mv ≤ B) (m1 : gI M3 = gI M) (m2 : ∀ k, k = 5 ∨ k = 6 ∨ k = 7 ∨ k = 8 ∨ k = 16 ∨ k = 17 → gA M3 k = gA M k) (m3 : ∀ k u, k = 18 ∨ k = 20 → u ≠ t → gA M3 k u = gA M k u) (m4 : ∀ k, k ≠ 19 → gB M3 k = gB M k) (m5 : ∀ j, j < 5 * t ∨ 5 * t + 5 ≤ j → gB M3 19 j = gB M 19 j) (a1 : gA M3 18 t = nI (mv + 1)) (a2 : gA M3 20 t = nI (min (mv + 1) 5)) (a3 : ∀ i, i < min (mv + 1) 5 → can32 (f' i) ∧ gB M3 19 (5 * t + i) = fX2_ofBits32 (f' i)) (a4 : (if (prS (fun i => fX2_ofBits32 (f' i)) (min (mv + 1) 5)).2.1 = 0 then X = 9221120237041090560 else fX2_divide (prS (fun i => fX2_ofBits32 (f' i)) (min (mv + 1) 5)).1 (fX2_ofWhole (lN (prS (fun i => fX2_ofBits32 (f' i)) (min (mv + 1) 5)).2.1)) = some X) ∧ Y = (if fX2_isLost (prS (fun i => fX2_ofBits32 (f' i)) (min (mv + 1) 5)).2.2.1 = 0 then fX2_add (prS (fun i => fX2_ofBits32 (f' i)) (min (mv + 1) 5)).2.2.1 (fX2_opposite (prS (fun i => fX2_ofBits32 (f' i)) (min (mv + 1) 5)).2.2.2) else 0)) (a5 : can64 X ∧ can64 Y) : Rel w (B + 1) (cpH (cpH S (w 1 t) (.inl (5, .inl f'))) (w 0 t) (.inr (3, [.ref (w 1 t), .long (lN (mv + 1))]))) (pB (pB M3 12 t X) 13 t Y) := by
  have hth := (rl_th R h1 h2).1
  have eK : kN (pB (pB M3 12 t X) 13 t Y) = kN M := by funext t; unfold kN; rw [gA_pB, gA_pB, m2 6 (by omega)]
  have eS : sN (pB (pB M3 12 t X) 13 t Y) = sN M := by funext t; unfold sN; rw [gA_pB, gA_pB, m2 7 (by omega)]
  have eF : fN (pB (pB M3 12 t X) 13 t Y) = fN M := by funext t; unfold fN; rw [gA_pB, gA_pB, m2 8 (by omega)]
  have v1 : vld M 1 t := Or.inr (Or.inl ⟨rfl, Or.inr hk⟩)
  have f12 : gB (pB (pB M3 12 t X) 13 t Y) 12 t = X := by rw [gB_pB_ne _ _ _ (by decide), gB_pB, if_pos rfl]
  have f13 : gB (pB (pB M3 12 t X) 13 t Y) 13 t = Y := by rw [gB_pB, if_pos rfl]
  have fn : ∀ k, k ≠ 12 → k ≠ 13 → gB (pB (pB M3 12 t X) 13 t Y) k = gB M3 k := fun k g1 g2 => by rw [gB_pB_ne _ _ _ g2, gB_pB_ne _ _ _ g1]
  have ne : w 0 t ≠ w 1 t := fun h => absurd (R.2.2.2.2.2.2.1.2.1 0 t 1 t (by omega) h2 (by omega) h2 (Or.inl rfl) v1 h).1 (by decide)
  refine Rel_mut (t0 := t) R ⟨by omega, h2⟩ (by omega) rfl rfl rfl rfl (fun a ha => ?_) m1 (fun k hk2 => m2 k (by omega)) (fun k u hk2 hu => ?_) (fun k hk2 => by rw [fn k (by omega) (by omega), m4 k (by omega)]) (fun k u hk2 hu => ?_) (fun j _ => by rw [fn 9 (by decide) (by decide), m4 9 (by decide)]) (fun j hj => by rw [fn 19 (by decide) (by decide)]; exact m5 j hj) ?_
  · rw [cH_pH, if_neg (ha 0 (Or.inl rfl)), cH_pH, if_neg (ha 1 v1)]
  · show gA M3 k u = gA M k u
    by_cases c : k = 18 ∨ k = 20
    · exact m3 k u c hu
    · rw [m2 k (by omega)]
  · by_cases c : k = 13
    · subst c; rw [gB_pB, if_neg hu, gB_pB_ne _ _ _ (by decide), m4 13 (by decide)]
    · rw [gB_pB_ne _ _ _ c]
      by_cases d : k = 12
      · subst d; rw [gB_pB, if_neg hu, m4 12 (by decide)]
      · rw [gB_pB_ne _ _ _ d, m4 k (by omega)]
  · refine ⟨?_, Or.inr (Or.inr (Or.inr ⟨by rw [eK]; exact hk, mv + 1, f', by omega, a1, a2, ?_, ?_, ?_, ?_, ?_, ?_⟩))⟩
    · rw [eK, eS, eF]
      show gA M3 6 t = _ ∧ _ ∧ gA M3 7 t = _ ∧ gA M3 8 t = _
      rw [m2 6 (by omega), m2 7 (by omega), m2 8 (by omega)]
      exact hth
    · rw [cH_pH, if_pos rfl]
    · rw [cH_pH, if_neg (fun q => ne q.symm), cH_pH, if_pos rfl]
    · intro i hi
      rw [fn 19 (by decide) (by decide)]
      exact a3 i hi
    · rw [f12, f13]
      exact a4
    · rw [f12]; exact a5.1
    · rw [f13]; exact a5.2
end N
