/-! a new row on both sides -/
def zrP (P : Nat → Int64) (tk n : Nat) : Nat → Int64 := fun j => if tk ≤ j ∧ j < tk + n then 0 else P j
theorem zr_0 (P : Nat → Int64) (tk : Nat) : zrP P tk 0 = P := by
  funext j
  unfold zrP
  rw [if_neg (by omega)]
theorem zr_s (P : Nat → Int64) (tk i : Nat) : va_up (zrP P tk i) (tk + i) 0 = zrP P tk (i + 1) := by
  funext j
  by_cases c : j = tk + i
  · subst c
    rw [up_eq]
    unfold zrP
    rw [if_pos (by omega)]
  · rw [up_ne _ _ c]
    unfold zrP
    by_cases d : tk ≤ j ∧ j < tk + i
    · rw [if_pos d, if_pos (by omega)]
    · rw [if_neg d, if_neg (by omega)]
theorem nr_loop {X : MS} {tk n : Nat} (hn : n ≤ 64) (h11 : gI X 11 = nI tk) (hr : tk + n ≤ 256000) (P : Nat → Int64) (v3 : Int32) : ∀ (q i k : Nat), i + q = n → fX12_newRow_16 (q + 1 + k) (sB9 X (zrP P tk i)) (nI n) v3 (nI i) = some (v3, pI (sB9 X (zrP P tk n)) 11 (nI (tk + n))) := by
  intro q
  induction q with
  | zero =>
    intro i k hi
    have e : i = n := by omega
    subst e
    have e11 : gI (sB9 X (zrP P tk i)) 11 = nI tk := h11
    rw [show 0 + 1 + k = k + 1 by omega, fX12_newRow_16, if_pos (Int32.le_refl _)]
    unfold fX12_newRow_51
    rw [e11, nI_add]
  | succ q ih =>
    intro i k hi
    have fin := ih (i + 1) k (by omega)
    have e11 : gI (sB9 X (zrP P tk i)) 11 = nI tk := h11
    rw [show q + 1 + 1 + k = (q + 1 + k) + 1 by omega, fX12_newRow_16, if_neg (fun x => by have := (nI_leI (a := n) (b := i) (by omega) (by omega)).mp x; omega), e11, nI_add, if_pos (show inb (nI (tk + i)) (mlB 9) = true from inb_nI (by omega) (by show tk + i < 256000; omega)), ix_nI (by omega), pB_s9, zr_s]
    unfold fX12_newRow_35 fX12_newRow_38
    rw [nI_1]
    exact fin
def rwM (M : MS) (t k n tk : Nat) : MS := pI (sB9 (pA (nwM M t k) 7 t (nI n)) (zrP (gB M 9) tk n)) 11 (nI (tk + n))
section N
variable {w : Nat → Nat → Nat} {B : Nat} {S : CS} {M : MS}
theorem m_newR (R : Rel w B S M) {t k n tk : Nat} (ht : t = nT M + 1) (h4 : t ≤ 4000) (hn : n ≤ 64) (htk : gI M 11 = nI tk) (hr : tk + n ≤ 256000) : fX12_newRow M (nI k) (nI n) = some (nI t, rwM M t k n tk) := by
  unfold fX12_newRow fX12_newRow_13 rwM
  rw [m_newT R ht h4, Option.bind_some]
  simp only
  rw [if_pos (show inb (nI t) (mlA 7) = true from inb_nI (by omega) (by show t < 4001; omega)), ix_nI (by omega)]
  have e11 : gI (pA (nwM M t k) 7 t (nI n)) 11 = nI tk := by
    show gI (nwM M t k) 11 = _
    rw [nw_I.2 11 (by decide)]; exact htk
  have := nr_loop (X := pA (nwM M t k) 7 t (nI n)) hn e11 hr (gB M 9) (nI t) n 0 (69 - n) (by omega)
  rw [zr_0, show n + 1 + (69 - n) = 70 by omega] at this
  have e9 : sB9 (pA (nwM M t k) 7 t (nI n)) (gB M 9) = pA (nwM M t k) 7 t (nI n) := s9_id (pA (nwM M t k) 7 t (nI n))
  rw [e9] at this
  exact this
theorem rw_A {t k n tk : Nat} (j u : Nat) (h : u ≠ t) : gA (rwM M t k n tk) j u = gA M j u := by
  show gA (pA (nwM M t k) 7 t (nI n)) j u = _
  by_cases c : j = 7
  · subst c; rw [gA_pA, if_neg h, nw_A _ _ h]
  · rw [gA_pA_ne _ _ _ c, nw_A _ _ h]
theorem rw_An {t k n tk j : Nat} (h : j ≠ 6) (h2 : j ≠ 7) (h3 : j ≠ 8) : gA (rwM M t k n tk) j = gA M j := by
  show gA (pA (nwM M t k) 7 t (nI n)) j = _
  rw [gA_pA_ne _ _ _ h2, nw_An h h2 h3]
theorem rw_6 {t k n tk : Nat} : gA (rwM M t k n tk) 6 t = nI k ∧ gA (rwM M t k n tk) 7 t = nI n ∧ gA (rwM M t k n tk) 8 t = gI M 11 := by
  refine ⟨?_, ?_, ?_⟩
  · show gA (pA (nwM M t k) 7 t (nI n)) 6 t = _
    rw [gA_pA_ne _ _ _ (by decide), nw_6]
  · show gA (pA (nwM M t k) 7 t (nI n)) 7 t = _
    rw [gA_pA, if_pos rfl]
  · show gA (pA (nwM M t k) 7 t (nI n)) 8 t = _
    rw [gA_pA_ne _ _ _ (by decide), nw_8]
theorem rw_I {t k n tk : Nat} : gI (rwM M t k n tk) 10 = nI t ∧ gI (rwM M t k n tk) 11 = nI (tk + n) ∧ ∀ j, j ≠ 10 → j ≠ 11 → gI (rwM M t k n tk) j = gI M j := by
  refine ⟨?_, gI_pI _ _ _, fun j h1 h2 => ?_⟩
  · show gI (pI _ 11 _) 10 = _
    rw [gI_pI_ne _ _ (by decide)]
    exact (nw_I (M := M) (t := t) (k := k)).1
  · show gI (pI _ 11 _) j = _
    rw [gI_pI_ne _ _ h2]
    exact (nw_I (M := M) (t := t) (k := k)).2 j h1
theorem rw_B9 {t k n tk : Nat} : gB (rwM M t k n tk) 9 = zrP (gB M 9) tk n := gB_s9 (pA (nwM M t k) 7 t (nI n)) _
theorem rw_Bn {t k n tk j : Nat} (h : j ≠ 9) : gB (rwM M t k n tk) j = gB M j := gB_s9n _ _ h
def wNew (w : Nat → Nat → Nat) (t z : Nat) : Nat → Nat → Nat := fun i u => if u = t then z + i else w i u
theorem rl_tk (R : Rel w B S M) : ∃ tk, tk ≤ 64 * nT M ∧ gI M 11 = nI tk := by
  obtain ⟨c1_, c2_, c3_, tk1_, c4_, c5_, c6_⟩ := R.2.2.2.1
  exact ⟨tk1_, c4_, c5_⟩
theorem Rel_newR {S' : CS} {t k n tk : Nat} (R : Rel w B S M) (ht : t = nT M + 1) (h4 : t ≤ 4000) (hk : k ≤ 10) (hn : n ≤ 64) (htk : gI M 11 = nI tk) (htk2 : tk ≤ 64 * nT M) (e1 : S'.1 = S.1) (e2 : cSl S' = cSl S) (e3 : cLs S' = cLs S ++ [cSz S, cSz S + 1, cSz S + 2]) (e4 : cSz S' = cSz S + 3) (e5 : ∀ b, cH S' b = if b = cSz S then roE k n (cSz S) else if b = cSz S + 1 then roV k n else if b = cSz S + 2 then roP k n else cH S b) : Rel (wNew w t (cSz S)) B (cpI S' 8 (nI t)) (rwM M t k n tk) := by
  have hlt := R.2.2.2.2.2.2.1.2.2
  have w0 : wNew w t (cSz S) 0 t = cSz S := if_pos rfl
  have w1 : wNew w t (cSz S) 1 t = cSz S + 1 := if_pos rfl
  have w2 : wNew w t (cSz S) 2 t = cSz S + 2 := if_pos rfl
  have kT : kN (rwM M t k n tk) t = k := by unfold kN; rw [rw_6.1, ix_nI (by omega)]
  have sT : sN (rwM M t k n tk) t = n := by unfold sN; rw [rw_6.2.1, ix_nI (by omega)]
  have fT : fN (rwM M t k n tk) t = tk := by unfold fN; rw [rw_6.2.2, htk, ix_nI (by omega)]
  refine Rel_new (t := t) (tk := tk) (tk' := tk + n) (k := k) (n := n) R ht h4 htk (by omega) (Nat.le_refl _) (by omega) rw_I.1 rw_I.2.1 (rw_I.2.2 27 (by decide) (by decide)) (rw_An (by decide) (by decide) (by decide)) (fun j u _ g1 g2 => rw_A j u (by omega)) rw_6.1 (by omega) rw_6.2.1 hn (by rw [rw_6.2.2]; exact htk) (fun j hj => rw_Bn (by omega)) (fun j u hj _ _ => by rw [rw_Bn (by omega)]) (fun j hj => ?_) (fun j hj => by rw [rw_Bn (by decide)]) (by show gB S'.1 16 = _; rw [e1]) (by show gB S'.1 17 = _; rw [e1]) (by show gB S'.1 6 = _; rw [e1]) (by show gI (pI S'.1 8 (nI t)) 7 = _; rw [gI_pI_ne _ _ (by decide), e1]) (gI_pI _ _ _) e2 (fun a ha => by show a ∈ cLs S'; rw [e3]; exact List.mem_append_left _ ha) (fun a ha => ?_) (fun a ha => ?_) (fun i u g1 g2 => if_neg (by omega)) (fun i hi => ?_) (fun i j hi hj h => ?_) ?_
  · rw [rw_B9]
    unfold zrP
    rw [if_neg (by omega)]
  · show a < cSz S'
    have ha' : a ∈ cLs S' := ha
    rw [e3] at ha'
    rw [e4]
    rcases List.mem_append.mp ha' with h | h
    · have := hlt a h
      omega
    · simp only [List.mem_cons, List.not_mem_nil, or_false] at h
      omega
  · show cH S' a = cH S a
    have := hlt a ha
    rw [e5, if_neg (by omega), if_neg (by omega), if_neg (by omega)]
  · have hi2 : i ≤ 2 := by
      unfold vld at hi
      omega
    have ew : wNew w t (cSz S) i t = cSz S + i := if_pos rfl
    rw [ew]
    constructor
    · show cSz S + i ∈ cLs S'
      rw [e3]
      apply List.mem_append_right
      have : i = 0 ∨ i = 1 ∨ i = 2 := by omega
      rcases this with h | h | h <;> subst h <;> simp
    · intro h
      have := hlt _ h
      omega
  · have ei : wNew w t (cSz S) i t = cSz S + i := if_pos rfl
    have ej : wNew w t (cSz S) j t = cSz S + j := if_pos rfl
    rw [ei, ej] at h
    omega
  · refine ⟨⟨by rw [kT]; exact rw_6.1, by rw [kT]; omega, by rw [sT]; exact rw_6.2.1, by rw [fT, rw_6.2.2]; exact htk⟩, Or.inl ⟨by rw [kT]; exact hk, fun _ => 0, fun _ => none, by rw [sT]; exact hn, ?_, ?_, ?_, fun i hi => ?_⟩⟩
    · show cH S' _ = _
      rw [w0, w1, w2, kT, sT, e5, if_pos rfl]
      rfl
    · show cH S' _ = _
      rw [w1, kT, sT, e5, if_neg (by omega), if_pos rfl]
      rfl
    · show cH S' _ = _
      rw [w2, kT, sT, e5, if_neg (by omega), if_neg (by omega), if_pos rfl]
      rfl
    · rw [sT] at hi
      have e0 : gB (rwM M t k n tk) 9 (fN (rwM M t k n tk) t + i) = 0 := by
        rw [fT, rw_B9]
        unfold zrP
        rw [if_pos (by omega)]
      rw [kT, e0]
      by_cases k6 : k < 6
      · exact Or.inl ⟨k6, rfl⟩
      · by_cases k7 : k = 6
        · exact Or.inr (Or.inl ⟨k7, 0, Or.inr ⟨false, 0, by decide, rfl⟩, show (0 : Int64) = Int32.toInt64 0 by decide, by decide⟩)
        · by_cases k8 : k = 7
          · exact Or.inr (Or.inr (Or.inl ⟨k8, rfl, can64_0⟩))
          · exact Or.inr (Or.inr (Or.inr ⟨by omega, 0, by omega, rfl, rfl, Or.inl rfl⟩))
end N
