/-! axes, rails, wrists: REST and TELL -/
theorem cpH2 (S : CS) (a : Nat) (e e' : TE) : cpH (cpH S a e) a e' = cpH S a e' := by
  unfold cpH
  simp only [Prod.mk.injEq, true_and, and_true]
  funext b
  by_cases c : b = a
  · subst c; simp [va_up]
  · simp [va_up, c]
theorem cH_eq (S : CS) (a : Nat) (e : TE) : cH (cpH S a e) a = e := by rw [cH_pH, if_pos rfl]
theorem tp_up {S : CS} {a c : Nat} {fs : List Value} (h : a ∈ cLs S) {cs : List Nat} (hc : cs.contains c = true) {k : Nat} (hk : k < fs.length) (v : Value) : tp (cpH S a (.inr (c, fs))) (some a) cs k v = some (cpH S a (.inr (c, fs.set k v))) := by
  rw [tp_at (S := cpH S a (.inr (c, fs))) h (cH_eq S a _) hc hk, cpH2]
theorem tF_up {S : CS} {a c : Nat} {fs : List Value} (h : a ∈ cLs S) {cs : List Nat} (hc : cs.contains c = true) (k : Nat) : tF (cpH S a (.inr (c, fs))) (some a) cs k = fs[k]? := tF_at (S := cpH S a (.inr (c, fs))) h (cH_eq S a _) hc k
theorem isKx_up {S : CS} {a c : Nat} {fs : List Value} (h : a ∈ cLs S) (cs : List Nat) : isKx (cpH S a (.inr (c, fs))) (some a) cs = cs.contains c := isK_at (S := cpH S a (.inr (c, fs))) h (cH_eq S a _) cs
def axE (M : MS) (t mv : Nat) : TE := .inr (axT (kN M t), [.long (gB M 12 t), .long (gB M 13 t), .long (lN mv)])
theorem ax_tag {q : Nat} (h : 13 ≤ q ∧ q ≤ 15) : axT q = tagK q ∧ [0, 4, 6].contains (axT q) = true := by
  have : q = 13 ∨ q = 14 ∨ q = 15 := by omega
  rcases this with h | h | h <;> subst h <;> decide
theorem tag046 {q : Nat} (h : q ≤ 16) : [0, 4, 6].contains (tagK q) = true ↔ (13 ≤ q ∧ q ≤ 15) := by
  have : ∀ q, q ≤ 16 → ([0, 4, 6].contains (tagK q) = true ↔ (13 ≤ q ∧ q ≤ 15)) := by decide
  exact this q h
theorem tag0346 {q : Nat} (h : q ≤ 16) : [0, 3, 4, 6].contains (tagK q) = true ↔ 13 ≤ q := by
  have : ∀ q, q ≤ 16 → ([0, 3, 4, 6].contains (tagK q) = true ↔ 13 ≤ q) := by decide
  exact this q h
theorem tag3 {q : Nat} (h : q ≤ 16) : [3].contains (tagK q) = true ↔ q = 16 := by
  have : ∀ q, q ≤ 16 → ([3].contains (tagK q) = true ↔ q = 16) := by decide
  exact this q h
theorem inst046 : ∀ c, c < 7 → [0, 4, 6].contains c = true ∨ [1, 2, 3, 5].contains c = true := by decide
theorem inst0346 : ∀ c, c < 7 → [0, 3, 4, 6].contains c = true ∨ [1, 2, 5].contains c = true := by decide
theorem inst3 : ∀ c, c < 7 → [3].contains c = true ∨ [0, 1, 2, 4, 5, 6].contains c = true := by decide
section N
variable {w : Nat → Nat → Nat} {B : Nat} {S : CS} {M : MS}
theorem rl_axis (R : Rel w B S M) {t : Nat} (h1 : t ≠ 0) (h2 : t ≤ nT M) (hk : 13 ≤ kN M t ∧ kN M t ≤ 15) : thAxis w B (cH S) M t := by
  obtain ⟨h3, hr⟩ := rl_th R h1 h2
  rcases hr with ⟨k1_, x1_⟩ | ⟨k1_, x1_⟩ | ⟨k1_, x1_⟩ | ⟨k1_, x1_⟩
  · omega
  · omega
  · exact x1_
  · omega
theorem rl_probe (R : Rel w B S M) {t : Nat} (h1 : t ≠ 0) (h2 : t ≤ nT M) (hk : kN M t = 16) : thProbe w B (cH S) M t := by
  obtain ⟨h3, hr⟩ := rl_th R h1 h2
  rcases hr with ⟨k1_, x1_⟩ | ⟨k1_, x1_⟩ | ⟨k1_, x1_⟩ | ⟨k1_, x1_⟩
  · omega
  · omega
  · omega
  · exact x1_
theorem Rel_axis {M' : MS} {B' mv : Nat} (R : Rel w B S M) {t : Nat} (h1 : t ≠ 0) (h2 : t ≤ nT M) (hk : 13 ≤ kN M t ∧ kN M t ≤ 15) (hB : B ≤ B') (hmv : mv ≤ B') (m1 : gI M' = gI M) (m2 : ∀ k, k = 5 ∨ k = 6 ∨ k = 7 ∨ k = 8 ∨ k = 16 ∨ k = 17 ∨ k = 20 → gA M' k = gA M k) (m3 : ∀ u, u ≠ t → gA M' 18 u = gA M 18 u) (m4 : ∀ k, k = 3 ∨ k = 4 ∨ k = 26 ∨ k = 9 ∨ k = 19 ∨ k = 14 ∨ k = 15 → gB M' k = gB M k) (m5 : ∀ k u, k = 12 ∨ k = 13 → u ≠ t → gB M' k u = gB M k u) (a1 : gA M' 18 t = nI mv) (a2 : can64 (gB M' 12 t) ∧ can64 (gB M' 13 t)) : Rel w B' (cpH S (w 0 t) (axE M' t mv)) M' := by
  have hth := (rl_th R h1 h2).1
  have eK : kN M' = kN M := by funext t; unfold kN; rw [m2 6 (by omega)]
  have eS : sN M' = sN M := by funext t; unfold sN; rw [m2 7 (by omega)]
  have eF : fN M' = fN M := by funext t; unfold fN; rw [m2 8 (by omega)]
  refine Rel_mut (t0 := t) R ⟨by omega, h2⟩ hB rfl rfl rfl rfl (fun a ha => ?_) m1 (fun k hk2 => m2 k (by omega)) (fun k u hk2 hu => ?_) (fun k hk2 => m4 k (by omega)) (fun k u hk2 hu => ?_) (fun j _ => by rw [m4 9 (by omega)]) (fun j _ => by rw [m4 19 (by omega)]) ?_
  · rw [cH_pH, if_neg (ha 0 (Or.inl rfl))]
  · by_cases c : k = 18
    · subst c; exact m3 u hu
    · rw [m2 k (by omega)]
  · by_cases c : k = 12 ∨ k = 13
    · exact m5 k u c hu
    · rw [m4 k (by omega)]
  · refine ⟨?_, Or.inr (Or.inr (Or.inl ⟨by rw [eK]; exact hk, mv, hmv, a1, ?_, a2⟩))⟩
    · rw [m2 6 (by omega), m2 7 (by omega), m2 8 (by omega), eK, eS, eF]
      exact hth
    · rw [cH_pH, if_pos rfl]; rfl
theorem sim_ax {M' : MS} {mv : Nat} (R : Rel w B S M) {t : Nat} (R' : Rel w (B + 1) (cpH S (w 0 t) (axE M' t mv)) M') (hI : gI M' = gI M) (hA : ∀ k, 21 ≤ k → gA M' k = gA M k) (hB : gB M' 36 = gB M 36) {S' : CS} (e : S' = cpH S (w 0 t) (axE M' t mv)) : Sim w B S M (some (0, S')) (some (0, M')) := by
  subst e
  exact sim_one (r := 0) R (by decide) R' ⟨fun _ _ _ => rfl, rfl⟩ ⟨fun _ _ _ _ => by rw [hI], hA, hB⟩ (by unfold nT; rw [hI])
theorem sim_rest (R : Rel w B S M) (hB : B < 2147483647) {t : Nat} (h1 : t ≠ 0) (h2 : t ≤ nT M) (hk : 13 ≤ kN M t ∧ kN M t ≤ 15) : Sim w B S M (if isKx S (some (w 0 t)) [0] = true then (Option.bind (fX0_comeToRest S (some (w 0 t))) (fun c24 => fX11_rest_27 c24)) else if isKx S (some (w 0 t)) [4] = true then (Option.bind (fX6_comeToRest S (some (w 0 t))) (fun c24 => fX11_rest_27 c24)) else if isKx S (some (w 0 t)) [6] = true then (Option.bind (fX10_comeToRest S (some (w 0 t))) (fun c24 => fX11_rest_27 c24)) else none) (fX12_devices_372 (pB M 12 t 0) (nI (kN M t)) (nI t)) := by
  have h4 := rl_4000 R
  have hm := rl_in R h1 h2
  obtain ⟨mv, b1_, b2_, b3_, b4_, b5_⟩ := rl_axis R h1 h2 hk
  have i12 : inb (nI t) 4001 = true := inb_nI (by omega) (by omega)
  have hq : kN M t = 13 ∨ kN M t = 14 ∨ kN M t = 15 := by omega
  have e12 : gB (pB M 12 t 0) 12 t = 0 := by rw [gB_pB, if_pos rfl]
  have e13 : gB (pB M 12 t 0) 13 = gB M 13 := gB_pB_ne _ _ _ (by decide)
  rw [c_isKx R h1 h2, c_isKx R h1 h2, c_isKx R h1 h2]
  have gh : fX0_goHome S (some (w 0 t)) = some (cpH S (w 0 t) (.inr (axT (kN M t), [.long 0, .long (gB M 13 t), .long (lN mv)]))) := by
    unfold fX0_goHome
    rw [tp_at hm b3_ (ax_tag hk).2 (show 0 < 3 by decide), Option.bind_some]
    rfl
  unfold fX12_devices_372 fX12_devices_390 fX12_devices_405 fX12_devices_426
  rcases hq with q | q | q
  · rw [q, if_pos (show [0].contains (tagK 13) = true by decide), if_neg (show ¬ nI 13 = 14 by decide), if_neg (show ¬ nI 13 = 15 by decide)]
    unfold fX0_comeToRest fX0_comeToRest_4 fX11_rest_27
    rw [c_isKx R h1 h2, q, if_pos (show [0].contains (tagK 13) = true by decide), gh, Option.bind_some, Option.bind_some]
    refine sim_ax (t := t) (M' := pB M 12 t 0) (mv := mv) R ?_ rfl (fun _ _ => rfl) (gB_pB_ne _ _ _ (by decide)) ?_
    · exact Rel_axis R h1 h2 hk (by omega) (by omega) rfl (fun _ _ => rfl) (fun _ _ => rfl) (fun k hk2 => gB_pB_ne _ _ _ (by omega)) (fun k u hk2 hu => by
        rcases hk2 with e | e
        · subst e; rw [gB_pB, if_neg hu]
        · subst e; rw [e13]) b2_ ⟨by rw [e12]; exact can64_0, by rw [e13]; exact b5_⟩
    · unfold axE
      rw [e12, e13]
      rfl
  · rw [q, if_neg (show ¬ [0].contains (tagK 14) = true by decide), if_pos (show [4].contains (tagK 14) = true by decide), if_pos (show nI 14 = 14 from rfl), if_pos (show inb (nI t) (mlA 18) = true from i12), if_pos (show inb (nI t) (mlA 18) = true from i12), if_neg (show ¬ nI 14 = 15 by decide), ix_nI (by omega)]
    have e18 : gA (pB M 12 t 0) 18 t = nI mv := b2_
    rw [e18, nI_1]
    unfold fX6_comeToRest fX6_comeToRest_4 fX6_comeToRest_8 fX0_comeToRest fX0_comeToRest_4 fX0_countMove fX11_rest_27
    rw [c_isKx R h1 h2, c_isKx R h1 h2, c_isKx R h1 h2, q, if_pos (show [4].contains (tagK 14) = true by decide), if_neg (show ¬ [0].contains (tagK 14) = true by decide), if_pos (show [4].contains (tagK 14) = true by decide), gh, Option.bind_some, Option.bind_some]
    rw [isKx_up hm, q, if_pos (show [4].contains (axT 14) = true by decide)]
    unfold tgJ
    rw [tF_up hm (by decide)]
    show Sim w B S M (Option.bind (Option.bind (Option.bind (some (lN mv)) (fun c2 => Option.bind (tp (cpH S (w 0 t) (.inr (axT 14, [.long 0, .long (gB M 13 t), .long (lN mv)]))) (some (w 0 t)) [0, 4, 6] 2 (.long (c2 + 1))) (fun c7 => some c7))) (fun c5 => some c5)) (fun c24 => some (0, c24))) _
    rw [Option.bind_some, tp_up hm (by decide) (show 2 < 3 by decide), Option.bind_some, Option.bind_some, Option.bind_some]
    refine sim_ax (t := t) (M' := pA (pB M 12 t 0) 18 t (nI (mv + 1))) (mv := mv + 1) R ?_ rfl (fun k hk2 => gA_pA_ne _ _ _ (by omega)) (by rw [gB_pA, gB_pB_ne _ _ _ (by decide)]) ?_
    · exact Rel_axis R h1 h2 hk (by omega) (by omega) rfl (fun k hk2 => gA_pA_ne _ _ _ (by omega)) (fun u hu => by rw [gA_pA, if_neg hu]; rfl) (fun k hk2 => gB_pB_ne _ _ _ (by omega)) (fun k u hk2 hu => by
        show gB (pB M 12 t 0) k u = _
        rcases hk2 with e | e
        · subst e; rw [gB_pB, if_neg hu]
        · subst e; rw [e13]) (by rw [gA_pA, if_pos rfl]) ⟨by show can64 (gB (pB M 12 t 0) 12 t); rw [e12]; exact can64_0, by show can64 (gB (pB M 12 t 0) 13 t); rw [e13]; exact b5_⟩
    · have ek : kN (pA (pB M 12 t 0) 18 t (nI (mv + 1))) t = kN M t := by unfold kN; rw [gA_pA_ne _ _ _ (by decide)]; rfl
      unfold axE
      rw [ek, q, show gB (pA (pB M 12 t 0) 18 t (nI (mv + 1))) = gB (pB M 12 t 0) from rfl, e12, e13, lN_1]
      rfl
  · rw [q, if_neg (show ¬ [0].contains (tagK 15) = true by decide), if_neg (show ¬ [4].contains (tagK 15) = true by decide), if_pos (show [6].contains (tagK 15) = true by decide), if_neg (show ¬ nI 15 = 14 by decide), if_pos (show nI 15 = 15 from rfl), if_pos (show inb (nI t) (mlB 13) = true from i12), ix_nI (by omega)]
    unfold fX10_comeToRest fX0_forgetTravel fX11_rest_27
    rw [c_isKx R h1 h2, q, if_pos (show [6].contains (tagK 15) = true by decide), gh, Option.bind_some, isKx_up hm, q, if_pos (show [6].contains (axT 15) = true by decide), tp_up hm (by decide) (show 1 < 3 by decide), Option.bind_some, Option.bind_some, Option.bind_some]
    refine sim_ax (t := t) (M' := pB (pB M 12 t 0) 13 t 0) (mv := mv) R ?_ rfl (fun _ _ => rfl) ?_ ?_
    · exact Rel_axis R h1 h2 hk (by omega) (by omega) rfl (fun _ _ => rfl) (fun _ _ => rfl) (fun k hk2 => by rw [gB_pB_ne _ _ _ (by omega), gB_pB_ne _ _ _ (by omega)]) (fun k u hk2 hu => by
        rcases hk2 with e | e
        · subst e; rw [gB_pB_ne _ _ _ (by decide), gB_pB, if_neg hu]
        · subst e; rw [gB_pB, if_neg hu, e13]) b2_ ⟨by rw [gB_pB_ne _ _ _ (by decide), e12]; exact can64_0, by rw [gB_pB, if_pos rfl]; exact can64_0⟩
    · rw [gB_pB_ne _ _ _ (by decide), gB_pB_ne _ _ _ (by decide)]
    · unfold axE
      rw [show kN (pB (pB M 12 t 0) 13 t 0) t = kN M t from rfl, q, gB_pB_ne _ _ _ (show 12 ≠ 13 by decide), e12, gB_pB, if_pos rfl]
      rfl
end N
