/-! poses, on both sides -/
theorem vN_rf (x : Option Nat) : vN (va_rf x) = some x := by cases x <;> rfl
def poE (w : Nat → Nat → Nat) (M : MS) (t : Nat) : TE := if kN M t = 11 then .inr (2, poL w M t) else .inr (1, poL w M t ++ [.long (gB M 15 t)])
theorem inst21 : ∀ c, c < 7 → [2, 1].contains c = true ∨ [0, 3, 4, 5, 6].contains c = true := by decide
theorem inst1 : ∀ c, c < 7 → [1].contains c = true ∨ [0, 2, 3, 4, 5, 6].contains c = true := by decide
theorem tag21 {q : Nat} (h : q ≤ 16) : [2, 1].contains (tagK q) = true ↔ q = 11 ∨ q = 12 := by
  have : ∀ q, q ≤ 16 → ([2, 1].contains (tagK q) = true ↔ q = 11 ∨ q = 12) := by decide
  exact this q h
theorem tag1 {q : Nat} (h : q ≤ 16) : [1].contains (tagK q) = true ↔ q = 12 := by
  have : ∀ q, q ≤ 16 → ([1].contains (tagK q) = true ↔ q = 12) := by decide
  exact this q h
theorem tag2 {q : Nat} (h : q ≤ 16) : [2].contains (tagK q) = true ↔ q = 11 := by
  have : ∀ q, q ≤ 16 → ([2].contains (tagK q) = true ↔ q = 11) := by decide
  exact this q h
section N
variable {w : Nat → Nat → Nat} {B : Nat} {S : CS} {M : MS}
theorem rl_pose (R : Rel w B S M) {t : Nat} (h1 : t ≠ 0) (h2 : t ≤ nT M) (hk : kN M t = 11 ∨ kN M t = 12) : thPose w (cH S) M t := by
  obtain ⟨h3, hr⟩ := rl_th R h1 h2
  rcases hr with ⟨k1_, x1_⟩ | ⟨k1_, x1_⟩ | ⟨k1_, x1_⟩ | ⟨k1_, x1_⟩
  · omega
  · exact x1_
  · omega
  · omega
theorem c_poE (R : Rel w B S M) {t : Nat} (h1 : t ≠ 0) (h2 : t ≤ nT M) (hk : kN M t = 11 ∨ kN M t = 12) : ∃ c fs, cH S (w 0 t) = .inr (c, fs) ∧ [2, 1].contains c = true ∧ (kN M t = 12 → c = 1) ∧ fs = poL w M t ++ (if kN M t = 11 then [] else [.long (gB M 15 t)]) := by
  have hp := (rl_pose R h1 h2 hk).1
  rcases hk with hk | hk
  · rw [hk, if_pos rfl] at hp
    exact ⟨2, _, hp, by decide, fun h => by omega, by rw [hk, if_pos rfl, List.append_nil]⟩
  · rw [hk, if_neg (by decide)] at hp
    exact ⟨1, _, hp, by decide, fun _ => rfl, by rw [hk, if_neg (by decide)]⟩
theorem c_pget (R : Rel w B S M) {t : Nat} (h1 : t ≠ 0) (h2 : t ≤ nT M) (hk : kN M t = 11 ∨ kN M t = 12) : tgJ S (some (w 0 t)) [2, 1] 0 = some (gB M 12 t) ∧ tgJ S (some (w 0 t)) [2, 1] 1 = some (gB M 13 t) ∧ tgJ S (some (w 0 t)) [2, 1] 2 = some (gB M 14 t) ∧ tgI S (some (w 0 t)) [2, 1] 3 = some (gA M 16 t) ∧ tgN S (some (w 0 t)) [2, 1] 4 = some (rfn w (aN M t)) ∧ (kN M t = 12 → tgJ S (some (w 0 t)) [1] 5 = some (gB M 15 t)) := by
  have hm := rl_in R h1 h2
  obtain ⟨c1_, fs1_, q1_, q2_, q3_, q4_⟩ := c_poE R h1 h2 hk
  unfold tgJ tgI tgN
  refine ⟨?_, ?_, ?_, ?_, ?_, fun h12 => ?_⟩
  · rw [tF_at hm q1_ q2_, q4_]; rfl
  · rw [tF_at hm q1_ q2_, q4_]; rfl
  · rw [tF_at hm q1_ q2_, q4_]; rfl
  · rw [tF_at hm q1_ q2_, q4_]; rfl
  · rw [tF_at hm q1_ q2_, q4_]
    exact vN_rf _
  · rw [tF_at hm q1_ (by rw [q3_ h12]; decide), q4_, if_neg (by omega)]; rfl
theorem Rel_pose {M' : MS} (R : Rel w B S M) {t : Nat} (h1 : t ≠ 0) (h2 : t ≤ nT M) (hk : kN M t = 11 ∨ kN M t = 12) (m1 : gI M' = gI M) (m2 : ∀ k, k = 5 ∨ k = 6 ∨ k = 7 ∨ k = 8 ∨ k = 18 ∨ k = 20 → gA M' k = gA M k) (m3 : ∀ k u, k = 16 ∨ k = 17 → u ≠ t → gA M' k u = gA M k u) (m4 : ∀ k, k = 3 ∨ k = 4 ∨ k = 26 ∨ k = 9 ∨ k = 19 → gB M' k = gB M k) (m5 : ∀ k u, k = 12 ∨ k = 13 ∨ k = 14 ∨ k = 15 → u ≠ t → gB M' k u = gB M k u) (a1 : aN M' t ≤ nT M) (a2 : gA M' 17 t = nI (aN M' t)) (a3 : aN M' t = 0 ∨ kN M (aN M' t) = 11 ∨ kN M (aN M' t) = 12) (a4 : can64 (gB M' 12 t) ∧ can64 (gB M' 13 t) ∧ can64 (gB M' 14 t) ∧ can64 (gB M' 15 t)) : Rel w B (cpH S (w 0 t) (poE w M' t)) M' := by
  have hth := (rl_th R h1 h2).1
  have eT : nT M' = nT M := by unfold nT; rw [m1]
  have eK : kN M' = kN M := by funext t; unfold kN; rw [m2 6 (by omega)]
  have eS : sN M' = sN M := by funext t; unfold sN; rw [m2 7 (by omega)]
  have eF : fN M' = fN M := by funext t; unfold fN; rw [m2 8 (by omega)]
  refine Rel_mut (t0 := t) R ⟨by omega, h2⟩ (Nat.le_refl _) rfl rfl rfl rfl (fun a ha => ?_) m1 (fun k hk2 => m2 k (by omega)) (fun k u hk2 hu => ?_) (fun k hk2 => m4 k (by omega)) m5 (fun j _ => by rw [m4 9 (by omega)]) (fun j _ => by rw [m4 19 (by omega)]) ?_
  · rw [cH_pH, if_neg (ha 0 (Or.inl rfl))]
  · rcases hk2 with h | h | h | h
    · exact m3 k u (by omega) hu
    · exact m3 k u (by omega) hu
    · rw [m2 k (by omega)]
    · rw [m2 k (by omega)]
  · refine ⟨?_, Or.inr (Or.inl ⟨by rw [eK]; exact hk, ?_, ?_, a2, ?_, a4⟩)⟩
    · rw [m2 6 (by omega), m2 7 (by omega), m2 8 (by omega), eK, eS, eF]
      exact hth
    · rw [cH_pH, if_pos rfl]; rfl
    · rw [eT]; exact a1
    · rw [eK]; exact a3
theorem sim_pw {M' : MS} (R : Rel w B S M) {t : Nat} (R' : Rel w B (cpH S (w 0 t) (poE w M' t)) M') (hI : gI M' = gI M) (hA : ∀ k, 21 ≤ k → gA M' k = gA M k) (hB : gB M' 36 = gB M 36) {S' : CS} (e : S' = cpH S (w 0 t) (poE w M' t)) : Sim w B S M (some (0, S')) (some (0, M')) := by
  subst e
  exact sim_one (r := 0) R (by decide) (Rel_B R' (by omega)) ⟨fun _ _ _ => rfl, rfl⟩ ⟨fun _ _ _ _ => by rw [hI], hA, hB⟩ (by unfold nT; rw [hI])
/-- a measure of a pose is written -/
theorem sim_pm (R : Rel w B S M) {t : Nat} (h1 : t ≠ 0) (h2 : t ≤ nT M) (hk : kN M t = 11 ∨ kN M t = 12) {k : Nat} (hk3 : k < 3) {v : Int64} (hv : can64 v) : ∃ S', tp S (some (w 0 t)) [2, 1] k (.long v) = some S' ∧ S' = cpH S (w 0 t) (poE w (pB M (12 + k) t v) t) ∧ Rel w B S' (pB M (12 + k) t v) := by
  have hm := rl_in R h1 h2
  have hp := rl_pose R h1 h2 hk
  have hL : (poL w M t).length = 5 := rfl
  have e15 : gB (pB M (12 + k) t v) 15 = gB M 15 := gB_pB_ne _ _ _ (by omega)
  have eL : poL w (pB M (12 + k) t v) t = (poL w M t).set k (.long v) := by
    have hk' : k = 0 ∨ k = 1 ∨ k = 2 := by omega
    unfold poL aN
    rcases hk' with h | h | h <;> subst h
    · rw [show 12 + 0 = 12 from rfl, gB_pB, if_pos rfl, gB_pB_ne _ _ _ (by decide), gB_pB_ne _ _ _ (by decide)]; rfl
    · rw [show 12 + 1 = 13 from rfl, gB_pB, if_pos rfl, gB_pB_ne _ _ _ (by decide), gB_pB_ne _ _ _ (by decide)]; rfl
    · rw [show 12 + 2 = 14 from rfl, gB_pB, if_pos rfl, gB_pB_ne _ _ _ (by decide), gB_pB_ne _ _ _ (by decide)]; rfl
  have R' : Rel w B (cpH S (w 0 t) (poE w (pB M (12 + k) t v) t)) (pB M (12 + k) t v) := by
    refine Rel_pose R h1 h2 hk rfl (fun _ _ => rfl) (fun _ _ _ _ => rfl) (fun j hj => gB_pB_ne _ _ _ (by omega)) (fun j u hj hu => ?_) hp.2.1 hp.2.2.1 hp.2.2.2.1 ?_
    · by_cases c : j = 12 + k
      · subst c; rw [gB_pB, if_neg hu]
      · rw [gB_pB_ne _ _ _ c]
    · have each : ∀ j, can64 (gB M j t) → can64 (gB (pB M (12 + k) t v) j t) := by
        intro j hj
        by_cases c : j = 12 + k
        · subst c; rw [gB_pB, if_pos rfl]; exact hv
        · rw [gB_pB_ne _ _ _ c]; exact hj
      exact ⟨each 12 hp.2.2.2.2.1, each 13 hp.2.2.2.2.2.1, each 14 hp.2.2.2.2.2.2.1, each 15 hp.2.2.2.2.2.2.2⟩
  have hE := hp.1
  refine ⟨cpH S (w 0 t) (poE w (pB M (12 + k) t v) t), ?_, rfl, R'⟩
  rcases hk with hk | hk
  · rw [hk, if_pos rfl] at hE
    rw [tp_at hm hE (by decide) (by omega)]
    unfold poE
    rw [show kN (pB M (12 + k) t v) t = kN M t from rfl, hk, if_pos rfl, eL]
  · rw [hk, if_neg (by decide)] at hE
    rw [tp_at hm hE (by decide) (by simp; omega)]
    unfold poE
    rw [show kN (pB M (12 + k) t v) t = kN M t from rfl, hk, if_neg (by decide), eL, e15, List.set_append_left _ _ (by omega)]
end N
