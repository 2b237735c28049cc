/-! class and reference side by side -/
theorem up_eq {α : Type} (f : Nat → α) (k : Nat) (v : α) : va_up f k v k = v := by simp [va_up]
theorem up_ne {α : Type} (f : Nat → α) {k j : Nat} (v : α) (h : j ≠ k) : va_up f k v j = f j := by simp [va_up, h]
theorem gB_pB_ne (M : MS) {k j : Nat} (i : Nat) (v : Int64) (h : j ≠ k) : gB (pB M k i v) j = gB M j := by
  funext z
  simp [gB, pB, va_up, h]
theorem gB_pB (M : MS) (k i : Nat) (v : Int64) (j : Nat) : gB (pB M k i v) k j = if j = i then v else gB M k j := by
  simp [gB, pB, va_up]
theorem gA_pA_ne (M : MS) {k j : Nat} (i : Nat) (v : Int32) (h : j ≠ k) : gA (pA M k i v) j = gA M j := by
  funext z
  simp [gA, pA, va_up, h]
theorem gA_pA (M : MS) (k i : Nat) (v : Int32) (j : Nat) : gA (pA M k i v) k j = if j = i then v else gA M k j := by
  simp [gA, pA, va_up]
theorem gI_pI_ne (M : MS) {k j : Nat} (v : Int32) (h : j ≠ k) : gI (pI M k v) j = gI M j := by
  simp [gI, pI, va_up, h]
theorem gI_pI (M : MS) (k : Nat) (v : Int32) : gI (pI M k v) k = v := by
  simp [gI, pI, va_up]
theorem gI_pB (M : MS) (k i : Nat) (v : Int64) : gI (pB M k i v) = gI M := rfl
theorem gA_pB (M : MS) (k i : Nat) (v : Int64) : gA (pB M k i v) = gA M := rfl
theorem gI_pA (M : MS) (k i : Nat) (v : Int32) : gI (pA M k i v) = gI M := rfl
theorem gB_pA (M : MS) (k i : Nat) (v : Int32) : gB (pA M k i v) = gB M := rfl
theorem gA_pI (M : MS) (k : Nat) (v : Int32) : gA (pI M k v) = gA M := rfl
theorem gB_pI (M : MS) (k : Nat) (v : Int32) : gB (pI M k v) = gB M := rfl
def rfn (w : Nat → Nat → Nat) (t : Nat) : Option Nat := if t = 0 then none else some (w 0 t)
theorem rfn_0 (w : Nat → Nat → Nat) : rfn w 0 = none := rfl
theorem rfn_s (w : Nat → Nat → Nat) {t : Nat} (h : t ≠ 0) : rfn w t = some (w 0 t) := if_neg h
def nT (M : MS) : Nat := ix (gI M 10)
def kN (M : MS) (t : Nat) : Nat := ix (gA M 6 t)
def fN (M : MS) (t : Nat) : Nat := ix (gA M 8 t)
def sN (M : MS) (t : Nat) : Nat := ix (gA M 7 t)
def aN (M : MS) (t : Nat) : Nat := ix (gA M 17 t)
def vld (M : MS) (i t : Nat) : Prop := i = 0 ∨ (i = 1 ∧ (kN M t ≤ 10 ∨ kN M t = 16)) ∨ (i = 2 ∧ kN M t ≤ 10)
def heldK (k u : Nat) : Prop := (k = 8 ∧ (u = 11 ∨ u = 12)) ∨ (k = 9 ∧ u = 12) ∨ (k = 10 ∧ u = 4)
def plc (w : Nat → Nat → Nat) (M : MS) (k : Nat) (v f : Int64) (g : Option Nat) : Prop :=
  (k < 6 ∧ f = v) ∨ (k = 6 ∧ ∃ p, can32 p ∧ f = p.toInt64 ∧ v = fX2_ofBits32 p) ∨ (k = 7 ∧ f = v ∧ can64 v) ∨ (8 ≤ k ∧ ∃ u, u ≤ nT M ∧ v = lN u ∧ g = rfn w u ∧ (u = 0 ∨ heldK k (kN M u)))
def thRow (w : Nat → Nat → Nat) (H : Nat → TE) (M : MS) (t : Nat) : Prop := ∃ (f : Nat → Int64) (g : Nat → Option Nat), sN M t ≤ 64 ∧ H (w 0 t) = .inr (5, [.int (nI (kN M t)), .int (nI (sN M t)), .ref (w 1 t), .ref (w 2 t)]) ∧ H (w 1 t) = .inl (if kN M t < 8 then sN M t else 0, .inr (.inl f)) ∧ H (w 2 t) = .inl (if kN M t < 8 then 0 else sN M t, .inr (.inr (.inr (.inr g)))) ∧ ∀ i, i < sN M t → plc w M (kN M t) (gB M 9 (fN M t + i)) (f i) (g i)
def poL (w : Nat → Nat → Nat) (M : MS) (t : Nat) : List Value := [.long (gB M 12 t), .long (gB M 13 t), .long (gB M 14 t), .int (gA M 16 t), va_rf (rfn w (aN M t))]
def thPose (w : Nat → Nat → Nat) (H : Nat → TE) (M : MS) (t : Nat) : Prop := H (w 0 t) = (if kN M t = 11 then .inr (2, poL w M t) else .inr (1, poL w M t ++ [.long (gB M 15 t)])) ∧ aN M t ≤ nT M ∧ gA M 17 t = nI (aN M t) ∧ (aN M t = 0 ∨ kN M (aN M t) = 11 ∨ kN M (aN M t) = 12) ∧ can64 (gB M 12 t) ∧ can64 (gB M 13 t) ∧ can64 (gB M 14 t) ∧ can64 (gB M 15 t)
def axT (k : Nat) : Nat := if k = 13 then 0 else if k = 14 then 4 else 6
def thAxis (w : Nat → Nat → Nat) (B : Nat) (H : Nat → TE) (M : MS) (t : Nat) : Prop := ∃ mv, mv ≤ B ∧ gA M 18 t = nI mv ∧ H (w 0 t) = .inr (axT (kN M t), [.long (gB M 12 t), .long (gB M 13 t), .long (lN mv)]) ∧ can64 (gB M 12 t) ∧ can64 (gB M 13 t)
/-- what a probe tells of its readings -/
def prS (r : Nat → Int64) : Nat → Int64 × Nat × Int64 × Int64
  | 0 => (0, 0, 9221120237041090560, 9221120237041090560)
  | n + 1 => let q := prS r n; if fX2_isLost (r n) = 0 then (fX2_add q.1 (r n), q.2.1 + 1, (if fX2_isLost q.2.2.1 = 0 then fX2_greater q.2.2.1 (r n) else r n), (if fX2_isLost q.2.2.2 = 0 then fX2_lesser q.2.2.2 (r n) else r n)) else q
def thProbe (w : Nat → Nat → Nat) (B : Nat) (H : Nat → TE) (M : MS) (t : Nat) : Prop := ∃ (mv : Nat) (f : Nat → Int32), mv ≤ B ∧ gA M 18 t = nI mv ∧ gA M 20 t = nI (min mv 5) ∧ H (w 0 t) = .inr (3, [.ref (w 1 t), .long (lN mv)]) ∧ H (w 1 t) = .inl (5, .inl f) ∧ (∀ i, i < min mv 5 → can32 (f i) ∧ gB M 19 (5 * t + i) = fX2_ofBits32 (f i)) ∧ (let q := prS (fun i => fX2_ofBits32 (f i)) (min mv 5); (if q.2.1 = 0 then gB M 12 t = 9221120237041090560 else fX2_divide q.1 (fX2_ofWhole (lN q.2.1)) = some (gB M 12 t)) ∧ gB M 13 t = (if fX2_isLost q.2.2.1 = 0 then fX2_add q.2.2.1 (fX2_opposite q.2.2.2) else 0)) ∧ can64 (gB M 12 t) ∧ can64 (gB M 13 t)
def Th (w : Nat → Nat → Nat) (B : Nat) (H : Nat → TE) (M : MS) (t : Nat) : Prop := (gA M 6 t = nI (kN M t) ∧ kN M t ≤ 16 ∧ gA M 7 t = nI (sN M t) ∧ gA M 8 t = nI (fN M t)) ∧ ((kN M t ≤ 10 ∧ thRow w H M t) ∨ ((kN M t = 11 ∨ kN M t = 12) ∧ thPose w H M t) ∨ ((13 ≤ kN M t ∧ kN M t ≤ 15) ∧ thAxis w B H M t) ∨ (kN M t = 16 ∧ thProbe w B H M t))
def rlNum (S : CS) (M : MS) : Prop := ∀ i, i < 16 → gB S.1 16 i = gB M 3 i
def rlMea (S : CS) (M : MS) : Prop := ∀ i, i < 16 → gB S.1 17 i = gB M 4 i ∧ can64 (gB M 4 i)
def rlSlt (w : Nat → Nat → Nat) (S : CS) (M : MS) : Prop := ∀ i, i < 16 → ∃ t, t ≤ nT M ∧ gA M 5 i = nI t ∧ cSl S i = rfn w t
def rlCnt (S : CS) (M : MS) : Prop := gI M 10 = nI (nT M) ∧ nT M ≤ 4000 ∧ gI S.1 8 = gI M 10 ∧ ∃ tk, tk ≤ 64 * nT M ∧ gI M 11 = nI tk ∧ ∀ t, 1 ≤ t → t ≤ nT M → fN M t + sN M t ≤ tk
def rlLog (B : Nat) (S : CS) (M : MS) : Prop := ∃ l, l ≤ B ∧ gI S.1 7 = nI l ∧ gI M 27 = nI l ∧ ∀ i, i < 200 → gB S.1 6 i = gB M 26 i
def rlPlc (M : MS) : Prop := ∀ t u, 1 ≤ t → t < u → u ≤ nT M → fN M t + sN M t ≤ fN M u
def rlSep (w : Nat → Nat → Nat) (S : CS) (M : MS) : Prop := (∀ i t, 1 ≤ t → t ≤ nT M → vld M i t → w i t ∈ cLs S) ∧ (∀ i t j u, 1 ≤ t → t ≤ nT M → 1 ≤ u → u ≤ nT M → vld M i t → vld M j u → w i t = w j u → i = j ∧ t = u) ∧ ∀ a ∈ cLs S, a < cSz S
def rlThg (w : Nat → Nat → Nat) (B : Nat) (S : CS) (M : MS) : Prop := ∀ t, 1 ≤ t → t ≤ nT M → Th w B (cH S) M t
def Rel (w : Nat → Nat → Nat) (B : Nat) (S : CS) (M : MS) : Prop := rlNum S M ∧ rlMea S M ∧ rlSlt w S M ∧ rlCnt S M ∧ rlLog B S M ∧ rlPlc M ∧ rlSep w S M ∧ rlThg w B S M
/-- a thing's word is kept where nothing that it tells of is changed -/
theorem Th_fr {w w' : Nat → Nat → Nat} {B B' : Nat} {H H' : Nat → TE} {M M' : MS} {t : Nat} (hB : B ≤ B') (hT : nT M ≤ nT M') (ht : 1 ≤ t ∧ t ≤ nT M) (hw : ∀ i u, 1 ≤ u → u ≤ nT M → w' i u = w i u) (hk : ∀ u, 1 ≤ u → u ≤ nT M → gA M' 6 u = gA M 6 u) (hc : ∀ i, vld M i t → H' (w i t) = H (w i t)) (h7 : gA M' 7 t = gA M 7 t) (h8 : gA M' 8 t = gA M 8 t) (h16 : gA M' 16 t = gA M 16 t) (h17 : gA M' 17 t = gA M 17 t) (h18 : gA M' 18 t = gA M 18 t) (h20 : gA M' 20 t = gA M 20 t) (h12 : gB M' 12 t = gB M 12 t) (h13 : gB M' 13 t = gB M 13 t) (h14 : gB M' 14 t = gB M 14 t) (h15 : gB M' 15 t = gB M 15 t) (h9 : ∀ i, i < sN M t → gB M' 9 (fN M t + i) = gB M 9 (fN M t + i)) (h19 : ∀ i, i < 5 → gB M' 19 (5 * t + i) = gB M 19 (5 * t + i)) (h : Th w B H M t) : Th w' B' H' M' t := by
  have eK : kN M' t = kN M t := by unfold kN; rw [hk t ht.1 ht.2]
  have eS : sN M' t = sN M t := by unfold sN; rw [h7]
  have eF : fN M' t = fN M t := by unfold fN; rw [h8]
  have eA : aN M' t = aN M t := by unfold aN; rw [h17]
  have e0 : w' 0 t = w 0 t := hw 0 t ht.1 ht.2
  have e1 : w' 1 t = w 1 t := hw 1 t ht.1 ht.2
  have e2 : w' 2 t = w 2 t := hw 2 t ht.1 ht.2
  have eKu : ∀ u, u ≤ nT M → u ≠ 0 → kN M' u = kN M u := fun u h1 h2 => by unfold kN; rw [hk u (by omega) h1]
  have eR : ∀ u, u ≤ nT M → rfn w' u = rfn w u := fun u h1 => by
    unfold rfn
    split
    · rfl
    · rw [hw 0 u (by omega) h1]
  have hc0 : H' (w 0 t) = H (w 0 t) := hc 0 (Or.inl rfl)
  obtain ⟨⟨a1, a2, a3, a4⟩, hr⟩ := h
  refine ⟨⟨by rw [hk t ht.1 ht.2, eK]; exact a1, by rw [eK]; exact a2, by rw [h7, eS]; exact a3, by rw [h8, eF]; exact a4⟩, ?_⟩
  rcases hr with ⟨k1_, x1_⟩ | ⟨k1_, x1_⟩ | ⟨k1_, x1_⟩ | ⟨k1_, x1_⟩
  · refine Or.inl ⟨by rw [eK]; exact k1_, ?_⟩
    obtain ⟨f1_, g1_, b1_, b2_, b3_, b4_, b5_⟩ := x1_
    have hc1 : H' (w 1 t) = H (w 1 t) := hc 1 (Or.inr (Or.inl ⟨rfl, Or.inl k1_⟩))
    have hc2 : H' (w 2 t) = H (w 2 t) := hc 2 (Or.inr (Or.inr ⟨rfl, k1_⟩))
    refine ⟨f1_, g1_, by rw [eS]; exact b1_, by rw [e0, e1, e2, hc0, eK, eS]; exact b2_, by rw [e1, hc1, eK, eS]; exact b3_, by rw [e2, hc2, eK, eS]; exact b4_, fun i hi => ?_⟩
    rw [eS] at hi
    rw [eK, eF, h9 i hi]
    rcases b5_ i hi with q1_ | q1_ | q1_ | ⟨q1_, u1_, q2_, q3_, q4_, q5_⟩
    · exact Or.inl q1_
    · exact Or.inr (Or.inl q1_)
    · exact Or.inr (Or.inr (Or.inl q1_))
    · refine Or.inr (Or.inr (Or.inr ⟨q1_, u1_, by omega, q3_, by rw [eR u1_ q2_]; exact q4_, ?_⟩))
      by_cases c : u1_ = 0
      · exact Or.inl c
      · rw [eKu u1_ q2_ c]
        exact q5_
  · refine Or.inr (Or.inl ⟨by rw [eK]; exact k1_, ?_⟩)
    obtain ⟨b1_, b2_, b3_, b4_, b5_, b6_, b7_, b8_⟩ := x1_
    have eL : poL w' M' t = poL w M t := by
      unfold poL
      rw [h12, h13, h14, h16, eA, eR _ b2_]
    refine ⟨by rw [e0, hc0, eK, eL, h15]; exact b1_, by rw [eA]; omega, by rw [h17, eA]; exact b3_, ?_, by rw [h12]; exact b5_, by rw [h13]; exact b6_, by rw [h14]; exact b7_, by rw [h15]; exact b8_⟩
    rw [eA]
    by_cases c : aN M t = 0
    · exact Or.inl c
    · rw [eKu _ b2_ c]
      exact b4_
  · refine Or.inr (Or.inr (Or.inl ⟨by rw [eK]; exact k1_, ?_⟩))
    obtain ⟨m1_, b1_, b2_, b3_, b4_, b5_⟩ := x1_
    exact ⟨m1_, by omega, by rw [h18]; exact b2_, by rw [e0, hc0, eK, h12, h13]; exact b3_, by rw [h12]; exact b4_, by rw [h13]; exact b5_⟩
  · refine Or.inr (Or.inr (Or.inr ⟨by rw [eK]; exact k1_, ?_⟩))
    obtain ⟨m1_, f1_, b1_, b2_, b3_, b4_, b5_, b6_, b7_, b8_, b9_⟩ := x1_
    have hc1 : H' (w 1 t) = H (w 1 t) := hc 1 (Or.inr (Or.inl ⟨rfl, Or.inr k1_⟩))
    refine ⟨m1_, f1_, by omega, by rw [h18]; exact b2_, by rw [h20]; exact b3_, by rw [e0, hc0, e1]; exact b4_, by rw [e1, hc1]; exact b5_, fun i hi => ?_, ?_, by rw [h12]; exact b8_, by rw [h13]; exact b9_⟩
    · rw [h19 i (by omega)]
      exact b6_ i hi
    · rw [h12, h13]
      exact b7_
