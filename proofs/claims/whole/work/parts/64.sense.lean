/-! SENSE -/
theorem prS_s {r : Nat → Int64} {i : Nat} (c : fX2_isLost (r i) = 0) : prS r (i + 1) = (fX2_add (prS r i).1 (r i), (prS r i).2.1 + 1, (if fX2_isLost (prS r i).2.2.1 = 0 then fX2_greater (prS r i).2.2.1 (r i) else r i), (if fX2_isLost (prS r i).2.2.2 = 0 then fX2_lesser (prS r i).2.2.2 (r i) else r i)) := by
  rw [prS]
  exact if_pos c
theorem prS_n {r : Nat → Int64} {i : Nat} (c : ¬ fX2_isLost (r i) = 0) : prS r (i + 1) = prS r i := by
  rw [prS]
  exact if_neg c
theorem gt_nl {x y : Int64} (hx : fX2_isLost x = 0) (hy : fX2_isLost y = 0) : fX2_isLost (fX2_greater x y) = 0 ∧ fX2_isLost (fX2_lesser x y) = 0 := by
  rw [(gt_x hx hy).1, (gt_x hx hy).2]
  constructor
  · split
    · exact hy
    · exact hx
  · split
    · exact hy
    · exact hx
theorem prS_inv (r : Nat → Int64) : ∀ n, ((prS r n).2.1 = 0 ∧ (prS r n).2.2.1 = 9221120237041090560 ∧ (prS r n).2.2.2 = 9221120237041090560) ∨ ((prS r n).2.1 ≠ 0 ∧ fX2_isLost (prS r n).2.2.1 = 0 ∧ fX2_isLost (prS r n).2.2.2 = 0) := by
  intro n
  induction n with
  | zero => exact Or.inl ⟨rfl, rfl, rfl⟩
  | succ n ih =>
    by_cases c : fX2_isLost (r n) = 0
    · rw [prS_s c]
      refine Or.inr ⟨Nat.succ_ne_zero _, ?_, ?_⟩
      · show fX2_isLost (if fX2_isLost (prS r n).2.2.1 = 0 then fX2_greater (prS r n).2.2.1 (r n) else r n) = 0
        split
        · rename_i h; exact (gt_nl h c).1
        · exact c
      · show fX2_isLost (if fX2_isLost (prS r n).2.2.2 = 0 then fX2_lesser (prS r n).2.2.2 (r n) else r n) = 0
        split
        · rename_i h; exact (gt_nl h c).2
        · exact c
    · rw [prS_n c]; exact ih
theorem prS_can (r : Nat → Int64) (n : Nat) (hr : ∀ i, i < n → can64 (r i)) : can64 (prS r n).1 ∧ can64 (prS r n).2.2.1 ∧ can64 (prS r n).2.2.2 := by
  induction n with
  | zero => exact ⟨can64_0, can64_L, can64_L⟩
  | succ n ih =>
    obtain ⟨i1_, i2_, i3_⟩ := ih (fun i hi => hr i (by omega))
    by_cases c : fX2_isLost (r n) = 0
    · have hn := hr n (by omega)
      refine ⟨by rw [prS_s c]; exact can_add i1_ hn, ?_, ?_⟩
      · rcases prS_inv r (n + 1) with ⟨_, q, _⟩ | ⟨_, q, _⟩
        · exact Or.inr q
        · exact Or.inl q
      · rcases prS_inv r (n + 1) with ⟨_, _, q⟩ | ⟨_, _, q⟩
        · exact Or.inr q
        · exact Or.inl q
    · rw [prS_n c]; exact ⟨i1_, i2_, i3_⟩
def snE (M : MS) (t : Nat) (r : Nat → Int64) (n : Nat) : Option MS := if (prS r n).2.1 = 0 then some (pB (pB M 12 t 9221120237041090560) 13 t 0) else Option.bind (fX12_quotient (prS r n).1 (fX2_ofWhole (lN (prS r n).2.1))) (fun z => some (pB (pB M 12 t z) 13 t (fX2_subtract (prS r n).2.2.1 (prS r n).2.2.2)))
theorem sn_loop {M : MS} {t n : Nat} {r : Nat → Int64} (ht : t < 4001) (h20 : gA M 20 t = nI n) (hn : n ≤ 5) (hr : ∀ i, i < n → gB M 19 (5 * t + i) = r i) : ∀ (q i k : Nat) (mo le : Int64), i + q = n → ((prS r i).2.1 = 0 ∨ (mo = (prS r i).2.2.1 ∧ le = (prS r i).2.2.2)) → fX12_senses_109 (q + 1 + k) M (nI t) (nI (5 * t)) (prS r i).1 (nI (prS r i).2.1) mo le (nI i) = snE M t r n := by
  have i20 : inb (nI t) (mlA 20) = true := inb_nI (by omega) (by show t < 4001; omega)
  have i12 : inb (nI t) (mlB 12) = true := inb_nI (by omega) (by show t < 4001; omega)
  have i13 : inb (nI t) (mlB 13) = true := inb_nI (by omega) (by show t < 4001; omega)
  intro q
  induction q with
  | zero =>
    intro i k mo le hi hm
    have e : i = n := by omega
    subst e
    have hcc := prS_c r i
    rw [show 0 + 1 + k = k + 1 by omega, fX12_senses_109, if_pos i20, ix_nI (by omega), h20, if_pos (Int32.le_refl _)]
    unfold snE fX12_senses_236 fX12_senses_237 fX12_senses_258 fX12_senses_259
    rw [if_pos i12, if_pos i13, ix_nI (by omega)]
    by_cases c : (prS r i).2.1 = 0
    · rw [c, if_pos (show nI 0 = 0 from rfl), if_pos (show nI 0 = 0 from rfl), if_pos rfl]
    · have cn : ¬ nI (prS r i).2.1 = 0 := fun x => c ((nI_inj (b := 0) (by omega) (by decide)).mp x)
      have hm2 := hm.elim (fun x => absurd x c) id
      rw [if_neg cn, if_neg c, fl_number, Option.bind_some, nI_l (by omega)]
      obtain ⟨z1_, _, d2_⟩ := div_ex (prS r i).1 (fX2_ofWhole (lN (prS r i).2.1))
      rw [d2_, Option.bind_some, Option.bind_some, if_pos i12, if_neg cn, fl_less, Option.bind_some, if_pos i13, hm2.1, hm2.2]
  | succ q ih =>
    intro i k mo le hi hm
    have hcc := prS_c r i
    rw [show q + 1 + 1 + k = (q + 1 + k) + 1 by omega, fX12_senses_109, if_pos i20, ix_nI (by omega), h20, if_neg (fun x => by have := (nI_leI (a := n) (b := i) (by omega) (by omega)).mp x; omega), nI_add, if_pos (show inb (nI (5 * t + i)) (mlB 19) = true from inb_nI (by omega) (by show 5 * t + i < 20005; omega)), ix_nI (by omega), hr i (by omega)]
    unfold fX12_senses_132 fX12_senses_203 fX12_senses_206
    by_cases c : fX2_isLost (r i) = 0
    · rw [if_pos (show fX12_isLost (r i) = 0 from c), fl_sum, Option.bind_some]
      unfold fX12_senses_167 fX12_senses_174 fX12_senses_191 fX12_senses_198 fX12_senses_203 fX12_senses_206
      have e := prS_s c
      have fin := fun mo' le' h => ih (i + 1) k mo' le' (by omega) h
      rw [e] at fin
      simp only at fin
      rw [nI_1, nI_1]
      by_cases c0 : (prS r i).2.1 = 0
      · have hz : nI (prS r i).2.1 = 0 := by rw [c0]; rfl
        rw [if_pos hz, if_pos hz]
        have hinv := (prS_inv r i).elim id (fun x => absurd c0 x.1)
        refine fin (r i) (r i) (Or.inr ⟨?_, ?_⟩)
        · rw [hinv.2.1, if_neg lost_L]
        · rw [hinv.2.2, if_neg lost_L]
      · have cn : ¬ nI (prS r i).2.1 = 0 := fun x => c0 ((nI_inj (b := 0) (by omega) (by decide)).mp x)
        have hm2 := hm.elim (fun x => absurd x c0) id
        have hinv := (prS_inv r i).elim (fun x => absurd x.1 c0) id
        rw [hm2.1, hm2.2, if_neg cn, if_neg cn, if_neg cn, fl_totN c hinv.2.1, fl_totN c hinv.2.2]
        rw [if_pos hinv.2.1, if_pos hinv.2.2, (gt_x hinv.2.1 c).1, (gt_x hinv.2.2 c).2] at fin
        rcases rk_3 (r i) (prS r i).2.2.1 with ⟨p1_, p2_, p3_⟩ | ⟨p1_, p2_, p3_⟩ | ⟨p1_, p2_, p3_⟩ <;> rcases rk_3 (r i) (prS r i).2.2.2 with ⟨s1_, s2_, s3_⟩ | ⟨s1_, s2_, s3_⟩ | ⟨s1_, s2_, s3_⟩ <;> rw [p2_, s2_] at fin <;> rw [p1_, s1_] <;> exact fin _ _ (Or.inr ⟨rfl, rfl⟩)
    · rw [if_neg (show ¬ fX12_isLost (r i) = 0 from c), nI_1]
      have e := prS_n c
      have fin := ih (i + 1) k mo le (by omega) (by rw [e]; exact hm)
      rw [e] at fin
      exact fin
