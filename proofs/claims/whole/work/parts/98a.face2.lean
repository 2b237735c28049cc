/-! the face: slot -/
section N
variable {w : Nat → Nat → Nat} {B : Nat} {S : CS} {M : MS}
theorem rfn_inj (R : Rel w B S M) {t u : Nat} (ht : t ≤ nT M) (hu : u ≤ nT M) : rfn w t = rfn w u ↔ t = u := by
  constructor
  · intro h
    by_cases c1 : t = 0
    · by_cases c2 : u = 0
      · omega
      · rw [c1, rfn_0, rfn_s w c2] at h
        exact absurd h (by simp)
    · by_cases c2 : u = 0
      · rw [c2, rfn_0, rfn_s w c1] at h
        exact absurd h (by simp)
      · rw [rfn_s w c1, rfn_s w c2] at h
        have h' : w 0 t = w 0 u := Option.some.inj h
        exact (R.2.2.2.2.2.2.1.2.1 0 t 0 u (by omega) ht (by omega) hu (Or.inl rfl) (Or.inl rfl) h').2
  · intro h
    rw [h]
theorem sl_loop (R : Rel w B S M) {t m : Nat} (ht : t ≤ nT M) (hm : m < 16) (e1 : gA M 5 m = nI t) (e2 : cSl S m = rfn w t) : ∀ (q i n k : Nat), i + q = m → q < n → q < k → ∃ r, fX7_firstWith_2 n S (rfn w t) (nI i) = some (r, S) ∧ fX12_slot_72 k (pI M 0 0) (nI t) (nI i) = some (r, pI M 0 0) := by
  have h4 := rl_4000 R
  intro q
  induction q with
  | zero =>
    intro i n k hi hn hk
    obtain ⟨n1, rfl⟩ : ∃ n1, n = n1 + 1 := ⟨n - 1, by omega⟩
    obtain ⟨k1, rfl⟩ : ∃ k1, k = k1 + 1 := ⟨k - 1, by omega⟩
    have him : i = m := by omega
    subst him
    have g5 : gA (pI M 0 0) 5 i = nI t := e1
    rw [fX7_firstWith_2, fX12_slot_72, if_neg (show ¬ 16 ≤ nI i from fun x => by have := (nI_leI (a := 16) (b := i) (by decide) (by omega)).mp x; omega), if_pos (show inb (nI i) 16 = true from inb_nI (by omega) hm), if_pos (show inb (nI i) (mlA 5) = true from inb_nI (by omega) hm), ix_nI (by omega), e2, g5, if_pos rfl, if_pos rfl]
    exact ⟨_, rfl, rfl⟩
  | succ q ih =>
    intro i n k hi hn hk
    obtain ⟨n1, rfl⟩ : ∃ n1, n = n1 + 1 := ⟨n - 1, by omega⟩
    obtain ⟨k1, rfl⟩ : ∃ k1, k = k1 + 1 := ⟨k - 1, by omega⟩
    obtain ⟨u, u1, u2, u3⟩ := R.2.2.1 i (by omega)
    have g5 : gA (pI M 0 0) 5 i = nI u := u2
    rw [fX7_firstWith_2, fX12_slot_72, if_neg (show ¬ 16 ≤ nI i from fun x => by have := (nI_leI (a := 16) (b := i) (by decide) (by omega)).mp x; omega), if_pos (show inb (nI i) 16 = true from inb_nI (by omega) (by omega)), if_pos (show inb (nI i) (mlA 5) = true from inb_nI (by omega) (by show i < 16; omega)), ix_nI (by omega), u3, g5]
    by_cases c : u = t
    · rw [if_pos ((rfn_inj R u1 ht).mpr c), if_pos (show nI u = nI t by rw [c])]
      exact ⟨_, rfl, rfl⟩
    · rw [if_neg (fun x => c ((rfn_inj R u1 ht).mp x)), if_neg (show ¬ nI u = nI t from fun x => c ((nI_inj (by omega) (by omega)).mp x))]
      unfold fX7_firstWith_23 fX12_slot_86
      rw [nI_1]
      exact ih (i + 1) n1 k1 (by omega) (by omega) (by omega)
theorem c_kind (R : Rel w B S M) {t : Nat} (ct : t ≠ 0) (h2 : t ≤ nT M) : fX11_slot_9 S 0 (rfn w t) = some (nI (kN M t), S) := by
  have hk := rl_kN R ct h2
  unfold fX11_slot_9 fX11_slot_48
  rw [onul_r ct, if_pos rfl, rfn_s w ct, c_isKx R ct h2, c_isKx R ct h2, c_isKx R ct h2, c_isKx R ct h2, c_isKx R ct h2, c_isKx R ct h2, c_isKx R ct h2]
  by_cases c10 : kN M t ≤ 10
  · have e : tagK (kN M t) = 5 := if_pos c10
    rw [e, if_neg (show ¬ [0].contains 5 = true by decide), if_neg (show ¬ [1].contains 5 = true by decide), if_neg (show ¬ [2].contains 5 = true by decide), if_neg (show ¬ [3].contains 5 = true by decide), if_neg (show ¬ [4].contains 5 = true by decide), if_pos (show [5].contains 5 = true by decide)]
    unfold fX8_kind
    rw [(c_row R ct h2 c10).1, Option.bind_some, Option.bind_some]
  · have hh : kN M t = 11 ∨ kN M t = 12 ∨ kN M t = 13 ∨ kN M t = 14 ∨ kN M t = 15 ∨ kN M t = 16 := by omega
    rcases hh with h | h | h | h | h | h <;> rw [h] <;> rfl
theorem sim_slot (h : Pb B S M) (r v : Int32) : ∃ x, fX11_slot S r v = some (x, S) ∧ fX12_slot M r v = some (x, pI M 0 0) := by
  obtain ⟨⟨w, R⟩, _⟩ := h
  obtain ⟨t, h2, e1_, e2_⟩ := rl_slot R r
  have h4 := rl_4000 R
  have g5 : gA (pI M 0 0) 5 (ix (r &&& 15)) = nI t := e1_
  unfold fX11_slot fX12_slot fX12_slot_5 fX12_slot_15 fX12_slot_28
  rw [c_thgAt, Option.bind_some, if_pos (inb5 r), g5]
  simp only
  rw [e2_]
  by_cases ct : t = 0
  · subst ct
    rw [if_pos (show nI 0 = 0 from rfl)]
    exact ⟨(-1), rfl, rfl⟩
  · have hk := rl_kN R ct h2
    have g6 : gA (pI M 0 0) 6 t = nI (kN M t) := hk.1
    have g7 : gA (pI M 0 0) 7 t = nI (sN M t) := (rl_sN R ct h2).1
    rw [if_neg (show ¬ nI t = 0 from fun x => ct ((nI_inj (b := 0) (by omega) (by decide)).mp x)), ix_nI (by omega), g6, g7, if_pos (show inb (nI t) (mlA 6) = true from inb_nI (by omega) (by show t < 4001; omega)), if_pos (show inb (nI t) (mlA 7) = true from inb_nI (by omega) (by show t < 4001; omega)), m_isRow hk.2]
    by_cases c0 : v = 0
    · subst c0
      rw [c_kind R ct h2, if_neg (show ¬ (0 : Int32) < 0 by decide), if_pos (show (0 : Int32) ≤ 2 by decide), if_pos rfl]
      exact ⟨_, rfl, rfl⟩
    · unfold fX11_slot_9
      rw [onul_r ct, if_neg c0, if_neg c0, rfn_s w ct, c_inst R ct h2 _ _ inst5, Option.bind_some, c_cast R ct h2, c_isKx R ct h2]
      by_cases c1 : v = 1
      · subst c1
        rw [if_pos rfl, if_neg (show ¬ (1 : Int32) < 0 by decide), if_pos (show (1 : Int32) ≤ 2 by decide), if_pos rfl, if_pos (show inb (nI t) (mlA 6) = true from inb_nI (by omega) (by show t < 4001; omega))]
        by_cases c10 : kN M t ≤ 10
        · rw [if_pos (tag5.mpr c10), if_neg (show ¬ (1 : Int32) = 0 by decide), if_pos (tag5.mpr c10), if_pos (tag5.mpr c10), if_pos c10, if_neg (show ¬ (1 : Int32) = 0 by decide)]
          unfold fX8_length
          rw [(c_row R ct h2 c10).2.1, Option.bind_some, Option.bind_some]
          exact ⟨_, rfl, rfl⟩
        · rw [if_neg (fun x => c10 (tag5.mp x)), if_pos rfl, if_neg c10, if_pos rfl]
          exact ⟨_, rfl, rfl⟩
      · rw [if_neg c1, if_neg c1]
        by_cases c2 : v = 2
        · subst c2
          rw [if_pos rfl, if_neg (show ¬ (2 : Int32) < 0 by decide), if_pos (show (2 : Int32) ≤ 2 by decide)]
          unfold fX7_firstWith
          obtain ⟨x, x1, x2⟩ := sl_loop R h2 (ra_lt r) e1_ e2_ (ra r) 0 20 20 (by omega) (by have := ra_lt r; omega) (by have := ra_lt r; omega)
          rw [rfn_s w ct, show nI 0 = 0 from rfl] at x1
          rw [show nI 0 = 0 from rfl] at x2
          rw [x1, x2, Option.bind_some]
          exact ⟨_, rfl, rfl⟩
        · rw [if_neg c2]
          by_cases c3 : v < 0
          · rw [if_pos c3]
            exact ⟨_, rfl, rfl⟩
          · rw [if_neg c3, if_neg (show ¬ v ≤ 2 from fun q => by
              rw [Int32.le_iff_toInt_le, show (2 : Int32).toInt = 2 by decide] at q
              rw [Int32.lt_iff_toInt_lt, show (0 : Int32).toInt = 0 by decide] at c3
              by_cases e : v.toInt = 0
              · exact c0 (Int32.toInt_inj.mp (by rw [e]; decide))
              · by_cases e' : v.toInt = 1
                · exact c1 (Int32.toInt_inj.mp (by rw [e']; decide))
                · exact c2 (Int32.toInt_inj.mp (by rw [show (2 : Int32).toInt = 2 by decide]; omega)))]
            exact ⟨_, rfl, rfl⟩
end N
