/-! copies of things, and the whole order -/
section N
variable {w : Nat → Nat → Nat} {B : Nat}
def TkR (w : Nat → Nat → Nat) (B : Nat) (S : CS) (M : MS) (c : Option (Int32 × CS)) (m : Option (Int32 × MS)) : Prop := ∃ (S' : CS) (M' : MS), ((c = some (1, S') ∧ m = some (0, M')) ∨ (c = some (0, S') ∧ m = some (5, M'))) ∧ Rel w B S' M' ∧ cfr S S' ∧ mfr M M' ∧ nT M' = nT M
theorem tk_step {S : CS} {M : MS} (R : Rel w B S M) {t u : Nat} (h1 : t ≠ 0) (h2 : t ≤ nT M) (h3 : u ≠ 0) (h4 : u ≤ nT M) (hk : 8 ≤ kN M t ∧ kN M t ≤ 10) (hl : 8 ≤ kN M u ∧ kN M u ≤ 10) {i j e : Nat} (hi : i + e < sN M t) (hj : j + e < sN M u) (v4 v5 v6 v7 : Int32) (rc : CS → Option Nat → Option Nat → Int32 → Int32 → Int32 → Int32 → Int32 → Option (Int32 × CS)) (rm : MS → Int32 → Int32 → Int32 → Int32 → Int32 → Int32 → Int32 → Option (Int32 × MS)) (ih : ∀ S' M', Rel w B S' M' → gA M' = gA M → gI M' = gI M → cfr S S' → mfr M M' → TkR w B S' M' (rc S' (some (w 0 u)) (some (w 0 t)) (nI i) (nI j) v4 v5 (v6 + 1)) (rm M' (nI t) (nI u) (nI i) (nI j) v4 v7 (v6 + 1))) : TkR w B S M (fX8_takeFrom_98 rc S (some (w 0 u)) (some (w 0 t)) (nI i) (nI j) v4 v5 v6 (nI e)) (fX12_copies_181 rm M (nI t) (nI u) (nI i) (nI j) v4 v7 v6 (nI e)) := by
  have h40 := rl_4000 R
  have hs := rl_sN R h1 h2
  have hz := rl_sN R h3 h4
  obtain ⟨f1_, g1_, b1_, b2_, b3_, b4_, b5_⟩ := rl_row R h1 h2 hk.2
  obtain ⟨f2_, g2_, d1_, d2_, d3_, d4_, d5_⟩ := rl_row R h3 h4 hl.2
  rw [if_neg (by omega)] at b4_ d4_
  have hkt := rl_kN R h3 h4
  have hp := b5_ (i + e) hi
  rcases hp with ⟨p1_, p2_⟩ | ⟨p1_, p2_⟩ | ⟨p1_, p2_⟩ | ⟨p1_, v1_, p2_, p3_, p4_, p5_⟩
  · omega
  · omega
  · omega
  have hsp := c_setPrt R h3 h4 hl d4_ d1_ hj p2_
  have hb := m_bel R p2_ hl
  unfold fX8_takeFrom_98 fX8_takeFrom_124 fX12_copies_181 fX12_copies_201 fX12_copies_230 fX12_copies_249 fX12_copies_252
  rw [c_isKx R h1 h2, if_pos (tag5.mpr hk.2), nI_add, nI_add, c_part R h1 h2 hk b4_ b1_ hi, Option.bind_some]
  simp only
  rw [c_isKx R h3 h4, if_pos (tag5.mpr hl.2), p4_, ix_nI (n := t) (by omega), ix_nI (n := u) (by omega), hs.2.1, nI_add, nI_add, if_pos (show inb (nI t) (mlA 8) = true from inb_nI (by omega) (by show t < 4001; omega)), if_pos (show inb (nI (fN M t + i + e)) (mlB 9) = true from inb_nI (by omega) (by show fN M t + i + e < 256000; omega)), if_pos (show inb (nI u) (mlA 6) = true from inb_nI (by omega) (by show u < 4001; omega)), hkt.1, if_neg (show ¬ nI (kN M u) < 8 from fun q => by have := (nI_ltI (b := 8) (by omega) (by decide)).mp q; omega), if_pos (show inb (nI u) (mlA 6) = true from inb_nI (by omega) (by show u < 4001; omega)), ix_nI (by omega), show fN M t + i + e = fN M t + (i + e) by omega, p3_, lN_i]
  by_cases c : v1_ = 0 ∨ heldK (kN M u) (kN M v1_)
  · rw [hsp.1 c, Option.bind_some, hb.1 c, Option.bind_some, if_neg (show ¬ (1 : Int32) = 0 by decide), if_neg (show ¬ (1 : Int32) = 0 by decide)]
    simp only
    rw [hz.2.1, nI_add, nI_add, if_pos (show inb (nI u) (mlA 8) = true from inb_nI (by omega) (by show u < 4001; omega)), if_pos (show inb (nI (fN M u + j + e)) (mlB 9) = true from inb_nI (by omega) (by show fN M u + j + e < 256000; omega)), ix_nI (by omega), show fN M u + j + e = fN M u + (j + e) by omega]
    have R' := Rel_prt R h3 h4 hl d4_ hj p2_ c
    have cf : cfr S (cpH S (w 2 u) (.inl (sN M u, .inr (.inr (.inr (.inr (va_up g2_ (j + e) (rfn w v1_)))))))) := ⟨fun _ _ _ => rfl, rfl⟩
    have mf : mfr M (pB M 9 (fN M u + (j + e)) (lN v1_)) := mfr_B (by decide)
    obtain ⟨S1_, M1_, q1_, q2_, q3_, q4_, q5_⟩ := ih _ _ R' rfl rfl cf mf
    exact ⟨S1_, M1_, q1_, q2_, cfr_trans cf q3_, mfr_trans mf q4_, q5_⟩
  · rw [hsp.2 c, Option.bind_some, hb.2 c, Option.bind_some, if_pos rfl, if_pos rfl]
    exact ⟨S, M, Or.inr ⟨rfl, rfl⟩, R, cfr_refl S, mfr_refl M, rfl⟩
theorem tk_loop {t u i j n : Nat} (h1 : t ≠ 0) (h3 : u ≠ 0) (hn : n ≤ 64) (d : Bool) : ∀ (q k : Nat) (S : CS) (M : MS), k + q = n → Rel w B S M → t ≤ nT M → u ≤ nT M → (8 ≤ kN M t ∧ kN M t ≤ 10) → (8 ≤ kN M u ∧ kN M u ≤ 10) → i + n ≤ sN M t → j + n ≤ sN M u → TkR w B S M (fX8_takeFrom_74 (q + 1 + (79 - n)) S (some (w 0 u)) (some (w 0 t)) (nI i) (nI j) (nI n) (bI32 d) (nI k)) (fX12_copies_157 (q + 1 + (69 - n)) M (nI t) (nI u) (nI i) (nI j) (nI n) (bI32 d) (nI k)) := by
  intro q
  induction q with
  | zero =>
    intro k S M h R _ _ _ _ _ _
    have hk : k = n := by omega
    subst hk
    rw [show 0 + 1 + (79 - k) = (79 - k) + 1 by omega, show 0 + 1 + (69 - k) = (69 - k) + 1 by omega, fX8_takeFrom_74, fX12_copies_157, if_pos (Int32.le_refl _), if_pos (Int32.le_refl _)]
    exact ⟨S, M, Or.inl ⟨rfl, rfl⟩, R, cfr_refl S, mfr_refl M, rfl⟩
  | succ q ih =>
    intro k S M h R a1 a2 a3 a4 a5 a6
    have ih2 : ∀ S' M', Rel w B S' M' → gA M' = gA M → gI M' = gI M → cfr S S' → mfr M M' → TkR w B S' M' (fX8_takeFrom_74 (q + 1 + (79 - n)) S' (some (w 0 u)) (some (w 0 t)) (nI i) (nI j) (nI n) (bI32 d) (nI k + 1)) (fX12_copies_157 (q + 1 + (69 - n)) M' (nI t) (nI u) (nI i) (nI j) (nI n) (bI32 d) (nI k + 1)) := by
      intro S' M' R' eA eI _ _
      have eT : nT M' = nT M := by unfold nT; rw [eI]
      have eK : ∀ x, kN M' x = kN M x := fun x => by unfold kN; rw [eA]
      have eS : ∀ x, sN M' x = sN M x := fun x => by unfold sN; rw [eA]
      rw [nI_1]
      exact ih (k + 1) S' M' (by omega) R' (by omega) (by omega) (by rw [eK]; exact a3) (by rw [eK]; exact a4) (by rw [eS]; exact a5) (by rw [eS]; exact a6)
    have nk : ¬ nI n ≤ nI k := fun x => by have := (nI_leI (a := n) (b := k) (by omega) (by omega)).mp x; omega
    rw [show q + 1 + 1 + (79 - n) = (q + 1 + (79 - n)) + 1 by omega, show q + 1 + 1 + (69 - n) = (q + 1 + (69 - n)) + 1 by omega, fX8_takeFrom_74, fX12_copies_157, if_neg nk, if_neg nk]
    cases d with
    | false =>
      rw [if_pos (show bI32 false = 0 from rfl), if_pos (show bI32 false = 0 from rfl)]
      exact tk_step R h1 a1 h3 a2 a3 a4 (by omega) (by omega) _ _ _ _ _ _ ih2
    | true =>
      have en : nI n - 1 - nI k = nI q := by
        have h1 : nI n - 1 = nI (n - 1) := pk_sub (a := n) (b := 1) (by omega)
        rw [h1, pk_sub (by omega)]
        congr 1
        omega
      rw [if_neg (show ¬ bI32 true = 0 by decide), if_neg (show ¬ bI32 true = 0 by decide), en]
      exact tk_step R h1 a1 h3 a2 a3 a4 (by omega) (by omega) _ _ _ _ _ _ ih2
theorem tk_all {S : CS} {M : MS} (R : Rel w B S M) {t u i j n : Nat} (h1 : t ≠ 0) (h2 : t ≤ nT M) (h3 : u ≠ 0) (h4 : u ≤ nT M) (hk : 8 ≤ kN M t ∧ kN M t ≤ 10) (hl : 8 ≤ kN M u ∧ kN M u ≤ 10) (hi : i + n ≤ sN M t) (hj : j + n ≤ sN M u) (s1 : sN M t ≤ 64) (d : Bool) : TkR w B S M (fX8_takeFrom_69 S (some (w 0 u)) (some (w 0 t)) (nI i) (nI j) (nI n) (bI32 d)) (fX12_copies_152 M (nI t) (nI u) (nI i) (nI j) (nI n) (bI32 d)) := by
  unfold fX8_takeFrom_69 fX12_copies_152
  have := tk_loop (w := w) (B := B) (i := i) (j := j) h1 h3 (n := n) (by omega) d n 0 S M (by omega) R h2 h4 hk hl hi hj
  rw [show n + 1 + (79 - n) = 80 by omega, show n + 1 + (69 - n) = 70 by omega] at this
  exact this
variable {S : CS} {M : MS}
/-- the reference's tests and loop, the rows being found -/
theorem m_cp52 (R : Rel w B S M) {t u : Nat} (h1 : t ≠ 0) (h2 : t ≤ nT M) (h3 : u ≠ 0) (h4 : u ≤ nT M) (hk : kN M t ≤ 10) (hl : kN M u ≤ 10) (i j n : Int32) : (rngOK i n (sN M t) ∧ rngOK j n (sN M u) → fX12_copies_52 M (nI t) (nI u) i j n 1 = (if t = u then (if j ≤ i then fX12_copies_152 M (nI t) (nI u) i j n 0 else fX12_copies_152 M (nI t) (nI u) i j n 1) else fX12_copies_152 M (nI t) (nI u) i j n 0)) ∧ (¬ (rngOK i n (sN M t) ∧ rngOK j n (sN M u)) → fX12_copies_52 M (nI t) (nI u) i j n 1 = some (3, M)) := by
  have h40 := rl_4000 R
  have hs := rl_sN R h1 h2
  have hz := rl_sN R h3 h4
  obtain ⟨f1_, g1_, b1_, b2_⟩ := rl_row R h1 h2 hk
  obtain ⟨f2_, g2_, d1_, d2_⟩ := rl_row R h3 h4 hl
  have e0 : (0 : Int32).toInt = 0 := by decide
  have ei : ∀ x : Int32, x < 0 ↔ x.toInt < 0 := fun x => by rw [Int32.lt_iff_toInt_lt, e0]
  have es : (nI (sN M t)).toInt64 < i.toInt64 + n.toInt64 ↔ (sN M t : Int) < i.toInt + n.toInt := by
    rw [Int64.lt_iff_toInt_lt, i64_add, Int32.toInt_toInt64, nI_int (by omega)]
  have ez : j.toInt64 + n.toInt64 ≤ (nI (sN M u)).toInt64 ↔ j.toInt + n.toInt ≤ (sN M u : Int) := by
    rw [Int64.le_iff_toInt_le, i64_add, Int32.toInt_toInt64, nI_int (by omega)]
  unfold fX12_copies_52 fX12_copies_134 fX12_copies_151
  rw [if_pos (show inb (nI t) (mlA 6) = true from inb_nI (by omega) (by show t < 4001; omega)), if_pos (show inb (nI u) (mlA 6) = true from inb_nI (by omega) (by show u < 4001; omega)), if_pos (show inb (nI t) (mlA 7) = true from inb_nI (by omega) (by show t < 4001; omega)), if_pos (show inb (nI u) (mlA 7) = true from inb_nI (by omega) (by show u < 4001; omega)), ix_nI (n := t) (by omega), ix_nI (n := u) (by omega), (rl_kN R h1 h2).1, (rl_kN R h3 h4).1, m_isRow (by omega), m_isRow (by omega), if_pos hk, if_pos hl, if_neg (show ¬ (1 : Int32) = 0 by decide), if_neg (show ¬ (1 : Int32) = 0 by decide), if_neg (show ¬ (1 : Int32) = 0 by decide), hs.1, hz.1]
  have eq : nI t = nI u ↔ t = u := nI_inj (by omega) (by omega)
  unfold rngOK
  by_cases c1 : i < 0
  · rw [if_pos c1]
    have := (ei i).mp c1
    exact ⟨fun h => by omega, fun _ => rfl⟩
  · rw [if_neg c1]
    have q1 : ¬ i.toInt < 0 := fun q => c1 ((ei i).mpr q)
    by_cases c2 : j < 0
    · rw [if_pos c2]
      have := (ei j).mp c2
      exact ⟨fun h => by omega, fun _ => rfl⟩
    · rw [if_neg c2]
      have q2 : ¬ j.toInt < 0 := fun q => c2 ((ei j).mpr q)
      by_cases c3 : n < 0
      · rw [if_pos c3]
        have := (ei n).mp c3
        exact ⟨fun h => by omega, fun _ => rfl⟩
      · rw [if_neg c3]
        have q3 : ¬ n.toInt < 0 := fun q => c3 ((ei n).mpr q)
        by_cases c4 : (nI (sN M t)).toInt64 < i.toInt64 + n.toInt64
        · rw [if_pos c4]
          have := es.mp c4
          exact ⟨fun h => by omega, fun _ => rfl⟩
        · rw [if_neg c4]
          have q4 : ¬ (sN M t : Int) < i.toInt + n.toInt := fun q => c4 (es.mpr q)
          by_cases c5 : j.toInt64 + n.toInt64 ≤ (nI (sN M u)).toInt64
          · rw [if_pos c5]
            have := ez.mp c5
            refine ⟨fun _ => ?_, fun h => absurd (by omega) h⟩
            by_cases c6 : t = u
            · rw [if_pos (eq.mpr c6), if_pos c6]
            · rw [if_neg (show ¬ nI t = nI u from fun q => c6 (eq.mp q)), if_neg c6]
          · rw [if_neg c5]
            have q5 : ¬ j.toInt + n.toInt ≤ (sN M u : Int) := fun q => c5 (ez.mpr q)
            exact ⟨fun h => by omega, fun _ => rfl⟩
end N
