/-! copies, on both sides -/
theorem plc_g {w : Nat → Nat → Nat} {M : MS} {k : Nat} {v f : Int64} {g : Option Nat} (hk : k < 8) (h : plc w M k v f g) (g' : Option Nat) : plc w M k v f g' := by
  rcases h with h | h | h | h
  · exact Or.inl h
  · exact Or.inr (Or.inl h)
  · exact Or.inr (Or.inr (Or.inl h))
  · omega
def rngOK (i n : Int32) (s : Nat) : Prop := 0 ≤ i.toInt ∧ 0 ≤ n.toInt ∧ i.toInt + n.toInt ≤ s
theorem rng_of {i n : Int32} {s : Nat} (h : rngOK i n s) (hs : s ≤ 64) : ∃ i' n', i = nI i' ∧ n = nI n' ∧ i' + n' ≤ s := by
  unfold rngOK at h
  refine ⟨i.toInt.toNat, n.toInt.toNat, ?_, ?_, by omega⟩
  · apply Int32.toInt_inj.mp
    rw [nI_int (by omega)]
    omega
  · apply Int32.toInt_inj.mp
    rw [nI_int (by omega)]
    omega
theorem rng_nI {i n s : Nat} (h : i + n ≤ s) (hs : s ≤ 64) : rngOK (nI i) (nI n) s := by
  unfold rngOK
  rw [nI_int (by omega), nI_int (by omega)]
  omega
theorem i64_add (i n : Int32) : (i.toInt64 + n.toInt64).toInt = i.toInt + n.toInt := by
  have h1 := Int32.le_toInt i
  have h2 := Int32.toInt_lt i
  have h3 := Int32.le_toInt n
  have h4 := Int32.toInt_lt n
  rw [add_int, Int32.toInt_toInt64, Int32.toInt_toInt64]
  · rw [Int32.toInt_toInt64, Int32.toInt_toInt64]; omega
  · rw [Int32.toInt_toInt64, Int32.toInt_toInt64]; omega
section N
variable {w : Nat → Nat → Nat} {B : Nat} {S : CS} {M : MS}
theorem c_hasR (R : Rel w B S M) {t : Nat} (h1 : t ≠ 0) (h2 : t ≤ nT M) (hk : kN M t ≤ 10) (i n : Int32) : (rngOK i n (sN M t) → fX8_hasRange S (some (w 0 t)) i n = some (1, S)) ∧ (¬ rngOK i n (sN M t) → fX8_hasRange S (some (w 0 t)) i n = some (0, S)) := by
  have hr := c_row R h1 h2 hk
  obtain ⟨f1_, g1_, b1_, b2_⟩ := rl_row R h1 h2 hk
  have e0 : (0 : Int32).toInt = 0 := by decide
  have ei : i < 0 ↔ i.toInt < 0 := by rw [Int32.lt_iff_toInt_lt, e0]
  have en : n < 0 ↔ n.toInt < 0 := by rw [Int32.lt_iff_toInt_lt, e0]
  have es : (nI (sN M t)).toInt64 < i.toInt64 + n.toInt64 ↔ (sN M t : Int) < i.toInt + n.toInt := by
    rw [Int64.lt_iff_toInt_lt, i64_add, Int32.toInt_toInt64, nI_int (by omega)]
  unfold fX8_hasRange fX8_hasRange_26 rngOK
  rw [hr.2.1, Option.bind_some]
  by_cases c1 : i < 0
  · rw [if_pos c1]
    have := ei.mp c1
    exact ⟨fun h => by omega, fun _ => rfl⟩
  · rw [if_neg c1]
    by_cases c2 : n < 0
    · rw [if_pos c2]
      have := en.mp c2
      exact ⟨fun h => by omega, fun _ => rfl⟩
    · rw [if_neg c2]
      by_cases c3 : (nI (sN M t)).toInt64 < i.toInt64 + n.toInt64
      · rw [if_pos c3]
        have := es.mp c3
        exact ⟨fun h => by omega, fun _ => rfl⟩
      · rw [if_neg c3]
        refine ⟨fun _ => rfl, fun h => absurd ?_ h⟩
        refine ⟨?_, ?_, ?_⟩
        · have : ¬ i.toInt < 0 := fun q => c1 (ei.mpr q)
          omega
        · have : ¬ n.toInt < 0 := fun q => c2 (en.mpr q)
          omega
        · have : ¬ (sN M t : Int) < i.toInt + n.toInt := fun q => c3 (es.mpr q)
          omega
theorem c_alike (R : Rel w B S M) {t u : Nat} (h1 : t ≠ 0) (h2 : t ≤ nT M) (hk : kN M t ≤ 10) (h3 : u ≠ 0) (h4 : u ≤ nT M) (hl : kN M u ≤ 10) : fX8_isAlike S (some (w 0 u)) (some (w 0 t)) = some (if kN M u = kN M t ∨ (8 ≤ kN M u ∧ 8 ≤ kN M t) then 1 else 0, S) := by
  have hr := c_row R h1 h2 hk
  have hq := c_row R h3 h4 hl
  unfold fX8_isAlike fX8_isAlike_25 fX8_isAlike_29
  rw [hr.1, hq.1, Option.bind_some, Option.bind_some, c_isKx R h3 h4, if_pos (tag5.mpr hl), c_holds R h3 h4 hl, Option.bind_some]
  simp only
  rw [c_isKx R h1 h2, if_pos (tag5.mpr hk), c_holds R h1 h2 hk, Option.bind_some]
  have e1 : nI (kN M u) = nI (kN M t) ↔ kN M u = kN M t := nI_inj (by omega) (by omega)
  by_cases c1 : kN M u = kN M t
  · rw [if_pos (e1.mpr c1), if_pos (Or.inl c1)]
  · rw [if_neg (show ¬ nI (kN M u) = nI (kN M t) from fun h => c1 (e1.mp h))]
    by_cases c2 : kN M u < 8
    · rw [if_pos c2, if_pos rfl, if_neg (fun h => by omega)]
    · rw [if_neg c2, if_neg (show ¬ (1 : Int32) = 0 by decide)]
      by_cases c3 : kN M t < 8
      · rw [if_pos c3, if_pos rfl, if_neg (fun h => by omega)]
      · rw [if_neg c3, if_neg (show ¬ (1 : Int32) = 0 by decide), if_pos (Or.inr ⟨by omega, by omega⟩)]
theorem Rel_cpy (R : Rel w B S M) {t u : Nat} (h1 : t ≠ 0) (h2 : t ≤ nT M) (h3 : u ≠ 0) (h4 : u ≤ nT M) (hk : kN M u < 8) (he : kN M t = kN M u) {f g : Nat → Int64} (ef : cH S (w 1 t) = .inl (sN M t, .inr (.inl f))) (eg : cH S (w 1 u) = .inl (sN M u, .inr (.inl g))) {i j n : Nat} (hi : i + n ≤ sN M t) (hj : j + n ≤ sN M u) : Rel w B (cpH S (w 1 u) (.inl (sN M u, .inr (.inl (va_cpy f g i j n))))) (sB9 M (va_cpy (gB M 9) (gB M 9) (fN M t + i) (fN M u + j) n)) := by
  have ne := rl_ne R h3 h4 (by omega)
  have hth := rl_th R h3 h4
  obtain ⟨f1_, g1_, b1_, b2_, b3_, b4_, b5_⟩ := rl_row R h3 h4 (by omega)
  obtain ⟨f2_, g2_, d1_, d2_, d3_, d4_, d5_⟩ := rl_row R h1 h2 (by omega)
  have hg : f1_ = g := by
    rw [if_pos hk, eg] at b3_
    simp only [Sum.inl.injEq, Prod.mk.injEq, Sum.inr.injEq, true_and] at b3_
    exact b3_.symm
  have hf : f2_ = f := by
    rw [if_pos (by omega), ef] at d3_
    simp only [Sum.inl.injEq, Prod.mk.injEq, Sum.inr.injEq, true_and] at d3_
    exact d3_.symm
  subst hf
  subst hg
  refine Rel_mut (t0 := u) R ⟨by omega, h4⟩ (Nat.le_refl _) rfl rfl rfl rfl (fun a ha => ?_) rfl (fun _ _ => rfl) (fun _ _ _ _ => rfl) (fun k hk2 => gB_s9n _ _ (by omega)) (fun k u hk2 _ => by rw [gB_s9n _ _ (by omega)]) (fun x hx => ?_) (fun x _ => by rw [gB_s9n _ _ (by decide)]) ?_
  · rw [cH_pH, if_neg (ha 1 (Or.inr (Or.inl ⟨rfl, Or.inl (by omega)⟩)))]
  · rw [gB_s9, pk_cpy_out (by omega)]
  · refine ⟨hth.1, Or.inl ⟨show kN M u ≤ 10 by omega, va_cpy f2_ f1_ i j n, g1_, b1_, ?_, ?_, ?_, fun x hx => ?_⟩⟩
    · rw [cH_pH, if_neg ne.1]; exact b2_
    · rw [cH_pH, if_pos rfl]
      show _ = Sum.inl (if kN M u < 8 then sN M u else 0, _)
      rw [if_pos hk]
    · rw [cH_pH, if_neg (fun q => ne.2.2 q.symm)]; exact b4_
    · show plc w (sB9 M (va_cpy (gB M 9) (gB M 9) (fN M t + i) (fN M u + j) n)) (kN M u) (gB (sB9 M (va_cpy (gB M 9) (gB M 9) (fN M t + i) (fN M u + j) n)) 9 (fN M u + x)) (va_cpy f2_ f1_ i j n x) (g1_ x)
      rw [gB_s9]
      by_cases c : j ≤ x ∧ x < j + n
      · rw [pk_cpy_in (f := gB M 9) (by omega) (by omega), pk_cpy_in c.1 c.2, show fN M t + i + (fN M u + x - (fN M u + j)) = fN M t + (i + (x - j)) by omega]
        have := d5_ (i + (x - j)) (by omega)
        rw [he] at this
        exact plc_g hk this _
      · rw [pk_cpy_out (f := gB M 9) (by omega), pk_cpy_out (by omega)]
        exact b5_ x hx
theorem c_takeV (R : Rel w B S M) {t u : Nat} (h1 : t ≠ 0) (h2 : t ≤ nT M) (h3 : u ≠ 0) (h4 : u ≤ nT M) (hk : kN M u < 8) (he : kN M t = kN M u) {f g : Nat → Int64} (ef : cH S (w 1 t) = .inl (sN M t, .inr (.inl f))) (eg : cH S (w 1 u) = .inl (sN M u, .inr (.inl g))) (s1 : sN M t ≤ 64) (s2 : sN M u ≤ 64) {i j n : Nat} (hi : i + n ≤ sN M t) (hj : j + n ≤ sN M u) : fX8_takeFrom S (some (w 0 u)) (some (w 0 t)) (nI i) (nI j) (nI n) = some (1, cpH S (w 1 u) (.inl (sN M u, .inr (.inl (va_cpy f g i j n))))) := by
  have hr := c_row R h1 h2 (by omega)
  have hq := c_row R h3 h4 (by omega)
  have hi1 := rl_in1 R h1 h2 (by omega)
  have hi2 := rl_in1 R h3 h4 (by omega)
  unfold fX8_takeFrom
  rw [c_isKx R h1 h2, if_pos (tag5.mpr (by omega)), (c_hasR R h1 h2 (by omega) (nI i) (nI n)).1 (rng_nI hi s1), Option.bind_some, if_neg (show ¬ (1 : Int32) = 0 by decide)]
  simp only
  rw [c_isKx R h3 h4, if_pos (tag5.mpr (by omega)), (c_hasR R h3 h4 (by omega) (nI j) (nI n)).1 (rng_nI hj s2), Option.bind_some, if_neg (show ¬ (1 : Int32) = 0 by decide)]
  simp only
  rw [c_isKx R h3 h4, if_pos (tag5.mpr (by omega)), c_alike R h1 h2 (by omega) h3 h4 (by omega), Option.bind_some, if_pos (Or.inl he.symm), if_neg (show ¬ (1 : Int32) = 0 by decide)]
  simp only
  rw [c_isKx R h3 h4, if_pos (tag5.mpr (by omega)), c_holds R h3 h4 (by omega), Option.bind_some, if_pos hk, if_pos rfl]
  simp only
  rw [hr.2.2.1, Option.bind_some, hq.2.2.1, Option.bind_some]
  unfold tcpJ
  rw [arJ_at hi1.1 ef, Option.bind_some, arJ_at hi2.1 eg, Option.bind_some]
  simp only
  rw [nI_int (n := i) (by omega), nI_int (n := j) (by omega), nI_int (n := n) (by omega), ix_nI (by omega), ix_nI (by omega), ix_nI (by omega), if_pos ⟨by omega, by omega, by omega, hi, hj⟩]
  rfl
theorem m_bel (R : Rel w B S M) {v k : Nat} (hv : v ≤ nT M) (hk : 8 ≤ k ∧ k ≤ 10) : ((v = 0 ∨ heldK k (kN M v)) → fX12_belongs M (nI v) (nI k) = some (1, M)) ∧ (¬ (v = 0 ∨ heldK k (kN M v)) → fX12_belongs M (nI v) (nI k) = some (0, M)) := by
  have h4 := rl_4000 R
  unfold fX12_belongs fX12_belongs_55 fX12_belongs_59
  by_cases c : v = 0
  · subst c
    rw [if_pos (show nI 0 = 0 from rfl)]
    exact ⟨fun _ => rfl, fun h => absurd (Or.inl rfl) h⟩
  · have hkN := rl_kN R c hv
    rw [if_neg (show ¬ nI v = 0 from fun q => c ((nI_inj (b := 0) (by omega) (by decide)).mp q)), if_pos (show inb (nI v) (mlA 6) = true from inb_nI (by omega) (by show v < 4001; omega)), if_pos (show inb (nI v) (mlA 6) = true from inb_nI (by omega) (by show v < 4001; omega)), if_pos (show inb (nI v) (mlA 6) = true from inb_nI (by omega) (by show v < 4001; omega)), ix_nI (by omega), hkN.1, m_isPose hkN.2]
    have e12 : nI (kN M v) = 12 ↔ kN M v = 12 := nI_inj (b := 12) (by omega) (by decide)
    have e4 : nI (kN M v) = 4 ↔ kN M v = 4 := nI_inj (b := 4) (by omega) (by decide)
    have h8 : k = 8 ∨ k = 9 ∨ k = 10 := by omega
    unfold heldK
    rcases h8 with h8 | h8 | h8 <;> subst h8
    · rw [if_pos (show nI 8 = 8 from rfl)]
      by_cases d : kN M v = 11 ∨ kN M v = 12
      · rw [if_pos d, if_neg (show ¬ (1 : Int32) = 0 by decide)]
        exact ⟨fun _ => rfl, fun h => absurd (Or.inr (Or.inl ⟨rfl, d⟩)) h⟩
      · rw [if_neg d, if_pos rfl]
        exact ⟨fun h => by omega, fun _ => rfl⟩
    · rw [if_neg (show ¬ nI 9 = 8 by decide), if_pos (show nI 9 = 9 from rfl)]
      by_cases d : kN M v = 12
      · rw [if_pos (e12.mpr d)]
        exact ⟨fun _ => rfl, fun h => absurd (Or.inr (Or.inr (Or.inl ⟨rfl, d⟩))) h⟩
      · rw [if_neg (show ¬ nI (kN M v) = 12 from fun q => d (e12.mp q))]
        exact ⟨fun h => by omega, fun _ => rfl⟩
    · rw [if_neg (show ¬ nI 10 = 8 by decide), if_neg (show ¬ nI 10 = 9 by decide)]
      by_cases d : kN M v = 4
      · rw [if_pos (e4.mpr d)]
        exact ⟨fun _ => rfl, fun h => absurd (Or.inr (Or.inr (Or.inr ⟨rfl, d⟩))) h⟩
      · rw [if_neg (show ¬ nI (kN M v) = 4 from fun q => d (e4.mp q))]
        exact ⟨fun h => by omega, fun _ => rfl⟩
end N
