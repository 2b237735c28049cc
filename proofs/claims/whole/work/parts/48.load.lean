/-! rows are read and written alike -/
theorem ix_c (i : Int32) {n : Nat} (hn : n < 2147483648) : (∃ j, j < n ∧ i = nI j) ∨ ((i < 0 ∨ (¬ i < 0 ∧ nI n ≤ i)) ∧ ¬ (¬ i < 0 ∧ i < nI n)) := by
  have e0 : (0 : Int32).toInt = 0 := by decide
  have en := nI_int hn
  by_cases c1 : i < 0
  · exact Or.inr ⟨Or.inl c1, fun h => h.1 c1⟩
  · by_cases c2 : nI n ≤ i
    · refine Or.inr ⟨Or.inr ⟨c1, c2⟩, fun h => ?_⟩
      have h2 := h.2
      rw [Int32.lt_iff_toInt_lt] at h2
      rw [Int32.le_iff_toInt_le] at c2
      omega
    · rw [Int32.lt_iff_toInt_lt] at c1
      rw [Int32.le_iff_toInt_le] at c2
      refine Or.inl ⟨i.toInt.toNat, by omega, ?_⟩
      apply Int32.toInt_inj.mp
      rw [nI_int (by omega)]
      omega
theorem nI_n0 {j : Nat} (h : j < 2147483648) : ¬ nI j < 0 := fun q => by
  rw [Int32.lt_iff_toInt_lt, nI_int h] at q
  have e0 : (0 : Int32).toInt = 0 := by decide
  omega
theorem lN_32 {u : Nat} (h : u < 2147483648) : (lN u).toInt32 = nI u := by
  apply Int32.toInt_inj.mp
  rw [Int64.toInt_toInt32, fl_lI (by omega), nI_int h]
  apply Int.bmod_eq_of_le <;> omega
section N
variable {w : Nat → Nat → Nat} {B : Nat} {S : CS} {M : MS}
theorem c_has (R : Rel w B S M) {t : Nat} (h1 : t ≠ 0) (h2 : t ≤ nT M) (hk : kN M t ≤ 10) (i : Int32) : fX8_has S (some (w 0 t)) i = some (if (∃ j, j < sN M t ∧ i = nI j) then 1 else 0, S) := by
  have hr := c_row R h1 h2 hk
  obtain ⟨f1_, g1_, b1_, b2_⟩ := rl_row R h1 h2 hk
  unfold fX8_has fX8_has_16
  rw [hr.2.1, Option.bind_some]
  rcases ix_c i (n := sN M t) (by omega) with ⟨j1_, q1_, q2_⟩ | ⟨q1_, q2_⟩
  · rw [if_pos (show ∃ j, j < sN M t ∧ i = nI j from ⟨j1_, q1_, q2_⟩), q2_, if_neg (nI_n0 (by omega)), if_neg (fun h => by have := (nI_leI (a := sN M t) (b := j1_) (by omega) (by omega)).mp h; omega)]
  · rw [if_neg (show ¬ ∃ j, j < sN M t ∧ i = nI j from fun h => by
      obtain ⟨j1_, p1_, p2_⟩ := h
      refine q2_ ⟨by rw [p2_]; exact nI_n0 (by omega), ?_⟩
      rw [p2_]
      exact (nI_ltI (by omega) (by omega)).mpr p1_)]
    rcases q1_ with q3_ | ⟨q3_, q4_⟩
    · rw [if_pos q3_]
    · rw [if_neg q3_, if_pos q4_]
theorem c_holds (R : Rel w B S M) {t : Nat} (h1 : t ≠ 0) (h2 : t ≤ nT M) (hk : kN M t ≤ 10) : fX8_holdsThings S (some (w 0 t)) = some (if kN M t < 8 then 0 else 1, S) := by
  have hr := c_row R h1 h2 hk
  unfold fX8_holdsThings
  rw [hr.1, Option.bind_some]
  by_cases c : kN M t < 8
  · rw [if_pos c, if_pos (show nI (kN M t) < 8 from (nI_ltI (b := 8) (by omega) (by decide)).mpr c)]
  · rw [if_neg c, if_neg (show ¬ nI (kN M t) < 8 from fun h => c ((nI_ltI (b := 8) (by omega) (by decide)).mp h))]
theorem c_pass (R : Rel w B S M) {t : Nat} (h1 : t ≠ 0) (h2 : t ≤ nT M) (hk : kN M t ≤ 10) {v : Nat} (hv : v ≤ 10) : fX8_passesFor S (some (w 0 t)) (nI v) = some (if kN M t = v ∨ (v = 8 ∧ kN M t = 9) then 1 else 0, S) := by
  have hr := c_row R h1 h2 hk
  unfold fX8_passesFor fX8_passesFor_23 fX8_passesFor_27
  rw [hr.1, Option.bind_some, Option.bind_some]
  have e1 : nI (kN M t) = nI v ↔ kN M t = v := nI_inj (by omega) (by omega)
  have e2 : nI v = 8 ↔ v = 8 := nI_inj (b := 8) (by omega) (by decide)
  have e3 : nI (kN M t) = 9 ↔ kN M t = 9 := nI_inj (b := 9) (by omega) (by decide)
  by_cases c1 : kN M t = v
  · rw [if_pos (e1.mpr c1), if_pos (Or.inl c1)]
  · rw [if_neg (show ¬ nI (kN M t) = nI v from fun h => c1 (e1.mp h))]
    by_cases c2 : v = 8
    · rw [if_pos (e2.mpr c2)]
      by_cases c3 : kN M t = 9
      · rw [if_pos (e3.mpr c3), if_pos (Or.inr ⟨c2, c3⟩)]
      · rw [if_neg (show ¬ nI (kN M t) = 9 from fun h => c3 (e3.mp h)), if_neg (fun h => h.elim c1 (fun q => c3 q.2))]
    · rw [if_neg (show ¬ nI v = 8 from fun h => c2 (e2.mp h)), if_neg (fun h => h.elim c1 (fun q => c2 q.1))]
theorem rl_in1 (R : Rel w B S M) {t : Nat} (h1 : t ≠ 0) (h2 : t ≤ nT M) (hk : kN M t ≤ 10) : w 1 t ∈ cLs S ∧ w 2 t ∈ cLs S := ⟨R.2.2.2.2.2.2.1.1 1 t (by omega) h2 (Or.inr (Or.inl ⟨rfl, Or.inl hk⟩)), R.2.2.2.2.2.2.1.1 2 t (by omega) h2 (Or.inr (Or.inr ⟨rfl, hk⟩))⟩
theorem arJ_at {a n : Nat} {f : Nat → Int64} (h : a ∈ cLs S) (e : cH S a = .inl (n, .inr (.inl f))) : arJ S (some a) = some (a, n, f) := by
  unfold arJ
  simp only
  rw [if_pos h, e]
theorem arQ_at {a n : Nat} {f : Nat → Option Nat} (h : a ∈ cLs S) (e : cH S a = .inl (n, .inr (.inr (.inr (.inr f))))) : arQ S (some a) = some (a, n, f) := by
  unfold arQ
  simp only
  rw [if_pos h, e]
theorem arI_at {a n : Nat} {f : Nat → Int32} (h : a ∈ cLs S) (e : cH S a = .inl (n, .inl f)) : arI S (some a) = some (a, n, f) := by
  unfold arI
  simp only
  rw [if_pos h, e]
theorem tlen_at {a n : Nat} {q : vp_A} (h : a ∈ cLs S) (e : cH S a = .inl q) (hn : q.1 = n) : tlen S (some a) = some (nI n) := by
  unfold tlen
  simp only
  rw [if_pos h, e, ← hn]
  rfl
theorem c_value (R : Rel w B S M) {t : Nat} (h1 : t ≠ 0) (h2 : t ≤ nT M) (hk : kN M t < 8) {f : Nat → Int64} (e : cH S (w 1 t) = .inl (sN M t, .inr (.inl f))) (hs : sN M t ≤ 64) {j : Nat} (hj : j < sN M t) : fX8_valueAt S (some (w 0 t)) (nI j) = some (f j, S) := by
  have hr := c_row R h1 h2 (by omega)
  have hi := rl_in1 R h1 h2 (by omega)
  unfold fX8_valueAt
  rw [if_neg (nI_n0 (by omega)), hr.2.2.1, Option.bind_some, tlen_at hi.1 e rfl, Option.bind_some, if_neg (fun h => by have := (nI_leI (a := sN M t) (b := j) (by omega) (by omega)).mp h; omega), Option.bind_some]
  unfold talJ
  rw [arJ_at hi.1 e, Option.bind_some]
  simp only
  rw [if_pos (inb_nI (by omega) hj), ix_nI (by omega)]
  rfl
theorem c_part (R : Rel w B S M) {t : Nat} (h1 : t ≠ 0) (h2 : t ≤ nT M) (hk : 8 ≤ kN M t ∧ kN M t ≤ 10) {g : Nat → Option Nat} (e : cH S (w 2 t) = .inl (sN M t, .inr (.inr (.inr (.inr g))))) (hs : sN M t ≤ 64) {j : Nat} (hj : j < sN M t) : fX8_partAt S (some (w 0 t)) (nI j) = some (g j, S) := by
  have hr := c_row R h1 h2 hk.2
  have hi := rl_in1 R h1 h2 hk.2
  unfold fX8_partAt
  rw [if_neg (nI_n0 (by omega)), hr.2.2.2, Option.bind_some, tlen_at hi.2 e rfl, Option.bind_some, if_neg (fun h => by have := (nI_leI (a := sN M t) (b := j) (by omega) (by omega)).mp h; omega), Option.bind_some]
  unfold talQ
  rw [arQ_at hi.2 e, Option.bind_some]
  simp only
  rw [if_pos (inb_nI (by omega) hj), ix_nI (by omega)]
  rfl
theorem m_pl (R : Rel w B S M) {t : Nat} (h1 : t ≠ 0) (h2 : t ≤ nT M) {j : Nat} (hj : j < sN M t) : inb (gA M 8 t + nI j) (mlB 9) = true ∧ ix (gA M 8 t + nI j) = fN M t + j := by
  have hs := rl_sN R h1 h2
  have e : gA M 8 t + nI j = nI (fN M t + j) := by
    rw [hs.2.1, iZ_nI, iZ_nI, iZ_nI, iZ_add]
    congr 1
  rw [e]
  exact ⟨inb_nI (by omega) (by show fN M t + j < 256000; omega), ix_nI (by omega)⟩
theorem sim_load (R : Rel w B S M) {v : Nat} (hv : v ≤ 10) (a b c : Int32) : Sim w B S M (fX11_load S (nI v) a b c) (fX12_loads M (nI v) (a &&& 15) b c) := by
  obtain ⟨t, h2, e1_, e2_⟩ := rl_slot R b
  have hK := m_kindOf R b e1_ h2
  have h4 := rl_4000 R
  unfold fX11_load fX12_loads fX11_load_18 fX12_loads_34 fX12_loads_53
  rw [if_pos (show nI v ≤ 10 from (nI_leI (b := 10) (by omega) (by decide)).mpr hv), c_thgAt, Option.bind_some, hK, Option.bind_some]
  simp only [e2_, if_pos (inb5 b), if_pos (inb3 c)]
  by_cases ct : t = 0
  · subst ct
    rw [if_pos rfl, if_pos rfl]
    exact sim_err R 1 (by decide)
  · have hk := rl_kN R ct h2
    rw [if_neg ct, onul_r ct, rfn_s w ct, if_neg (nI_nm (by omega)), if_neg (nI_nm (by omega)), c_inst R ct h2 _ _ inst5, Option.bind_some, c_cast R ct h2, c_isKx R ct h2]
    have e1 : nI (kN M t) = nI v ↔ kN M t = v := nI_inj (by omega) (by omega)
    have e2 : nI v = 8 ↔ v = 8 := nI_inj (b := 8) (by omega) (by decide)
    have e3 : nI (kN M t) = 9 ↔ kN M t = 9 := nI_inj (b := 9) (by omega) (by decide)
    have eM : ∀ X : Option (Int32 × MS), (if nI (kN M t) = nI v then X else (if nI v = 8 then (if nI (kN M t) = 9 then X else fX12_loads_32 M) else fX12_loads_32 M)) = if kN M t = v ∨ (v = 8 ∧ kN M t = 9) then X else some (2, M) := by
      intro X
      unfold fX12_loads_32
      by_cases c1 : kN M t = v
      · rw [if_pos (e1.mpr c1), if_pos (Or.inl c1)]
      · rw [if_neg (show ¬ nI (kN M t) = nI v from fun h => c1 (e1.mp h))]
        by_cases c2 : v = 8
        · rw [if_pos (e2.mpr c2)]
          by_cases c3 : kN M t = 9
          · rw [if_pos (e3.mpr c3), if_pos (Or.inr ⟨c2, c3⟩)]
          · rw [if_neg (show ¬ nI (kN M t) = 9 from fun h => c3 (e3.mp h)), if_neg (fun h => h.elim c1 (fun q => c3 q.2))]
        · rw [if_neg (show ¬ nI v = 8 from fun h => c2 (e2.mp h)), if_neg (fun h => h.elim c1 (fun q => c2 q.1))]
    rw [eM]
    by_cases c1 : kN M t ≤ 10
    · rw [if_pos (tag5.mpr c1), if_neg (show ¬ (1 : Int32) = 0 by decide), if_pos (tag5.mpr c1), if_pos (tag5.mpr c1), c_pass R ct h2 c1 hv, Option.bind_some]
      by_cases c2 : kN M t = v ∨ (v = 8 ∧ kN M t = 9)
      · rw [if_pos c2, if_pos c2, if_neg (show ¬ (1 : Int32) = 0 by decide), c_numAt, Option.bind_some, rl_num R c]
        have e5 : gA M 5 (ix (b &&& 15)) = nI t := e1_
        have e6 : gB M 3 (ix (c &&& 15)) = gB M 3 (ra c) := rfl
        rw [e5, e6]
        generalize (gB M 3 (ra c)).toInt32 = i
        unfold fX11_load_63 fX12_loads_66 fX12_loads_83
        have hs := rl_sN R ct h2
        obtain ⟨f1_, g1_, b1_, b2_, b3_, b4_, b5_⟩ := rl_row R ct h2 c1
        rw [c_isKx R ct h2, if_pos (tag5.mpr c1), c_has R ct h2 c1, Option.bind_some, ix_nI (by omega), if_pos (show inb (nI t) (mlA 7) = true from inb_nI (by omega) (by show t < 4001; omega)), if_pos (show inb (nI t) (mlA 8) = true from inb_nI (by omega) (by show t < 4001; omega)), hs.1]
        rcases ix_c i (n := sN M t) (by omega) with ⟨j1_, q1_, q2_⟩ | ⟨q1_, q2_⟩
        · rw [if_pos (show ∃ j, j < sN M t ∧ i = nI j from ⟨j1_, q1_, q2_⟩), q2_, if_neg (show ¬ (1 : Int32) = 0 by decide), if_neg (nI_n0 (by omega)), if_pos (show nI j1_ < nI (sN M t) from (nI_ltI (by omega) (by omega)).mpr q1_)]
          simp only
          rw [c_isKx R ct h2, if_pos (tag5.mpr c1), c_holds R ct h2 c1, Option.bind_some, if_pos (m_pl R ct h2 q1_).1, (m_pl R ct h2 q1_).2]
          simp only
          rw [c_isKx R ct h2, if_pos (tag5.mpr c1)]
          unfold fX12_loads_102 fX12_loads_116 fX12_loads_133 fX12_loads_145
          rw [if_pos (inb5 a), if_pos (inb4 a), if_pos (inb3 a)]
          have k6 : (6 : Int32) ≤ nI v ↔ 6 ≤ v := nI_leI (a := 6) (by decide) (by omega)
          have k8 : (8 : Int32) ≤ nI v ↔ 8 ≤ v := nI_leI (a := 8) (by decide) (by omega)
          have j6 : nI v = 6 ↔ v = 6 := nI_inj (b := 6) (by omega) (by decide)
          have j7 : nI v = 7 ↔ v = 7 := nI_inj (b := 7) (by omega) (by decide)
          have hp := b5_ j1_ q1_
          by_cases c8 : kN M t < 8
          · have ev : kN M t = v := by omega
            rw [if_pos c8] at b3_
            rw [if_pos c8, if_pos rfl, c_value R ct h2 c8 b3_ b1_ q1_, Option.bind_some, Option.bind_some, Option.bind_some, c_giveMea, c_giveMea, c_giveNum, Option.bind_some, Option.bind_some, Option.bind_some]
            rcases hp with ⟨p1_, p2_⟩ | ⟨p1_, x1_, p2_, p3_, p4_⟩ | ⟨p1_, p2_, p3_⟩ | ⟨p1_, p2_⟩
            · rw [if_neg (show ¬ nI v = 6 from fun h => by have := j6.mp h; omega), if_neg (show ¬ nI v = 7 from fun h => by have := j7.mp h; omega), if_neg (show ¬ 6 ≤ nI v from fun h => by have := k6.mp h; omega), p2_]
              rw [if_pos (tag5.mpr c1)]
              exact sim_num R _ _
            · rw [if_pos (j6.mpr (by omega)), if_pos (k6.mpr (by omega)), if_neg (show ¬ 8 ≤ nI v from fun h => by have := k8.mp h; omega), p3_, p4_, Int32.toInt32_toInt64]
              exact sim_mea R _ (can_ofb _) (mEq_refl M)
            · rw [if_neg (show ¬ nI v = 6 from fun h => by have := j6.mp h; omega), if_pos (j7.mpr (by omega)), if_pos (k6.mpr (by omega)), if_neg (show ¬ 8 ≤ nI v from fun h => by have := k8.mp h; omega), p2_]
              rw [if_pos (tag5.mpr c1)]
              exact sim_mea R _ p3_ (mEq_refl M)
            · omega
          · rw [if_neg c8] at b4_
            have hv8 : 8 ≤ v := by omega
            rcases hp with ⟨p1_, p2_⟩ | ⟨p1_, p2_⟩ | ⟨p1_, p2_⟩ | ⟨p1_, u1_, p2_, p3_, p4_, p5_⟩
            · omega
            · omega
            · omega
            · rw [if_neg c8, if_neg (show ¬ (1 : Int32) = 0 by decide), c_part R ct h2 ⟨by omega, c1⟩ b4_ b1_ q1_, Option.bind_some, p4_, c_giveThg S a _ (c_stK R p2_), Option.bind_some, if_pos (k6.mpr (by omega)), if_pos (k8.mpr hv8), p3_, lN_32 (by omega)]
              rw [if_pos (tag5.mpr c1)]
              exact sim_slt R _ p2_
        · rw [if_neg (show ¬ ∃ j, j < sN M t ∧ i = nI j from fun h => by
            obtain ⟨j1_, p1_, p2_⟩ := h
            refine q2_ ⟨by rw [p2_]; exact nI_n0 (by omega), ?_⟩
            rw [p2_]
            exact (nI_ltI (by omega) (by omega)).mpr p1_), if_pos rfl]
          rcases q1_ with q3_ | ⟨q3_, q4_⟩
          · rw [if_pos q3_]
            exact sim_err R 3 (by decide)
          · rw [if_neg q3_, if_neg (show ¬ i < nI (sN M t) from fun h => q2_ ⟨q3_, h⟩)]
            exact sim_err R 3 (by decide)
      · rw [if_neg c2, if_neg c2, if_pos rfl]
        exact sim_err R 2 (by decide)
    · rw [if_neg (show ¬ [5].contains (tagK (kN M t)) = true from fun h => c1 (tag5.mp h)), if_pos rfl, if_neg (fun h => by omega)]
      exact sim_err R 2 (by decide)
end N
