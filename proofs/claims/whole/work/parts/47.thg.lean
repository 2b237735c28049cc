/-! things, as class and reference have them -/
def tagK (k : Nat) : Nat := if k ≤ 10 then 5 else if k = 11 then 2 else if k = 12 then 1 else if k = 13 then 0 else if k = 14 then 4 else if k = 15 then 6 else 3
theorem isK_at {S : CS} {a c : Nat} {fs : List Value} (h : a ∈ cLs S) (e : cH S a = .inr (c, fs)) (cs : List Nat) : isK S a cs = cs.contains c := by
  unfold isK
  rw [e]
  simp [h]
theorem tF_at {S : CS} {a c : Nat} {fs : List Value} (h : a ∈ cLs S) (e : cH S a = .inr (c, fs)) {cs : List Nat} (hc : cs.contains c = true) (k : Nat) : tF S (some a) cs k = fs[k]? := by
  unfold tF
  simp only
  rw [isK_at h e, if_pos hc, e]
theorem tp_at {S : CS} {a c : Nat} {fs : List Value} (h : a ∈ cLs S) (e : cH S a = .inr (c, fs)) {cs : List Nat} (hc : cs.contains c = true) {k : Nat} (hk : k < fs.length) (v : Value) : tp S (some a) cs k v = some (cpH S a (.inr (c, fs.set k v))) := by
  unfold tp
  simp only
  rw [isK_at h e, if_pos hc, e]
  simp only
  rw [if_pos hk]
section N
variable {w : Nat → Nat → Nat} {B : Nat} {S : CS} {M : MS}
theorem rl_slot (R : Rel w B S M) (r : Int32) : ∃ t, t ≤ nT M ∧ gA M 5 (ra r) = nI t ∧ cSl S (ra r) = rfn w t := R.2.2.1 _ (ra_lt r)
theorem rl_4000 (R : Rel w B S M) : nT M ≤ 4000 := R.2.2.2.1.2.1
theorem rl_th (R : Rel w B S M) {t : Nat} (h1 : t ≠ 0) (h2 : t ≤ nT M) : Th w B (cH S) M t := R.2.2.2.2.2.2.2 t (by omega) h2
theorem rl_in (R : Rel w B S M) {t : Nat} (h1 : t ≠ 0) (h2 : t ≤ nT M) : w 0 t ∈ cLs S := R.2.2.2.2.2.2.1.1 0 t (by omega) h2 (Or.inl rfl)
theorem rl_kN (R : Rel w B S M) {t : Nat} (h1 : t ≠ 0) (h2 : t ≤ nT M) : gA M 6 t = nI (kN M t) ∧ kN M t ≤ 16 := ⟨(rl_th R h1 h2).1.1, (rl_th R h1 h2).1.2.1⟩
theorem rl_tag (R : Rel w B S M) {t : Nat} (h1 : t ≠ 0) (h2 : t ≤ nT M) : ∃ fs, cH S (w 0 t) = .inr (tagK (kN M t), fs) := by
  obtain ⟨h3, hr⟩ := rl_th R h1 h2
  unfold tagK
  rcases hr with ⟨k1_, f1_, g1_, b1_, b2_, b3_⟩ | ⟨k1_, x1_⟩ | ⟨k1_, m1_, b1_, b2_, b3_, b4_⟩ | ⟨k1_, m1_, f1_, b1_, b2_, b3_, b4_, b5_⟩
  · exact ⟨_, by rw [if_pos k1_]; exact b2_⟩
  · obtain ⟨b1_, b2_⟩ := x1_
    rcases k1_ with k1_ | k1_
    · exact ⟨_, by rw [b1_, k1_, if_pos rfl]; rfl⟩
    · exact ⟨_, by rw [b1_, k1_, if_neg (by decide)]; rfl⟩
  · have h4 : kN M t = 13 ∨ kN M t = 14 ∨ kN M t = 15 := by omega
    have e : axT (kN M t) = (if kN M t ≤ 10 then 5 else if kN M t = 11 then 2 else if kN M t = 12 then 1 else if kN M t = 13 then 0 else if kN M t = 14 then 4 else if kN M t = 15 then 6 else 3) := by
      rcases h4 with h4 | h4 | h4 <;> rw [h4] <;> rfl
    exact ⟨_, by rw [b3_, e]⟩
  · exact ⟨_, by rw [b4_, k1_]; rfl⟩
theorem c_isK (R : Rel w B S M) {t : Nat} (h1 : t ≠ 0) (h2 : t ≤ nT M) (cs : List Nat) : isK S (w 0 t) cs = cs.contains (tagK (kN M t)) := by
  obtain ⟨fs1_, e1_⟩ := rl_tag R h1 h2
  exact isK_at (rl_in R h1 h2) e1_ cs
theorem c_isKx (R : Rel w B S M) {t : Nat} (h1 : t ≠ 0) (h2 : t ≤ nT M) (cs : List Nat) : isKx S (some (w 0 t)) cs = cs.contains (tagK (kN M t)) := c_isK R h1 h2 cs
theorem c_cast (R : Rel w B S M) {t : Nat} (h1 : t ≠ 0) (h2 : t ≤ nT M) (cs : List Nat) : cCast S (some (w 0 t)) cs = cs.contains (tagK (kN M t)) := c_isK R h1 h2 cs
theorem tag_lt (k : Nat) : tagK k < 7 := by
  unfold tagK
  repeat' split
  all_goals omega
theorem c_inst (R : Rel w B S M) {t : Nat} (h1 : t ≠ 0) (h2 : t ≤ nT M) (ys ns : List Nat) (hc : ∀ c, c < 7 → ys.contains c = true ∨ ns.contains c = true) : cInst S (some (w 0 t)) ys ns = some (if ys.contains (tagK (kN M t)) = true then 1 else 0) := by
  unfold cInst
  simp only
  rw [c_isK R h1 h2, c_isK R h1 h2]
  split
  · rfl
  · rename_i hn
    rcases hc _ (tag_lt (kN M t)) with h | h
    · exact absurd h hn
    · rw [if_pos h]
theorem c_stK (R : Rel w B S M) {t : Nat} (h2 : t ≤ nT M) : stK S (rfn w t) = true := by
  by_cases h1 : t = 0
  · rw [h1]; rfl
  · rw [rfn_s w h1]
    show isK S (w 0 t) thK = true
    rw [c_isK R h1 h2]
    have : ∀ c, c < 7 → thK.contains c = true := by decide
    exact this _ (tag_lt _)
theorem inst5 : ∀ c, c < 7 → [5].contains c = true ∨ [0, 1, 2, 3, 4, 6].contains c = true := by decide
theorem tag5 {k : Nat} : [5].contains (tagK k) = true ↔ k ≤ 10 := by
  unfold tagK
  by_cases c : k ≤ 10
  · rw [if_pos c]; simp [c]
  · rw [if_neg c]
    constructor
    · intro h
      exfalso
      revert h
      repeat' split
      all_goals decide
    · intro h; exact absurd h c
theorem m_kindOf (R : Rel w B S M) (r : Int32) {t : Nat} (h : gA M 5 (ra r) = nI t) (h2 : t ≤ nT M) : fX12_kindOf M r = some (if t = 0 then (-1) else nI (kN M t), M) := by
  unfold fX12_kindOf
  have e : gA M 5 (ix (r &&& 15)) = nI t := h
  have h4 := rl_4000 R
  rw [if_pos (inb5 r), e]
  by_cases c : t = 0
  · rw [c, if_pos (show nI 0 = 0 from rfl), if_pos rfl]
  · have hn : ¬ nI t = 0 := fun q => by
      have := ix_nI (n := t) (by omega)
      rw [q] at this
      exact c this.symm
    rw [if_neg hn, if_neg c, if_pos (inb5 r), if_pos (show inb (nI t) (mlA 6) = true from inb_nI (by omega) (by show t < 4001; omega)), ix_nI (by omega), (rl_kN R c h2).1]
theorem nI_inj {a b : Nat} (ha : a < 2147483648) (hb : b < 2147483648) : nI a = nI b ↔ a = b := by
  constructor
  · intro h
    have := ix_nI ha
    rw [h, ix_nI hb] at this
    exact this.symm
  · intro h; rw [h]
theorem nI_nm {a : Nat} (ha : a < 2147483648) : ¬ nI a = (-1) := fun h => by
  have h1 := nI_int ha
  rw [h] at h1
  have : (-1 : Int32).toInt = -1 := by decide
  omega
theorem m_isRow {k : Nat} (hk : k ≤ 16) : fX12_isRow (nI k) = if k ≤ 10 then 1 else 0 := by
  unfold fX12_isRow fX12_isRow_14
  rw [if_neg (show ¬ nI k < 0 from fun h => by have := (nI_ltI (a := k) (b := 0) (by omega) (by decide)).mp h; omega)]
  by_cases c : k ≤ 10
  · rw [if_pos c, if_neg (show ¬ (10 : Int32) < nI k from fun h => by have := (nI_ltI (a := 10) (b := k) (by decide) (by omega)).mp h; omega)]
  · rw [if_neg c, if_pos (show (10 : Int32) < nI k from (nI_ltI (a := 10) (b := k) (by decide) (by omega)).mpr (by omega))]
theorem m_isPose {k : Nat} (hk : k ≤ 16) : fX12_isPose (nI k) = if k = 11 ∨ k = 12 then 1 else 0 := by
  unfold fX12_isPose fX12_isPose_12
  have h1 : nI k = 11 ↔ k = 11 := nI_inj (b := 11) (by omega) (by decide)
  have h2 : nI k = 12 ↔ k = 12 := nI_inj (b := 12) (by omega) (by decide)
  by_cases c1 : k = 11
  · rw [if_pos (h1.mpr c1), if_pos (Or.inl c1)]
  · rw [if_neg (show ¬ nI k = 11 from fun h => c1 (h1.mp h))]
    by_cases c2 : k = 12
    · rw [if_pos (h2.mpr c2), if_pos (Or.inr c2)]
    · rw [if_neg (show ¬ nI k = 12 from fun h => c2 (h2.mp h)), if_neg (fun h => h.elim c1 c2)]
/-- a row's parts -/
theorem rl_row (R : Rel w B S M) {t : Nat} (h1 : t ≠ 0) (h2 : t ≤ nT M) (hk : kN M t ≤ 10) : thRow w (cH S) M t := by
  obtain ⟨h3, hr⟩ := rl_th R h1 h2
  rcases hr with ⟨k1_, x1_⟩ | ⟨k1_, x1_⟩ | ⟨k1_, x1_⟩ | ⟨k1_, x1_⟩
  · exact x1_
  · omega
  · omega
  · omega
theorem rl_sN (R : Rel w B S M) {t : Nat} (h1 : t ≠ 0) (h2 : t ≤ nT M) : gA M 7 t = nI (sN M t) ∧ gA M 8 t = nI (fN M t) ∧ fN M t + sN M t ≤ 256000 := by
  obtain ⟨q1_, q2_, q3_, tk1_, q4_, q5_, q6_⟩ := R.2.2.2.1
  have h3 := (rl_th R h1 h2).1
  have := q6_ t (by omega) h2
  exact ⟨h3.2.2.1, h3.2.2.2, by omega⟩
theorem c_row (R : Rel w B S M) {t : Nat} (h1 : t ≠ 0) (h2 : t ≤ nT M) (hk : kN M t ≤ 10) : tgI S (some (w 0 t)) [5] 0 = some (nI (kN M t)) ∧ tgI S (some (w 0 t)) [5] 1 = some (nI (sN M t)) ∧ tgN S (some (w 0 t)) [5] 2 = some (some (w 1 t)) ∧ tgN S (some (w 0 t)) [5] 3 = some (some (w 2 t)) := by
  obtain ⟨f1_, g1_, b1_, b2_, b3_, b4_⟩ := rl_row R h1 h2 hk
  have hm := rl_in R h1 h2
  unfold tgI tgN
  rw [tF_at hm b2_ (by decide), tF_at hm b2_ (by decide), tF_at hm b2_ (by decide), tF_at hm b2_ (by decide)]
  exact ⟨rfl, rfl, rfl, rfl⟩
theorem onul_r {β : Type} {w : Nat → Nat → Nat} {t : Nat} (h : t ≠ 0) (A : β) (F : Nat → β) : onul (rfn w t) A F = F (w 0 t) := onul_s (rfn_s w h)
theorem sim_length (R : Rel w B S M) (a b : Int32) : Sim w B S M (fX11_tellLength S a (cSl S (ra b))) (Option.bind (fX12_kindOf M b) (fun c77 => if c77.1 = (-1) then fX12_rows_97 c77.2 a b else (Option.bind (fX12_kindOf c77.2 b) (fun c86 => if (fX12_isRow c86.1) = 0 then some (2, c86.2) else fX12_rows_97 c86.2 a b)))) := by
  obtain ⟨t, h2, e1_, e2_⟩ := rl_slot R b
  have hK := m_kindOf R b e1_ h2
  have h4 := rl_4000 R
  unfold fX11_tellLength fX12_rows_97 fX12_rows_132
  rw [e2_]
  simp only [hK, Option.bind_some]
  by_cases c : t = 0
  · subst c
    rw [if_pos rfl, if_pos rfl]
    exact sim_err R 1 (by decide)
  · rw [if_neg c, onul_r c, rfn_s w c]
    have hk := rl_kN R c h2
    rw [if_neg (nI_nm (by omega)), c_inst R c h2 _ _ inst5, Option.bind_some, c_cast R c h2, c_isKx R c h2, m_isRow hk.2]
    by_cases c1 : kN M t ≤ 10
    · have hr := c_row R c h2 c1
      have hs := rl_sN R c h2
      rw [if_pos (tag5.mpr c1), if_pos c1, if_neg (show ¬ (1 : Int32) = 0 by decide), if_pos (tag5.mpr c1), if_pos (tag5.mpr c1), if_neg (show ¬ (1 : Int32) = 0 by decide), if_neg (nI_nm (by omega)), if_pos (inb5 b)]
      unfold fX8_length
      rw [hr.2.1, Option.bind_some, Option.bind_some, c_giveNum, Option.bind_some]
      have e5 : gA M 5 (ix (b &&& 15)) = nI t := e1_
      rw [e5, if_pos (show inb (nI t) (mlA 7) = true from inb_nI (by omega) (by show t < 4001; omega)), if_pos (inb3 a), ix_nI (by omega), hs.1]
      exact sim_num R _ _
    · rw [if_neg (show ¬ [5].contains (tagK (kN M t)) = true from fun h => c1 (tag5.mp h)), if_neg c1, if_pos rfl, if_pos rfl]
      exact sim_err R 2 (by decide)
end N
