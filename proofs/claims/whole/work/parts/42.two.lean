/-! measures of two; registers by their numbers -/
theorem fa_and (a b : Nat) : nI a &&& nI b = nI (a &&& b) := by
  apply Int32.toBitVec_inj.1
  show BitVec.ofNat 32 a &&& BitVec.ofNat 32 b = BitVec.ofNat 32 (a &&& b)
  apply BitVec.eq_of_getLsbD_eq
  intro i hi
  simp [hi]
theorem and_le (x : Int32) (m : Nat) : ∃ k, k ≤ m ∧ x &&& nI m = nI k := by
  obtain ⟨n1_, hn1_, rfl⟩ := wb_of32 x
  exact ⟨n1_ &&& m, Nat.and_le_right, fa_and n1_ m⟩
theorem and_7 (x : Int32) : ∃ k, k < 8 ∧ x &&& 7 = nI k := by
  obtain ⟨k1_, h1_, h2_⟩ := and_le x 7
  exact ⟨k1_, by omega, h2_⟩
theorem and_15 (x : Int32) : ∃ k, k < 16 ∧ x &&& 15 = nI k := by
  obtain ⟨k1_, h1_, h2_⟩ := and_le x 15
  exact ⟨k1_, by omega, h2_⟩
theorem and_3 (x : Int32) : ∃ k, k < 4 ∧ x &&& 3 = nI k := by
  obtain ⟨k1_, h1_, h2_⟩ := and_le x 3
  exact ⟨k1_, by omega, h2_⟩
theorem and_1 (x : Int32) : ∃ k, k < 2 ∧ x &&& 1 = nI k := by
  obtain ⟨k1_, h1_, h2_⟩ := and_le x 1
  exact ⟨k1_, by omega, h2_⟩
theorem and_255 (x : Int32) : ∃ k, k < 256 ∧ x &&& 255 = nI k := by
  obtain ⟨k1_, h1_, h2_⟩ := and_le x 255
  exact ⟨k1_, by omega, h2_⟩
theorem and_xx (x : Int32) : (x &&& 15) &&& 15 = x &&& 15 := by
  rw [Int32.and_assoc]
  rfl
theorem nI_int {n : Nat} (h : n < 2147483648) : (nI n).toInt = (n : Int) := by
  rw [iZ_nI]
  exact iZ_toInt (by omega) (by omega)
theorem ix_nI {n : Nat} (h : n < 2147483648) : ix (nI n) = n := by
  unfold ix
  rw [Int32.toNatClampNeg, nI_int h]
  simp
theorem inb_nI {n m : Nat} (h : n < 2147483648) (h2 : n < m) : inb (nI n) m = true := by
  unfold inb
  rw [nI_int h]
  simp
  omega
def ra (r : Int32) : Nat := ix (r &&& 15)
theorem ra_lt (r : Int32) : ra r < 16 := by
  obtain ⟨k1_, h1_, h2_⟩ := and_15 r
  unfold ra
  rw [h2_, ix_nI (by omega)]
  exact h1_
theorem ra_in (r : Int32) : inb (r &&& 15) 16 = true := by
  obtain ⟨k1_, h1_, h2_⟩ := and_15 r
  rw [h2_]
  exact inb_nI (by omega) h1_
theorem ra_ra (r : Int32) : ra (r &&& 15) = ra r := by
  unfold ra
  rw [and_xx]
theorem c_numAt (S : CS) (r : Int32) : fX7_numberAt S r = some (gB S.1 16 (ra r), S) := if_pos (ra_in r)
theorem c_meaAt (S : CS) (r : Int32) : fX7_measureAt S r = some (gB S.1 17 (ra r), S) := if_pos (ra_in r)
theorem c_thgAt (S : CS) (r : Int32) : fX7_thingAt S r = some (cSl S (ra r), S) := if_pos (ra_in r)
theorem c_setNum (S : CS) (r : Int32) (v : Int64) : fX7_setNumber S r v = some (cpB S 16 (ra r) v) := if_pos (ra_in r)
theorem c_setMea (S : CS) (r : Int32) (v : Int64) : fX7_setMeasure S r v = some (cpB S 17 (ra r) v) := if_pos (ra_in r)
theorem c_setThg (S : CS) (r : Int32) (x : Option Nat) (h : stK S x = true) : fX7_setThing S r x = some (cpS S (ra r) x) := if_pos ⟨ra_in r, h⟩
theorem c_giveNum (S : CS) (r : Int32) (v : Int64) : fX11_giveNumber S r v = some (0, cpB S 16 (ra r) v) := by
  unfold fX11_giveNumber
  rw [c_setNum]
  rfl
theorem c_giveMea (S : CS) (r : Int32) (v : Int64) : fX11_giveMeasure S r v = some (0, cpB S 17 (ra r) v) := by
  unfold fX11_giveMeasure
  rw [c_setMea]
  rfl
theorem c_giveThg (S : CS) (r : Int32) (x : Option Nat) (h : stK S x = true) : fX11_giveThing S r x = some (0, cpS S (ra r) x) := by
  unfold fX11_giveThing
  rw [c_setThg S r x h]
  rfl
def two64 (w : Int32) (b c a k : Int64) : Int64 := if w = 0 then fX2_greater b c else if w = 1 then fX2_lesser b c else if w = 2 then fX2_withSign b c else if w = 3 then fX2_add (fX2_multiply b c) a else if w = 4 then fX2_ofWhole ((fX2_rankOf b c).toInt64) else if w = 5 then fX2_scaled b k else if w = 6 then fX2_middle b c else b
theorem c_two (S : CS) (a : Int32) (b : Int64) (c : Int32) : fX11_ofTwo S a b c = some (two64 ((c >>> (4 &&& 31)) &&& 7) b (gB S.1 17 (ra c)) (gB S.1 17 (ra a)) (gB S.1 16 (ra c)), S) := by
  unfold fX11_ofTwo two64
  rw [c_meaAt, Option.bind_some]
  simp only [c_meaAt, c_numAt, Option.bind_some]
  obtain ⟨k1_, h1_, h2_⟩ := and_7 (c >>> (4 &&& 31))
  rw [h2_]
  have hk8 : k1_ = 0 ∨ k1_ = 1 ∨ k1_ = 2 ∨ k1_ = 3 ∨ k1_ = 4 ∨ k1_ = 5 ∨ k1_ = 6 ∨ k1_ = 7 := by omega
  rcases hk8 with h8 | h8 | h8 | h8 | h8 | h8 | h8 | h8 <;> subst h8 <;> rfl
theorem pr_any (S : MS) (w : Int32) (b c a k : Int64) : fX12_paired S w b c a k = fX12_paired_20 S w b c a k (if fX2_isLost b = 0 then (if fX2_isLost c = 0 then 0 else 1) else 1) := by
  unfold fX12_paired fX12_paired_15
  by_cases c1 : fX2_isLost b = 0
  · rw [if_pos (show fX12_isLost b = 0 from c1), if_pos c1]
    by_cases c2 : fX2_isLost c = 0
    · rw [if_pos (show fX12_isLost c = 0 from c2), if_pos c2]
    · rw [if_neg (show ¬ fX12_isLost c = 0 from c2), if_neg c2]
  · rw [if_neg (show ¬ fX12_isLost b = 0 from c1), if_neg c1]
theorem gt_x {b c : Int64} (h1 : fX2_isLost b = 0) (h2 : fX2_isLost c = 0) : fX2_greater b c = (if fX2_rankOf b c < 0 then c else b) ∧ fX2_lesser b c = (if 0 < fX2_rankOf b c then c else b) := by
  unfold fX2_greater fX2_lesser
  rw [if_pos h1, if_pos h2, if_pos h1, if_pos h2]
  exact ⟨rfl, rfl⟩
theorem gt_L {b c : Int64} (h : ¬ fX2_isLost b = 0 ∨ ¬ fX2_isLost c = 0) : fX2_greater b c = 9221120237041090560 ∧ fX2_lesser b c = 9221120237041090560 := by
  unfold fX2_greater fX2_lesser fX2_greater_14 fX2_lesser_14
  by_cases c1 : fX2_isLost b = 0
  · rcases h with h | h
    · exact absurd c1 h
    · rw [if_pos c1, if_neg h, if_pos c1, if_neg h]
      exact ⟨rfl, rfl⟩
  · rw [if_neg c1, if_neg c1]
    exact ⟨rfl, rfl⟩
theorem fl_pair (S : MS) {k : Nat} (hk : k < 8) (b c a v : Int64) (hb : can64 b) (hc : can64 c) : ∃ S', fX12_paired S (nI k) b c a v = some (two64 (nI k) b c a v, S') ∧ mEq S S' := by
  rw [pr_any]
  have hk8 : k = 0 ∨ k = 1 ∨ k = 2 ∨ k = 3 ∨ k = 4 ∨ k = 5 ∨ k = 6 ∨ k = 7 := by omega
  have hany : (fX2_isLost b = 0 ∧ fX2_isLost c = 0 ∧ (if fX2_isLost b = 0 then (if fX2_isLost c = 0 then (0 : Int32) else 1) else 1) = 0) ∨ ((¬ fX2_isLost b = 0 ∨ ¬ fX2_isLost c = 0) ∧ (if fX2_isLost b = 0 then (if fX2_isLost c = 0 then (0 : Int32) else 1) else 1) = 1) := by
    by_cases c1 : fX2_isLost b = 0
    · by_cases c2 : fX2_isLost c = 0
      · exact Or.inl ⟨c1, c2, by rw [if_pos c1, if_pos c2]⟩
      · exact Or.inr ⟨Or.inr c2, by rw [if_pos c1, if_neg c2]⟩
    · exact Or.inr ⟨Or.inl c1, by rw [if_neg c1]⟩
  have htot := fl_tot hb hc
  rcases hk8 with h8 | h8 | h8 | h8 | h8 | h8 | h8 | h8 <;> subst h8
  · refine ⟨S, ?_, mEq_refl S⟩
    rcases hany with ⟨c1_, c2_, e1_⟩ | ⟨c1_, e1_⟩
    · rw [e1_]
      show (if (0 : Int32) = 0 then (if (fX12_total b c) < 0 then some (c, S) else some (b, S)) else some (9221120237041090560, S)) = some (fX2_greater b c, S)
      rw [if_pos rfl, htot, (gt_x c1_ c2_).1]
      split <;> rfl
    · rw [e1_]
      show some (9221120237041090560, S) = some (fX2_greater b c, S)
      rw [(gt_L c1_).1]
  · refine ⟨S, ?_, mEq_refl S⟩
    rcases hany with ⟨c1_, c2_, e1_⟩ | ⟨c1_, e1_⟩
    · rw [e1_]
      show (if (0 : Int32) = 0 then (if 0 < (fX12_total b c) then some (c, S) else some (b, S)) else some (9221120237041090560, S)) = some (fX2_lesser b c, S)
      rw [if_pos rfl, htot, (gt_x c1_ c2_).2]
      split <;> rfl
    · rw [e1_]
      show some (9221120237041090560, S) = some (fX2_lesser b c, S)
      rw [(gt_L c1_).2]
  · refine ⟨S, ?_, mEq_refl S⟩
    show (if (fX12_isLost b) = 0 then (if (fX12_isLost c) = 0 then some ((b &&& 9223372036854775807) ||| (c &&& (-9223372036854775808)), S) else some ((b &&& 9223372036854775807) ||| 0, S)) else some (9221120237041090560, S)) = some (fX2_withSign b c, S)
    unfold fX2_withSign fX2_magnitude fX2_signBit
    by_cases c1 : fX2_isLost b = 0
    · rw [if_pos (show fX12_isLost b = 0 from c1), if_pos c1]
      rcases hc with c2_ | c2_
      · rw [if_pos (show fX12_isLost c = 0 from c2_)]
      · subst c2_
        rw [if_neg (show ¬ fX12_isLost 9221120237041090560 = 0 from lost_L)]
        rfl
    · rw [if_neg (show ¬ fX12_isLost b = 0 from c1), if_neg c1]
  · obtain ⟨S1_, e1_, e2_⟩ := fl_prod S b c
    refine ⟨S1_, ?_, e2_⟩
    show (Option.bind (fX12_product S b c) (fun c160 => Option.bind (fX12_sum c160.1 a) (fun c165 => some (c165, c160.2)))) = some (fX2_add (fX2_multiply b c) a, S1_)
    rw [e1_, Option.bind_some, fl_sum]
    rfl
  · refine ⟨S, ?_, mEq_refl S⟩
    show (Option.bind (fX12_number ((fX12_total b c).toInt64)) (fun c176 => some (c176, S))) = some (fX2_ofWhole ((fX2_rankOf b c).toInt64), S)
    rw [fl_number, htot]
    rfl
  · refine ⟨S, ?_, mEq_refl S⟩
    show (if (-3000) ≤ v then (if v ≤ 3000 then fX12_paired_214 S b v.toInt32 else fX12_paired_214 S b 3000) else fX12_paired_214 S b (-3000)) = some (fX2_scaled b v, S)
    obtain ⟨k1_, h1_, h2_, h3_, h4_⟩ := mxmn v
    have e : (if (-3000) ≤ v then (if v ≤ 3000 then fX12_paired_214 S b v.toInt32 else fX12_paired_214 S b 3000) else fX12_paired_214 S b (-3000)) = fX12_paired_214 S b (iZ k1_) := by
      rw [← h4_]
      split
      · split <;> rfl
      · rfl
    rw [e]
    unfold fX12_paired_214 fX2_scaled fX2_scaled_21
    rw [fl_scaled ⟨h1_, h2_⟩ hb, h3_]
    rfl
  · rcases hany with ⟨c1_, c2_, e1_⟩ | ⟨c1_, e1_⟩
    · obtain ⟨S1_, g1_, g2_⟩ := fl_prod S (fX2_add b c) 4602678819172646912
      refine ⟨S1_, ?_, g2_⟩
      rw [e1_]
      show (if (0 : Int32) = 0 then (Option.bind (fX12_sum b c) (fun c243 => Option.bind (fX12_product S c243 4602678819172646912) (fun c249 => some (c249.1, c249.2)))) else (if (fX12_isLost b) = 0 then some (b, S) else some (c, S))) = some (fX2_middle b c, S1_)
      rw [if_pos rfl, fl_sum, Option.bind_some, g1_, Option.bind_some]
      unfold fX2_middle
      rw [if_pos c1_, if_pos c2_]
    · refine ⟨S, ?_, mEq_refl S⟩
      rw [e1_]
      show (if (fX12_isLost b) = 0 then some (b, S) else some (c, S)) = some (fX2_middle b c, S)
      unfold fX2_middle
      by_cases c1 : fX2_isLost b = 0
      · rw [if_pos (show fX12_isLost b = 0 from c1), if_pos c1]
        rcases c1_ with c3_ | c3_
        · exact absurd c1 c3_
        · rw [if_neg c3_]
      · rw [if_neg (show ¬ fX12_isLost b = 0 from c1), if_neg c1]
  · exact ⟨S, rfl, mEq_refl S⟩
theorem can_two {k : Nat} (hk : k < 8) {b c a v : Int64} (hb : can64 b) (hc : can64 c) (ha : can64 a) : can64 (two64 (nI k) b c a v) := by
  have hk8 : k = 0 ∨ k = 1 ∨ k = 2 ∨ k = 3 ∨ k = 4 ∨ k = 5 ∨ k = 6 ∨ k = 7 := by omega
  have hg : can64 (fX2_greater b c) ∧ can64 (fX2_lesser b c) := by
    by_cases c1 : fX2_isLost b = 0
    · by_cases c2 : fX2_isLost c = 0
      · rw [(gt_x c1 c2).1, (gt_x c1 c2).2]
        constructor
        · split
          · exact hc
          · exact hb
        · split
          · exact hc
          · exact hb
      · rw [(gt_L (Or.inr c2)).1, (gt_L (Or.inr c2)).2]
        exact ⟨can64_L, can64_L⟩
    · rw [(gt_L (Or.inl c1)).1, (gt_L (Or.inl c1)).2]
      exact ⟨can64_L, can64_L⟩
  rcases hk8 with h8 | h8 | h8 | h8 | h8 | h8 | h8 | h8 <;> subst h8
  · exact hg.1
  · exact hg.2
  · show can64 (fX2_withSign b c)
    unfold fX2_withSign fX2_magnitude fX2_signBit
    by_cases c1 : fX2_isLost b = 0
    · rw [if_pos c1]
      obtain ⟨s1_, a1_, ha1_, rfl⟩ := sx_of b
      obtain ⟨s2_, a2_, ha2_, rfl⟩ := sx_of c
      rw [sx_mag ha1_, sx_sgn ha2_, Int64.or_comm, sx_or ha1_]
      exact shp_can (shp_r ((sx_lost ha1_).1.mp c1))
    · rw [if_neg c1]; exact can64_L
  · exact can_add (can_mul hb hc) ha
  · exact can_whole _
  · exact can_scaled v hb
  · show can64 (fX2_middle b c)
    unfold fX2_middle
    by_cases c1 : fX2_isLost b = 0
    · rw [if_pos c1]
      by_cases c2 : fX2_isLost c = 0
      · rw [if_pos c2]; exact can_mul (can_add hb hc) (Or.inl (by decide))
      · rw [if_neg c2]; exact hb
    · rw [if_neg c1]; exact hc
  · exact hb
