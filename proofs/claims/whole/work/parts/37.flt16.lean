/-! the order of measures -/
def can64 (x : Int64) : Prop := fX2_isLost x = 0 ∨ x = 9221120237041090560
theorem can64_L : can64 9221120237041090560 := Or.inr rfl
theorem can64_0 : can64 0 := Or.inl (by decide)
theorem lost_x (x : Int64) : fX12_isLost x = fX2_isLost x := rfl
theorem zero_x (x : Int64) : fX12_isZero x = fX2_isZero x := rfl
theorem infi_x (x : Int64) : fX12_isInfinite x = fX2_isInfinite x := rfl
theorem ord_x {a : Nat} (ha : a < 9223372036854775808) : sx true a ^^^ 9223372036854775807 = sx true (9223372036854775807 - a) := by
  have e : (9223372036854775807 : Int64) = (-9223372036854775808) ^^^ (-1) := by decide
  rw [e, ← Int64.xor_assoc, sx_xor ha, Int64.xor_neg_one, Int64.not_eq_neg_sub]
  show - sx false a - 1 = lN (9223372036854775808 + (9223372036854775807 - a))
  rw [sx_f, fl_minus (by omega)]
  have h : lN (2 ^ 64 - a) - 1 = lN (2 ^ 64 - a - 1) := lN_sub (b := 1) (by omega)
  rw [h]
  congr 1
  omega
theorem ord_m {a : Nat} (ha : a < 9223372036854775808) : ((-9223372036854775808) - sx true a) - 1 = sx true (9223372036854775807 - a) := by
  have e : (-9223372036854775808 : Int64) = lN 9223372036854775808 := by decide
  have e2 : - sx true a = lN (9223372036854775808 - a) := by
    have h := fl_minus (b := 9223372036854775808 + a) (by omega)
    refine Eq.trans h ?_
    congr 1
    omega
  rw [Int64.sub_eq_add_neg (-9223372036854775808) (sx true a), e2, e, lN_add]
  have h : lN (9223372036854775808 + (9223372036854775808 - a)) - 1 = lN (9223372036854775808 + (9223372036854775808 - a) - 1) := lN_sub (b := 1) (by omega)
  rw [h]
  show _ = lN (9223372036854775808 + (9223372036854775807 - a))
  congr 1
  omega
theorem sx_ng {a : Nat} (ha : a < 9223372036854775808) : ¬ 0 ≤ sx true a := fun h => absurd ((sx_nneg ha).mp h) (by decide)
theorem sx_pg {a : Nat} (ha : a < 9223372036854775808) : 0 ≤ sx false a := (sx_nneg ha).mpr rfl
theorem ord_sx {s : Bool} {a : Nat} (ha : a < 9223372036854775808) : fX2_ordered (sx s a) = if s then sx true (9223372036854775807 - a) else lN a := by
  unfold fX2_ordered
  cases s with
  | false => rw [if_pos ((sx_nneg ha).mpr rfl), sx_f]; rfl
  | true => rw [if_neg (sx_ng ha), ord_x ha]; rfl
theorem ord_eq (x : Int64) : fX2_ordered x = if 0 ≤ x then x else ((-9223372036854775808) - x) - 1 := by
  obtain ⟨s1_, a1_, ha1_, rfl⟩ := sx_of x
  rw [ord_sx ha1_]
  cases s1_ with
  | false => rw [if_pos (sx_pg ha1_), sx_f, if_neg (show ¬ (false = true) by decide)]
  | true => rw [if_neg (sx_ng ha1_), ord_m ha1_, if_pos rfl]
theorem ord_int {s : Bool} {a : Nat} (ha : a < 9223372036854775808) : (fX2_ordered (sx s a)).toInt = if s then - (a : Int) - 1 else (a : Int) := by
  rw [ord_sx ha]
  cases s with
  | false => exact fl_lI ha
  | true =>
    show (sx true (9223372036854775807 - a)).toInt = - (a : Int) - 1
    rw [sx_toInt (by omega)]
    simp only [if_true]
    omega
theorem ord_inj {x y : Int64} (h : fX2_ordered x = fX2_ordered y) : x = y := by
  obtain ⟨s1_, a1_, ha1_, rfl⟩ := sx_of x
  obtain ⟨s2_, a2_, ha2_, rfl⟩ := sx_of y
  have h2 : (fX2_ordered (sx s1_ a1_)).toInt = (fX2_ordered (sx s2_ a2_)).toInt := by rw [h]
  rw [ord_int ha1_, ord_int ha2_] at h2
  cases s1_ <;> cases s2_ <;> simp at h2
  · rw [show a1_ = a2_ by omega]
  · omega
  · omega
  · rw [show a1_ = a2_ by omega]
theorem ord_lt {y : Int64} (h : fX2_isLost y = 0) : fX2_ordered y < 9221120237041090560 := by
  obtain ⟨s1_, a1_, ha1_, rfl⟩ := sx_of y
  have hl := (sx_lost ha1_).1.mp h
  rw [Int64.lt_iff_toInt_lt, ord_int ha1_]
  have e : (9221120237041090560 : Int64).toInt = 9221120237041090560 := by decide
  rw [e]
  split <;> omega
theorem tot_74 (u v : Int64) : fX12_total_74 u v = fX2_rankOf_12 u v := by
  unfold fX12_total_74 fX2_rankOf_12
  by_cases c : v ≤ u
  · rw [if_pos c]
    by_cases d : u ≤ v
    · rw [if_pos d, if_pos (Int64.le_antisymm d c)]
    · rw [if_neg d, if_neg (show ¬ u = v from fun e => d (e ▸ Int64.le_refl _)), if_pos c]
  · rw [if_neg c, if_neg (show ¬ u = v from fun e => c (e ▸ Int64.le_refl _)), if_neg c]
theorem fl_totN {x y : Int64} (hx : fX2_isLost x = 0) (hy : fX2_isLost y = 0) : fX12_total x y = fX2_rankOf x y := by
  have e : fX12_total x y = (if 0 ≤ x then fX12_total_55 y x else fX12_total_55 y (((-9223372036854775808) - x) - 1)) := by
    unfold fX12_total
    rw [if_pos (show fX12_isLost x = 0 from hx), if_pos (show fX12_isLost y = 0 from hy)]
  rw [e]
  unfold fX12_total_55 fX2_rankOf fX2_rankOf_6
  rw [tot_74, tot_74, tot_74, tot_74, ord_eq x, ord_eq y]
  split <;> split <;> rfl
theorem rk_3 (x y : Int64) : (fX2_rankOf x y = 0 ∧ fX2_rankOf y x = 0 ∧ x = y) ∨ (fX2_rankOf x y = 1 ∧ fX2_rankOf y x = -1 ∧ x ≠ y) ∨ (fX2_rankOf x y = -1 ∧ fX2_rankOf y x = 1 ∧ x ≠ y) := by
  unfold fX2_rankOf fX2_rankOf_6 fX2_rankOf_12
  by_cases c : x = y
  · subst c
    exact Or.inl ⟨if_pos rfl, if_pos rfl, rfl⟩
  · have d : ¬ fX2_ordered x = fX2_ordered y := fun h => c (ord_inj h)
    rw [if_neg d, if_neg (show ¬ fX2_ordered y = fX2_ordered x from fun h => d h.symm)]
    by_cases e : fX2_ordered y ≤ fX2_ordered x
    · have e2 : ¬ fX2_ordered x ≤ fX2_ordered y := fun h => d (Int64.le_antisymm h e)
      rw [if_pos e, if_neg e2]
      exact Or.inr (Or.inl ⟨rfl, rfl, c⟩)
    · have e2 : fX2_ordered x ≤ fX2_ordered y := by
        rw [Int64.le_iff_toInt_le] at e ⊢
        omega
      rw [if_neg e, if_pos e2]
      exact Or.inr (Or.inr ⟨rfl, rfl, c⟩)
theorem lost_L : ¬ fX2_isLost 9221120237041090560 = 0 := by decide
theorem fl_tot {x y : Int64} (hx : can64 x) (hy : can64 y) : fX12_total x y = fX2_rankOf x y := by
  have big : ∀ z, fX2_isLost z = 0 → fX2_rankOf 9221120237041090560 z = 1 ∧ fX2_rankOf z 9221120237041090560 = -1 := by
    intro z hz
    have h := ord_lt hz
    have e : fX2_ordered 9221120237041090560 = 9221120237041090560 := by decide
    have h1 : ¬ (9221120237041090560 : Int64) ≤ fX2_ordered z := fun q => by
      rw [Int64.le_iff_toInt_le] at q
      rw [Int64.lt_iff_toInt_lt] at h
      omega
    have h2 : fX2_ordered z ≤ (9221120237041090560 : Int64) := by
      rw [Int64.le_iff_toInt_le]
      rw [Int64.lt_iff_toInt_lt] at h
      omega
    have h3 : ¬ (9221120237041090560 : Int64) = fX2_ordered z := fun q => h1 (q ▸ Int64.le_refl _)
    unfold fX2_rankOf fX2_rankOf_6 fX2_rankOf_12
    rw [e, if_neg h3, if_pos h2, if_neg (show ¬ fX2_ordered z = 9221120237041090560 from fun q => h3 q.symm), if_neg h1]
    exact ⟨rfl, rfl⟩
  rcases hx with x1_ | x1_
  · rcases hy with y1_ | y1_
    · exact fl_totN x1_ y1_
    · subst y1_
      rw [(big x x1_).2]
      unfold fX12_total fX12_total_14
      rw [if_pos (show fX12_isLost x = 0 from x1_), if_neg (show ¬ fX12_isLost 9221120237041090560 = 0 from lost_L), if_pos (show fX12_isLost x = 0 from x1_)]
  · subst x1_
    rcases hy with y1_ | y1_
    · rw [(big y y1_).1]
      unfold fX12_total fX12_total_14
      rw [if_neg (show ¬ fX12_isLost 9221120237041090560 = 0 from lost_L), if_neg (show ¬ fX12_isLost 9221120237041090560 = 0 from lost_L), if_pos (show fX12_isLost y = 0 from y1_)]
    · subst y1_
      decide
theorem zero_10 (x : Int64) : fX2_isZero x = 0 ∨ fX2_isZero x = 1 := by
  unfold fX2_isZero
  by_cases c : (x &&& 9223372036854775807) = 0
  · exact Or.inr (if_pos c)
  · exact Or.inl (if_neg c)
def by0 (x y : Int64) : Int32 := if fX2_isZero x = 0 then fX2_rankOf x y else if fX2_isZero y = 0 then fX2_rankOf x y else 0
theorem fl_byN {x y : Int64} (hx : fX2_isLost x = 0) (hy : fX2_isLost y = 0) : fX12_byValue x y = by0 x y := by
  unfold fX12_byValue fX12_byValue_18 by0
  rw [fl_totN hx hy]
  rfl
theorem fl_likeN {x y : Int64} (hx : fX2_isLost x = 0) (hy : fX2_isLost y = 0) : fX2_isLike x y = if by0 x y = 0 then 1 else 0 := by
  unfold fX2_isLike fX2_isLike_36 fX2_isLike_40 by0
  rw [if_pos hx, if_pos hy]
  rcases rk_3 x y with ⟨r1_, r2_, r3_⟩ | ⟨r1_, r2_, r3_⟩ | ⟨r1_, r2_, r3_⟩
  · rw [if_pos r3_, r1_]
    split
    · rfl
    · split <;> rfl
  · rw [if_neg r3_, r1_]
    split
    · rfl
    · split <;> rfl
  · rw [if_neg r3_, r1_]
    split
    · rfl
    · split <;> rfl
theorem fl_lessN {x y : Int64} (hx : fX2_isLost x = 0) (hy : fX2_isLost y = 0) : fX2_isLess x y = if by0 x y < 0 then 1 else 0 := by
  have hl := fl_likeN hx hy
  unfold fX2_isLess fX2_isLess_22
  rw [if_pos hx, if_pos hy, hl]
  unfold by0
  rcases rk_3 x y with ⟨r1_, r2_, r3_⟩ | ⟨r1_, r2_, r3_⟩ | ⟨r1_, r2_, r3_⟩ <;> rw [r1_] <;> rcases zero_10 x with z1_ | z1_ <;> rcases zero_10 y with z2_ | z2_ <;> rw [z1_, z2_] <;> decide
theorem by0_sw (x y : Int64) : (by0 x y = 0 ∧ by0 y x = 0) ∨ (by0 x y = 1 ∧ by0 y x = -1) ∨ (by0 x y = -1 ∧ by0 y x = 1) := by
  unfold by0
  rcases rk_3 x y with ⟨r1_, r2_, r3_⟩ | ⟨r1_, r2_, r3_⟩ | ⟨r1_, r2_, r3_⟩ <;> rw [r1_, r2_] <;> rcases zero_10 x with z1_ | z1_ <;> rcases zero_10 y with z2_ | z2_ <;> rw [z1_, z2_] <;> decide
theorem fl_isLess (x y : Int64) : fX12_isLess x y = fX2_isLess x y := by
  by_cases c1 : fX2_isLost x = 0
  · by_cases c2 : fX2_isLost y = 0
    · rw [fl_lessN c1 c2]
      unfold fX12_isLess fX12_isLess_26
      rw [if_pos (show fX12_isLost x = 0 from c1), if_pos (show fX12_isLost y = 0 from c2), fl_byN c1 c2]
      rcases by0_sw x y with ⟨r1_, r2_⟩ | ⟨r1_, r2_⟩ | ⟨r1_, r2_⟩ <;> rw [r1_] <;> decide
    · unfold fX12_isLess fX12_isLess_26 fX2_isLess fX2_isLess_22
      rw [if_pos (show fX12_isLost x = 0 from c1), if_neg (show ¬ fX12_isLost y = 0 from c2), if_pos c1, if_neg c2]
  · unfold fX12_isLess fX12_isLess_26 fX2_isLess fX2_isLess_22
    rw [if_neg (show ¬ fX12_isLost x = 0 from c1), if_neg c1]
theorem fl_test {k : Nat} (hk : k < 8) (x y : Int64) : fX12_test (nI k) x y = fX11_holds (nI k) x y := by
  have hL : (¬ fX2_isLost x = 0 ∨ ¬ fX2_isLost y = 0) → fX2_isLess x y = 0 ∧ fX2_isLess y x = 0 ∧ fX2_isLike x y = 0 := by
    intro h
    unfold fX2_isLess fX2_isLess_22 fX2_isLike fX2_isLike_14
    by_cases c1 : fX2_isLost x = 0
    · by_cases c2 : fX2_isLost y = 0
      · rcases h with h | h
        · exact absurd c1 h
        · exact absurd c2 h
      · simp only [if_pos c1, if_neg c2]
        exact ⟨trivial, trivial, trivial⟩
    · by_cases c2 : fX2_isLost y = 0
      · simp only [if_pos c2, if_neg c1]
        exact ⟨trivial, trivial, trivial⟩
      · simp only [if_neg c2, if_neg c1]
        exact ⟨trivial, trivial, trivial⟩
  have hk8 : k = 0 ∨ k = 1 ∨ k = 2 ∨ k = 3 ∨ k = 4 ∨ k = 5 ∨ k = 6 ∨ k = 7 := by omega
  by_cases c1 : fX2_isLost x = 0
  · by_cases c2 : fX2_isLost y = 0
    · unfold fX12_test
      rw [if_pos (show fX12_isLost x = 0 from c1), if_pos (show fX12_isLost y = 0 from c2), fl_byN c1 c2]
      unfold fX11_holds fX11_holds_58 fX11_holds_86
      rw [fl_likeN c1 c2, fl_lessN c1 c2, fl_lessN c2 c1]
      rcases by0_sw x y with ⟨r1_, r2_⟩ | ⟨r1_, r2_⟩ | ⟨r1_, r2_⟩ <;> rw [r1_, r2_] <;> rcases hk8 with h8 | h8 | h8 | h8 | h8 | h8 | h8 | h8 <;> subst h8 <;> decide
    · obtain ⟨e1_, e2_, e3_⟩ := hL (Or.inr c2)
      unfold fX12_test fX12_test_14 fX11_holds fX11_holds_58 fX11_holds_86
      rw [if_pos (show fX12_isLost x = 0 from c1), if_neg (show ¬ fX12_isLost y = 0 from c2), e1_, e2_, e3_]
      rcases hk8 with h8 | h8 | h8 | h8 | h8 | h8 | h8 | h8 <;> subst h8 <;> decide
  · obtain ⟨e1_, e2_, e3_⟩ := hL (Or.inl c1)
    unfold fX12_test fX12_test_14 fX11_holds fX11_holds_58 fX11_holds_86
    rw [if_neg (show ¬ fX12_isLost x = 0 from c1), e1_, e2_, e3_]
    rcases hk8 with h8 | h8 | h8 | h8 | h8 | h8 | h8 | h8 <;> subst h8 <;> decide
