/-! the face: order, clear, number, fault, told, bits, logged, logs -/
section N
variable {B : Nat} {S : CS} {M : MS}
theorem idl_eq {S' : CS} {M' : MS} (h : idl S M) (c1 : gI S'.1 15 = gI S.1 15) (c2 : gI S'.1 12 = gI S.1 12) (m1 : gI M' 45 = gI M 45) (m2 : gI M' 42 = gI M 42) : idl S' M' := by
  unfold idl
  rw [c1, c2, m1, m2]
  exact h
def orS (S : CS) (n : Nat) (a b c d : Int32) : CS := cpI (cpA (cpA (cpA (cpA S 0 n a) 1 n b) 2 n c) 3 n d) 4 (nI (n + 1))
def orM (M : MS) (n : Nat) (a b c d : Int32) : MS := pI (pA (pA (pA (pA (pI M 0 0) 21 n a) 22 n b) 23 n c) 24 n d) 25 (nI (n + 1))
theorem orS_I {n : Nat} {a b c d : Int32} (k : Nat) (h : k ≠ 4) : gI (orS S n a b c d).1 k = gI S.1 k := gI_pI_ne _ _ h
theorem orM_I {n : Nat} {a b c d : Int32} (k : Nat) (h : k ≠ 25) (h0 : k ≠ 0) : gI (orM M n a b c d) k = gI M k := by
  show gI (pI (pI M 0 0) 25 (nI (n + 1))) k = _
  rw [gI_pI_ne _ _ h, gI_pI_ne _ _ h0]
theorem sim_order (h : Pb B S M) (a b c d : Int32) : ∃ r S' M', fX11_order S a b c d = some (r, S') ∧ fX12_order M a b c d = some (r, M') ∧ Pb B S' M' ∧ nT M' = nT M := by
  have h0 := h
  obtain ⟨⟨w, R⟩, ⟨h1, ⟨n, hn, n1, n2⟩, h3, h4, h5⟩, i⟩ := h
  have n2' : gI (pI M 0 0) 25 = nI n := (gI_pI_ne _ _ (by decide)).trans n2
  unfold fX11_order fX12_order fX12_order_5
  rw [n1, n2']
  by_cases c1 : n = 400
  · subst c1
    rw [if_neg (show ¬ nI 400 < 400 by decide), if_pos (show nI 400 = 400 by decide)]
    exact ⟨(-1), S, pI M 0 0, rfl, rfl, Pb_0 h0, rfl⟩
  · have hn4 : n < 400 := by omega
    have i4 : inb (nI n) 400 = true := inb_nI (by omega) hn4
    have ec : fX11_order_22 (cpA S 0 n a) b c d = some (nI (n + 1), orS S n a b c d) := by
      unfold fX11_order_22 fX11_order_32 fX11_order_42 fX11_order_53 fX11_order_63
      have e1 : gI (cpA S 0 n a).1 4 = nI n := n1
      have e2 : gI (cpA (cpA S 0 n a) 1 n b).1 4 = nI n := n1
      have e3 : gI (cpA (cpA (cpA S 0 n a) 1 n b) 2 n c).1 4 = nI n := n1
      have e4 : gI (cpA (cpA (cpA (cpA S 0 n a) 1 n b) 2 n c) 3 n d).1 4 = nI n := n1
      have e5 : gI (cpI (cpA (cpA (cpA (cpA S 0 n a) 1 n b) 2 n c) 3 n d) 4 (nI (n + 1))).1 4 = nI (n + 1) := gI_pI _ _ _
      rw [e1, if_pos (show inb (nI n) (clA 1) = true from i4), ix_nI (by omega), e2, if_pos (show inb (nI n) (clA 2) = true from i4), ix_nI (by omega), e3, if_pos (show inb (nI n) (clA 3) = true from i4), ix_nI (by omega), e4, nI_1, e5]
      rfl
    have em : fX12_order_27 (pA (pI M 0 0) 21 n a) b c d = some (nI (n + 1), orM M n a b c d) := by
      unfold fX12_order_27 fX12_order_37 fX12_order_47 fX12_order_58 fX12_order_68
      have e1 : gI (pA (pI M 0 0) 21 n a) 25 = nI n := n2'
      have e2 : gI (pA (pA (pI M 0 0) 21 n a) 22 n b) 25 = nI n := n2'
      have e3 : gI (pA (pA (pA (pI M 0 0) 21 n a) 22 n b) 23 n c) 25 = nI n := n2'
      have e4 : gI (pA (pA (pA (pA (pI M 0 0) 21 n a) 22 n b) 23 n c) 24 n d) 25 = nI n := n2'
      have e5 : gI (pI (pA (pA (pA (pA (pI M 0 0) 21 n a) 22 n b) 23 n c) 24 n d) 25 (nI (n + 1))) 25 = nI (n + 1) := gI_pI _ _ _
      rw [e1, if_pos (show inb (nI n) (mlA 22) = true from i4), ix_nI (by omega), e2, if_pos (show inb (nI n) (mlA 23) = true from i4), ix_nI (by omega), e3, if_pos (show inb (nI n) (mlA 24) = true from i4), ix_nI (by omega), e4, nI_1, e5]
      rfl
    rw [if_pos (show nI n < 400 from (nI_ltI (b := 400) (by omega) (by decide)).mpr hn4), if_neg (show ¬ nI n = 400 from fun q => c1 ((nI_inj (b := 400) (by omega) (by decide)).mp q)), if_pos (show inb (nI n) (clA 0) = true from i4), if_pos (show inb (nI n) (mlA 21) = true from i4), ix_nI (by omega), ec, em]
    refine ⟨nI (n + 1), _, _, rfl, rfl, ⟨⟨w, Rel_ctl R ⟨rfl, rfl, orS_I 7 (by decide), orS_I 8 (by decide)⟩ ⟨fun k hk => orM_I k (by omega) (by omega), fun k hk => ?_, fun _ _ => rfl⟩⟩, ⟨fun j hj => ?_, ⟨n + 1, by omega, gI_pI _ _ _, gI_pI _ _ _⟩, ?_, ?_, ?_⟩, ?_⟩, ?_⟩
    · show gA (pA (pA (pA (pA (pI M 0 0) 21 n a) 22 n b) 23 n c) 24 n d) k = _
      rw [gA_pA_ne _ _ _ (by omega), gA_pA_ne _ _ _ (by omega), gA_pA_ne _ _ _ (by omega), gA_pA_ne _ _ _ (by omega)]
      rfl
    · obtain ⟨q1, q2, q3, q4⟩ := h1 j hj
      refine ⟨?_, ?_, ?_, ?_⟩
      · show gA (pA (pA (pA (pA S.1 0 n a) 1 n b) 2 n c) 3 n d) 0 j = gA (pA (pA (pA (pA (pI M 0 0) 21 n a) 22 n b) 23 n c) 24 n d) 21 j
        rw [gA_pA_ne _ _ _ (by decide), gA_pA_ne _ _ _ (by decide), gA_pA_ne _ _ _ (by decide), gA_pA, gA_pA_ne _ _ _ (by decide), gA_pA_ne _ _ _ (by decide), gA_pA_ne _ _ _ (by decide), gA_pA, q1]
        rfl
      · show gA (pA (pA (pA (pA S.1 0 n a) 1 n b) 2 n c) 3 n d) 1 j = gA (pA (pA (pA (pA (pI M 0 0) 21 n a) 22 n b) 23 n c) 24 n d) 22 j
        rw [gA_pA_ne _ _ _ (by decide), gA_pA_ne _ _ _ (by decide), gA_pA, gA_pA_ne _ _ _ (by decide), gA_pA_ne _ _ _ (by decide), gA_pA_ne _ _ _ (by decide), gA_pA, gA_pA_ne _ _ _ (by decide), q2]
        rfl
      · show gA (pA (pA (pA (pA S.1 0 n a) 1 n b) 2 n c) 3 n d) 2 j = gA (pA (pA (pA (pA (pI M 0 0) 21 n a) 22 n b) 23 n c) 24 n d) 23 j
        rw [gA_pA_ne _ _ _ (by decide), gA_pA, gA_pA_ne _ _ _ (by decide), gA_pA_ne _ _ _ (by decide), gA_pA_ne _ _ _ (by decide), gA_pA, gA_pA_ne _ _ _ (by decide), gA_pA_ne _ _ _ (by decide), q3]
        rfl
      · show gA (pA (pA (pA (pA S.1 0 n a) 1 n b) 2 n c) 3 n d) 3 j = gA (pA (pA (pA (pA (pI M 0 0) 21 n a) 22 n b) 23 n c) 24 n d) 24 j
        rw [gA_pA, gA_pA_ne _ _ _ (by decide), gA_pA_ne _ _ _ (by decide), gA_pA_ne _ _ _ (by decide), gA_pA, gA_pA_ne _ _ _ (by decide), gA_pA_ne _ _ _ (by decide), gA_pA_ne _ _ _ (by decide), q4]
        rfl
    · rw [orS_I 11 (by decide), orM_I 39 (by decide) (by decide)]; exact h3
    · rw [orS_I 9 (by decide), orM_I 40 (by decide) (by decide)]; exact h4
    · rw [orS_I 13 (by decide), orS_I 14 (by decide), orM_I 43 (by decide) (by decide), orM_I 44 (by decide) (by decide)]; exact h5
    · exact idl_eq i (orS_I 15 (by decide)) (orS_I 12 (by decide)) (orM_I 45 (by decide) (by decide)) (orM_I 42 (by decide) (by decide))
    · unfold nT; rw [orM_I 10 (by decide) (by decide)]
theorem sim_clear (h : Pb B S M) : ∃ S' M', fX11_clear S = some S' ∧ fX12_clear M = some M' ∧ Pb B S' M' ∧ nT M' = nT M := by
  obtain ⟨⟨w, R⟩, ⟨h1, h2, h3, h4, h5⟩, i⟩ := h
  have cI : ∀ k, k ≠ 4 → gI (cpI S 4 0).1 k = gI S.1 k := fun k hk => gI_pI_ne _ _ hk
  have mI : ∀ k, k ≠ 25 → k ≠ 0 → gI (pI (pI M 0 0) 25 0) k = gI M k := fun k hk hk0 => by rw [gI_pI_ne _ _ hk, gI_pI_ne _ _ hk0]
  refine ⟨cpI S 4 0, pI (pI M 0 0) 25 0, rfl, rfl, ⟨⟨w, Rel_ctl R (cst_I (by decide) (by decide)) ⟨fun k hk => mI k (by omega) (by omega), fun _ _ => rfl, fun _ _ => rfl⟩⟩, ⟨h1, ⟨0, by omega, gI_pI _ _ _, gI_pI _ _ _⟩, ?_, ?_, ?_⟩, ?_⟩, ?_⟩
  · rw [cI 11 (by decide), mI 39 (by decide) (by decide)]; exact h3
  · rw [cI 9 (by decide), mI 40 (by decide) (by decide)]; exact h4
  · rw [cI 13 (by decide), cI 14 (by decide), mI 43 (by decide) (by decide), mI 44 (by decide) (by decide)]; exact h5
  · exact idl_eq i (cI 15 (by decide)) (cI 12 (by decide)) (mI 45 (by decide) (by decide)) (mI 42 (by decide) (by decide))
  · unfold nT; rw [mI 10 (by decide) (by decide)]
theorem wide_eq (x y : Int64) : (x <<< ((32 : Int32).toInt64 &&& 63)) + (y &&& 4294967295) = (x <<< ((32 : Int32).toInt64 &&& 63)) ||| (y &&& 4294967295) := by
  apply Int64.toBitVec_inj.mp
  rw [Int64.toBitVec_add, Int64.toBitVec_or, Int64.toBitVec_and, Int64.toBitVec_shiftLeft, show (((32 : Int32).toInt64 &&& 63).toBitVec.smod 64) = 32#64 by decide, BitVec.shiftLeft_eq', show (32#64).toNat = 32 by decide]
  apply BitVec.add_eq_or_of_and_eq_zero
  apply BitVec.eq_of_getLsbD_eq
  intro i hi
  rw [BitVec.getLsbD_and, BitVec.getLsbD_shiftLeft, BitVec.getLsbD_and, show ((4294967295 : Int64).toBitVec) = BitVec.ofNat 64 (2 ^ 32 - 1) from rfl, BitVec.getLsbD_ofNat, Nat.testBit_two_pow_sub_one]
  by_cases c : i < 32 <;> simp [c]
theorem sim_number (h : Pb B S M) (r a b : Int32) : ∃ S' M', fX11_number S r a b = some S' ∧ fX12_number_ M r a b = some M' ∧ Pb B S' M' ∧ nT M' = nT M := by
  obtain ⟨⟨w, R⟩, c, i⟩ := Pb_0 (v := 0) h
  unfold fX11_number fX12_number_ fX12_number__5 fX12_number__26 fX11_wide
  rw [c_setNum, Option.bind_some, if_pos (inb3 r), wide_eq]
  exact ⟨_, _, rfl, rfl, ⟨⟨w, Rel_num R _⟩, ctl_eq c rfl (fun _ _ => rfl) (fun _ _ => rfl) (fun _ _ => rfl), idl_eq i rfl rfl rfl rfl⟩, rfl⟩
theorem sim_fault (h : Pb B S M) (v : Int32) : ∃ r, fX11_fault S v = some (r, S) ∧ fX12_fault M v = some (r, pI M 0 0) := by
  obtain ⟨_, ⟨_, _, h3, _⟩, i⟩ := h
  have m45 : gI (pI M 0 0) 45 = gI M 45 := gI_pI_ne _ _ (by decide)
  have m42 : gI (pI M 0 0) 42 = gI M 42 := gI_pI_ne _ _ (by decide)
  have m39 : gI (pI M 0 0) 39 = gI M 39 := gI_pI_ne _ _ (by decide)
  unfold fX11_fault fX12_fault fX12_fault_5 fX12_fault_21
  rw [m45, m42, m39]
  rcases i with ⟨i1, i2⟩ | ⟨i1, z, i2, i3, i4⟩
  · rw [if_pos i1, if_pos i2]
    exact ⟨_, rfl, rfl⟩
  · rw [if_neg (show ¬ gI S.1 15 = (-1) by rw [i3]; exact nI_nm (by omega)), if_neg (show ¬ gI M 45 = 0 by rw [i1]; decide), i3, isF i2, i4, h3]
    by_cases c0 : v = 0
    · subst c0
      rw [if_pos rfl, if_neg (show ¬ (0 : Int32) < 0 by decide), if_pos (show (0 : Int32) ≤ 1 by decide), if_pos rfl]
      by_cases c : 1 ≤ z ∧ z ≤ 9
      · rw [if_pos c, if_pos c, if_neg (show ¬ (1 : Int32) = 0 by decide)]
        exact ⟨_, rfl, rfl⟩
      · rw [if_neg c, if_neg c, if_pos rfl]
        exact ⟨_, rfl, rfl⟩
    · rw [if_neg c0]
      by_cases c1 : v = 1
      · subst c1
        rw [if_pos rfl, if_neg (show ¬ (1 : Int32) < 0 by decide), if_pos (show (1 : Int32) ≤ 1 by decide), if_neg c0]
        exact ⟨_, rfl, rfl⟩
      · rw [if_neg c1]
        by_cases c2 : v < 0
        · rw [if_pos c2]
          exact ⟨_, rfl, rfl⟩
        · rw [if_neg c2, if_neg (show ¬ v ≤ 1 from fun q => by
            rw [Int32.le_iff_toInt_le, show (1 : Int32).toInt = 1 by decide] at q
            rw [Int32.lt_iff_toInt_lt, show (0 : Int32).toInt = 0 by decide] at c2
            by_cases e : v.toInt = 0
            · exact c0 (Int32.toInt_inj.mp (by rw [e]; decide))
            · exact c1 (Int32.toInt_inj.mp (by rw [show (1 : Int32).toInt = 1 by decide]; omega)))]
          exact ⟨_, rfl, rfl⟩
theorem sim_told (h : Pb B S M) (v : Int32) : ∃ r, fX11_told S v = some (r, S) ∧ fX12_told M v = some (r, pI M 0 0) := by
  obtain ⟨⟨w, R⟩, _⟩ := h
  unfold fX11_told fX12_told fX12_told_5
  rw [c_numAt, Option.bind_some, if_pos (inb3 v)]
  refine ⟨_, rfl, ?_⟩
  simp only
  rw [R.1 _ (ra_lt v)]
  rfl
theorem sim_bits (h : Pb B S M) (v : Int32) : ∃ r, fX11_bits S v = some (r, S) ∧ fX12_bits M v = some (r, pI M 0 0) := by
  obtain ⟨⟨w, R⟩, _⟩ := h
  have q := R.2.1 _ (ra_lt v)
  have e : gB (pI M 0 0) 4 (ix (v &&& 15)) = gB M 4 (ra v) := rfl
  unfold fX11_bits fX12_bits fX12_bits_5
  rw [c_meaAt, Option.bind_some, if_pos (inb4 v), e, fl_one _ q.2, q.1]
  exact ⟨_, rfl, rfl⟩
theorem sim_logged (h : Pb B S M) (v : Int32) : ∃ r, fX11_logged S v = some (r, S) ∧ fX12_logged M v = some (r, pI M 0 0) := by
  obtain ⟨⟨w, R⟩, _⟩ := h
  obtain ⟨l, l1, l2, l3, l4⟩ := R.2.2.2.2.1
  have m27 : gI (pI M 0 0) 27 = nI l := (gI_pI_ne _ _ (by decide)).trans l3
  unfold fX11_logged fX12_logged fX12_logged_5 fX11_logged_28 fX12_logged_24
  rw [l2, m27]
  by_cases c1 : v < 0
  · rw [if_pos c1, if_pos c1]
    exact ⟨_, rfl, rfl⟩
  · rw [if_neg c1, if_neg c1]
    by_cases c2 : nI l ≤ v
    · rw [if_pos c2, if_pos c2]
      exact ⟨_, rfl, rfl⟩
    · rw [if_neg c2, if_neg c2]
      rcases ix_c v (n := 200) (by omega) with ⟨j, j1, rfl⟩ | ⟨q1, q2⟩
      · have i2 : inb (nI j) 200 = true := inb_nI (by omega) j1
        rw [if_neg (show ¬ 200 ≤ nI j from fun q => by have := (nI_leI (a := 200) (b := j) (by decide) (by omega)).mp q; omega), if_pos (show nI j < 200 from (nI_ltI (b := 200) (by omega) (by decide)).mpr j1), if_pos (show inb (nI j) (clB 6) = true from i2), if_pos (show inb (nI j) (mlB 26) = true from i2), ix_nI (by omega), l4 j j1]
        exact ⟨_, rfl, rfl⟩
      · have q3 : (200 : Int32) ≤ v := (q1.resolve_left c1).2
        rw [if_pos q3, if_neg (show ¬ v < 200 from fun q => q2 ⟨c1, q⟩)]
        exact ⟨_, rfl, rfl⟩
theorem sim_logs (h : Pb B S M) : ∃ r, fX11_logs S = some (r, S) ∧ fX12_logs M = some (r, pI M 0 0) := by
  obtain ⟨⟨w, R⟩, _⟩ := h
  obtain ⟨l, l1, l2, l3, l4⟩ := R.2.2.2.2.1
  have m27 : gI (pI M 0 0) 27 = nI l := (gI_pI_ne _ _ (by decide)).trans l3
  unfold fX11_logs fX12_logs fX12_logs_5
  rw [l2, m27]
  exact ⟨_, rfl, rfl⟩
end N
