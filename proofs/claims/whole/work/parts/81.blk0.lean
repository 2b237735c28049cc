/-! blocks: the reference's steps, the stack, and what goes on after a fault -/
def rch : Nat → MS → MS → Prop
  | 0, M, M' => M' = M
  | n + 1, M, M' => gI M 41 = (-1) ∧ ∃ M1, fX12_steps M = some M1 ∧ rch n M1 M'
theorem rch_trans : ∀ {n m : Nat} {M M1 M2 : MS}, rch n M M1 → rch m M1 M2 → rch (n + m) M M2
  | 0, m, M, M1, M2, h, g => by
    have e : M1 = M := h
    subst e
    rw [Nat.zero_add]
    exact g
  | n + 1, m, M, M1, M2, h, g => by
    obtain ⟨h1, X, h2, h3⟩ := h
    rw [show n + 1 + m = (n + m) + 1 by omega]
    exact ⟨h1, X, h2, rch_trans h3 g⟩
theorem rch_1 {M M1 : MS} (h : gI M 41 = (-1)) (g : fX12_steps M = some M1) : rch 1 M M1 := ⟨h, M1, g, rfl⟩
theorem rch_snoc {n : Nat} {M M0 M1 : MS} (h : rch n M M0) (h2 : gI M0 41 = (-1)) (g : fX12_steps M0 = some M1) : rch (n + 1) M M1 := rch_trans h (rch_1 h2 g)
/-- the run loop follows the steps -/
theorem rch_run : ∀ {n : Nat} {M M' : MS} (q : Nat), rch n M M' → fX12_run_59 (n + q) M = fX12_run_59 q M'
  | 0, M, M', q, h => by
    have e : M' = M := h
    subst e
    rw [Nat.zero_add]
  | n + 1, M, M', q, h => by
    obtain ⟨h1, X, h2, h3⟩ := h
    rw [show n + 1 + q = (n + q) + 1 by omega, fX12_run_59, if_pos h1, h2, Option.bind_some]
    exact rch_run q h3
/-- the stack's frames below d are kept, but for the place of the top one -/
def stk (d : Nat) (M M' : MS) : Prop := (∀ k f, 28 ≤ k → k ≤ 35 → f < d → (k ≠ 29 ∨ f + 1 ≠ d) → gA M' k f = gA M k f) ∧ (∀ f, f < d → gB M' 36 f = gB M 36 f) ∧ gI M' 37 = gI M 37
theorem stk_refl (d : Nat) (M : MS) : stk d M M := ⟨fun _ _ _ _ _ _ => rfl, fun _ _ => rfl, rfl⟩
theorem stk_trans {d : Nat} {M M1 M2 : MS} (h : stk d M M1) (g : stk d M1 M2) : stk d M M2 := ⟨fun k f a b c e => (g.1 k f a b c e).trans (h.1 k f a b c e), fun f a => (g.2.1 f a).trans (h.2.1 f a), g.2.2.trans h.2.2⟩
theorem stk_mfr {d : Nat} {M M' : MS} (h : mfr M M') : stk d M M' := ⟨fun k f a _ _ _ => by rw [h.2.1 k (by omega)], fun f _ => by rw [h.2.2], h.1 37 (by decide) (by decide) (by decide)⟩
/-- one turn of goesOn at a block that is neither a scope's first nor a matching attempt: it is left -/
theorem go_pop {q d : Nat} {M : MS} {k p : Int32} (hd : 1 ≤ d) (hd2 : d ≤ 40) (h37 : gI M 37 = nI d) (h3 : ¬ gA M 28 (d - 1) = 3) (h2 : gA M 28 (d - 1) = 2 → ¬ gA M 32 (d - 1) = 0 ∧ ¬ gA M 32 (d - 1) = k) : fX12_goesOn_0 (q + 1) M k p = fX12_goesOn_0 q (pI M 37 (nI (d - 1))) k p := by
  have e1 : nI d - 1 = nI (d - 1) := pk_sub (a := d) (b := 1) (by omega)
  have i : inb (nI (d - 1)) 40 = true := inb_nI (by omega) (by omega)
  rw [fX12_goesOn_0, h37, if_neg (show ¬ nI d ≤ 0 from fun x => by have := (nI_leI (a := d) (b := 0) (by omega) (by decide)).mp x; omega), e1]
  unfold fX12_goesOn_14 fX12_goesOn_68 fX12_goesOn_121
  rw [if_pos (show inb (nI (d - 1)) (mlA 28) = true from i), ix_nI (by omega), if_neg h3, h37, e1]
  have g28 : gA (pI M 37 (nI (d - 1))) 28 (d - 1) = gA M 28 (d - 1) := rfl
  have g32 : gA (pI M 37 (nI (d - 1))) 32 (d - 1) = gA M 32 (d - 1) := rfl
  rw [g28, g32, if_pos (show inb (nI (d - 1)) (mlA 28) = true from i)]
  by_cases c : gA M 28 (d - 1) = 2
  · rw [if_pos c, if_pos (show inb (nI (d - 1)) (mlA 32) = true from i), if_neg (h2 c).1, if_pos (show inb (nI (d - 1)) (mlA 32) = true from i), if_neg (h2 c).2]
  · rw [if_neg c]
theorem go_fuel : ∀ (d : Nat) (M : MS) (k p : Int32) (n m : Nat), d ≤ 40 → gI M 37 = nI d → d < n → d < m → fX12_goesOn_0 n M k p = fX12_goesOn_0 m M k p := by
  intro d
  induction d with
  | zero =>
    intro M k p n m hd h37 hn hm
    obtain ⟨n1, rfl⟩ : ∃ n1, n = n1 + 1 := ⟨n - 1, by omega⟩
    obtain ⟨m1, rfl⟩ : ∃ m1, m = m1 + 1 := ⟨m - 1, by omega⟩
    rw [fX12_goesOn_0, fX12_goesOn_0, h37, if_pos (show nI 0 ≤ 0 by decide), if_pos (show nI 0 ≤ 0 by decide)]
  | succ d ih =>
    intro M k p n m hd h37 hn hm
    obtain ⟨n1, rfl⟩ : ∃ n1, n = n1 + 1 := ⟨n - 1, by omega⟩
    obtain ⟨m1, rfl⟩ : ∃ m1, m = m1 + 1 := ⟨m - 1, by omega⟩
    by_cases c : ¬ gA M 28 d = 3 ∧ (gA M 28 d = 2 → ¬ gA M 32 d = 0 ∧ ¬ gA M 32 d = k)
    · rw [go_pop (d := d + 1) (by omega) hd h37 c.1 c.2, go_pop (d := d + 1) (by omega) hd h37 c.1 c.2]
      exact ih _ k p n1 m1 (by omega) (gI_pI _ _ _) (by omega) (by omega)
    · have e1 : nI (d + 1) - 1 = nI d := pk_sub (a := d + 1) (b := 1) (by omega)
      have i : inb (nI d) 40 = true := inb_nI (by omega) (by omega)
      rw [fX12_goesOn_0, fX12_goesOn_0, h37, if_neg (show ¬ nI (d + 1) ≤ 0 from fun x => by have := (nI_leI (a := d + 1) (b := 0) (by omega) (by decide)).mp x; omega), if_neg (show ¬ nI (d + 1) ≤ 0 from fun x => by have := (nI_leI (a := d + 1) (b := 0) (by omega) (by decide)).mp x; omega), e1]
      unfold fX12_goesOn_14 fX12_goesOn_68 fX12_goesOn_121
      rw [if_pos (show inb (nI d) (mlA 28) = true from i), if_pos (show inb (nI d) (mlA 28) = true from i), ix_nI (by omega)]
      by_cases c3 : gA M 28 d = 3
      · rw [if_pos c3, if_pos c3, if_pos (show inb (nI d) (mlA 28) = true from i)]
      · rw [if_neg c3, if_neg c3]
        have g28 : gA (pI M 37 (gI M 37 - 1)) 28 d = gA M 28 d := rfl
        have g32 : gA (pI M 37 (gI M 37 - 1)) 32 d = gA M 32 d := rfl
        rw [g28, g32, if_pos (show inb (nI d) (mlA 28) = true from i), if_pos (show inb (nI d) (mlA 28) = true from i)]
        by_cases c2 : gA M 28 d = 2
        · rw [if_pos c2, if_pos c2, if_pos (show inb (nI d) (mlA 32) = true from i), if_pos (show inb (nI d) (mlA 32) = true from i), if_pos (show inb (nI d) (mlA 32) = true from i), if_pos (show inb (nI d) (mlA 32) = true from i)]
          by_cases c4 : gA M 32 d = 0
          · rw [if_pos c4, if_pos c4, if_pos (show inb (nI d) (mlA 28) = true from i)]
          · rw [if_neg c4, if_neg c4]
            by_cases c5 : gA M 32 d = k
            · rw [if_pos c5, if_pos c5, if_pos (show inb (nI d) (mlA 28) = true from i)]
            · exact absurd ⟨c3, fun _ => ⟨c4, c5⟩⟩ c
        · exact absurd ⟨c3, fun h => absurd h c2⟩ c
/-- a fault leaves the top block -/
theorem go_up {d : Nat} {M : MS} {k p : Int32} (hd : 1 ≤ d) (hd2 : d ≤ 40) (h37 : gI M 37 = nI d) (h3 : ¬ gA M 28 (d - 1) = 3) (h2 : gA M 28 (d - 1) = 2 → ¬ gA M 32 (d - 1) = 0 ∧ ¬ gA M 32 (d - 1) = k) : fX12_goesOn M k p = fX12_goesOn (pI M 37 (nI (d - 1))) k p := by
  unfold fX12_goesOn
  rw [show 50 = 49 + 1 from rfl, go_pop hd hd2 h37 h3 h2]
  exact go_fuel (d - 1) _ k p 49 50 (by omega) (gI_pI _ _ _) (by omega) (by omega)
/-- an attempt takes the fault -/
theorem go_try {d g : Nat} {M : MS} {k p : Int32} (hd : 1 ≤ d) (hd2 : d ≤ 40) (h37 : gI M 37 = nI d) (h2 : gA M 28 (d - 1) = 2) (hw : gA M 32 (d - 1) = 0 ∨ gA M 32 (d - 1) = k) (hr : gA M 31 (d - 1) = nI g) (hg : g < 16) : fX12_goesOn M k p = some (pI (pI (pB (pI M 37 (nI (d - 1))) 3 g k.toInt64) 43 k) 44 p) := by
  have e1 : nI d - 1 = nI (d - 1) := pk_sub (a := d) (b := 1) (by omega)
  have i : inb (nI (d - 1)) 40 = true := inb_nI (by omega) (by omega)
  unfold fX12_goesOn
  rw [show 50 = 49 + 1 from rfl, fX12_goesOn_0, h37, if_neg (show ¬ nI d ≤ 0 from fun x => by have := (nI_leI (a := d) (b := 0) (by omega) (by decide)).mp x; omega), e1]
  unfold fX12_goesOn_14 fX12_goesOn_68 fX12_goesOn_97 fX12_goesOn_110 fX12_goesOn_115 fX12_goesOn_120
  have g31 : gA (pI M 37 (nI (d - 1))) 31 (d - 1) = nI g := hr
  have g28 : gA (pI M 37 (nI (d - 1))) 28 (d - 1) = 2 := h2
  have g32 : gA (pI M 37 (nI (d - 1))) 32 (d - 1) = gA M 32 (d - 1) := rfl
  rw [if_pos (show inb (nI (d - 1)) (mlA 28) = true from i), ix_nI (by omega), if_neg (show ¬ gA M 28 (d - 1) = 3 by rw [h2]; decide), h37, e1, g28, g31, g32, if_pos (show inb (nI (d - 1)) (mlA 28) = true from i), if_pos rfl, if_pos (show inb (nI (d - 1)) (mlA 32) = true from i), if_pos (show inb (nI (d - 1)) (mlA 31) = true from i), if_pos (show inb (nI g) (mlB 3) = true from inb_nI (by omega) hg), ix_nI (by omega)]
  by_cases c : gA M 32 (d - 1) = 0
  · rw [if_pos c]
  · rw [if_neg c, if_pos (show inb (nI (d - 1)) (mlA 32) = true from i), if_pos (hw.resolve_left c)]
/-- a scope's first block is left by a fault, which waits -/
theorem go_scope {d : Nat} {M : MS} {k p : Int32} (hd : 1 ≤ d) (hd2 : d ≤ 40) (h37 : gI M 37 = nI d) (h3 : gA M 28 (d - 1) = 3) : fX12_goesOn M k p = some (pA (pA (pA (pA M 28 (d - 1) 4) 29 (d - 1) (gA M 33 (d - 1))) 34 (d - 1) k) 35 (d - 1) p) := by
  have e1 : nI d - 1 = nI (d - 1) := pk_sub (a := d) (b := 1) (by omega)
  have i : inb (nI (d - 1)) 40 = true := inb_nI (by omega) (by omega)
  unfold fX12_goesOn
  rw [show 50 = 49 + 1 from rfl, fX12_goesOn_0, h37, if_neg (show ¬ nI d ≤ 0 from fun x => by have := (nI_leI (a := d) (b := 0) (by omega) (by decide)).mp x; omega), e1]
  unfold fX12_goesOn_14 fX12_goesOn_31 fX12_goesOn_43 fX12_goesOn_50 fX12_goesOn_57
  have g33 : gA (pA M 28 (d - 1) 4) 33 = gA M 33 := gA_pA_ne _ _ _ (by decide)
  rw [if_pos (show inb (nI (d - 1)) (mlA 28) = true from i), ix_nI (by omega), if_pos h3, if_pos (show inb (nI (d - 1)) (mlA 28) = true from i), if_pos (show inb (nI (d - 1)) (mlA 33) = true from i), if_pos (show inb (nI (d - 1)) (mlA 29) = true from i), if_pos (show inb (nI (d - 1)) (mlA 34) = true from i), if_pos (show inb (nI (d - 1)) (mlA 35) = true from i), g33]
/-- no block is left: the run ends with the fault -/
theorem go_end {M : MS} {k p : Int32} (h37 : gI M 37 = 0) : fX12_goesOn M k p = some (pI (pI M 41 k) 42 p) := by
  unfold fX12_goesOn
  rw [show 50 = 49 + 1 from rfl, fX12_goesOn_0, h37, if_pos (show (0 : Int32) ≤ 0 by decide)]
  rfl
