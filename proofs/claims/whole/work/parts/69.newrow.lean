/-! a new row in the class -/
theorem cH_new (S : CS) (e : TE) (b : Nat) : cH (cnew S e) b = if b = cSz S then e else cH S b := rfl
theorem cLs_new (S : CS) (e : TE) : cLs (cnew S e) = cLs S ++ [cSz S] := rfl
theorem cSz_new (S : CS) (e : TE) : cSz (cnew S e) = cSz S + 1 := rfl
def roE (k n a : Nat) : TE := .inr (5, [.int (nI k), .int (nI n), .ref (a + 1), .ref (a + 2)])
def roV (k n : Nat) : TE := .inl (if k < 8 then n else 0, .inr (.inl (fun _ => 0)))
def roP (k n : Nat) : TE := .inl (if k < 8 then 0 else n, .inr (.inr (.inr (.inr (fun _ => none)))))
theorem c_init8 (S : CS) {k n : Nat} (hk : k ≤ 10) (hn : n ≤ 64) : ∃ S', fX8_init (cnew S (.inr (5, [.int 0, .int 0, .null, .null]))) (some (cSz S)) (nI k) (nI n) = some (S', 2, n) ∧ S'.1 = S.1 ∧ cSl S' = cSl S ∧ cLs S' = cLs S ++ [cSz S, cSz S + 1, cSz S + 2] ∧ cSz S' = cSz S + 3 ∧ ∀ b, cH S' b = if b = cSz S then roE k n (cSz S) else if b = cSz S + 1 then roV k n else if b = cSz S + 2 then roP k n else cH S b := by
  have okk : ∀ m, m ≤ 64 → okn (nI m) = true := by
    intro m hm
    unfold okn
    rw [nI_int (by omega)]
    simp
    omega
  have hm1 : cSz S ∈ cLs (cnew S (.inr (5, [.int 0, .int 0, .null, .null]))) := by rw [cLs_new]; simp
  have h1 : cH (cnew S (.inr (5, [.int 0, .int 0, .null, .null]))) (cSz S) = .inr (5, [.int 0, .int 0, .null, .null]) := by rw [cH_new, if_pos rfl]
  -- the fields of the row, in the order of its constructor
  let S1 := cnew S (.inr (5, [.int 0, .int 0, .null, .null]))
  let nv := if k < 8 then n else 0
  let np := if k < 8 then 0 else n
  let S2 := cpH S1 (cSz S) (.inr (5, [.int (nI k), .int (nI n), .null, .null]))
  let S3 := cnew S2 (.inl (nv, .inr (.inl (fun _ => 0))))
  let S4 := cpH S3 (cSz S) (.inr (5, [.int (nI k), .int (nI n), .ref (cSz S + 1), .null]))
  let S5 := cnew S4 (.inl (np, .inr (.inr (.inr (.inr (fun _ => none))))))
  let S6 := cpH S5 (cSz S) (.inr (5, [.int (nI k), .int (nI n), .ref (cSz S + 1), .ref (cSz S + 2)]))
  have m3 : cSz S ∈ cLs S3 := by show cSz S ∈ (cLs S ++ [cSz S]) ++ [cSz S + 1]; simp
  have m5 : cSz S ∈ cLs S5 := by show cSz S ∈ ((cLs S ++ [cSz S]) ++ [cSz S + 1]) ++ [cSz S + 2]; simp
  have h2 : cH S2 (cSz S) = .inr (5, [.int (nI k), .int (nI n), .null, .null]) := cH_eq _ _ _
  have h3 : cH S3 (cSz S) = .inr (5, [.int (nI k), .int (nI n), .null, .null]) := by
    show cH (cnew S2 _) (cSz S) = _
    rw [cH_new, if_neg (show ¬ cSz S = cSz S2 from fun q => by have e : cSz S2 = cSz S + 1 := rfl; omega)]; exact h2
  have h5 : cH S5 (cSz S) = .inr (5, [.int (nI k), .int (nI n), .ref (cSz S + 1), .null]) := by
    show cH (cnew S4 _) (cSz S) = _
    rw [cH_new, if_neg (show ¬ cSz S = cSz S4 from fun q => by have e : cSz S4 = cSz S + 1 + 1 := rfl; omega)]
    exact cH_eq _ _ _
  have e65 : fX8_init_65 S4 (some (cSz S)) (nI np) = some (S6, 1, np) := by
    unfold fX8_init_65 fX8_init_68
    rw [if_pos (okk np (by show (if k < 8 then 0 else n) ≤ 64; split <;> omega)), ix_nI (by show (if k < 8 then 0 else n) < _; split <;> omega)]
    have : tp S5 (some (cSz S)) [5] 3 (va_rf (some (cSz S4))) = some S6 := by
      rw [tp_at (S := S5) m5 h5 (by decide) (show 3 < 4 by decide)]
      rfl
    show addD 1 np (Option.bind (tp S5 (some (cSz S)) [5] 3 (va_rf (some (cSz S4)))) (fun c68 => some (c68, 0, 0))) = _
    rw [this]
    show some (S6, 0 + 1, 0 + np) = _
    rw [Nat.zero_add, Nat.zero_add]
  have e47 : fX8_init_47 S2 (some (cSz S)) (if k < 8 then 0 else 1) (some (cSz S)) (nI nv) = some (S6, 2, n) := by
    unfold fX8_init_47 fX8_init_49
    rw [if_pos (okk nv (by show (if k < 8 then n else 0) ≤ 64; split <;> omega)), ix_nI (by show (if k < 8 then n else 0) < _; split <;> omega)]
    have t2 : tp S3 (some (cSz S)) [5] 2 (va_rf (some (cSz S2))) = some S4 := by
      rw [tp_at (S := S3) m3 h3 (by decide) (show 2 < 4 by decide)]
      rfl
    show addD 1 nv (Option.bind (tp S3 (some (cSz S)) [5] 2 (va_rf (some (cSz S2)))) (fun c49 => if (if k < 8 then (0 : Int32) else 1) = 0 then fX8_init_65 c49 (some (cSz S)) 0 else (Option.bind (tgI c49 (some (cSz S)) [5] 1) (fun c58 => fX8_init_65 c49 (some (cSz S)) c58)))) = _
    rw [t2, Option.bind_some]
    by_cases c : k < 8
    · have enp : np = 0 := if_pos c
      have env : nv = n := if_pos c
      rw [if_pos c, if_pos rfl]
      rw [enp] at e65
      have e65' : fX8_init_65 S4 (some (cSz S)) 0 = some (S6, 1, 0) := e65
      rw [e65', env]
      show some (S6, 1 + 1, 0 + n) = _
      rw [Nat.zero_add]
    · have enp : np = n := if_neg c
      have env : nv = 0 := if_neg c
      have g4 : tgI S4 (some (cSz S)) [5] 1 = some (nI n) := by
        unfold tgI
        have hS4 : cH S4 (cSz S) = .inr (5, [.int (nI k), .int (nI n), .ref (cSz S + 1), .null]) := cH_eq _ _ _
        rw [tF_at (S := S4) (show cSz S ∈ cLs S4 from m3) hS4 (by decide)]
        rfl
      rw [if_neg c, if_neg (show ¬ (1 : Int32) = 0 by decide), g4, Option.bind_some]
      rw [enp] at e65
      rw [e65, env]
      rfl
  refine ⟨S6, ?_, rfl, rfl, ?_, rfl, ?_⟩
  · unfold fX8_init fX8_init_19 fX8_init_33 fX9_init
    have kx : ∀ cs : List Nat, isKx (cnew S (.inr (5, [.int 0, .int 0, .null, .null]))) (some (cSz S)) cs = cs.contains 5 := fun cs => isK_at hm1 h1 cs
    rw [kx, kx, if_pos (by decide), if_pos (by decide), Option.bind_some, tp_at hm1 h1 (by decide) (show 0 < 4 by decide), Option.bind_some, if_pos (show (0 : Int32) ≤ nI n from (nI_leI (a := 0) (by decide) (by omega)).mpr (by omega))]
    have t1 : tp (cpH (cnew S (.inr (5, [.int 0, .int 0, .null, .null]))) (cSz S) (.inr (5, [.int 0, .int 0, .null, .null].set 0 (.int (nI k))))) (some (cSz S)) [5] 1 (.int (nI n)) = some S2 := by
      rw [tp_up hm1 (by decide) (show 1 < 4 by decide)]
      rfl
    rw [t1, Option.bind_some]
    by_cases c : k < 8
    · have env : nv = n := if_pos c
      have g2 : tgI S2 (some (cSz S)) [5] 1 = some (nI n) := by
        unfold tgI
        rw [tF_at (S := S2) (show cSz S ∈ cLs S2 from hm1) h2 (by decide)]
        rfl
      rw [if_pos (show nI k < 8 from (nI_ltI (b := 8) (by omega) (by decide)).mpr c), if_pos rfl, g2, Option.bind_some]
      rw [if_pos c, env] at e47
      exact e47
    · have env : nv = 0 := if_neg c
      rw [if_neg (show ¬ nI k < 8 from fun q => c ((nI_ltI (b := 8) (by omega) (by decide)).mp q)), if_neg (show ¬ (1 : Int32) = 0 by decide)]
      rw [if_neg c, env] at e47
      exact e47
  · show ((cLs S ++ [cSz S]) ++ [cSz S + 1]) ++ [cSz S + 2] = _
    simp
  · intro b
    by_cases b0 : b = cSz S
    · subst b0
      rw [if_pos rfl]
      exact cH_eq _ _ _
    · rw [if_neg b0]
      have q6 : cH S6 b = cH S5 b := by show cH (cpH S5 _ _) b = _; rw [cH_pH, if_neg b0]
      have q5 : cH S5 b = if b = cSz S + 2 then roP k n else cH S4 b := by show cH (cnew S4 _) b = _; rw [cH_new]; rfl
      have q4 : cH S4 b = cH S3 b := by show cH (cpH S3 _ _) b = _; rw [cH_pH, if_neg b0]
      have q3 : cH S3 b = if b = cSz S + 1 then roV k n else cH S2 b := by show cH (cnew S2 _) b = _; rw [cH_new]; rfl
      have q2 : cH S2 b = cH S b := by
        show cH (cpH S1 _ _) b = _
        rw [cH_pH, if_neg b0]
        show cH (cnew S _) b = _
        rw [cH_new, if_neg b0]
      rw [q6, q5, q4, q3, q2]
      by_cases b1 : b = cSz S + 1
      · rw [if_neg (by omega), if_pos b1, if_pos b1]
      · by_cases b2 : b = cSz S + 2
        · rw [if_pos b2, if_neg b1, if_pos b2]
        · rw [if_neg b2, if_neg b1, if_neg b1, if_neg b2]
