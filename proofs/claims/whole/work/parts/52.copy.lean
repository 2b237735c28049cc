/-! copies of values -/
def sB9 (M : MS) (P : Nat → Int64) : MS := (M.1, M.2.1, M.2.2.1, va_up M.2.2.2 9 P)
theorem gB_s9 (M : MS) (P : Nat → Int64) : gB (sB9 M P) 9 = P := by
  funext j
  simp [gB, sB9, va_up]
theorem gB_s9n (M : MS) (P : Nat → Int64) {k : Nat} (h : k ≠ 9) : gB (sB9 M P) k = gB M k := by
  funext j
  simp [gB, sB9, va_up, h]
theorem pB_s9 (M : MS) (P : Nat → Int64) (i : Nat) (v : Int64) : pB (sB9 M P) 9 i v = sB9 M (va_up P i v) := by
  unfold pB sB9
  simp only [Prod.mk.injEq, true_and]
  funext k
  by_cases c : k = 9
  · subst c
    simp [va_up]
  · simp [va_up, c]
theorem s9_id (M : MS) : sB9 M (gB M 9) = M := by
  unfold sB9
  have : va_up M.2.2.2 9 (gB M 9) = M.2.2.2 := by
    funext k
    by_cases c : k = 9
    · subst c
      simp [va_up, gB]
      rfl
    · simp [va_up, c]
  rw [this]
theorem cpy_0 (P : Nat → Int64) (s d : Nat) : va_cpy P P s d 0 = P := by
  funext j
  exact pk_cpy_out (by omega)
theorem cpy_up (P : Nat → Int64) (s d k : Nat) : va_up (va_cpy P P s d k) (d + k) (P (s + k)) = va_cpy P P s d (k + 1) := by
  funext j
  by_cases c : j = d + k
  · subst c
    rw [up_eq, pk_cpy_in (by omega) (by omega)]
    congr 1
    omega
  · rw [up_ne _ _ c]
    by_cases c2 : d ≤ j ∧ j < d + k
    · rw [pk_cpy_in c2.1 c2.2, pk_cpy_in c2.1 (by omega)]
    · rw [pk_cpy_out (by omega), pk_cpy_out (by omega)]
theorem cpy_dn (P : Nat → Int64) (s d k : Nat) : va_up (va_cpy P P (s + 1) (d + 1) k) d (P s) = va_cpy P P s d (k + 1) := by
  funext j
  by_cases c : j = d
  · subst c
    rw [up_eq, pk_cpy_in (by omega) (by omega)]
    congr 1
    omega
  · rw [up_ne _ _ c]
    by_cases c2 : d + 1 ≤ j ∧ j < d + 1 + k
    · rw [pk_cpy_in c2.1 c2.2, pk_cpy_in (by omega) (by omega)]
      congr 1
      omega
    · rw [pk_cpy_out (by omega), pk_cpy_out (by omega)]
section N
variable {M : MS} {t u fa fb i j n : Nat}
/-- one turn of the reference's loop, over rows of values -/
theorem cp_step (P : Nat → Int64) (r : MS → Int32 → Int32 → Int32 → Int32 → Int32 → Int32 → Int32 → Option (Int32 × MS)) (ht : t < 4001) (hu : u < 4001) (ea : gA M 8 t = nI fa) (eb : gA M 8 u = nI fb) (ek : gA M 6 u < 8) (v5 v7 v8 : Int32) {e : Nat} (ha : fa + i + e < 256000) (hb : fb + j + e < 256000) : fX12_copies_181 r (sB9 M P) (nI t) (nI u) (nI i) (nI j) v5 v7 v8 (nI e) = r (sB9 M (va_up P (fb + j + e) (P (fa + i + e)))) (nI t) (nI u) (nI i) (nI j) v5 v7 (v8 + 1) := by
  unfold fX12_copies_181 fX12_copies_201 fX12_copies_230 fX12_copies_249 fX12_copies_252
  have e1 : gA (sB9 M P) = gA M := rfl
  rw [e1, ix_nI (n := t) (by omega), ix_nI (n := u) (by omega), ea, eb, nI_add, nI_add, nI_add, nI_add, if_pos (show inb (nI t) (mlA 8) = true from inb_nI (by omega) (by show t < 4001; omega)), if_pos (show inb (nI (fa + i + e)) (mlB 9) = true from inb_nI (by omega) (by show fa + i + e < 256000; omega)), if_pos (show inb (nI u) (mlA 6) = true from inb_nI (by omega) (by show u < 4001; omega)), if_pos ek, if_pos (show inb (nI u) (mlA 8) = true from inb_nI (by omega) (by show u < 4001; omega)), if_pos (show inb (nI (fb + j + e)) (mlB 9) = true from inb_nI (by omega) (by show fb + j + e < 256000; omega)), ix_nI (by omega), ix_nI (by omega), pB_s9, gB_s9]
theorem cp_up (P : Nat → Int64) (ht : t < 4001) (hu : u < 4001) (ea : gA M 8 t = nI fa) (eb : gA M 8 u = nI fb) (ek : gA M 6 u < 8) (ha : fa + i + n ≤ 256000) (hb : fb + j + n ≤ 256000) (hn : n ≤ 64) (ok : fb + j ≤ fa + i ∨ fa + i + n ≤ fb + j) : ∀ (q k : Nat), k + q = n → fX12_copies_157 (q + 1 + (69 - n)) (sB9 M (va_cpy P P (fa + i) (fb + j) k)) (nI t) (nI u) (nI i) (nI j) (nI n) 0 (nI k) = some (0, sB9 M (va_cpy P P (fa + i) (fb + j) n))
  | 0, k, h => by
    have hk : k = n := by omega
    subst hk
    rw [show 0 + 1 + (69 - k) = (69 - k) + 1 by omega, fX12_copies_157, if_pos (Int32.le_refl _)]
  | q + 1, k, h => by
    rw [show q + 1 + 1 + (69 - n) = (q + 1 + (69 - n)) + 1 by omega, fX12_copies_157, if_neg (show ¬ nI n ≤ nI k from fun x => by have := (nI_leI (a := n) (b := k) (by omega) (by omega)).mp x; omega), if_pos rfl, cp_step _ _ ht hu ea eb ek _ _ _ (by omega) (by omega), nI_1]
    have e1 : va_cpy P P (fa + i) (fb + j) k (fa + i + k) = P (fa + i + k) := pk_cpy_out (by omega)
    rw [e1, cpy_up]
    exact cp_up P ht hu ea eb ek ha hb hn ok q (k + 1) (by omega)
theorem cp_dn (P : Nat → Int64) (ht : t < 4001) (hu : u < 4001) (ea : gA M 8 t = nI fa) (eb : gA M 8 u = nI fb) (ek : gA M 6 u < 8) (ha : fa + i + n ≤ 256000) (hb : fb + j + n ≤ 256000) (hn : n ≤ 64) (ok : fa + i < fb + j) : ∀ (q k : Nat), k + q = n → fX12_copies_157 (q + 1 + (69 - n)) (sB9 M (va_cpy P P (fa + i + q) (fb + j + q) k)) (nI t) (nI u) (nI i) (nI j) (nI n) 1 (nI k) = some (0, sB9 M (va_cpy P P (fa + i) (fb + j) n))
  | 0, k, h => by
    have hk : k = n := by omega
    subst hk
    rw [show 0 + 1 + (69 - k) = (69 - k) + 1 by omega, fX12_copies_157, if_pos (Int32.le_refl _)]
    rfl
  | q + 1, k, h => by
    have en : nI n - 1 - nI k = nI q := by
      have h1 : nI n - 1 = nI (n - 1) := pk_sub (a := n) (b := 1) (by omega)
      rw [h1, pk_sub (by omega)]
      congr 1
      omega
    rw [show q + 1 + 1 + (69 - n) = (q + 1 + (69 - n)) + 1 by omega, fX12_copies_157, if_neg (show ¬ nI n ≤ nI k from fun x => by have := (nI_leI (a := n) (b := k) (by omega) (by omega)).mp x; omega), if_neg (show ¬ (1 : Int32) = 0 by decide), en, cp_step _ _ ht hu ea eb ek _ _ _ (by omega) (by omega), nI_1]
    have e1 : va_cpy P P (fa + i + (q + 1)) (fb + j + (q + 1)) k (fa + i + q) = P (fa + i + q) := pk_cpy_out (by omega)
    rw [e1, show fa + i + (q + 1) = fa + i + q + 1 by omega, show fb + j + (q + 1) = fb + j + q + 1 by omega, cpy_dn]
    exact cp_dn P ht hu ea eb ek ha hb hn ok q (k + 1) (by omega)
theorem cp_all (ht : t < 4001) (hu : u < 4001) (ea : gA M 8 t = nI fa) (eb : gA M 8 u = nI fb) (ek : gA M 6 u < 8) (ha : fa + i + n ≤ 256000) (hb : fb + j + n ≤ 256000) (hn : n ≤ 64) {d : Int32} (ok : (d = 0 ∧ (fb + j ≤ fa + i ∨ fa + i + n ≤ fb + j)) ∨ (d = 1 ∧ fa + i < fb + j)) : fX12_copies_152 M (nI t) (nI u) (nI i) (nI j) (nI n) d = some (0, sB9 M (va_cpy (gB M 9) (gB M 9) (fa + i) (fb + j) n)) := by
  unfold fX12_copies_152
  rcases ok with ⟨d1_, ok1_⟩ | ⟨d1_, ok1_⟩
  · have := cp_up (gB M 9) ht hu ea eb ek ha hb hn ok1_ n 0 (by omega)
    rw [cpy_0, s9_id, show n + 1 + (69 - n) = 70 by omega] at this
    rw [d1_]
    exact this
  · have := cp_dn (gB M 9) ht hu ea eb ek ha hb hn ok1_ n 0 (by omega)
    rw [cpy_0, s9_id, show n + 1 + (69 - n) = 70 by omega] at this
    rw [d1_]
    exact this
end N
