/-! blocks: a block is begun, and left -/
/-- all frames below d are kept, the top one's place too -/
def stkA (d : Nat) (M M' : MS) : Prop := (∀ k f, 28 ≤ k → k ≤ 35 → f < d → gA M' k f = gA M k f) ∧ ∀ f, f < d → gB M' 36 f = gB M 36 f
theorem stkA_of {d : Nat} {M M' : MS} (h : stk (d + 1) M M') : stkA d M M' := ⟨fun k f a b c => h.1 k f a b (by omega) (Or.inr (by omega)), fun f a => h.2.1 f (by omega)⟩
theorem stkA_trans {d : Nat} {M M1 M2 : MS} (h : stkA d M M1) (g : stkA d M1 M2) : stkA d M M2 := ⟨fun k f a b c => (g.1 k f a b c).trans (h.1 k f a b c), fun f a => (g.2 f a).trans (h.2 f a)⟩
theorem stk_A {d : Nat} {M M1 M2 : MS} (h : stk d M M1) (g : stkA d M1 M2) (e : gI M2 37 = gI M 37) : stk d M M2 := ⟨fun k f a b c x => (g.1 k f a b c).trans (h.1 k f a b c x), fun f a => (g.2 f a).trans (h.2.1 f a), e⟩
def opM (M : MS) (d : Nat) (ty v : Int32) : MS := pI (pA (pA (pA (pA M 28 d ty) 29 d v) 30 d v) 34 d 0) 37 (nI (d + 1))
theorem m_opens {M : MS} {d : Nat} {ty v : Int32} (hd : d < 40) (h37 : gI M 37 = nI d) : fX12_opens M ty v = some (opM M d ty v) := by
  have i : inb (nI d) 40 = true := inb_nI (by omega) (by omega)
  unfold fX12_opens fX12_opens_10 fX12_opens_20 fX12_opens_30 fX12_opens_40 fX12_opens_50 opM
  simp only [gI_pA, h37]
  rw [if_pos (show inb (nI d) (mlA 28) = true from i), if_pos (show inb (nI d) (mlA 29) = true from i), if_pos (show inb (nI d) (mlA 30) = true from i), if_pos (show inb (nI d) (mlA 34) = true from i), ix_nI (by omega), nI_1]
def opF (M : MS) (d : Nat) (ty v a c : Int32) : MS := pA (pA (pA (opM M d ty v) 31 d a) 32 d c) 33 d c
theorem opF_37 {M : MS} {d : Nat} {ty v a c : Int32} : gI (opF M d ty v a c) 37 = nI (d + 1) := gI_pI (pA (pA (pA (pA M 28 d ty) 29 d v) 30 d v) 34 d 0) 37 (nI (d + 1))
theorem opF_I {M : MS} {d : Nat} {ty v a c : Int32} (k : Nat) (h : k ≠ 37) : gI (opF M d ty v a c) k = gI M k := gI_pI_ne _ _ h
theorem opF_lo {M : MS} {d : Nat} {ty v a c : Int32} (k f : Nat) (h : f ≠ d) : gA (opF M d ty v a c) k f = gA M k f := by
  have : ∀ (X : MS) (j : Nat) (u : Int32), gA (pA X j d u) k f = gA X k f := by
    intro X j u
    by_cases e : k = j
    · subst e; rw [gA_pA, if_neg h]
    · rw [gA_pA_ne _ _ _ e]
  unfold opF opM
  rw [this, this, this, gA_pI, this, this, this, this]
theorem opF_An {M : MS} {d : Nat} {ty v a c : Int32} (k : Nat) (h : k < 28) : gA (opF M d ty v a c) k = gA M k := by
  unfold opF opM
  rw [gA_pA_ne _ _ _ (by omega), gA_pA_ne _ _ _ (by omega), gA_pA_ne _ _ _ (by omega), gA_pI, gA_pA_ne _ _ _ (by omega), gA_pA_ne _ _ _ (by omega), gA_pA_ne _ _ _ (by omega), gA_pA_ne _ _ _ (by omega)]
theorem opF_f {M : MS} {d : Nat} {ty v a c : Int32} : gA (opF M d ty v a c) 28 d = ty ∧ gA (opF M d ty v a c) 29 d = v ∧ gA (opF M d ty v a c) 31 d = a ∧ gA (opF M d ty v a c) 32 d = c ∧ gA (opF M d ty v a c) 33 d = c ∧ gA (opF M d ty v a c) 34 d = 0 := by
  unfold opF opM
  refine ⟨?_, ?_, ?_, ?_, ?_, ?_⟩
  · rw [gA_pA_ne _ _ _ (by decide), gA_pA_ne _ _ _ (by decide), gA_pA_ne _ _ _ (by decide), gA_pI, gA_pA_ne _ _ _ (by decide), gA_pA_ne _ _ _ (by decide), gA_pA_ne _ _ _ (by decide), gA_pA, if_pos rfl]
  · rw [gA_pA_ne _ _ _ (by decide), gA_pA_ne _ _ _ (by decide), gA_pA_ne _ _ _ (by decide), gA_pI, gA_pA_ne _ _ _ (by decide), gA_pA_ne _ _ _ (by decide), gA_pA, if_pos rfl]
  · rw [gA_pA_ne _ _ _ (by decide), gA_pA_ne _ _ _ (by decide), gA_pA, if_pos rfl]
  · rw [gA_pA_ne _ _ _ (by decide), gA_pA, if_pos rfl]
  · rw [gA_pA, if_pos rfl]
  · rw [gA_pA_ne _ _ _ (by decide), gA_pA_ne _ _ _ (by decide), gA_pA_ne _ _ _ (by decide), gA_pI, gA_pA, if_pos rfl]
theorem opF_B {M : MS} {d : Nat} {ty v a c : Int32} : gB (opF M d ty v a c) = gB M := rfl
theorem opF_mst {M : MS} {d : Nat} {ty v a c : Int32} : mst M (opF M d ty v a c) := ⟨fun k hk => opF_I k (by omega), fun k hk => opF_An k (by omega), fun _ _ => rfl⟩
theorem opF_Gd {B F d : Nat} {S : CS} {M : MS} {ty v a c : Int32} (G : Gd B F S M) : Gd B F S (opF M d ty v a c) := Gd_ctl G (cst_refl S) opF_mst (ctl_eq G.2.1 rfl (fun _ _ => rfl) (fun k hk => opF_An k (by omega)) (fun k hk => opF_I k (by omega))) G.2.2.1 (by rw [opF_I 38 (by decide)]; exact G.2.2.2.1) (Nat.le_refl _)
theorem opF_stk {d : Nat} {M : MS} {ty v a c : Int32} : stkA d M (opF M d ty v a c) := ⟨fun k f _ _ h => opF_lo k f (by omega), fun _ _ => rfl⟩
/-- CALL, TRY and SCOPE begin a block -/
theorem m_begin {M : MS} {d : Nat} {o a b c i : Int32} (hd : d < 40) (h37 : gI M 37 = nI d) (ho : o = 14 ∨ o = 16 ∨ o = 17) : fX12_controls M o a b c i = some (0, opF M d (if o = 14 then 0 else o - 14) b a c) := by
  have i40 : inb (nI d) 40 = true := inb_nI (by omega) (by omega)
  have n40 : ¬ nI d = 40 := fun q => by have := (nI_inj (b := 40) (by omega) (by decide)).mp q; omega
  have e37 : gI (opM M d (if o = 14 then 0 else o - 14) b) 37 - 1 = nI d := by
    show gI (pI _ 37 (nI (d + 1))) 37 - 1 = nI d
    rw [gI_pI]
    exact pk_sub (a := d + 1) (b := 1) (by omega)
  have e170 : fX12_controls_170 M a b c (if o = 14 then 0 else o - 14) = some (0, opF M d (if o = 14 then 0 else o - 14) b a c) := by
    unfold fX12_controls_170 fX12_controls_186 fX12_controls_199 fX12_controls_212 fX12_controls_344 opF
    rw [m_opens hd h37, Option.bind_some]
    simp only [gI_pA, e37]
    rw [if_pos (show inb (nI d) (mlA 31) = true from i40), if_pos (show inb (nI d) (mlA 32) = true from i40), if_pos (show inb (nI d) (mlA 33) = true from i40), ix_nI (by omega)]
  unfold fX12_controls fX12_controls_8 fX12_controls_143
  rw [h37, if_neg n40]
  rcases ho with h | h | h <;> subst h
  · rw [if_neg (show ¬ (14 : Int32) = 13 by decide), if_neg (show ¬ (14 : Int32) = 15 by decide), if_pos (show (14 : Int32) = 14 from rfl), if_pos (show (14 : Int32) = 14 from rfl)]
    rw [if_pos (show (14 : Int32) = 14 from rfl)] at e170
    rw [if_pos (show (14 : Int32) = 14 from rfl)]
    exact e170
  · rw [if_neg (show ¬ (16 : Int32) = 13 by decide), if_neg (show ¬ (16 : Int32) = 15 by decide), if_neg (show ¬ (16 : Int32) = 14 by decide), if_pos (show (16 : Int32) = 16 from rfl), if_neg (show ¬ (16 : Int32) = 14 by decide)]
    rw [if_neg (show ¬ (16 : Int32) = 14 by decide)] at e170
    rw [if_neg (show ¬ (16 : Int32) = 14 by decide)]
    exact e170
  · rw [if_neg (show ¬ (17 : Int32) = 13 by decide), if_neg (show ¬ (17 : Int32) = 15 by decide), if_neg (show ¬ (17 : Int32) = 14 by decide), if_neg (show ¬ (17 : Int32) = 16 by decide), if_pos (show (17 : Int32) = 17 from rfl), if_neg (show ¬ (17 : Int32) = 14 by decide)]
    rw [if_neg (show ¬ (17 : Int32) = 14 by decide)] at e170
    rw [if_neg (show ¬ (17 : Int32) = 14 by decide)]
    exact e170
/-- a block of no kind of its own, or an attempt, is left at its end -/
theorem thr_pop {M : MS} {d : Nat} (hd : 1 ≤ d) (hd2 : d < 40) (h37 : gI M 37 = nI (d + 1)) (ht : gA M 28 d = 0 ∨ gA M 28 d = 2) : fX12_through M (nI d) = some (pI M 37 (nI d)) := by
  have i : inb (nI d) 40 = true := inb_nI (by omega) (by omega)
  have e1 : nI (d + 1) - 1 = nI d := pk_sub (a := d + 1) (b := 1) (by omega)
  have e171 : fX12_through_171 M = some (pI M 37 (nI d)) := by
    unfold fX12_through_171 fX12_through_181
    rw [h37, e1, gI_pI, if_neg (show ¬ nI d = 0 from fun q => by have := (nI_inj (b := 0) (by omega) (by decide)).mp q; omega)]
  unfold fX12_through
  rw [if_pos (show inb (nI d) (mlA 28) = true from i), ix_nI (by omega)]
  rcases ht with h | h <;> rw [h]
  · rw [if_neg (show ¬ (0 : Int32) = 1 by decide), if_neg (show ¬ (0 : Int32) = 2 by decide), if_neg (show ¬ (0 : Int32) = 3 by decide), if_neg (show ¬ (0 : Int32) = 4 by decide)]
    exact e171
  · rw [if_neg (show ¬ (2 : Int32) = 1 by decide), if_pos (show (2 : Int32) = 2 from rfl)]
    exact e171
