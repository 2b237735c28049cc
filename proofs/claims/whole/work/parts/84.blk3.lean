/-! blocks: an order that begins none, and SKIP -/
section N
variable {d F B p n : Nat} {S : CS} {M : MS} {rB : CS → Int32 → Int32 → Option ((Int32 × CS) × Nat × Nat)} {r2 : CS → Int32 → Int32 → Option ((Int32 × CS) × Nat × Nat)}
/-- the rest of the block, with less fuel -/
def Nxt (d F : Nat) (r2 : CS → Int32 → Int32 → Option ((Int32 × CS) × Nat × Nat)) : Prop := ∀ (F2 B2 : Nat) (S2 : CS) (M2 : MS) (v : Int32), F2 ≤ F → Gd B2 F2 S2 M2 → gI M2 41 = (-1) → gI M2 37 = nI d → gA M2 29 (d - 1) = v → ∃ r S' k s, r2 S2 (nI d) v = some ((r, S'), k, s) ∧ BR d F2 B2 M2 r S' k s
theorem c_arr (G : Gd B F S M) (hp : p < 400) : gA S.1 0 p = gA M 21 p ∧ gA S.1 1 p = gA M 22 p ∧ gA S.1 2 p = gA M 23 p ∧ gA S.1 3 p = gA M 24 p := G.2.1.1 p hp
theorem fuS_A : gA (fuS S F).1 = gA S.1 := rfl
theorem inbO (hp : p < 400) : inb (nI p) 400 = true := inb_nI (by omega) hp
/-- the order's own steps on both sides, once fuel is taken -/
theorem c_doOrder (hp : p < 400) {o : Int32} (ho : gA S.1 0 p = o) (hz : o.toInt < 0 ∨ (1 ≤ o.toInt ∧ o.toInt ≤ 12) ∨ (18 ≤ o.toInt ∧ o.toInt ≠ 19)) (v2 : Int32) : fX11_doOrder rB S (nI p) v2 = fX11_doOrder_62 rB S (nI p) o (gA S.1 1 p) (gA S.1 2 p) (gA S.1 3 p) := by
  have e14 : (14 : Int32).toInt = 14 := by decide
  have e17 : (17 : Int32).toInt = 17 := by decide
  have e19 : ¬ o = 19 := fun q => by
    rw [q] at hz
    revert hz
    decide
  unfold fX11_doOrder fX11_doOrder_7 fX11_doOrder_26 fX11_doOrder_46 fX11_doOrder_54
  rw [if_pos (show inb (nI p) (clA 0) = true from inbO hp), if_pos (show inb (nI p) (clA 1) = true from inbO hp), if_pos (show inb (nI p) (clA 2) = true from inbO hp), if_pos (show inb (nI p) (clA 3) = true from inbO hp), ix_nI (by omega), ho, if_neg e19]
  by_cases c : o.toInt < 14
  · rw [if_pos (show o < 14 by rw [Int32.lt_iff_toInt_lt]; omega)]
  · rw [if_neg (show ¬ o < 14 by rw [Int32.lt_iff_toInt_lt]; omega), if_pos (show 17 < o by rw [Int32.lt_iff_toInt_lt]; omega)]
theorem m_does (hp : p < 400) {o : Int32} (ho : gA M 21 p = o) : fX12_does M (nI p) = fX12_does_30 M (nI p) o (gA M 22 p) (gA M 23 p) (gA M 24 p) := by
  unfold fX12_does fX12_does_7 fX12_does_14 fX12_does_22
  rw [if_pos (show inb (nI p) (mlA 21) = true from inbO hp), if_pos (show inb (nI p) (mlA 22) = true from inbO hp), if_pos (show inb (nI p) (mlA 23) = true from inbO hp), if_pos (show inb (nI p) (mlA 24) = true from inbO hp), ix_nI (by omega), ho]
theorem addD_some {α : Type} (a b : Nat) (y : α) (c s : Nat) : addD a b (some (y, c, s)) = some (y, c + a, s + b) := rfl
theorem bl_plain (hd : 1 ≤ d) (hd2 : d ≤ 40) (G : Gd B (F + 1) S M) (h41 : gI M 41 = (-1)) (h37 : gI M 37 = nI d) (hat : gA M 29 (d - 1) = nI p) (hn : n ≤ 400) (h25 : gI M 25 = nI n) (hp : p < n) {o : Int32} (ho : gA M 21 p = o) (hz : o.toInt < 0 ∨ (1 ≤ o.toInt ∧ o.toInt ≤ 12) ∨ (18 ≤ o.toInt ∧ o.toInt ≠ 19)) (ih : Nxt d F r2) : ∃ r S' k s, fX11_doBlock_42 rB r2 (fuS S F) (nI d) (nI p) o = some ((r, S'), k, s) ∧ BR d (F + 1) B M r S' k s := by
  have hF : F < 20000 := by have := G.2.2.2.2.1; omega
  have hp4 : p < 400 := by omega
  have G1 := fu_Gd (d := d) (p := p) G
  have n0 : ¬ o = 0 := fun q => by rw [q] at hz; revert hz; decide
  have n13 : ¬ o = 13 := fun q => by rw [q] at hz; revert hz; decide
  have hst := step_go h41 hd hd2 h37 hat hn h25 hp G.2.2.2.1 hF ho
  rw [if_neg n0] at hst
  have hst' : fX12_steps M = Option.bind (fX12_does (fuM M F d p) (nI p)) (fun c93 => if c93.1 ≤ 0 then some c93.2 else (Option.bind (fX12_comes c93.2 c93.1 (nI p)) (fun c104 => some c104))) := hst
  have ho1 : gA (fuM M F d p) 21 p = o := by rw [fu_A 21 (by decide)]; exact ho
  have hoS : gA (fuS S F).1 0 p = o := (c_arr G hp4).1.trans ho
  have ha := c_arr G1 hp4
  obtain ⟨⟨w, R⟩, _⟩ := G1
  have hB : B < 2147483647 := by have := G.2.2.2.2.2; omega
  have G1 := fu_Gd (d := d) (p := p) G
  obtain ⟨r, w', S', M', k, q, p1, p2, p3, p4, p5, p6, p7, p8, p9⟩ := sim_plain R hB rB (nI p) (gA (fuM M F d p) 22 p) (gA (fuM M F d p) 23 p) (gA (fuM M F d p) 24 p) hz
  rw [m_does hp4 ho1, p3, Option.bind_some] at hst'
  have hm41 : gI M' 41 = (-1) := by rw [p6.1 41 (by decide) (by decide) (by decide), fu_I 41 (by decide) (by decide)]; exact h41
  have hm37 : gI M' 37 = nI d := by rw [p6.1 37 (by decide) (by decide) (by decide), fu_I 37 (by decide) (by decide)]; exact h37
  have hm29 : gA M' 29 (d - 1) = nI (p + 1) := by rw [p6.2.1 29 (by decide)]; exact fu_at
  have G2 : Gd (B + 1) F S' M' := ⟨⟨w', p4⟩, ctl_fr G1.2.1 p5 p6, by rw [p5.1 10 (by decide) (by decide)]; exact G1.2.2.1, by rw [p6.1 38 (by decide) (by decide) (by decide)]; exact G1.2.2.2.1, by omega, by have := G.2.2.2.2.2; omega⟩
  have hs2 : stk d M M' := stk_trans (fu_stk hd) (stk_mfr p6)
  have ho2 : oth M M' := oth_trans fu_oth (oth_mfr p6)
  have hT : nT (fuM M F d p) = nT M := fu_T
  unfold fX11_doBlock_42
  rw [if_neg n0, if_neg n13, c_doOrder hp4 hoS hz, ha.2.1, ha.2.2.1, ha.2.2.2, p2]
  unfold fX11_doOrder_231
  by_cases c0 : r = 0
  · subst c0
    have hr0 : fX11_raise S' (nI 0) (nI p) = some (0, S') := by
      unfold fX11_raise fX11_isFault fX11_isFault_15
      rw [if_pos (show nI 0 < 1 by decide), if_pos rfl]
      rfl
    rw [if_pos (show nI 0 ≤ 0 by decide)] at hst'
    rw [hr0, Option.bind_some, addD_some, Option.bind_some]
    unfold fX11_doBlock_75 fX11_doBlock_83 fX11_doBlock_86
    simp only
    rw [if_pos trivial, nI_1]
    obtain ⟨r3, S3, k3, s3, e3, b3⟩ := ih F (B + 1) S' M' (nI (p + 1)) (Nat.le_refl _) G2 hm41 hm37 hm29
    rw [e3, addD_some]
    refine ⟨r3, S3, _, _, rfl, ?_⟩
    exact br_pre (n2 := 1) (M2 := M') (by omega) (by omega) (show rch 1 M M' from rch_1 h41 hst') (by omega) hs2 ho2 (by omega) (by omega) (by omega) b3
  · have hz9 : 1 ≤ r ∧ r ≤ 9 := by omega
    rw [if_neg (show ¬ nI r ≤ 0 from fun x => by have := (nI_leI (a := r) (b := 0) (by omega) (by decide)).mp x; omega)] at hst'
    obtain ⟨r3, S3, e3, e4, b3⟩ := br_raise (p := p) hz9 G2 hm41 h41 hst' hs2 ho2 (F0 := F + 1) (B0 := B) (k := k) (s := q) (by omega) (by omega) (by omega) (by omega) (by omega)
    rw [e3, Option.bind_some, addD_some, Option.bind_some]
    unfold fX11_doBlock_75
    simp only
    rw [if_neg e4, addD_some]
    refine ⟨r3, S3, k, q, ?_, b3⟩
    show some ((r3, S3), 0 + (0 + k), 0 + (0 + q)) = _
    rw [Nat.zero_add, Nat.zero_add, Nat.zero_add, Nat.zero_add]
end N
