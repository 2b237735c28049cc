/-! blocks: the loop over a block's orders, but for REPEAT -/
section N
variable {d : Nat} {rB : CS → Int32 → Int32 → Option ((Int32 × CS) × Nat × Nat)}
/-- what is owed of REPEAT -/
def RepOk (d : Nat) (rB : CS → Int32 → Int32 → Option ((Int32 × CS) × Nat × Nat)) : Prop := ∀ (F B p n : Nat) (S : CS) (M : MS) (r2 : CS → Int32 → Int32 → Option ((Int32 × CS) × Nat × Nat)), Gd B (F + 1) S M → gI M 41 = (-1) → gI M 37 = nI d → gA M 29 (d - 1) = nI p → n ≤ 400 → gI M 25 = nI n → p < n → gA M 21 p = 15 → Nxt d F r2 → ∃ r S' k s, fX11_doBlock_42 rB r2 (fuS S F) (nI d) (nI p) 15 = some ((r, S'), k, s) ∧ BR d (F + 1) B M r S' k s
theorem bl_one (hd : 1 ≤ d) (hd2 : d ≤ 40) (hI : d < 40 → Inn d rB) (hR : RepOk d rB) {F2 B2 L : Nat} {S2 : CS} {M2 : MS} {v : Int32} (G : Gd B2 F2 S2 M2) (h41 : gI M2 41 = (-1)) (h37 : gI M2 37 = nI d) (hat : gA M2 29 (d - 1) = v) (ih : ∀ F', F2 = F' + 1 → Nxt d F' (fX11_doBlock_2 rB L)) : ∃ r S' k s, fX11_doBlock_2 rB (L + 1) S2 (nI d) v = some ((r, S'), k, s) ∧ BR d F2 B2 M2 r S' k s := by
  obtain ⟨n, hn, n1, n2⟩ := G.2.1.2.1
  have hF := G.2.2.2.2.1
  have out : (v < 0 ∨ nI n ≤ v) → BR d F2 B2 M2 0 S2 0 0 := fun hv => ⟨0, F2, B2, M2, by omega, by omega, by omega, by omega, by omega, by omega, G, oth_refl _, Or.inr ⟨h41, stk_refl _ _, M2, rfl, h41, Or.inl ⟨rfl, step_out hd hd2 h37 hat n2 hv⟩⟩⟩
  rw [fX11_doBlock_2]
  unfold fX11_doBlock_89
  by_cases c1 : v < 0
  · rw [if_pos c1]
    exact ⟨0, S2, 0, 0, rfl, out (Or.inl c1)⟩
  · rw [if_neg c1, n1]
    by_cases c2 : nI n ≤ v
    · rw [if_pos c2]
      exact ⟨0, S2, 0, 0, rfl, out (Or.inr c2)⟩
    · rw [if_neg c2]
      obtain ⟨p, hp, rfl⟩ : ∃ p, p < n ∧ v = nI p := by
        rcases ix_c v (n := n) (by omega) with h | ⟨h, _⟩
        · exact h
        · rcases h with h | h
          · exact absurd h c1
          · exact absurd h.2 c2
      have hp4 : p < 400 := by omega
      by_cases c3 : F2 = 0
      · subst c3
        rw [c_dry G.2.2.1, Option.bind_some, if_pos rfl]
        refine ⟨10, S2, 0, 0, rfl, 0, 0, B2, pI M2 41 10, by omega, by omega, by omega, Nat.le_refl _, by omega, by omega, ?_, oth_I (by decide) (by decide) (by decide) (by decide), Or.inl ⟨rfl, rch_1 h41 (step_dry hd hd2 h37 hat hn n2 hp G.2.2.2.1), gI_pI _ _ _⟩⟩
        exact Gd_ctl G (cst_refl _) (mst_I (by decide) (by decide) (by decide)) (ctl_eq G.2.1 rfl (fun _ _ => rfl) (fun _ _ => rfl) (fun k hk => gI_pI_ne _ _ (by omega))) G.2.2.1 (by rw [gI_pI_ne _ _ (by decide)]; exact G.2.2.2.1) (Nat.le_refl _)
      · obtain ⟨F, rfl⟩ : ∃ F, F2 = F + 1 := ⟨F2 - 1, by omega⟩
        have nx := ih F rfl
        rw [c_fuel (by omega) G.2.2.1, Option.bind_some, if_neg (show ¬ (1 : Int32) = 0 by decide)]
        have e34 : fX11_doBlock_34 rB (fX11_doBlock_2 rB L) (fuS S2 F) (nI d) (nI p) = fX11_doBlock_42 rB (fX11_doBlock_2 rB L) (fuS S2 F) (nI d) (nI p) (gA M2 21 p) := by
          unfold fX11_doBlock_34
          rw [if_pos (show inb (nI p) (clA 0) = true from inbO hp4), ix_nI (by omega)]
          have : gA (fuS S2 F).1 0 p = gA M2 21 p := (c_arr G hp4).1
          rw [this]
        have e11 : cpI (cpI S2 10 (nI F)) 11 (gI (cpI S2 10 (nI F)).1 11 + 1) = fuS S2 F := by
          have : gI (cpI S2 10 (nI F)).1 11 = gI S2.1 11 := gI_pI_ne _ _ (by decide)
          rw [this]
          rfl
        simp only
        rw [e11, e34]
        generalize ho : gA M2 21 p = o
        by_cases o0 : o = 0
        · subst o0
          have hst := step_go h41 hd hd2 h37 hat hn n2 hp G.2.2.2.1 (by omega) ho
          rw [if_pos rfl] at hst
          unfold fX11_doBlock_42
          rw [if_pos rfl]
          exact ⟨0, fuS S2 F, 0, 0, rfl, 0, F, B2, fuM M2 F d p, by omega, by omega, by omega, by rw [fu_T]; exact Nat.le_refl _, by omega, by omega, fu_Gd G, fu_oth, Or.inr ⟨by rw [fu_I 41 (by decide) (by decide)]; exact h41, fu_stk hd, M2, rfl, h41, Or.inl ⟨rfl, hst⟩⟩⟩
        · by_cases o13 : o = 13
          · subst o13; exact bl_skip hd hd2 G h41 h37 hat hn n2 hp ho nx
          · by_cases o19 : o = 19
            · subst o19; exact bl_again hd hd2 G h41 h37 hat hn n2 hp ho
            · by_cases o15 : o = 15
              · subst o15; exact hR F B2 p n S2 M2 _ G h41 h37 hat hn n2 hp ho nx
              · by_cases o3 : o = 14 ∨ o = 16 ∨ o = 17
                · by_cases cd : d < 40
                  · rcases o3 with h | h | h <;> subst h
                    · exact bl_call hd cd G h41 h37 hat hn n2 hp ho nx (hI cd)
                    · exact bl_try hd cd G h41 h37 hat hn n2 hp ho nx (hI cd)
                    · exact bl_scope hd cd G h41 h37 hat hn n2 hp ho nx (hI cd)
                  · have e40 : d = 40 := by omega
                    subst e40
                    exact bl_deep G h41 h37 hat hn n2 hp ho o3
                · refine bl_plain hd hd2 G h41 h37 hat hn n2 hp ho ?_ nx
                  have key : ∀ k : Int, o.toInt = k → o = Int32.ofInt k := fun k h => o_int k h
                  have k0 : o.toInt ≠ 0 := fun h => o0 ((key _ h).trans (by decide))
                  have k13 : o.toInt ≠ 13 := fun h => o13 ((key _ h).trans (by decide))
                  have k14 : o.toInt ≠ 14 := fun h => o3 (Or.inl ((key _ h).trans (by decide)))
                  have k15 : o.toInt ≠ 15 := fun h => o15 ((key _ h).trans (by decide))
                  have k16 : o.toInt ≠ 16 := fun h => o3 (Or.inr (Or.inl ((key _ h).trans (by decide))))
                  have k17 : o.toInt ≠ 17 := fun h => o3 (Or.inr (Or.inr ((key _ h).trans (by decide))))
                  have k19 : o.toInt ≠ 19 := fun h => o19 ((key _ h).trans (by decide))
                  omega
theorem bl_loop (hd : 1 ≤ d) (hd2 : d ≤ 40) (hI : d < 40 → Inn d rB) (hR : RepOk d rB) : ∀ (F L : Nat), F < L → Nxt d F (fX11_doBlock_2 rB L) := by
  intro F
  induction F with
  | zero =>
    intro L hL F2 B2 S2 M2 v h1 G h41 h37 hat
    obtain ⟨L1, rfl⟩ : ∃ L1, L = L1 + 1 := ⟨L - 1, by omega⟩
    exact bl_one hd hd2 hI hR G h41 h37 hat (fun F' h => by omega)
  | succ F ih =>
    intro L hL F2 B2 S2 M2 v h1 G h41 h37 hat
    obtain ⟨L1, rfl⟩ : ∃ L1, L = L1 + 1 := ⟨L - 1, by omega⟩
    refine bl_one hd hd2 hI hR G h41 h37 hat (fun F' h => ?_)
    intro F3 B3 S3 M3 v3 h3
    exact ih L1 (by omega) F3 B3 S3 M3 v3 (by omega)
end N
