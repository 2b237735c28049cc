/-! GRID -/
theorem cpI2 (S : CS) (k : Nat) (v v' : Int32) : cpI (cpI S k v) k v' = cpI S k v' := by
  unfold cpI pI
  simp only [Prod.mk.injEq, and_true]
  funext j
  by_cases c : j = k
  · subst c; simp [va_up]
  · simp [va_up, c]
theorem c_setPH {S : CS} {g gv gp u r j : Nat} {h : Nat → Option Nat} {fs : List Value} (h1 : g ∈ cLs S) (e1 : cH S g = .inr (5, [.int (nI 10), .int (nI r), .ref gv, .ref gp])) (h2 : gp ∈ cLs S) (e2 : cH S gp = .inl (r, .inr (.inr (.inr (.inr h))))) (h3 : u ∈ cLs S) (e3 : cH S u = .inr (5, .int (nI 4) :: fs)) (hj : j < r) (hr : r ≤ 64) : fX8_setPart S (some g) (nI j) (some u) = some (1, cpH S gp (.inl (r, .inr (.inr (.inr (.inr (va_up h j (some u)))))))) := by
  have gN : tgN S (some g) [5] 3 = some (some gp) := by unfold tgN; rw [tF_at h1 e1 (by decide)]; rfl
  have gI0 : tgI S (some g) [5] 0 = some (nI 10) := by unfold tgI; rw [tF_at h1 e1 (by decide)]; rfl
  have uI0 : tgI S (some u) [5] 0 = some (nI 4) := by unfold tgI; rw [tF_at h3 e3 (by decide)]; rfl
  have ku : ∀ cs : List Nat, isK S u cs = cs.contains 5 := fun cs => isK_at h3 e3 cs
  have hm : fX8_mayHold S (nI 10) (some u) = some (1, S) := by
    have e : fX8_mayHold S (nI 10) (some u) = (Option.bind (cInst S (some u) [5] [0, 1, 2, 3, 4, 6]) (fun c39 => if c39 = 0 then some (0, S) else (if cCast S (some u) [5] = true then (Option.bind (tgI S (some u) [5] 0) (fun c51 => if c51 = 4 then some (1, S) else some (0, S))) else none))) := rfl
    have ci : cInst S (some u) [5] [0, 1, 2, 3, 4, 6] = some 1 := by
      unfold cInst
      simp only
      rw [ku, if_pos (by decide)]
    have cc : cCast S (some u) [5] = true := (ku [5]).trans (by decide)
    rw [e, ci, Option.bind_some, if_neg (show ¬ (1 : Int32) = 0 by decide), cc, if_pos rfl, uI0, Option.bind_some, if_pos (show nI 4 = 4 from rfl)]
  have st : stK S (some u) = true := (ku thK).trans (by decide)
  unfold fX8_setPart fX8_setPart_30
  rw [if_neg (nI_n0 (by omega)), gN, Option.bind_some, tlen_at h2 e2 rfl, Option.bind_some, if_neg (fun x => by have := (nI_leI (a := r) (b := j) (by omega) (by omega)).mp x; omega)]
  show Option.bind (tgI S (some g) [5] 0) (fun c18 => Option.bind (fX8_mayHold S c18 (some u)) (fun c22 => if c22.1 = 0 then fX8_setPart_28 c22.2 else Option.bind (tgN c22.2 (some g) [5] 3) (fun c31 => Option.bind (tasQ c22.2 c31 (nI j) (some u)) (fun c36 => some (1, c36))))) = _
  rw [gI0, Option.bind_some, hm, Option.bind_some, if_neg (show ¬ (1 : Int32) = 0 by decide)]
  simp only
  rw [gN, Option.bind_some]
  unfold tasQ
  rw [arQ_at h2 e2, Option.bind_some]
  simp only
  rw [if_pos ⟨inb_nI (by omega) hj, st⟩, ix_nI (by omega)]
  rfl
def GrI (w : Nat → Nat → Nat) (B : Nat) (S : CS) (M : MS) (t0 r : Nat) : Prop := Rel w B (cpI S 8 (gI M 10)) M ∧ t0 ≠ 0 ∧ t0 ≤ nT M ∧ kN M t0 = 10 ∧ sN M t0 = r ∧ gI S.1 8 + 1 = gI M 10
theorem gr_loop {B t0 r p g : Nat} (hr : r ≤ 16) (hp : p ≤ 16) (a : Int32) : ∀ (q i kf : Nat) (w : Nat → Nat → Nat) (S : CS) (M : MS), i + q = r → nT M + q ≤ 4000 → GrI w B S M t0 r → w 0 t0 = g → ∃ w' S' M' k s, fX11_makeGrid_62 (q + 1 + kf) S a (lN r) (lN p) (some g) (nI i) = some ((0, S'), k, s) ∧ fX12_makes_131 (q + 1 + kf) M (a &&& 15) (lN r) (lN p) (nI t0) (nI i) = some (0, M') ∧ Rel w' B S' M' ∧ cfr S S' ∧ mfr M M' ∧ nT M' = nT M + q ∧ k ≤ 3 * q ∧ s ≤ 80 * q := by
  have ei : ix (a &&& 15) = ra a := rfl
  intro q
  induction q with
  | zero =>
    intro i kf w S M hi hT hG hg
    obtain ⟨R, g1, g2, g3, g4, g5⟩ := hG
    have e : i = r := by omega
    subst e
    have hst := c_stK R g2
    rw [rfn_s w g1, hg] at hst
    have R2 := Rel_slt (k := ra a) R g2
    rw [rfn_s w g1, hg] at R2
    refine ⟨w, cpS (cpI S 8 (gI M 10)) (ra a) (some g), pA M 5 (ra a) (nI t0), 0, 0, ?_, ?_, R2, ?_, mfr_A (by decide), rfl, by omega, by omega⟩
    · rw [show 0 + 1 + kf = kf + 1 by omega, fX11_makeGrid_62, if_pos (show lN i ≤ (nI i).toInt64 by rw [nI_l (by omega)]; exact Int64.le_refl _)]
      unfold fX11_giveNew fX11_giveNew_10
      rw [g5, c_giveThg _ a _ hst, Option.bind_some, Option.bind_some]
    · rw [show 0 + 1 + kf = kf + 1 by omega, fX12_makes_131, if_pos (show lN i ≤ (nI i).toInt64 by rw [nI_l (by omega)]; exact Int64.le_refl _), if_pos (inb5 a)]
      rfl
    · exact ⟨fun j h7 h8 => gI_pI_ne _ _ h8, rfl⟩
  | succ q ih =>
    intro i kf w S M hi hT hG hg
    obtain ⟨R, g1, g2, g3, g4, g5⟩ := hG
    obtain ⟨S1, i1_, i2_, i3_, i4_, i5_, i6_⟩ := c_init8 S (k := 4) (n := p) (by decide) (by omega)
    obtain ⟨tk, k1_, k2_⟩ := rl_tk R
    have hlt := R.2.2.2.2.2.2.1.2.2
    have h40 := rl_4000 R
    have ht1 : t0 ≠ nT M + 1 := by omega
    -- a new row on both sides
    have R1 := Rel_newR (S' := cpI S1 8 (gI M 10)) (t := nT M + 1) (tk := tk) (k := 4) R rfl (by omega) (by decide) (by omega) k2_ k1_ (show pI S1.1 8 (gI M 10) = pI S.1 8 (gI M 10) by rw [i2_]) i3_ i4_ i5_ i6_
    rw [cpI2] at R1
    have R1' : Rel (wNew w (nT M + 1) (cSz S)) B (cpI S1 8 (nI (nT M + 1))) (rwM M (nT M + 1) 4 p tk) := R1
    have eT : nT (rwM M (nT M + 1) 4 p tk) = nT M + 1 := rw_T (by omega)
    have kG : kN (rwM M (nT M + 1) 4 p tk) t0 = 10 := by unfold kN; rw [rw_A _ _ ht1]; exact g3
    have sG : sN (rwM M (nT M + 1) 4 p tk) t0 = r := by show ix (gA _ 7 t0) = r; rw [rw_A _ _ ht1]; exact g4
    have fG : fN (rwM M (nT M + 1) 4 p tk) t0 = fN M t0 := by show ix (gA _ 8 t0) = ix (gA M 8 t0); rw [rw_A _ _ ht1]
    have kT : kN (rwM M (nT M + 1) 4 p tk) (nT M + 1) = 4 := by unfold kN; rw [rw_6.1]; rfl
    obtain ⟨f1_, h1_, b1_, b2_, b3_, b4_, b5_⟩ := rl_row R1' g1 (by omega) (by omega)
    rw [if_neg (by omega), sG] at b4_
    rw [kG, sG] at b2_
    have w0g : wNew w (nT M + 1) (cSz S) 0 t0 = g := (if_neg ht1).trans hg
    have wT : wNew w (nT M + 1) (cSz S) 0 (nT M + 1) = cSz S := if_pos rfl
    have er : rfn (wNew w (nT M + 1) (cSz S)) (nT M + 1) = some (cSz S) := by rw [rfn_s _ (by omega), wT]
    have R2 := Rel_prt R1' g1 (by omega) ⟨by omega, by omega⟩ (by rw [sG]; exact b4_) (j := i) (u := nT M + 1) (by omega) (by omega) (Or.inr (by rw [kG, kT]; exact Or.inr (Or.inr ⟨rfl, rfl⟩)))
    rw [er, sG, fG] at R2
    -- the class puts it into the grid
    have mg : wNew w (nT M + 1) (cSz S) 0 t0 ∈ cLs S1 := rl_in R1' g1 (by omega)
    have mp : wNew w (nT M + 1) (cSz S) 2 t0 ∈ cLs S1 := (rl_in1 R1' g1 (by omega) (by omega)).2
    have mu : cSz S ∈ cLs S1 := by rw [i4_]; simp
    have hs1 := c_setPH (S := S1) (j := i) mg b2_ mp b4_ mu (show cH S1 (cSz S) = .inr (5, .int (nI 4) :: [.int (nI p), .ref (cSz S + 1), .ref (cSz S + 2)]) by rw [i6_, if_pos rfl]; rfl) (by omega) (by omega)
    rw [w0g] at hs1 mg
    have G2 : GrI (wNew w (nT M + 1) (cSz S)) B (cpI (cpH S1 (wNew w (nT M + 1) (cSz S) 2 t0) (.inl (r, .inr (.inr (.inr (.inr (va_up h1_ i (some (cSz S)))))))))  8 (gI S1.1 8 + 1)) (pB (rwM M (nT M + 1) 4 p tk) 9 (fN M t0 + i) (lN (nT M + 1))) t0 r := by
      refine ⟨?_, g1, ?_, kG, sG, ?_⟩
      · have e10 : gI (pB (rwM M (nT M + 1) 4 p tk) 9 (fN M t0 + i) (lN (nT M + 1))) 10 = nI (nT M + 1) := (rw_I (M := M) (t := nT M + 1) (k := 4) (n := p) (tk := tk)).1
        rw [e10, cpI2]
        exact R2
      · show t0 ≤ nT (rwM M (nT M + 1) 4 p tk)
        omega
      · have e10 : gI (pB (rwM M (nT M + 1) 4 p tk) 9 (fN M t0 + i) (lN (nT M + 1))) 10 = nI (nT M + 1) := (rw_I (M := M) (t := nT M + 1) (k := 4) (n := p) (tk := tk)).1
        rw [e10]
        show gI (pI _ 8 (gI S1.1 8 + 1)) 8 + 1 = _
        rw [gI_pI, i2_, g5, R.2.2.2.1.1, nI_1]
    obtain ⟨w', S', M', k, s, q1_, q2_, q3_, q4_, q5_, q6_, q7_, q8_⟩ := ih (i + 1) kf _ _ _ (by omega) (by show nT (rwM M (nT M + 1) 4 p tk) + q ≤ 4000; omega) G2 w0g
    have hm1 : cSz S ∈ cLs (cnew S (.inr (5, [.int 0, .int 0, .null, .null]))) := by rw [cLs_new]; simp
    have hh1 : cH (cnew S (.inr (5, [.int 0, .int 0, .null, .null]))) (cSz S) = .inr (5, [.int 0, .int 0, .null, .null]) := by rw [cH_new, if_pos rfl]
    have kxn : isKx (cnew S (.inr (5, [.int 0, .int 0, .null, .null]))) (some (cSz S)) [5] = true := (isK_at hm1 hh1 [5]).trans (by decide)
    have kxg : isKx S1 (some g) [5] = true := by
      rw [w0g] at b2_
      exact (isK_at mg b2_ [5]).trans (by decide)
    have nle : ¬ lN r ≤ (nI i).toInt64 := by
      rw [nI_l (by omega)]
      intro x
      have := (lN_le (a := r) (b := i) (by omega) (by omega)).mp x
      omega
    refine ⟨w', S', M', k + 2 + 1, s + p + 4, ?_, ?_, q3_, ?_, ?_, ?_, by omega, by omega⟩
    · rw [show q + 1 + 1 + kf = (q + 1 + kf) + 1 by omega, fX11_makeGrid_62, if_neg nle]
      unfold fX11_makeGrid_77 fX11_makeGrid_99 fX11_makeGrid_102
      rw [show nI 4 = 4 from rfl] at i1_
      rw [kxn, if_pos rfl, lN_i, i1_, Option.bind_some]
      simp only
      rw [kxg, if_pos rfl, hs1, Option.bind_some]
      simp only
      rw [nI_1]
      have q1' : fX11_makeGrid_62 (q + 1 + kf) (cpI (cpH S1 (wNew w (nT M + 1) (cSz S) 2 t0) (.inl (r, .inr (.inr (.inr (.inr (va_up h1_ i (some (cSz S)))))))))  8 (gI (cpH S1 (wNew w (nT M + 1) (cSz S) 2 t0) (.inl (r, .inr (.inr (.inr (.inr (va_up h1_ i (some (cSz S))))))))).1 8 + 1)) a (lN r) (lN p) (some g) (nI (i + 1)) = some ((0, S'), k, s) := q1_
      rw [q1']
      rfl
    · rw [show q + 1 + 1 + kf = (q + 1 + kf) + 1 by omega, fX12_makes_131, if_neg nle, if_pos (show inb (nI t0) (mlA 8) = true from inb_nI (by omega) (by show t0 < 4001; omega)), lN_i, show (4 : Int32) = nI 4 from rfl, m_newR R (t := nT M + 1) rfl (by omega) (by omega) k2_ (by omega), Option.bind_some]
      simp only
      have hpl := m_pl R g1 g2 (j := i) (by omega)
      rw [ix_nI (by omega), if_pos hpl.1, hpl.2, nI_l (by omega)]
      unfold fX12_makes_163 fX12_makes_166
      rw [nI_1]
      exact q2_
    · refine cfr_trans ⟨fun j h7 h8 => ?_, ?_⟩ q4_
      · show gI (pI S1.1 8 _) j = _
        rw [gI_pI_ne _ _ h8, i2_]
      · show gA S1.1 = _
        rw [i2_]
    · exact mfr_trans rw_fr (mfr_trans (mfr_B (by decide)) q5_)
    · rw [q6_]
      show nT (rwM M (nT M + 1) 4 p tk) + q = _
      omega
