/-! CLONE -/
theorem mfr_9 (M : MS) (P : Nat → Int64) : mfr M (sB9 M P) := ⟨fun _ _ _ _ => rfl, fun _ _ => rfl, gB_s9n _ _ (by decide)⟩
theorem c_takeH {S : CS} {a b va pa vb pb n : Nat} {f g : Nat → Int64} (ha : a ∈ cLs S) (ea : cH S a = .inr (5, [.int (nI 4), .int (nI n), .ref va, .ref pa])) (hb : b ∈ cLs S) (eb : cH S b = .inr (5, [.int (nI 4), .int (nI n), .ref vb, .ref pb])) (hva : va ∈ cLs S) (eva : cH S va = .inl (n, .inr (.inl f))) (hvb : vb ∈ cLs S) (evb : cH S vb = .inl (n, .inr (.inl g))) (hn : n ≤ 64) : fX8_takeFrom S (some b) (some a) 0 0 (nI n) = some (1, cpH S vb (.inl (n, .inr (.inl (va_cpy f g 0 0 n))))) := by
  have kx : ∀ x, x = a ∨ x = b → isKx S (some x) [5] = true := by
    intro x hx
    rcases hx with h | h <;> subst h
    · exact (isK_at ha ea [5]).trans (by decide)
    · exact (isK_at hb eb [5]).trans (by decide)
  have g1 : ∀ x, x = a ∨ x = b → tgI S (some x) [5] 1 = some (nI n) ∧ tgI S (some x) [5] 0 = some (nI 4) := by
    intro x hx
    unfold tgI
    rcases hx with h | h <;> subst h
    · rw [tF_at ha ea (by decide), tF_at ha ea (by decide)]; exact ⟨rfl, rfl⟩
    · rw [tF_at hb eb (by decide), tF_at hb eb (by decide)]; exact ⟨rfl, rfl⟩
  have g2 : tgN S (some a) [5] 2 = some (some va) ∧ tgN S (some b) [5] 2 = some (some vb) := by
    unfold tgN
    rw [tF_at ha ea (by decide), tF_at hb eb (by decide)]
    exact ⟨rfl, rfl⟩
  have hr : ∀ x, x = a ∨ x = b → fX8_hasRange S (some x) 0 (nI n) = some (1, S) := by
    intro x hx
    unfold fX8_hasRange
    rw [if_neg (show ¬ (0 : Int32) < 0 by decide), if_neg (nI_n0 (by omega)), (g1 x hx).1, Option.bind_some, if_neg]
    rw [Int64.lt_iff_toInt_lt, i64_add, Int32.toInt_toInt64]
    have : (0 : Int32).toInt = 0 := by decide
    omega
  have hal : fX8_isAlike S (some b) (some a) = some (1, S) := by
    unfold fX8_isAlike fX8_isAlike_25
    rw [(g1 b (Or.inr rfl)).2, (g1 a (Or.inl rfl)).2, Option.bind_some, Option.bind_some, if_pos rfl]
  have hh : fX8_holdsThings S (some b) = some (0, S) := by
    unfold fX8_holdsThings
    rw [(g1 b (Or.inr rfl)).2, Option.bind_some, if_pos (show nI 4 < 8 by decide)]
  unfold fX8_takeFrom
  rw [kx a (Or.inl rfl), if_pos rfl, hr a (Or.inl rfl), Option.bind_some, if_neg (show ¬ (1 : Int32) = 0 by decide)]
  simp only
  rw [kx b (Or.inr rfl), if_pos rfl, hr b (Or.inr rfl), Option.bind_some, if_neg (show ¬ (1 : Int32) = 0 by decide)]
  simp only
  rw [kx b (Or.inr rfl), if_pos rfl, hal, Option.bind_some, if_neg (show ¬ (1 : Int32) = 0 by decide)]
  simp only
  rw [kx b (Or.inr rfl), if_pos rfl, hh, Option.bind_some, if_pos rfl]
  simp only
  rw [g2.1, Option.bind_some, g2.2, Option.bind_some]
  unfold tcpJ
  rw [arJ_at hva eva, Option.bind_some, arJ_at hvb evb, Option.bind_some]
  simp only
  have e0 : (0 : Int32).toInt = 0 := by decide
  rw [e0, nI_int (n := n) (by omega), show ix 0 = 0 from rfl, ix_nI (by omega), if_pos ⟨by omega, by omega, by omega, by omega, by omega⟩]
  rfl
theorem cl_loop {M : MS} {t u fa fb n : Nat} {a : Int32} (ht : t < 4001) (hu : u < 4001) (es : gA M 7 u = nI n) (ea : gA M 8 u = nI fa) (eb : gA M 8 t = nI fb) (hn : n ≤ 64) (ha : fa + n ≤ 256000) (hb : fb + n ≤ 256000) (hd : fa + n ≤ fb) (P : Nat → Int64) : ∀ (q i k : Nat), i + q = n → fX12_rows_264 (q + 1 + k) (sB9 M (va_cpy P P fa fb i)) a (nI u) (nI t) (nI i) = some (0, pA (sB9 M (va_cpy P P fa fb n)) 5 (ra a) (nI t)) := by
  have eA : ∀ X, gA (sB9 M X) = gA M := fun X => rfl
  intro q
  induction q with
  | zero =>
    intro i k hi
    have e : i = n := by omega
    subst e
    rw [show 0 + 1 + k = k + 1 by omega, fX12_rows_264, if_pos (show inb (nI u) (mlA 7) = true from inb_nI (by omega) (by show u < 4001; omega)), ix_nI (by omega), eA, es, if_pos (Int32.le_refl _), if_pos (inb5 a)]
    rfl
  | succ q ih =>
    intro i k hi
    have fin := ih (i + 1) k (by omega)
    rw [show q + 1 + 1 + k = (q + 1 + k) + 1 by omega, fX12_rows_264, if_pos (show inb (nI u) (mlA 7) = true from inb_nI (by omega) (by show u < 4001; omega)), ix_nI (n := u) (by omega), ix_nI (n := t) (by omega), eA, es, if_neg (fun x => by have := (nI_leI (a := n) (b := i) (by omega) (by omega)).mp x; omega), if_pos (show inb (nI t) (mlA 8) = true from inb_nI (by omega) (by show t < 4001; omega)), if_pos (show inb (nI u) (mlA 8) = true from inb_nI (by omega) (by show u < 4001; omega)), ea, eb, nI_add, nI_add, if_pos (show inb (nI (fa + i)) (mlB 9) = true from inb_nI (by omega) (by show fa + i < 256000; omega)), if_pos (show inb (nI (fb + i)) (mlB 9) = true from inb_nI (by omega) (by show fb + i < 256000; omega)), ix_nI (by omega), ix_nI (by omega), pB_s9, gB_s9]
    have e1 : va_cpy P P fa fb i (fa + i) = P (fa + i) := pk_cpy_out (by omega)
    unfold fX12_rows_306 fX12_rows_309
    rw [e1, cpy_up, nI_1]
    exact fin
section N
variable {w : Nat → Nat → Nat} {B : Nat} {S : CS} {M : MS}
theorem sim_clone (R : Rel w B S M) (a b : Int32) : SimA B S M (fX11_cloneInts S a (cSl S (ra b))) (Option.bind (fX12_kindOf M b) (fun c198 => if c198.1 = (-1) then fX12_rows_214 c198.2 a b else (Option.bind (fX12_kindOf c198.2 b) (fun c205 => if c205.1 = 4 then fX12_rows_214 c205.2 a b else some (2, c205.2))))) := by
  obtain ⟨u, h2, e1_, e2_⟩ := rl_slot R b
  have hK := m_kindOf R b e1_ h2
  have h4 := rl_4000 R
  unfold fX11_cloneInts fX12_rows_214 fX11_cloneInts_26
  rw [e2_]
  simp only [hK, Option.bind_some]
  by_cases cu : u = 0
  · subst cu
    rw [if_pos rfl, if_pos rfl]
    exact sima_err R 1 (by decide)
  · have hk := rl_kN R cu h2
    rw [if_neg cu, onul_r cu, rfn_s w cu, if_neg (nI_nm (by omega)), if_neg (nI_nm (by omega)), c_inst R cu h2 _ _ inst5, Option.bind_some, c_cast R cu h2, c_isKx R cu h2]
    have e4 : nI (kN M u) = 4 ↔ kN M u = 4 := nI_inj (b := 4) (by omega) (by decide)
    by_cases c1 : kN M u ≤ 10
    · have hr := c_row R cu h2 c1
      unfold fX8_kind
      rw [if_pos (tag5.mpr c1), if_neg (show ¬ (1 : Int32) = 0 by decide), if_pos (tag5.mpr c1), if_pos (tag5.mpr c1), hr.1, Option.bind_some, Option.bind_some]
      by_cases c2 : kN M u = 4
      · rw [if_pos (e4.mpr c2), if_pos (e4.mpr c2)]
        by_cases c5 : nT M < 4000
        · rw [((c_room R).1 c5).1, ((c_room R).1 c5).2, Option.bind_some, Option.bind_some, if_neg (show ¬ (1 : Int32) = 0 by decide), if_neg (show ¬ (1 : Int32) = 0 by decide)]
          simp only
          have hs := rl_sN R cu h2
          obtain ⟨f1_, g1_, b1_, b2_, b3_, b4_, b5_⟩ := rl_row R cu h2 c1
          rw [if_pos (by omega)] at b3_
          have e5 : gA M 5 (ix (b &&& 15)) = nI u := e1_
          obtain ⟨S1, i1_, i2_, i3_, i4_, i5_, i6_⟩ := c_init8 S (k := 4) (n := sN M u) (by decide) b1_
          obtain ⟨tk, k1_, k2_⟩ := rl_tk R
          have hlt := R.2.2.2.2.2.2.1.2.2
          have R' := Rel_newR (t := nT M + 1) (tk := tk) (k := 4) R rfl (by omega) (by decide) b1_ k2_ k1_ i2_ i3_ i4_ i5_ i6_
          have eT : nT (rwM M (nT M + 1) 4 (sN M u) tk) = nT M + 1 := rw_T (by omega)
          have ei : ix (a &&& 15) = ra a := rfl
          -- the class
          have hw0 := rl_in R cu h2
          have hw1 := (rl_in1 R cu h2 c1).1
          have n0 := hlt _ hw0
          have n1 := hlt _ hw1
          have mem : ∀ x, x ∈ cLs S → x ∈ cLs S1 := fun x hx => by rw [i4_]; exact List.mem_append_left _ hx
          have memN : cSz S ∈ cLs S1 ∧ cSz S + 1 ∈ cLs S1 := by rw [i4_]; constructor <;> simp
          have hE0 : cH S1 (w 0 u) = .inr (5, [.int (nI 4), .int (nI (sN M u)), .ref (w 1 u), .ref (w 2 u)]) := by
            rw [i6_, if_neg (by omega), if_neg (by omega), if_neg (by omega), b2_, c2]
          have hE1 : cH S1 (w 1 u) = .inl (sN M u, .inr (.inl f1_)) := by
            rw [i6_, if_neg (by omega), if_neg (by omega), if_neg (by omega)]; exact b3_
          have hN0 : cH S1 (cSz S) = .inr (5, [.int (nI 4), .int (nI (sN M u)), .ref (cSz S + 1), .ref (cSz S + 2)]) := by rw [i6_, if_pos rfl]; rfl
          have hN1 : cH S1 (cSz S + 1) = .inl (sN M u, .inr (.inl (fun _ => 0))) := by rw [i6_, if_neg (by omega), if_pos rfl]; rfl
          have htake := c_takeH (mem _ hw0) hE0 memN.1 hN0 (mem _ hw1) hE1 memN.2 hN1 b1_
          have hm1 : cSz S ∈ cLs (cnew S (.inr (5, [.int 0, .int 0, .null, .null]))) := by rw [cLs_new]; simp
          have hh1 : cH (cnew S (.inr (5, [.int 0, .int 0, .null, .null]))) (cSz S) = .inr (5, [.int 0, .int 0, .null, .null]) := by rw [cH_new, if_pos rfl]
          have kxn : isKx (cnew S (.inr (5, [.int 0, .int 0, .null, .null]))) (some (cSz S)) [5] = true := (isK_at hm1 hh1 [5]).trans (by decide)
          have hmu : w 0 u ∈ cLs (cnew S (.inr (5, [.int 0, .int 0, .null, .null]))) := by rw [cLs_new]; exact List.mem_append_left _ hw0
          have heu : cH (cnew S (.inr (5, [.int 0, .int 0, .null, .null]))) (w 0 u) = .inr (5, [.int (nI (kN M u)), .int (nI (sN M u)), .ref (w 1 u), .ref (w 2 u)]) := by rw [cH_new, if_neg (by omega)]; exact b2_
          have kxu : isKx (cnew S (.inr (5, [.int 0, .int 0, .null, .null]))) (some (w 0 u)) [5] = true := (isK_at hmu heu [5]).trans (by decide)
          have len0 : fX8_length (cnew S (.inr (5, [.int 0, .int 0, .null, .null]))) (some (w 0 u)) = some (nI (sN M u), cnew S (.inr (5, [.int 0, .int 0, .null, .null]))) := by
            unfold fX8_length tgI
            rw [tF_at hmu heu (by decide)]; rfl
          have len1 : fX8_length S1 (some (w 0 u)) = some (nI (sN M u), S1) := by
            unfold fX8_length tgI
            rw [tF_at (mem _ hw0) hE0 (by decide)]; rfl
          have kxu1 : isKx S1 (some (w 0 u)) [5] = true := (isK_at (mem _ hw0) hE0 [5]).trans (by decide)
          have kxn1 : isKx S1 (some (cSz S)) [5] = true := (isK_at memN.1 hN0 [5]).trans (by decide)
          -- both after the copy
          have w1t : wNew w (nT M + 1) (cSz S) 1 (nT M + 1) = cSz S + 1 := if_pos rfl
          have w1u : wNew w (nT M + 1) (cSz S) 1 u = w 1 u := if_neg (by omega)
          have kU : kN (rwM M (nT M + 1) 4 (sN M u) tk) u = 4 := by unfold kN; rw [rw_A _ _ (by omega)]; exact c2
          have sU : sN (rwM M (nT M + 1) 4 (sN M u) tk) u = sN M u := by unfold sN; rw [rw_A _ _ (by omega)]
          have fU : fN (rwM M (nT M + 1) 4 (sN M u) tk) u = fN M u := by unfold fN; rw [rw_A _ _ (by omega)]
          have kT : kN (rwM M (nT M + 1) 4 (sN M u) tk) (nT M + 1) = 4 := by unfold kN; rw [rw_6.1]; rfl
          have sT : sN (rwM M (nT M + 1) 4 (sN M u) tk) (nT M + 1) = sN M u := by show ix (gA (rwM M (nT M + 1) 4 (sN M u) tk) 7 (nT M + 1)) = sN M u; rw [rw_6.2.1, ix_nI (by omega)]
          have fT : fN (rwM M (nT M + 1) 4 (sN M u) tk) (nT M + 1) = tk := by unfold fN; rw [rw_6.2.2, k2_, ix_nI (by omega)]
          have R2 := Rel_cpy R' (t := u) (u := nT M + 1) cu (by omega) (by omega) (by omega) (by omega) (by omega) (f := f1_) (g := fun _ => 0) (by rw [w1u, sU]; exact hE1) (by rw [w1t, sT]; exact hN1) (i := 0) (j := 0) (n := sN M u) (by omega) (by omega)
          rw [w1t, sT, fU, fT, Nat.add_zero, Nat.add_zero] at R2
          have e8 : gI S1.1 8 + 1 = nI (nT M + 1) := by rw [i2_, R.2.2.2.1.2.2.1, R.2.2.2.1.1, nI_1]
          have er : rfn (wNew w (nT M + 1) (cSz S)) (nT M + 1) = some (cSz S) := by rw [rfn_s _ (by omega)]; show some (if nT M + 1 = nT M + 1 then cSz S + 0 else _) = _; rw [if_pos rfl]; rfl
          have hst := c_stK R2 (t := nT M + 1) (by show nT M + 1 ≤ nT (rwM M (nT M + 1) 4 (sN M u) tk); omega)
          rw [er] at hst
          have R3 := Rel_slt (k := ra a) R2 (t0 := nT M + 1) (by show nT M + 1 ≤ nT (rwM M (nT M + 1) 4 (sN M u) tk); omega)
          rw [er] at R3
          unfold fX11_cloneInts_42 fX11_giveNew fX11_giveNew_10
          rw [kxu, if_pos rfl, len0, Option.bind_some]
          simp only
          rw [show nI 4 = 4 from rfl] at i1_
          rw [kxn, if_pos rfl, i1_, Option.bind_some]
          simp only
          rw [kxu1, if_pos rfl, len1, Option.bind_some]
          simp only
          rw [kxn1, if_pos rfl, htake, Option.bind_some]
          simp only
          rw [show gI (cpH S1 (cSz S + 1) (.inl (sN M u, .inr (.inl (va_cpy f1_ (fun _ => 0) 0 0 (sN M u)))))).1 8 + 1 = nI (nT M + 1) from e8]
          have hg := c_giveThg (cpI (cpH S1 (cSz S + 1) (.inl (sN M u, .inr (.inl (va_cpy f1_ (fun _ => 0) 0 0 (sN M u)))))) 8 (nI (nT M + 1))) a (some (cSz S)) hst
          rw [hg, Option.bind_some, Option.bind_some]
          -- the reference
          unfold fX12_rows_247
          rw [if_pos (inb5 b), e5, if_pos (show inb (nI u) (mlA 7) = true from inb_nI (by omega) (by show u < 4001; omega)), ix_nI (by omega), hs.1, show (4 : Int32) = nI 4 from rfl, m_newR R (t := nT M + 1) rfl (by omega) b1_ k2_ (by omega), Option.bind_some]
          have hfu : fN M u + sN M u ≤ tk := by
            obtain ⟨c1_, c2_, c3_, tk1_, c4_, c5_, c6_⟩ := R.2.2.2.1
            have etk : tk1_ = tk := (nI_inj (by omega) (by omega)).mp (c5_.symm.trans k2_)
            have := c6_ u (by omega) h2
            omega
          have lp := cl_loop (M := rwM M (nT M + 1) 4 (sN M u) tk) (t := nT M + 1) (u := u) (fa := fN M u) (fb := tk) (n := sN M u) (a := a) (by omega) (by omega) (by rw [rw_A _ _ (by omega)]; exact hs.1) (by rw [rw_A _ _ (by omega)]; exact hs.2.1) (by rw [rw_6.2.2]; exact k2_) b1_ (by omega) (by omega) (by omega) (gB (rwM M (nT M + 1) 4 (sN M u) tk) 9) (sN M u) 0 (69 - sN M u) (by omega)
          rw [cpy_0, s9_id, show sN M u + 1 + (69 - sN M u) = 70 by omega, show nI 0 = 0 from rfl] at lp
          rw [lp]
          have hmf : mfr M (pA (sB9 (rwM M (nT M + 1) 4 (sN M u) tk) (va_cpy (gB (rwM M (nT M + 1) 4 (sN M u) tk) 9) (gB (rwM M (nT M + 1) 4 (sN M u) tk) 9) (fN M u) tk (sN M u))) 5 (ra a) (nI (nT M + 1))) := mfr_trans rw_fr (mfr_trans (mfr_9 _ _) (mfr_A (by decide)))
          refine ⟨0, _, _, _, 3, sN M u + 4, by omega, ?_, rfl, Rel_B R3 (by omega), ?_, hmf, ?_, ?_, ?_⟩
          · show some (((0 : Int32), _), 0 + 2 + 1, 0 + sN M u + 4) = _
            rw [Nat.zero_add, Nat.zero_add]
            rfl
          · refine ⟨fun j h7 h8 => ?_, ?_⟩
            · show gI (pI S1.1 8 _) j = _
              rw [gI_pI_ne _ _ h8, i2_]
            · show gA S1.1 = _
              rw [i2_]
          · show nT M ≤ nT (rwM M (nT M + 1) 4 (sN M u) tk)
            omega
          · show 3 ≤ 3 * (nT (rwM M (nT M + 1) 4 (sN M u) tk) - nT M)
            omega
          · show sN M u + 4 ≤ 80 * (nT (rwM M (nT M + 1) 4 (sN M u) tk) - nT M)
            omega
        · rw [((c_room R).2 c5).1, ((c_room R).2 c5).2, Option.bind_some, Option.bind_some, if_pos rfl, if_pos rfl]; exact sima_err R 8 (by decide)
      · rw [if_neg (fun q => c2 (e4.mp q)), if_neg (fun q => c2 (e4.mp q))]
        exact sima_err R 2 (by decide)
    · rw [if_neg (show ¬ [5].contains (tagK (kN M u)) = true from fun h => c1 (tag5.mp h)), if_pos rfl, if_neg (fun q => by have := e4.mp q; omega)]
      exact sima_err R 2 (by decide)
end N
