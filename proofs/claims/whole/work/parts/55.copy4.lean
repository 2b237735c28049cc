/-! the order COPY -/
section N
variable {w : Nat → Nat → Nat} {B : Nat} {S : CS} {M : MS}
theorem rl_inj0 (R : Rel w B S M) {t u : Nat} (h1 : t ≠ 0) (h2 : t ≤ nT M) (h3 : u ≠ 0) (h4 : u ≤ nT M) : some (w 0 t) = some (w 0 u) ↔ t = u := by
  constructor
  · intro h
    exact (R.2.2.2.2.2.2.1.2.1 0 t 0 u (by omega) h2 (by omega) h4 (Or.inl rfl) (Or.inl rfl) (Option.some.inj h)).2
  · intro h; rw [h]
theorem sim_take (R : Rel w B S M) {t u : Nat} (h1 : t ≠ 0) (h2 : t ≤ nT M) (h3 : u ≠ 0) (h4 : u ≤ nT M) (hk : kN M t ≤ 10) (hl : kN M u ≤ 10) (ha : kN M u = kN M t ∨ (8 ≤ kN M u ∧ 8 ≤ kN M t)) {i j n : Nat} (hi : i + n ≤ sN M t) (hj : j + n ≤ sN M u) : TkR w B S M (fX8_takeFrom S (some (w 0 u)) (some (w 0 t)) (nI i) (nI j) (nI n)) (if t = u then (if nI j ≤ nI i then fX12_copies_152 M (nI t) (nI u) (nI i) (nI j) (nI n) 0 else fX12_copies_152 M (nI t) (nI u) (nI i) (nI j) (nI n) 1) else fX12_copies_152 M (nI t) (nI u) (nI i) (nI j) (nI n) 0) := by
  have h40 := rl_4000 R
  have hs := rl_sN R h1 h2
  have hz := rl_sN R h3 h4
  obtain ⟨f1_, g1_, b1_, b2_, b3_, b4_, b5_⟩ := rl_row R h1 h2 hk
  obtain ⟨f2_, g2_, d1_, d2_, d3_, d4_, d5_⟩ := rl_row R h3 h4 hl
  have ej : nI j ≤ nI i ↔ j ≤ i := nI_leI (by omega) (by omega)
  by_cases c : kN M u < 8
  · have he : kN M t = kN M u := by omega
    rw [if_pos (by omega)] at b3_ d3_
    rw [c_takeV R h1 h2 h3 h4 c he b3_ d3_ b1_ d1_ hi hj]
    have ek : gA M 6 u < 8 := by
      rw [(rl_kN R h3 h4).1]
      exact (nI_ltI (b := 8) (by omega) (by decide)).mpr c
    have all := fun (d : Int32) ok => cp_all (M := M) (t := t) (u := u) (i := i) (j := j) (n := n) (d := d) (by omega) (by omega) hs.2.1 hz.2.1 ek (by omega) (by omega) (by omega) ok
    have fin : TkR w B S M (some (1, cpH S (w 1 u) (.inl (sN M u, .inr (.inl (va_cpy f1_ f2_ i j n)))))) (some (0, sB9 M (va_cpy (gB M 9) (gB M 9) (fN M t + i) (fN M u + j) n))) := ⟨_, _, Or.inl ⟨rfl, rfl⟩, Rel_cpy R h1 h2 h3 h4 c he b3_ d3_ hi hj, ⟨fun _ _ _ => rfl, rfl⟩, ⟨fun _ _ _ _ => rfl, fun _ _ => rfl, gB_s9n _ _ (by decide)⟩, rfl⟩
    by_cases c1 : t = u
    · subst c1
      rw [if_pos rfl]
      by_cases c2 : j ≤ i
      · rw [if_pos (ej.mpr c2), all 0 (Or.inl ⟨rfl, Or.inl (by omega)⟩)]; exact fin
      · rw [if_neg (fun q => c2 (ej.mp q)), all 1 (Or.inr ⟨rfl, by omega⟩)]; exact fin
    · rw [if_neg c1]
      have hd : fN M u + j ≤ fN M t + i ∨ fN M t + i + n ≤ fN M u + j := by
        by_cases c2 : t < u
        · have := R.2.2.2.2.2.1 t u (by omega) c2 h4
          omega
        · have := R.2.2.2.2.2.1 u t (by omega) (by omega) h2
          omega
      rw [all 0 (Or.inl ⟨rfl, hd⟩)]; exact fin
  · have k8 : 8 ≤ kN M t ∧ kN M t ≤ 10 := by omega
    have l8 : 8 ≤ kN M u ∧ kN M u ≤ 10 := by omega
    have tk := fun d => tk_all R h1 h2 h3 h4 k8 l8 hi hj b1_ d
    have eq := rl_inj0 R h1 h2 h3 h4
    have e68 : ∀ x y, fX8_takeFrom_68 S x y (nI i) (nI j) (nI n) = fX8_takeFrom_69 S x y (nI i) (nI j) (nI n) 0 := fun x y => rfl
    unfold fX8_takeFrom
    rw [c_isKx R h1 h2, if_pos (tag5.mpr (by omega)), (c_hasR R h1 h2 (by omega) (nI i) (nI n)).1 (rng_nI hi b1_), Option.bind_some, if_neg (show ¬ (1 : Int32) = 0 by decide)]
    simp only
    rw [c_isKx R h3 h4, if_pos (tag5.mpr (by omega)), (c_hasR R h3 h4 (by omega) (nI j) (nI n)).1 (rng_nI hj d1_), Option.bind_some, if_neg (show ¬ (1 : Int32) = 0 by decide)]
    simp only
    rw [c_isKx R h3 h4, if_pos (tag5.mpr (by omega)), c_alike R h1 h2 (by omega) h3 h4 (by omega), Option.bind_some, if_pos ha, if_neg (show ¬ (1 : Int32) = 0 by decide)]
    simp only
    rw [c_isKx R h3 h4, if_pos (tag5.mpr (by omega)), c_holds R h3 h4 (by omega), Option.bind_some, if_neg c, if_neg (show ¬ (1 : Int32) = 0 by decide)]
    simp only
    by_cases c1 : t = u
    · rw [if_pos (eq.mpr c1), if_pos c1]
      by_cases c2 : j ≤ i
      · rw [if_pos (ej.mpr c2), if_pos (ej.mpr c2), e68]; exact tk false
      · rw [if_neg (fun q => c2 (ej.mp q)), if_neg (fun q => c2 (ej.mp q))]; exact tk true
    · rw [if_neg (fun q => c1 (eq.mp q)), if_neg c1, e68]; exact tk false
theorem sim_copy (R : Rel w B S M) (a b c : Int32) : Sim w B S M (fX11_copy S (cSl S (ra a)) (cSl S (ra b)) c) (fX12_copies M (gA M 5 (ra a)) (gA M 5 (ra b)) (gB M 3 (ra c)).toInt32 (gB M 3 (ra (c + 1))).toInt32 (gB M 3 (ra (c + 2))).toInt32) := by
  obtain ⟨t, h2, e1_, e2_⟩ := rl_slot R a
  obtain ⟨u, h4, e3_, e4_⟩ := rl_slot R b
  have h40 := rl_4000 R
  unfold fX11_copy fX12_copies fX11_copy_8 fX12_copies_8 fX11_copy_46 fX11_copy_59 fX11_copy_72
  rw [e1_, e2_, e3_, e4_]
  simp only [c_numAt, Option.bind_some]
  have z : ∀ {x : Nat}, x ≤ nT M → (nI x = 0 ↔ x = 0) := fun {x} h => nI_inj (b := 0) (by omega) (by decide)
  by_cases ct : t = 0
  · subst ct
    rw [if_pos (show nI 0 = 0 from rfl)]
    exact sim_err R 1 (by decide)
  · rw [onul_r ct, if_neg (fun q => ct ((z h2).mp q))]
    by_cases cu : u = 0
    · subst cu
      rw [if_pos (show nI 0 = 0 from rfl)]
      exact sim_err R 1 (by decide)
    · have hk := rl_kN R ct h2
      have hl := rl_kN R cu h4
      rw [onul_r cu, if_neg (fun q => cu ((z h4).mp q)), rfn_s w ct, rfn_s w cu, c_inst R ct h2 _ _ inst5, c_inst R cu h4 _ _ inst5, Option.bind_some, Option.bind_some, c_cast R ct h2, c_cast R cu h4, c_isKx R cu h4]
      unfold fX12_copies_47 fX12_copies_51
      rw [if_pos (show inb (nI t) (mlA 6) = true from inb_nI (by omega) (by show t < 4001; omega)), if_pos (show inb (nI u) (mlA 6) = true from inb_nI (by omega) (by show u < 4001; omega)), if_pos (show inb (nI t) (mlA 6) = true from inb_nI (by omega) (by show t < 4001; omega)), if_pos (show inb (nI u) (mlA 6) = true from inb_nI (by omega) (by show u < 4001; omega)), ix_nI (n := t) (by omega), ix_nI (n := u) (by omega), hk.1, hl.1]
      have eA : ∀ X Y : Option (Int32 × MS), (if nI (kN M t) = nI (kN M u) then X else (if nI (kN M t) < 8 then Y else (if nI (kN M u) < 8 then Y else X))) = if kN M u = kN M t ∨ (8 ≤ kN M u ∧ 8 ≤ kN M t) then X else Y := by
        intro X Y
        have e1 : nI (kN M t) = nI (kN M u) ↔ kN M t = kN M u := nI_inj (by omega) (by omega)
        have e2 : nI (kN M t) < 8 ↔ kN M t < 8 := nI_ltI (b := 8) (by omega) (by decide)
        have e3 : nI (kN M u) < 8 ↔ kN M u < 8 := nI_ltI (b := 8) (by omega) (by decide)
        by_cases d1 : kN M t = kN M u
        · rw [if_pos (e1.mpr d1), if_pos (Or.inl d1.symm)]
        · rw [if_neg (fun q => d1 (e1.mp q))]
          by_cases d2 : kN M t < 8
          · rw [if_pos (e2.mpr d2), if_neg (by omega)]
          · rw [if_neg (fun q => d2 (e2.mp q))]
            by_cases d3 : kN M u < 8
            · rw [if_pos (e3.mpr d3), if_neg (by omega)]
            · rw [if_neg (fun q => d3 (e3.mp q)), if_pos (by omega)]
      rw [eA]
      have e5 : ∀ (d : Int32), (¬ kN M t ≤ 10 ∨ ¬ kN M u ≤ 10 ∨ d = 0) → fX12_copies_52 M (nI t) (nI u) (gB M 3 (ra c)).toInt32 (gB M 3 (ra (c + 1))).toInt32 (gB M 3 (ra (c + 2))).toInt32 d = some (5, M) := by
        intro d hd
        unfold fX12_copies_52 fX12_copies_83
        rw [if_pos (show inb (nI t) (mlA 6) = true from inb_nI (by omega) (by show t < 4001; omega)), if_pos (show inb (nI u) (mlA 6) = true from inb_nI (by omega) (by show u < 4001; omega)), ix_nI (n := t) (by omega), ix_nI (n := u) (by omega), hk.1, hl.1, m_isRow hk.2, m_isRow hl.2]
        by_cases d1 : kN M t ≤ 10
        · rw [if_pos d1, if_neg (show ¬ (1 : Int32) = 0 by decide)]
          by_cases d2 : kN M u ≤ 10
          · rw [if_pos d2, if_neg (show ¬ (1 : Int32) = 0 by decide), if_pos (by rcases hd with hd | hd | hd; exact absurd d1 hd; exact absurd d2 hd; exact hd)]
          · rw [if_neg d2, if_pos rfl]
        · rw [if_neg d1, if_pos rfl]
      by_cases d1 : kN M t ≤ 10
      · rw [if_pos (tag5.mpr d1), if_neg (show ¬ (1 : Int32) = 0 by decide), if_pos (tag5.mpr d1)]
        by_cases d2 : kN M u ≤ 10
        · rw [if_pos (tag5.mpr d2), if_neg (show ¬ (1 : Int32) = 0 by decide), if_pos (tag5.mpr d2), if_pos (tag5.mpr d2), c_alike R ct h2 d1 cu h4 d2, Option.bind_some]
          by_cases d3 : kN M u = kN M t ∨ (8 ≤ kN M u ∧ 8 ≤ kN M t)
          · rw [if_pos d3, if_pos d3, if_neg (show ¬ (1 : Int32) = 0 by decide)]
            simp only
            rw [rl_num R c, rl_num R (c + 1), rl_num R (c + 2)]
            clear e5
            generalize (gB M 3 (ra c)).toInt32 = i
            generalize (gB M 3 (ra (c + 1))).toInt32 = j
            generalize (gB M 3 (ra (c + 2))).toInt32 = n
            have hm := m_cp52 R ct h2 cu h4 d1 d2 i j n
            obtain ⟨f1_, g1_, b1_, b2_⟩ := rl_row R ct h2 d1
            obtain ⟨f2_, g2_, y1_, y2_⟩ := rl_row R cu h4 d2
            unfold fX11_copy_85 fX11_copy_109
            rw [c_isKx R ct h2, if_pos (tag5.mpr d1)]
            by_cases r1 : rngOK i n (sN M t)
            · rw [(c_hasR R ct h2 d1 i n).1 r1, Option.bind_some, if_neg (show ¬ (1 : Int32) = 0 by decide)]
              simp only
              rw [c_isKx R cu h4, if_pos (tag5.mpr d2)]
              by_cases r2 : rngOK j n (sN M u)
              · rw [(c_hasR R cu h4 d2 j n).1 r2, Option.bind_some, if_neg (show ¬ (1 : Int32) = 0 by decide), hm.1 ⟨r1, r2⟩]
                simp only
                rw [c_isKx R cu h4, if_pos (tag5.mpr d2)]
                obtain ⟨i1_, n1_, x1_, x2_, x3_⟩ := rng_of r1 b1_
                obtain ⟨i2_, n2_, x4_, x5_, x6_⟩ := rng_of r2 y1_
                have hn : n1_ = n2_ := (nI_inj (by omega) (by omega)).mp (x2_.symm.trans x5_)
                subst hn
                rw [x1_, x2_, x4_]
                obtain ⟨S1_, M1_, q1_, q2_, q3_, q4_, q5_⟩ := sim_take R ct h2 cu h4 d1 d2 d3 x3_ x6_
                rcases q1_ with ⟨q1_, q6_⟩ | ⟨q1_, q6_⟩
                · rw [q1_, q6_, Option.bind_some, if_neg (show ¬ (1 : Int32) = 0 by decide)]
                  exact sim_one (r := 0) R (by decide) (Rel_B q2_ (by omega)) q3_ q4_ q5_
                · rw [q1_, q6_, Option.bind_some, if_pos rfl]
                  exact sim_one (r := 5) R (by decide) (Rel_B q2_ (by omega)) q3_ q4_ q5_
              · rw [(c_hasR R cu h4 d2 j n).2 r2, Option.bind_some, if_pos rfl, hm.2 (fun h => r2 h.2)]
                exact sim_err R 3 (by decide)
            · rw [(c_hasR R ct h2 d1 i n).2 r1, Option.bind_some, if_pos rfl, hm.2 (fun h => r1 h.1)]
              exact sim_err R 3 (by decide)
          · rw [if_neg d3, if_neg d3, if_pos rfl, e5 0 (Or.inr (Or.inr rfl))]
            exact sim_err R 5 (by decide)
        · rw [if_neg (show ¬ [5].contains (tagK (kN M u)) = true from fun h => d2 (tag5.mp h)), if_pos rfl]
          split
          · rw [e5 1 (Or.inr (Or.inl d2))]; exact sim_err R 5 (by decide)
          · rw [e5 0 (Or.inr (Or.inl d2))]; exact sim_err R 5 (by decide)
      · rw [if_neg (show ¬ [5].contains (tagK (kN M t)) = true from fun h => d1 (tag5.mp h)), if_pos rfl]
        split
        · rw [e5 1 (Or.inl d1)]; exact sim_err R 5 (by decide)
        · rw [e5 0 (Or.inl d1)]; exact sim_err R 5 (by decide)
end N
