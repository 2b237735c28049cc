/-! stores -/
section N
variable {w : Nat → Nat → Nat} {B : Nat} {S : CS} {M : MS}
theorem sim_one (R : Rel w B S M) {r : Nat} (hr : r ≤ 9) {S' : CS} {M' : MS} (R' : Rel w (B + 1) S' M') (c : cfr S S') (m : mfr M M') (hT : nT M' = nT M) : Sim w B S M (some (nI r, S')) (some (nI r, M')) := ⟨r, S', M', hr, rfl, rfl, R', c, m, hT⟩
theorem sim_valw (R : Rel w B S M) {t : Nat} (h1 : t ≠ 0) (h2 : t ≤ nT M) (hk : kN M t < 8) {f : Nat → Int64} (e : cH S (w 1 t) = .inl (sN M t, .inr (.inl f))) {j : Nat} (hj : j < sN M t) {v fv : Int64} (hp : ∀ g, plc w M (kN M t) v fv g) : Sim w B S M (some (0, cpH S (w 1 t) (.inl (sN M t, .inr (.inl (va_up f j fv)))))) (some (0, pB M 9 (fN M t + j) v)) := sim_one (r := 0) R (by omega) (Rel_B (Rel_val R h1 h2 hk e hj hp) (by omega)) ⟨fun _ _ _ => rfl, rfl⟩ (mfr_B (by decide)) rfl
theorem sim_prtw (R : Rel w B S M) {t : Nat} (h1 : t ≠ 0) (h2 : t ≤ nT M) (hk : 8 ≤ kN M t ∧ kN M t ≤ 10) {g : Nat → Option Nat} (e : cH S (w 2 t) = .inl (sN M t, .inr (.inr (.inr (.inr g))))) {j u : Nat} (hj : j < sN M t) (hu : u ≤ nT M) (hh : u = 0 ∨ heldK (kN M t) (kN M u)) : Sim w B S M (some (0, cpH S (w 2 t) (.inl (sN M t, .inr (.inr (.inr (.inr (va_up g j (rfn w u))))))))) (some (0, pB M 9 (fN M t + j) (lN u))) := sim_one (r := 0) R (by omega) (Rel_B (Rel_prt R h1 h2 hk e hj hu hh) (by omega)) ⟨fun _ _ _ => rfl, rfl⟩ (mfr_B (by decide)) rfl
/-- what a store writes, the row and the place being found -/
theorem sim_st (R : Rel w B S M) {v : Nat} (hv : v ≤ 10) {a : Int32} {t u : Nat} (h1 : t ≠ 0) (h2 : t ≤ nT M) (hu : u ≤ nT M) (ea : gA M 5 (ra a) = nI u) (c1 : kN M t ≤ 10) (c2 : kN M t = v ∨ (v = 8 ∧ kN M t = 9)) (hh : 8 ≤ v → u = 0 ∨ heldK v (kN M u)) (i : Int32) : Sim w B S M (fX11_store_99 S (nI v) a (if v < 8 then none else rfn w u) (some (w 0 t)) i) (fX12_stores_126 M (nI v) (a &&& 15) (if u = 0 then (-1) else nI (kN M u)) (nI (kN M t)) (nI t) i) := by
  have h4 := rl_4000 R
  unfold fX11_store_99 fX12_stores_126 fX12_stores_143 fX12_stores_167
  have hs := rl_sN R h1 h2
  obtain ⟨f1_, g1_, b1_, b2_, b3_, b4_, b5_⟩ := rl_row R h1 h2 c1
  rw [c_isKx R h1 h2, if_pos (tag5.mpr c1), c_has R h1 h2 c1, Option.bind_some, ix_nI (by omega), if_pos (show inb (nI t) (mlA 7) = true from inb_nI (by omega) (by show t < 4001; omega)), hs.1]
  rcases ix_c i (n := sN M t) (by omega) with ⟨j1_, q1_, q2_⟩ | ⟨q1_, q2_⟩
  · rw [if_pos (show ∃ j, j < sN M t ∧ i = nI j from ⟨j1_, q1_, q2_⟩), q2_, if_neg (show ¬ (1 : Int32) = 0 by decide), if_neg (nI_n0 (by omega)), if_pos (show nI j1_ < nI (sN M t) from (nI_ltI (by omega) (by omega)).mpr q1_)]
    simp only
    rw [c_isKx R h1 h2, if_pos (tag5.mpr c1), c_holds R h1 h2 c1, Option.bind_some]
    simp only
    rw [c_isKx R h1 h2, if_pos (tag5.mpr c1), if_pos (inb3 a)]
    have e8 : nI v = 8 ↔ v = 8 := nI_inj (b := 8) (by omega) (by decide)
    have e9 : nI (kN M t) = 9 ↔ kN M t = 9 := nI_inj (b := 9) (by omega) (by decide)
    have hpl := m_pl R h1 h2 q1_
    have e310 : ∀ x, fX12_stores_310 M 9 (gA M 8 t + nI j1_) x = some (0, pB M 9 (fN M t + j1_) x) := by
      intro x
      unfold fX12_stores_310 fX12_stores_311
      rw [if_pos hpl.1, hpl.2]
    have e175 : ∀ x, fX12_stores_175 M (nI v) (a &&& 15) (nI t) (nI j1_) x = (if nI v = 0 then (if x = 0 then some (0, pB M 9 (fN M t + j1_) 0) else some (0, pB M 9 (fN M t + j1_) 1)) else (if nI v = 1 then some (0, pB M 9 (fN M t + j1_) (x &&& 65535)) else (if nI v = 2 then some (0, pB M 9 (fN M t + j1_) x.toInt32.toInt8.toInt32.toInt64) else (if nI v = 3 then some (0, pB M 9 (fN M t + j1_) x.toInt32.toInt16.toInt32.toInt64) else (if nI v = 4 then some (0, pB M 9 (fN M t + j1_) x.toInt32.toInt64) else (if nI v = 5 then some (0, pB M 9 (fN M t + j1_) x) else (if nI v = 6 then (Option.bind (fX12_small (gB M 4 (ra a))) (fun c282 => some (0, pB M 9 (fN M t + j1_) c282))) else (if nI v = 7 then some (0, pB M 9 (fN M t + j1_) (gB M 4 (ra a))) else some (0, pB M 9 (fN M t + j1_) (lN u)))))))))) := by
      intro x
      unfold fX12_stores_175
      have e5 : gA M 5 (ix (a &&& 15)) = nI u := ea
      rw [if_pos (show inb (nI t) (mlA 8) = true from inb_nI (by omega) (by show t < 4001; omega)), if_pos (inb4 a), if_pos (inb4 a), if_pos (inb5 a), ix_nI (by omega), e5, nI_l (by omega)]
      simp only [e310]
      rfl
    by_cases c8 : kN M t < 8
    · have ev : kN M t = v := by omega
      rw [if_pos c8] at b3_
      have c_st : ∀ x, fX11_store_184 S (some (w 0 t)) (nI j1_) x = some (0, cpH S (w 1 t) (.inl (sN M t, .inr (.inl (va_up f1_ j1_ (narK (kN M t) x)))))) := by
        intro x
        unfold fX11_store_184
        rw [c_isKx R h1 h2, if_pos (tag5.mpr c1), c_setVal R h1 h2 c8 b3_ b1_ q1_, Option.bind_some]
      have hA : fX11_store_154 S a (some (w 0 t)) (nI j1_) 0 = some (0, cpH S (w 1 t) (.inl (sN M t, .inr (.inl (va_up f1_ j1_ (narK (kN M t) (gB M 3 (ra a)))))))) := by
        unfold fX11_store_154
        rw [if_pos rfl, c_numAt, Option.bind_some, c_st, rl_num R a]
      have hB : fX11_store_149 S a (some (w 0 t)) (nI j1_) = some (0, cpH S (w 1 t) (.inl (sN M t, .inr (.inl (va_up f1_ j1_ (narK (kN M t) (gB M 4 (ra a)))))))) := by
        unfold fX11_store_149 fX11_store_154
        rw [if_neg (show ¬ (1 : Int32) = 0 by decide), c_meaAt, Option.bind_some, c_st, rl_mea R a]
      rw [if_pos c8, if_pos rfl, if_neg (show ¬ nI v = 8 from fun h => by have := e8.mp h; omega), hA, hB, e175, ev]
      have e6 : gB M 3 (ix (a &&& 15)) = gB M 3 (ra a) := rfl
      rw [e6]
      have pl : ∀ x y : Int64, kN M t < 6 → y = x → ∀ g, plc w M (kN M t) x y g := fun x y h e g => Or.inl ⟨h, e⟩
      have ca := rl_can R a
      generalize gB M 3 (ra a) = x at *
      have go : ∀ y fv : Int64, (∀ g, plc w M (kN M t) y fv g) → Sim w B S M (some (0, cpH S (w 1 t) (.inl (sN M t, .inr (.inl (va_up f1_ j1_ fv)))))) (some (0, pB M 9 (fN M t + j1_) y)) := fun y fv hp => sim_valw R h1 h2 c8 b3_ q1_ hp
      have h8 : v = 0 ∨ v = 1 ∨ v = 2 ∨ v = 3 ∨ v = 4 ∨ v = 5 ∨ v = 6 ∨ v = 7 := by omega
      rcases h8 with h8 | h8 | h8 | h8 | h8 | h8 | h8 | h8 <;> subst h8
      · show Sim w B S M (some (0, cpH S (w 1 t) (.inl (sN M t, .inr (.inl (va_up f1_ j1_ (if x = 0 then 0 else 1))))))) (if x = 0 then some (0, pB M 9 (fN M t + j1_) 0) else some (0, pB M 9 (fN M t + j1_) 1))
        by_cases cx : x = 0
        · rw [if_pos cx, if_pos cx]; exact go _ _ (pl _ _ (by omega) rfl)
        · rw [if_neg cx, if_neg cx]; exact go _ _ (pl _ _ (by omega) rfl)
      · exact go _ _ (pl _ _ (by omega) rfl)
      · exact go _ _ (pl _ _ (by omega) rfl)
      · exact go _ _ (pl _ _ (by omega) rfl)
      · exact go _ _ (pl _ _ (by omega) rfl)
      · exact go _ _ (pl _ _ (by omega) rfl)
      · show Sim w B S M (some (0, cpH S (w 1 t) (.inl (sN M t, .inr (.inl (va_up f1_ j1_ (fX2_toBits32 (gB M 4 (ra a))).toInt64)))))) (Option.bind (fX12_small (gB M 4 (ra a))) (fun c282 => some (0, pB M 9 (fN M t + j1_) c282)))
        rw [fl_small _ ca, Option.bind_some]
        exact go _ _ (fun g => Or.inr (Or.inl ⟨ev, _, can32_tob _, rfl, rfl⟩))
      · exact go _ _ (fun g => Or.inr (Or.inr (Or.inl ⟨ev, rfl, ca⟩)))
    · rw [if_neg c8] at b4_
      have hv8 : 8 ≤ v := by omega
      have hsp := c_setPrt R h1 h2 ⟨by omega, c1⟩ b4_ b1_ q1_ hu
      rw [if_neg c8, if_neg (show ¬ (1 : Int32) = 0 by decide), if_neg (show ¬ v < 8 by omega), e175]
      have fin : Sim w B S M (some (0, cpH S (w 2 t) (.inl (sN M t, .inr (.inr (.inr (.inr (va_up g1_ j1_ (rfn w u))))))))) (some (0, pB M 9 (fN M t + j1_) (lN u))) ∨ ¬ (u = 0 ∨ heldK (kN M t) (kN M u)) := by
        by_cases c : u = 0 ∨ heldK (kN M t) (kN M u)
        · exact Or.inl (sim_prtw R h1 h2 ⟨by omega, c1⟩ b4_ q1_ hu c)
        · exact Or.inr c
      have eN : (if nI v = 0 then (if gB M 3 (ix (a &&& 15)) = 0 then some ((0 : Int32), pB M 9 (fN M t + j1_) 0) else some (0, pB M 9 (fN M t + j1_) 1)) else (if nI v = 1 then some (0, pB M 9 (fN M t + j1_) (gB M 3 (ix (a &&& 15)) &&& 65535)) else (if nI v = 2 then some (0, pB M 9 (fN M t + j1_) (gB M 3 (ix (a &&& 15))).toInt32.toInt8.toInt32.toInt64) else (if nI v = 3 then some (0, pB M 9 (fN M t + j1_) (gB M 3 (ix (a &&& 15))).toInt32.toInt16.toInt32.toInt64) else (if nI v = 4 then some (0, pB M 9 (fN M t + j1_) (gB M 3 (ix (a &&& 15))).toInt32.toInt64) else (if nI v = 5 then some (0, pB M 9 (fN M t + j1_) (gB M 3 (ix (a &&& 15)))) else (if nI v = 6 then (Option.bind (fX12_small (gB M 4 (ra a))) (fun c282 => some (0, pB M 9 (fN M t + j1_) c282))) else (if nI v = 7 then some (0, pB M 9 (fN M t + j1_) (gB M 4 (ra a))) else some (0, pB M 9 (fN M t + j1_) (lN u)))))))))) = some (0, pB M 9 (fN M t + j1_) (lN u)) := by
        have h8 : v = 8 ∨ v = 9 ∨ v = 10 := by omega
        rcases h8 with h8 | h8 | h8 <;> subst h8 <;> rfl
      rw [eN]
      have hkU : u ≠ 0 → kN M u ≤ 16 := fun h => (rl_kN R h hu).2
      by_cases c : u = 0 ∨ heldK (kN M t) (kN M u)
      · rw [hsp.1 c, Option.bind_some, if_neg (show ¬ (1 : Int32) = 0 by decide)]
        have hne : ¬ (kN M t = 9 ∧ (if u = 0 then (-1 : Int32) else nI (kN M u)) = 11) := by
          rintro ⟨q3_, q4_⟩
          rcases c with c | c
          · rw [if_pos c] at q4_; exact absurd q4_ (by decide)
          · have hu0 : u ≠ 0 := fun h => by rw [if_pos h] at q4_; exact absurd q4_ (by decide)
            rw [if_neg hu0] at q4_
            have := (nI_inj (a := kN M u) (b := 11) (by have := hkU hu0; omega) (by decide)).mp q4_
            unfold heldK at c
            omega
        have fin2 := sim_prtw R h1 h2 ⟨by omega, c1⟩ b4_ q1_ hu c
        by_cases d1 : v = 8
        · rw [if_pos (e8.mpr d1)]
          by_cases d2 : kN M t = 9
          · rw [if_pos (e9.mpr d2), if_neg (fun h => hne ⟨d2, h⟩)]; exact fin2
          · rw [if_neg (show ¬ nI (kN M t) = 9 from fun h => d2 (e9.mp h))]; exact fin2
        · rw [if_neg (show ¬ nI v = 8 from fun h => d1 (e8.mp h))]; exact fin2
      · have hu0 : u ≠ 0 := fun h => c (Or.inl h)
        have hd : v = 8 ∧ kN M t = 9 := by
          rcases c2 with c2 | c2
          · exact absurd (by have := hh hv8; rw [← c2] at this; exact this) c
          · exact c2
        have h11 : kN M u = 11 := by
          have h5 := (hh hv8).elim (fun q => absurd q hu0) id
          have h6 : ¬ heldK (kN M t) (kN M u) := fun q => c (Or.inr q)
          rw [hd.1] at h5
          rw [hd.2] at h6
          unfold heldK at h5 h6
          omega
        rw [hsp.2 c, Option.bind_some, if_pos rfl, if_pos (e8.mpr hd.1), if_pos (e9.mpr hd.2), if_neg hu0, h11, if_pos (show nI 11 = 11 from rfl)]
        exact sim_err R 5 (by decide)
  · rw [if_neg (show ¬ ∃ j, j < sN M t ∧ i = nI j from fun h => by
      obtain ⟨j1_, p1_, p2_⟩ := h
      refine q2_ ⟨by rw [p2_]; exact nI_n0 (by omega), ?_⟩
      rw [p2_]
      exact (nI_ltI (by omega) (by omega)).mpr p1_), if_pos rfl]
    rcases q1_ with q3_ | ⟨q3_, q4_⟩
    · rw [if_pos q3_]
      exact sim_err R 3 (by decide)
    · rw [if_neg q3_, if_neg (show ¬ i < nI (sN M t) from fun h => q2_ ⟨q3_, h⟩)]
      exact sim_err R 3 (by decide)
end N
