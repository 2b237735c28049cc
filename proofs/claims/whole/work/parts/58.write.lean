/-! WRITE, SHIFT, APART -/
section N
variable {w : Nat → Nat → Nat} {B : Nat} {S : CS} {M : MS}
theorem c_tp (R : Rel w B S M) {t : Nat} (h1 : t ≠ 0) (h2 : t ≤ nT M) (hk : kN M t = 11 ∨ kN M t = 12) {k : Nat} (hk3 : k < 5) (v : Value) : tp S (some (w 0 t)) [2, 1] k v = some (cpH S (w 0 t) (if kN M t = 11 then .inr (2, (poL w M t).set k v) else .inr (1, (poL w M t).set k v ++ [.long (gB M 15 t)]))) := by
  have hm := rl_in R h1 h2
  have hE := (rl_pose R h1 h2 hk).1
  have hL : (poL w M t).length = 5 := rfl
  rcases hk with hk | hk
  · rw [hk, if_pos rfl] at hE
    rw [tp_at hm hE (by decide) (by omega), hk, if_pos rfl]
  · rw [hk, if_neg (by decide)] at hE
    rw [tp_at hm hE (by decide) (by simp; omega), hk, if_neg (by decide), List.set_append_left _ _ (by omega)]
theorem sim_mark (R : Rel w B S M) {t : Nat} (h1 : t ≠ 0) (h2 : t ≤ nT M) (hk : kN M t = 11 ∨ kN M t = 12) (v : Int32) : Sim w B S M (Option.bind (tp S (some (w 0 t)) [2, 1] 3 (.int v)) (fun c95 => some (0, c95))) (some (0, pA M 16 t v)) := by
  have hp := rl_pose R h1 h2 hk
  have e17 : gA (pA M 16 t v) 17 = gA M 17 := gA_pA_ne _ _ _ (by decide)
  have eN : aN (pA M 16 t v) t = aN M t := by unfold aN; rw [e17]
  have eK : kN (pA M 16 t v) t = kN M t := by unfold kN; rw [gA_pA_ne _ _ _ (by decide)]
  have R' : Rel w B (cpH S (w 0 t) (poE w (pA M 16 t v) t)) (pA M 16 t v) := by
    refine Rel_pose R h1 h2 hk rfl (fun k hk => gA_pA_ne _ _ _ (by omega)) (fun k u hk hu => ?_) (fun _ _ => rfl) (fun _ _ _ _ => rfl) (by rw [eN]; exact hp.2.1) (by rw [e17, eN]; exact hp.2.2.1) (by rw [eN]; exact hp.2.2.2.1) hp.2.2.2.2
    rcases hk with hk | hk
    · subst hk; rw [gA_pA, if_neg hu]
    · subst hk; rw [e17]
  rw [c_tp R h1 h2 hk (by decide), Option.bind_some]
  refine sim_pw R R' rfl (fun k hk => gA_pA_ne _ _ _ (by omega)) rfl ?_
  have eL : poL w (pA M 16 t v) t = (poL w M t).set 3 (.int v) := by
    unfold poL
    rw [eN, gA_pA, if_pos rfl]
    rfl
  unfold poE
  rw [eK, eL]
  rfl
theorem sim_after (R : Rel w B S M) {t u : Nat} (h1 : t ≠ 0) (h2 : t ≤ nT M) (hk : kN M t = 11 ∨ kN M t = 12) (hu : u ≤ nT M) (hc : u = 0 ∨ kN M u = 11 ∨ kN M u = 12) : Sim w B S M (fX11_write_123 S (some (w 0 t)) (rfn w u)) (some (0, pA M 17 t (nI u))) := by
  have h4 := rl_4000 R
  have hp := rl_pose R h1 h2 hk
  have e17 : gA (pA M 17 t (nI u)) 17 t = nI u := by rw [gA_pA, if_pos rfl]
  have eN : aN (pA M 17 t (nI u)) t = u := by unfold aN; rw [e17, ix_nI (by omega)]
  have eK : kN (pA M 17 t (nI u)) t = kN M t := by unfold kN; rw [gA_pA_ne _ _ _ (by decide)]
  have R' : Rel w B (cpH S (w 0 t) (poE w (pA M 17 t (nI u)) t)) (pA M 17 t (nI u)) := by
    refine Rel_pose R h1 h2 hk rfl (fun k hk => gA_pA_ne _ _ _ (by omega)) (fun k x hk hx => ?_) (fun _ _ => rfl) (fun _ _ _ _ => rfl) (by rw [eN]; exact hu) (by rw [e17, eN]) (by rw [eN]; exact hc) hp.2.2.2.2
    rcases hk with hk | hk
    · subst hk; rw [gA_pA_ne _ _ _ (by decide)]
    · subst hk; rw [gA_pA, if_neg hx]
  unfold fX11_write_123
  rw [c_tp R h1 h2 hk (by decide), Option.bind_some]
  refine sim_pw R R' rfl (fun k hk => gA_pA_ne _ _ _ (by omega)) rfl ?_
  have eL : poL w (pA M 17 t (nI u)) t = (poL w M t).set 4 (va_rf (rfn w u)) := by
    unfold poL
    rw [eN, gA_pA_ne _ _ _ (by decide)]
    rfl
  unfold poE
  rw [eK, eL]
  rfl
theorem sim_force (R : Rel w B S M) {t : Nat} (h1 : t ≠ 0) (h2 : t ≤ nT M) (hk : kN M t = 12) {v : Int64} (hv : can64 v) : Sim w B S M (Option.bind (tp S (some (w 0 t)) [1] 5 (.long v)) (fun c82 => some (0, c82))) (some (0, pB M 15 t v)) := by
  have hm := rl_in R h1 h2
  have hp := rl_pose R h1 h2 (Or.inr hk)
  have hE := hp.1
  have hL : (poL w M t).length = 5 := rfl
  have R' : Rel w B (cpH S (w 0 t) (poE w (pB M 15 t v) t)) (pB M 15 t v) := by
    refine Rel_pose R h1 h2 (Or.inr hk) rfl (fun _ _ => rfl) (fun _ _ _ _ => rfl) (fun j hj => gB_pB_ne _ _ _ (by omega)) (fun j u hj hu => ?_) hp.2.1 hp.2.2.1 hp.2.2.2.1 ?_
    · by_cases c : j = 15
      · subst c; rw [gB_pB, if_neg hu]
      · rw [gB_pB_ne _ _ _ c]
    · rw [gB_pB_ne _ _ _ (by decide), gB_pB_ne _ _ _ (by decide), gB_pB_ne _ _ _ (by decide), gB_pB, if_pos rfl]
      exact ⟨hp.2.2.2.2.1, hp.2.2.2.2.2.1, hp.2.2.2.2.2.2.1, hv⟩
  rw [hk, if_neg (by decide)] at hE
  rw [tp_at hm hE (by decide) (by simp; omega), Option.bind_some]
  refine sim_pw R R' rfl (fun k hk => rfl) (gB_pB_ne _ _ _ (by decide)) ?_
  have eL : poL w (pB M 15 t v) t = poL w M t := by
    unfold poL
    rw [gB_pB_ne _ _ _ (by decide), gB_pB_ne _ _ _ (by decide), gB_pB_ne _ _ _ (by decide)]
    rfl
  unfold poE
  rw [show kN (pB M 15 t v) t = kN M t from rfl, hk, if_neg (by decide), eL, gB_pB, if_pos rfl]
  congr 2
theorem sim_wm (R : Rel w B S M) {t : Nat} (h1 : t ≠ 0) (h2 : t ≤ nT M) (hk : kN M t = 11 ∨ kN M t = 12) {k : Nat} (hk3 : k < 3) {v : Int64} (hv : can64 v) : Sim w B S M (Option.bind (tp S (some (w 0 t)) [2, 1] k (.long v)) (fun c42 => some (0, c42))) (some (0, pB M (12 + k) t v)) := by
  obtain ⟨S1_, q1_, q2_, q3_⟩ := sim_pm R h1 h2 hk hk3 hv
  rw [q1_, Option.bind_some]
  rw [q2_] at q3_
  exact sim_pw R q3_ rfl (fun _ _ => rfl) (gB_pB_ne _ _ _ (by omega)) q2_
theorem sim_write34 (R : Rel w B S M) (a b : Int32) {p t u : Nat} (hp : p < 8) (h2 : t ≤ nT M) (eb : gA M 5 (ra b) = nI t) (hu : u ≤ nT M) (ea : gA M 5 (ra a) = nI u) (hc : p = 4 → u = 0 ∨ kN M u = 11 ∨ kN M u = 12) : Sim w B S M (fX11_write_34 S a (rfn w t) (nI p) (if p = 4 then rfn w u else none)) (fX12_looksAt_32 M 1 (a &&& 15) b (nI p)) := by
  have h4 := rl_4000 R
  rw [m_la R h2 eb 1 (a &&& 15) hp]
  unfold fX11_write_34
  by_cases c : t = 0
  · subst c
    rw [if_pos rfl]
    exact sim_err R 1 (by decide)
  · have hk := rl_kN R c h2
    rw [if_neg c, onul_r c, rfn_s w c, c_inst R c h2 _ _ inst21, Option.bind_some, c_cast R c h2]
    simp only [c_numAt, c_meaAt, Option.bind_some, rl_num R a, rl_mea R a]
    have ca := rl_can R a
    have i12 : inb (nI t) 4001 = true := inb_nI (by omega) (by omega)
    by_cases c1 : kN M t = 11 ∨ kN M t = 12
    · rw [if_pos ((tag21 hk.2).mpr c1), if_neg (show ¬ (1 : Int32) = 0 by decide), if_pos ((tag21 hk.2).mpr c1)]
      have em : gB M 4 (ix (a &&& 15)) = gB M 4 (ra a) := rfl
      have e144 : ∀ x, x = 12 ∨ x = 13 ∨ x = 14 ∨ x = 15 → fX12_looksAt_144 M 1 (a &&& 15) (nI t) x = some (0, pB M x t (gB M 4 (ra a))) := by
        intro x hx
        unfold fX12_looksAt_144 fX12_looksAt_161 fX12_looksAt_175 fX12_looksAt_318
        rw [if_neg (show ¬ (1 : Int32) = 0 by decide), if_pos (inb4 a), if_pos (show inb (nI t) (mlB x) = true by rcases hx with h | h | h | h <;> rw [h] <;> exact i12), ix_nI (by omega), em]
      unfold fX11_writeMeasure fX11_writeMeasure_87
      have wrap : ∀ {X : Option (Int32 × CS)} {Y : Option (Int32 × MS)}, Sim w B S M X Y → Sim w B S M (Option.bind X (fun c139 => some (c139.1, c139.2))) Y := by
        intro X Y h
        obtain ⟨r1_, S1_, M1_, q1_, q2_, q3_⟩ := h
        exact ⟨r1_, S1_, M1_, q1_, by rw [q2_]; rfl, q3_⟩
      rcases lt8 hp with h9 | h9 | h9 | h9 | h9 | h9 | h9 | h9
      · have hp0 : p = 0 := (nI_inj (b := 0) (by omega) (by decide)).mp h9
        rw [h9, if_pos (Or.inr ⟨by omega, c1⟩), (la_lo _ _ _).1, e144 12 (by omega)]
        exact wrap (sim_wm R c h2 c1 (k := 0) (by decide) ca)
      · have hp0 : p = 1 := (nI_inj (b := 1) (by omega) (by decide)).mp h9
        rw [h9, if_pos (Or.inr ⟨by omega, c1⟩), (la_lo _ _ _).2.1, e144 13 (by omega)]
        exact wrap (sim_wm R c h2 c1 (k := 1) (by decide) ca)
      · have hp0 : p = 2 := (nI_inj (b := 2) (by omega) (by decide)).mp h9
        rw [h9, if_pos (Or.inr ⟨by omega, c1⟩), (la_lo _ _ _).2.2.1, e144 14 (by omega)]
        exact wrap (sim_wm R c h2 c1 (k := 2) (by decide) ca)
      · have hp0 : p = 3 := (nI_inj (b := 3) (by omega) (by decide)).mp h9
        have en : gB M 3 (ix (a &&& 15)) = gB M 3 (ra a) := rfl
        rw [h9, if_pos (Or.inr ⟨by omega, c1⟩), la_3, if_neg (show ¬ (1 : Int32) = 0 by decide), if_pos (inb3 a), if_pos (show inb (nI t) (mlA 16) = true from i12), ix_nI (by omega), en, if_pos (show (3 : Int32) = 3 from rfl)]
        exact sim_mark R c h2 c1 _
      · have hp0 : p = 4 := (nI_inj (b := 4) (by omega) (by decide)).mp h9
        have en : gA M 5 (ix (a &&& 15)) = nI u := ea
        rw [h9, if_pos (Or.inr ⟨by omega, c1⟩), la_4, if_neg (show ¬ (1 : Int32) = 0 by decide), if_pos (inb5 a), if_pos (show inb (nI t) (mlA 17) = true from i12), ix_nI (by omega), en, if_neg (show ¬ (4 : Int32) = 3 by decide), if_pos (show (4 : Int32) = 4 from rfl), if_pos hp0]
        have fin := sim_after R c h2 c1 hu (hc hp0)
        by_cases cu : u = 0
        · subst cu
          exact fin
        · have hkk := rl_kN R cu hu
          have hq := (hc hp0).elim (fun x => absurd x cu) id
          rw [rfn_s w cu] at fin ⊢
          rw [c_inst R cu hu _ _ inst21, Option.bind_some, if_pos ((tag21 hkk.2).mpr hq), if_neg (show ¬ (1 : Int32) = 0 by decide), c_cast R cu hu, if_pos ((tag21 hkk.2).mpr hq)]
          exact fin
      · have hp0 : p = 5 := (nI_inj (b := 5) (by omega) (by decide)).mp h9
        rw [h9, if_neg (show ¬ (5 : Int32) = 3 by decide), if_neg (show ¬ (5 : Int32) = 4 by decide), if_neg (show ¬ (5 : Int32) = 0 by decide), if_neg (show ¬ (5 : Int32) = 1 by decide), if_neg (show ¬ (5 : Int32) = 2 by decide), if_neg (show ¬ (5 : Int32) = 3 by decide), if_neg (show ¬ (5 : Int32) = 4 by decide), if_pos (show (5 : Int32) = 5 from rfl), c_inst R c h2 _ _ inst1, Option.bind_some, c_cast R c h2]
        by_cases c2 : kN M t = 12
        · rw [if_pos (Or.inl ⟨hp0, c2⟩), if_pos ((tag1 hk.2).mpr c2), if_neg (show ¬ (1 : Int32) = 0 by decide), if_pos ((tag1 hk.2).mpr c2), (la_lo _ _ _).2.2.2, e144 15 (by omega)]
          exact wrap (sim_force R c h2 c2 ca)
        · rw [if_neg (show ¬ ((p = 5 ∧ kN M t = 12) ∨ (p ≠ 5 ∧ (kN M t = 11 ∨ kN M t = 12))) by omega), if_neg (show ¬ [1].contains (tagK (kN M t)) = true from fun h => c2 ((tag1 hk.2).mp h)), if_pos (show (0 : Int32) = 0 from rfl)]
          exact wrap (sim_err R 2 (by decide))
      · have hp0 : p = 6 := (nI_inj (b := 6) (by omega) (by decide)).mp h9
        rw [h9, if_pos (Or.inr ⟨by omega, c1⟩), la_6w]
        exact wrap (sim_err R 0 (by decide))
      · have hp0 : p = 7 := (nI_inj (b := 7) (by omega) (by decide)).mp h9
        rw [h9, if_pos (Or.inr ⟨by omega, c1⟩), la_7]
        exact wrap (sim_err R 0 (by decide))
    · rw [if_neg (show ¬ ((p = 5 ∧ kN M t = 12) ∨ (p ≠ 5 ∧ (kN M t = 11 ∨ kN M t = 12))) by omega), if_neg (show ¬ [2, 1].contains (tagK (kN M t)) = true from fun h => c1 ((tag21 hk.2).mp h)), if_pos rfl]
      exact sim_err R 2 (by decide)
theorem sim_write (R : Rel w B S M) (a b : Int32) {p : Nat} (hp : p < 8) : Sim w B S M (fX11_write S a (cSl S (ra b)) (nI p)) (fX12_looksAt M 1 (a &&& 15) b (nI p)) := by
  obtain ⟨t, h2, eb, e2_⟩ := rl_slot R b
  obtain ⟨u, hu, ea, e4_⟩ := rl_slot R a
  have ea' : gA M 5 (ra (a &&& 15)) = nI u := by rw [ra_ra]; exact ea
  have h4 := rl_4000 R
  have ep : nI p = 4 ↔ p = 4 := nI_inj (b := 4) (by omega) (by decide)
  have s34 := fun hc => sim_write34 R a b hp h2 eb hu ea hc
  unfold fX11_write fX12_looksAt
  rw [c_thgAt, Option.bind_some, e2_, e4_, if_neg (show ¬ (1 : Int32) = 0 by decide), m_kindOf R (a &&& 15) ea' hu, Option.bind_some]
  simp only
  by_cases c1 : p = 4
  · rw [if_pos (ep.mpr c1), if_pos (ep.mpr c1)]
    rw [if_pos c1] at s34
    unfold fX11_write_17
    by_cases cu : u = 0
    · subst cu
      rw [if_pos rfl, if_pos rfl]
      exact s34 (fun _ => Or.inl rfl)
    · have hkk := rl_kN R cu hu
      rw [if_neg cu, if_neg (nI_nm (by omega)), onul_r cu, rfn_s w cu, c_inst R cu hu _ _ inst21, Option.bind_some, m_kindOf R (a &&& 15) ea' hu, Option.bind_some]
      simp only
      rw [if_neg cu, m_isPose hkk.2]
      rw [rfn_s w cu] at s34
      by_cases c2 : kN M u = 11 ∨ kN M u = 12
      · rw [if_pos ((tag21 hkk.2).mpr c2), if_neg (show ¬ (1 : Int32) = 0 by decide), if_pos c2, if_neg (show ¬ (1 : Int32) = 0 by decide)]
        exact s34 (fun _ => Or.inr c2)
      · rw [if_neg (show ¬ [2, 1].contains (tagK (kN M u)) = true from fun h => c2 ((tag21 hkk.2).mp h)), if_pos (show (0 : Int32) = 0 from rfl), if_neg c2, if_pos rfl]
        exact sim_err R 2 (by decide)
  · rw [if_neg (fun h => c1 (ep.mp h)), if_neg (fun h => c1 (ep.mp h))]
    rw [if_neg c1] at s34
    exact s34 (fun h => absurd h c1)
end N
