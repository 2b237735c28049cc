/-! DEVICE -/
section N
variable {w : Nat → Nat → Nat} {B : Nat} {S : CS} {M : MS}
def dvM (M : MS) (t k : Nat) : MS := pA (pA (pB (pB (nwM M t k) 12 t (if k = 16 then 9221120237041090560 else 0)) 13 t 0) 18 t 0) 20 t 0
theorem dv_A {t k : Nat} (j u : Nat) (h : u ≠ t) : gA (dvM M t k) j u = gA M j u := by
  unfold dvM
  have : ∀ (X : MS) (a : Nat) (v : Int32), gA (pA X a t v) j u = gA X j u := by
    intro X a v
    by_cases c : j = a
    · subst c; rw [gA_pA, if_neg h]
    · rw [gA_pA_ne _ _ _ c]
  rw [this, this]
  exact nw_A j u h
theorem dv_An {t k j : Nat} (h : j ≠ 18) (h2 : j ≠ 20) : gA (dvM M t k) j = gA (nwM M t k) j := by
  unfold dvM
  rw [gA_pA_ne _ _ _ h2, gA_pA_ne _ _ _ h]
  rfl
theorem dv_B {t k : Nat} (j u : Nat) (h : u ≠ t) : gB (dvM M t k) j u = gB M j u := by
  show gB (pB (pB (nwM M t k) 12 t _) 13 t 0) j u = _
  rw [up_Bn _ _ _ _ _ h, up_Bn _ _ _ _ _ h]
  rfl
theorem dv_Bn {t k j : Nat} (h : j ≠ 12) (h2 : j ≠ 13) : gB (dvM M t k) j = gB M j := by
  show gB (pB (pB (nwM M t k) 12 t _) 13 t 0) j = _
  rw [gB_pB_ne _ _ _ h2, gB_pB_ne _ _ _ h]
  rfl
theorem dv_0 {t k : Nat} : gB (dvM M t k) 12 t = (if k = 16 then 9221120237041090560 else 0) ∧ gB (dvM M t k) 13 t = 0 ∧ gA (dvM M t k) 18 t = 0 ∧ gA (dvM M t k) 20 t = 0 := by
  refine ⟨?_, ?_, ?_, ?_⟩
  · show gB (pB (pB (nwM M t k) 12 t _) 13 t 0) 12 t = _
    rw [gB_pB_ne _ _ _ (by decide), gB_pB, if_pos rfl]
  · show gB (pB (pB (nwM M t k) 12 t _) 13 t 0) 13 t = _
    rw [gB_pB, if_pos rfl]
  · unfold dvM
    rw [gA_pA_ne _ _ _ (by decide), gA_pA, if_pos rfl]
  · unfold dvM
    rw [gA_pA, if_pos rfl]
theorem m_dv (R : Rel w B S M) {t k : Nat} (ht : t = nT M + 1) (h4 : t ≤ 4000) (hk : k ≤ 16) (a : Int32) : Option.bind (fX12_newThing M (nI k)) (fun c25 => if inb c25.1 (mlA 6) = true then (if (gA c25.2 6 (ix c25.1)) = 16 then fX12_devices_55 c25.2 a c25.1 12 c25.1 9221120237041090560 else fX12_devices_55 c25.2 a c25.1 12 c25.1 0) else none) = some (0, pA (dvM M t k) 5 (ra a) (nI t)) := by
  have i12 : inb (nI t) 4001 = true := inb_nI (by omega) (by omega)
  have ei : ix (a &&& 15) = ra a := rfl
  have e55 : ∀ v, fX12_devices_55 (nwM M t k) a (nI t) 12 (nI t) v = some (0, pA (pA (pA (pB (pB (nwM M t k) 12 t v) 13 t 0) 18 t 0) 20 t 0) 5 (ra a) (nI t)) := by
    intro v
    unfold fX12_devices_55 fX12_devices_56 fX12_devices_64 fX12_devices_72 fX12_devices_80 fX12_devices_91
    rw [if_pos (show inb (nI t) (mlB 12) = true from i12), if_pos (show inb (nI t) (mlB 13) = true from i12), if_pos (show inb (nI t) (mlA 18) = true from i12), if_pos (show inb (nI t) (mlA 20) = true from i12), if_pos (inb5 a), ix_nI (by omega), ei]
  rw [m_newT R ht h4, Option.bind_some]
  simp only
  rw [if_pos (show inb (nI t) (mlA 6) = true from i12), ix_nI (by omega), nw_6, e55, e55]
  have e16 : nI k = 16 ↔ k = 16 := nI_inj (b := 16) (by omega) (by decide)
  unfold dvM
  by_cases c : k = 16
  · rw [if_pos (e16.mpr c), if_pos c]
  · rw [if_neg (fun q => c (e16.mp q)), if_neg c]
theorem dv_base {t k : Nat} (R : Rel w B S M) (ht : t = nT M + 1) (h4 : t ≤ 4000) (hk : k ≤ 16) : kN (dvM M t k) t = k ∧ (gA (dvM M t k) 6 t = nI (kN (dvM M t k) t) ∧ kN (dvM M t k) t ≤ 16 ∧ gA (dvM M t k) 7 t = nI (sN (dvM M t k) t) ∧ gA (dvM M t k) 8 t = nI (fN (dvM M t k) t)) := by
  obtain ⟨tk, k1_, k2_⟩ := rl_tk R
  have kT : kN (dvM M t k) t = k := by unfold kN; rw [dv_An (by decide) (by decide), nw_6, ix_nI (by omega)]
  have sT : sN (dvM M t k) t = 0 := by unfold sN; rw [dv_An (by decide) (by decide), nw_7]; rfl
  have fT : fN (dvM M t k) t = tk := by unfold fN; rw [dv_An (by decide) (by decide), nw_8, k2_, ix_nI (by omega)]
  exact ⟨kT, by rw [kT, dv_An (by decide) (by decide), nw_6], by rw [kT]; exact hk, by rw [sT, dv_An (by decide) (by decide), nw_7]; rfl, by rw [fT, dv_An (by decide) (by decide), nw_8]; exact k2_⟩
theorem dv_rel {S1 : CS} {t k : Nat} (R : Rel w B S M) (ht : t = nT M + 1) (h4 : t ≤ 4000) (hk : k ≤ 16) (o1 : S1.1 = S.1) (o2 : cSl S1 = cSl S) (o3 : ∀ x ∈ cLs S, x ∈ cLs S1) (o4 : ∀ x ∈ cLs S1, x < cSz S1) (o5 : ∀ x ∈ cLs S, cH S1 x = cH S x) (o6 : ∀ i, vld (dvM M t k) i t → cSz S + i ∈ cLs S1) (th : Th (wNew w t (cSz S)) B (cH S1) (dvM M t k) t) (a : Int32) : ∃ S2, fX11_giveNew S1 a (some (cSz S)) = some (0, S2) ∧ ∀ c q, c ≤ 3 → q ≤ 80 → SimA B S M (some ((0, S2), c, q)) (some (0, pA (dvM M t k) 5 (ra a) (nI t))) := by
  have R' : Rel (wNew w t (cSz S)) B (cpI S1 8 (nI t)) (dvM M t k) := Rel_newO (k := k) R ht h4 hk o1 o2 o3 o4 o5 o6 rfl (fun j u h => dv_A j u h) (by rw [dv_An (by decide) (by decide), nw_An (by decide) (by decide) (by decide)]) (by rw [dv_An (by decide) (by decide), nw_6]) (by rw [dv_An (by decide) (by decide), nw_7]) (by rw [dv_An (by decide) (by decide), nw_8]) (fun j hj => dv_Bn (by omega) (by omega)) (fun j u h => dv_B j u h) th
  have pI1 : gI (dvM M t k) = gI (nwM M t k) := rfl
  have pA1 : ∀ j, 21 ≤ j → gA (dvM M t k) j = gA M j := fun j hj => by rw [dv_An (by omega) (by omega), nw_An (by omega) (by omega) (by omega)]
  have pB1 : gB (dvM M t k) 36 = gB M 36 := dv_Bn (by decide) (by decide)
  exact sima_new (M' := dvM M t k) (t := t) (k := k) R ht h4 o1 pI1 pA1 pB1 R' a
theorem dv_axis (R : Rel w B S M) (h4 : nT M < 4000) {k : Nat} (hk : 13 ≤ k ∧ k ≤ 15) (a : Int32) : ∃ S2, fX11_giveNew (cpH (cnew S (.inr (axT k, [.long 0, .long 0, .long 0]))) (cSz S) (.inr (axT k, [.long 0, .long 0, .long 0]))) a (some (cSz S)) = some (0, S2) ∧ ∀ c q, c ≤ 3 → q ≤ 80 → SimA B S M (some ((0, S2), c, q)) (some (0, pA (dvM M (nT M + 1) k) 5 (ra a) (nI (nT M + 1)))) := by
  obtain ⟨o1, o2, o3, o4, o5, o6, o7⟩ := one_cell R (.inr (axT k, [.long 0, .long 0, .long 0])) rfl
  have hb := dv_base (k := k) R rfl (show nT M + 1 ≤ 4000 by omega) (by omega)
  refine dv_rel R rfl (by omega) (by omega) o1 o2 o3 o4 o5 (fun i hi => ?_) ?_ a
  · have : i = 0 := by
      unfold vld at hi
      rw [hb.1] at hi
      omega
    subst this
    exact o6
  · refine ⟨hb.2, Or.inr (Or.inr (Or.inl ⟨by rw [hb.1]; exact hk, 0, Nat.zero_le _, by rw [dv_0.2.2.1]; rfl, ?_, ?_, by rw [dv_0.2.1]; exact can64_0⟩))⟩
    · have w0 : wNew w (nT M + 1) (cSz S) 0 (nT M + 1) = cSz S := if_pos rfl
      rw [w0, o7, hb.1, dv_0.1, dv_0.2.1, if_neg (by omega)]
      rfl
    · rw [dv_0.1, if_neg (by omega)]; exact can64_0
theorem init0A {c : Nat} (hc : c = 0 ∨ c = 4 ∨ c = 6) : fX0_init (cnew S (.inr (c, [.long 0, .long 0, .long 0]))) (some (cSz S)) = some (cpH (cnew S (.inr (c, [.long 0, .long 0, .long 0]))) (cSz S) (.inr (c, [.long 0, .long 0, .long 0]))) := by
  have hm : cSz S ∈ cLs (cnew S (.inr (c, [.long 0, .long 0, .long 0]))) := List.mem_append_right _ (List.mem_singleton.mpr rfl)
  have h1 : cH (cnew S (.inr (c, [.long 0, .long 0, .long 0]))) (cSz S) = .inr (c, [.long 0, .long 0, .long 0]) := by rw [cH_new, if_pos rfl]
  have kx : ∀ cs : List Nat, isKx (cnew S (.inr (c, [.long 0, .long 0, .long 0]))) (some (cSz S)) cs = cs.contains c := fun cs => isK_at hm h1 cs
  have c1 : [0, 3, 4, 6].contains c = true := by rcases hc with h | h | h <;> subst h <;> decide
  have c2 : [0, 1, 2, 3, 4, 5, 6].contains c = true := by rcases hc with h | h | h <;> subst h <;> decide
  have c3 : [0, 4, 6].contains c = true := by rcases hc with h | h | h <;> subst h <;> decide
  have c4 : thK.contains c = true := by rcases hc with h | h | h <;> subst h <;> decide
  unfold fX0_init fX1_init fX9_init
  rw [kx, kx, kx, if_pos c1, if_pos c2, if_pos c4, Option.bind_some, Option.bind_some, tp_at hm h1 c3 (show 0 < 3 by decide), Option.bind_some, tp_up hm c3 (show 1 < 3 by decide), Option.bind_some, tp_up hm c3 (show 2 < 3 by decide), Option.bind_some]
  rfl
theorem init5 : ∃ S1, fX5_init (cnew S (.inr (3, [.null, .long 0]))) (some (cSz S)) = some (S1, 1, 5) ∧ S1 = cpH (cnew (cnew S (.inr (3, [.null, .long 0]))) (.inl (5, .inl (fun _ => 0)))) (cSz S) (.inr (3, [.ref (cSz S + 1), .long 0])) := by
  have hm : cSz S ∈ cLs (cnew S (.inr (3, [.null, .long 0]))) := List.mem_append_right _ (List.mem_singleton.mpr rfl)
  have h1 : cH (cnew S (.inr (3, [.null, .long 0]))) (cSz S) = .inr (3, [.null, .long 0]) := by rw [cH_new, if_pos rfl]
  have hm2 : cSz S ∈ cLs (cnew (cnew S (.inr (3, [.null, .long 0]))) (.inl (5, .inl (fun _ => 0)))) := List.mem_append_left _ hm
  have h2 : cH (cnew (cnew S (.inr (3, [.null, .long 0]))) (.inl (5, .inl (fun _ => 0)))) (cSz S) = .inr (3, [.null, .long 0]) := by
    rw [cH_new, if_neg (show ¬ cSz S = cSz (cnew S (.inr (3, [.null, .long 0]))) from fun q => by rw [cSz_new] at q; omega)]; exact h1
  have kx : ∀ cs : List Nat, isKx (cnew S (.inr (3, [.null, .long 0]))) (some (cSz S)) cs = cs.contains 3 := fun cs => isK_at hm h1 cs
  refine ⟨_, ?_, rfl⟩
  unfold fX5_init fX5_init_8 fX1_init fX9_init
  rw [kx, kx, kx, if_pos (by decide), if_pos (by decide), if_pos (by decide), Option.bind_some, Option.bind_some, if_pos (by decide), show ix 5 = 5 from rfl]
  rw [tp_at hm2 h2 (by decide) (show 0 < 2 by decide), Option.bind_some, tp_up hm2 (by decide) (show 1 < 2 by decide), Option.bind_some]
  rfl
theorem dv_probe (R : Rel w B S M) (h4 : nT M < 4000) (a : Int32) : ∃ S2, fX11_giveNew (cpH (cnew (cnew S (.inr (3, [.null, .long 0]))) (.inl (5, .inl (fun _ => 0)))) (cSz S) (.inr (3, [.ref (cSz S + 1), .long 0]))) a (some (cSz S)) = some (0, S2) ∧ ∀ c q, c ≤ 3 → q ≤ 80 → SimA B S M (some ((0, S2), c, q)) (some (0, pA (dvM M (nT M + 1) 16) 5 (ra a) (nI (nT M + 1)))) := by
  have hlt := R.2.2.2.2.2.2.1.2.2
  have hb := dv_base (k := 16) R rfl (show nT M + 1 ≤ 4000 by omega) (by omega)
  have hmem : ∀ x, x ∈ cLs (cpH (cnew (cnew S (.inr (3, [.null, .long 0]))) (.inl (5, .inl (fun _ => 0)))) (cSz S) (.inr (3, [.ref (cSz S + 1), .long 0]))) ↔ (x ∈ cLs S ∨ x = cSz S ∨ x = cSz S + 1) := by
    intro x
    show x ∈ (cLs S ++ [cSz S]) ++ [cSz S + 1] ↔ _
    simp [or_assoc]
  refine dv_rel (k := 16) (S1 := cpH (cnew (cnew S (.inr (3, [.null, .long 0]))) (.inl (5, .inl (fun _ => 0)))) (cSz S) (.inr (3, [.ref (cSz S + 1), .long 0]))) R rfl (by omega) (by omega) rfl rfl (fun x hx => (hmem x).mpr (Or.inl hx)) (fun x hx => ?_) (fun x hx => ?_) (fun i hi => ?_) ?_ a
  · show x < cSz S + 1 + 1
    rcases (hmem x).mp hx with h | h | h
    · have := hlt x h
      omega
    · omega
    · omega
  · have := hlt x hx
    rw [cH_pH, if_neg (by omega), cH_new, if_neg (fun q => by rw [cSz_new] at q; omega), cH_new, if_neg (by omega)]
  · have : i = 0 ∨ i = 1 := by
      unfold vld at hi
      rw [hb.1] at hi
      omega
    rcases this with h | h
    · subst h; exact (hmem _).mpr (Or.inr (Or.inl rfl))
    · subst h; exact (hmem _).mpr (Or.inr (Or.inr rfl))
  · have w0 : wNew w (nT M + 1) (cSz S) 0 (nT M + 1) = cSz S := if_pos rfl
    have w1 : wNew w (nT M + 1) (cSz S) 1 (nT M + 1) = cSz S + 1 := if_pos rfl
    refine ⟨hb.2, Or.inr (Or.inr (Or.inr ⟨hb.1, 0, fun _ => 0, Nat.zero_le _, by rw [dv_0.2.2.1]; rfl, by rw [dv_0.2.2.2]; rfl, ?_, ?_, fun i hi => by omega, ⟨?_, ?_⟩, ?_, ?_⟩))⟩
    · rw [w0, w1, cH_eq]
      rfl
    · rw [w1, cH_pH, if_neg (by omega), cH_new, if_pos (by rw [cSz_new])]
    · rw [if_pos (show (prS (fun _ => fX2_ofBits32 0) (min 0 5)).2.1 = 0 from rfl), dv_0.1, if_pos rfl]
    · rw [dv_0.2.1, if_neg (show ¬ fX2_isLost (prS (fun _ => fX2_ofBits32 0) (min 0 5)).2.2.1 = 0 from lost_L)]
    · rw [dv_0.1, if_pos rfl]; exact can64_L
    · rw [dv_0.2.1]; exact can64_0
theorem sim_device (R : Rel w B S M) (a c : Int32) : SimA B S M (fX11_makeDevice S a (c &&& 3)) (Option.bind (fX12_hasRoom M 1) (fun c8 => if c8.1 = 0 then some (8, c8.2) else (Option.bind (fX12_newThing c8.2 (13 + (c &&& 3))) (fun c25 => if inb c25.1 (mlA 6) = true then (if (gA c25.2 6 (ix c25.1)) = 16 then fX12_devices_55 c25.2 a c25.1 12 c25.1 9221120237041090560 else fX12_devices_55 c25.2 a c25.1 12 c25.1 0) else none)))) := by
  unfold fX11_makeDevice
  by_cases c5 : nT M < 4000
  · rw [((c_room R).1 c5).1, ((c_room R).1 c5).2, Option.bind_some, Option.bind_some, if_neg (show ¬ (1 : Int32) = 0 by decide), if_neg (show ¬ (1 : Int32) = 0 by decide)]
    simp only
    obtain ⟨q1_, g1_, g2_⟩ := and_3 c
    have hm : ∀ e, cSz S ∈ cLs (cnew S e) := fun e => List.mem_append_right _ (List.mem_singleton.mpr rfl)
    have h1 : ∀ e, cH (cnew S e) (cSz S) = e := fun e => by rw [cH_new, if_pos rfl]
    have kx : ∀ (x : Nat) (fs : List Value) (cs : List Nat), isKx (cnew S (.inr (x, fs))) (some (cSz S)) cs = cs.contains x := fun x fs cs => isK_at (hm _) (h1 _) cs
    rw [g2_, show (13 : Int32) + nI q1_ = nI (13 + q1_) from nI_add 13 q1_, m_dv R rfl (by omega) (by omega)]
    have hq : q1_ = 0 ∨ q1_ = 1 ∨ q1_ = 2 ∨ q1_ = 3 := by omega
    rcases hq with q | q | q | q <;> subst q
    · obtain ⟨S2, p1_, p2_⟩ := dv_axis R c5 (k := 13) (by decide) a
      rw [if_pos (show nI 0 = 0 from rfl)]
      unfold fX11_makeDevice_45
      rw [kx, if_pos (by decide), init0A (Or.inl rfl), Option.bind_some]
      have p1' : fX11_giveNew (cpH (cnew S (.inr (0, [.long 0, .long 0, .long 0]))) (cSz S) (.inr (0, [.long 0, .long 0, .long 0]))) a (some (cSz S)) = some (0, S2) := p1_
      rw [p1', Option.bind_some]
      exact p2_ 1 3 (by decide) (by decide)
    · obtain ⟨S2, p1_, p2_⟩ := dv_axis R c5 (k := 14) (by decide) a
      rw [if_neg (show ¬ nI 1 = 0 by decide), if_pos (show nI 1 = 1 from rfl)]
      unfold fX11_makeDevice_58 fX6_init
      rw [kx, kx, if_pos (by decide), if_pos (by decide), init0A (Or.inr (Or.inl rfl)), Option.bind_some, Option.bind_some]
      have p1' : fX11_giveNew (cpH (cnew S (.inr (4, [.long 0, .long 0, .long 0]))) (cSz S) (.inr (4, [.long 0, .long 0, .long 0]))) a (some (cSz S)) = some (0, S2) := p1_
      rw [p1', Option.bind_some]
      exact p2_ 1 3 (by decide) (by decide)
    · obtain ⟨S2, p1_, p2_⟩ := dv_axis R c5 (k := 15) (by decide) a
      rw [if_neg (show ¬ nI 2 = 0 by decide), if_neg (show ¬ nI 2 = 1 by decide), if_pos (show nI 2 = 2 from rfl)]
      unfold fX11_makeDevice_71 fX10_init fX6_init
      rw [kx, kx, kx, if_pos (by decide), if_pos (by decide), if_pos (by decide), init0A (Or.inr (Or.inr rfl)), Option.bind_some, Option.bind_some, Option.bind_some]
      have p1' : fX11_giveNew (cpH (cnew S (.inr (6, [.long 0, .long 0, .long 0]))) (cSz S) (.inr (6, [.long 0, .long 0, .long 0]))) a (some (cSz S)) = some (0, S2) := p1_
      rw [p1', Option.bind_some]
      exact p2_ 1 3 (by decide) (by decide)
    · obtain ⟨S2, p1_, p2_⟩ := dv_probe R c5 a
      obtain ⟨S1, i1_, i2_⟩ := init5 (S := S)
      rw [if_neg (show ¬ nI 3 = 0 by decide), if_neg (show ¬ nI 3 = 1 by decide), if_neg (show ¬ nI 3 = 2 by decide)]
      unfold fX11_makeDevice_84
      rw [kx, if_pos (by decide), i1_, Option.bind_some]
      simp only
      rw [i2_, p1_, Option.bind_some]
      exact p2_ 2 7 (by decide) (by decide)
  · rw [((c_room R).2 c5).1, ((c_room R).2 c5).2, Option.bind_some, Option.bind_some, if_pos rfl, if_pos rfl]; exact sima_err R 8 (by decide)
end N
