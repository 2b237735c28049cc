/-! POSE and DEVICE -/
section N
variable {w : Nat → Nat → Nat} {B : Nat} {S : CS} {M : MS}
theorem Rel_newO {S1 : CS} {M' : MS} {t k : Nat} (R : Rel w B S M) (ht : t = nT M + 1) (h4 : t ≤ 4000) (hk : k ≤ 16) (e1 : S1.1 = S.1) (e2 : cSl S1 = cSl S) (e3 : ∀ x ∈ cLs S, x ∈ cLs S1) (e4 : ∀ x ∈ cLs S1, x < cSz S1) (e5 : ∀ x ∈ cLs S, cH S1 x = cH S x) (e6 : ∀ i, vld M' i t → cSz S + i ∈ cLs S1) (m1 : gI M' = gI (nwM M t k)) (m2 : ∀ j u, u ≠ t → gA M' j u = gA M j u) (m5 : gA M' 5 = gA M 5) (t6 : gA M' 6 t = nI k) (t7 : gA M' 7 t = 0) (t8 : gA M' 8 t = gI M 11) (m3 : ∀ j, j = 3 ∨ j = 4 ∨ j = 26 ∨ j = 9 ∨ j = 19 → gB M' j = gB M j) (m4 : ∀ j u, u ≠ t → gB M' j u = gB M j u) (th : Th (wNew w t (cSz S)) B (cH S1) M' t) : Rel (wNew w t (cSz S)) B (cpI S1 8 (nI t)) M' := by
  have hlt := R.2.2.2.2.2.2.1.2.2
  obtain ⟨tk, k1_, k2_⟩ := rl_tk R
  have ni := nw_I (M := M) (t := t) (k := k)
  refine Rel_new (t := t) (tk := tk) (tk' := tk) (k := k) (n := 0) R ht h4 k2_ (by omega) (by omega) (by omega) (by rw [m1]; exact ni.1) (by rw [m1, ni.2 11 (by decide)]; exact k2_) (by rw [m1, ni.2 27 (by decide)]) m5 (fun j u _ g1 g2 => m2 j u (by omega)) t6 hk t7 (by decide) (by rw [t8]; exact k2_) (fun j hj => m3 j (by omega)) (fun j u hj g1 g2 => m4 j u (by omega)) (fun j _ => by rw [m3 9 (by omega)]) (fun j _ => by rw [m3 19 (by omega)]) (by show gB S1.1 16 = _; rw [e1]) (by show gB S1.1 17 = _; rw [e1]) (by show gB S1.1 6 = _; rw [e1]) (by show gI (pI S1.1 8 (nI t)) 7 = _; rw [gI_pI_ne _ _ (by decide), e1]) (gI_pI _ _ _) e2 e3 e4 e5 (fun i u g1 g2 => if_neg (by omega)) (fun i hi => ?_) (fun i j hi hj h => ?_) th
  · have ew : wNew w t (cSz S) i t = cSz S + i := if_pos rfl
    rw [ew]
    refine ⟨e6 i hi, fun h => ?_⟩
    have := hlt _ h
    omega
  · have ei : wNew w t (cSz S) i t = cSz S + i := if_pos rfl
    have ej : wNew w t (cSz S) j t = cSz S + j := if_pos rfl
    rw [ei, ej] at h
    omega
/-- the new thing goes into a slot -/
theorem sima_new {S1 : CS} {M' : MS} {t k : Nat} (R : Rel w B S M) (ht : t = nT M + 1) (h4 : t ≤ 4000) (e1 : S1.1 = S.1) (m1 : gI M' = gI (nwM M t k)) (m2 : ∀ j, 21 ≤ j → gA M' j = gA M j) (m3 : gB M' 36 = gB M 36) (R' : Rel (wNew w t (cSz S)) B (cpI S1 8 (nI t)) M') (a : Int32) : ∃ S2, fX11_giveNew S1 a (some (cSz S)) = some (0, S2) ∧ ∀ c q, c ≤ 3 → q ≤ 80 → SimA B S M (some ((0, S2), c, q)) (some (0, pA M' 5 (ra a) (nI t))) := by
  have ni := nw_I (M := M) (t := t) (k := k)
  have eT : nT M' = t := by unfold nT; rw [m1, ni.1, ix_nI (by omega)]
  have e8 : gI S1.1 8 + 1 = nI t := by rw [e1, R.2.2.2.1.2.2.1, R.2.2.2.1.1, nI_1, ht]
  have er : rfn (wNew w t (cSz S)) t = some (cSz S) := by rw [rfn_s _ (by omega)]; show some (if t = t then cSz S + 0 else _) = _; rw [if_pos rfl]; rfl
  have hst := c_stK R' (t := t) (by omega)
  rw [er] at hst
  have R2 := Rel_slt (k := ra a) R' (t0 := t) (by omega)
  rw [er] at R2
  refine ⟨cpS (cpI S1 8 (nI t)) (ra a) (some (cSz S)), ?_, fun c q hc hq => ⟨0, _, _, _, c, q, by omega, rfl, rfl, Rel_B R2 (by omega), ?_, ?_, ?_, ?_, ?_⟩⟩
  · unfold fX11_giveNew fX11_giveNew_10
    rw [e8, c_giveThg _ a _ hst, Option.bind_some]
  · refine ⟨fun j h7 h8 => ?_, ?_⟩
    · show gI (pI S1.1 8 _) j = _
      rw [gI_pI_ne _ _ h8, e1]
    · show gA S1.1 = _
      rw [e1]
  · refine ⟨fun j h1 _ _ => ?_, fun j hj => ?_, ?_⟩
    · show gI M' j = _
      rw [m1, ni.2 j h1]
    · rw [gA_pA_ne _ _ _ (by omega), m2 j hj]
    · exact m3
  · show nT M ≤ nT M'
    omega
  · show c ≤ 3 * (nT M' - nT M)
    omega
  · show q ≤ 80 * (nT M' - nT M)
    omega
/-- one cell more -/
theorem one_cell (R : Rel w B S M) (e : TE) {S1 : CS} (h : S1 = cpH (cnew S e) (cSz S) e) : S1.1 = S.1 ∧ cSl S1 = cSl S ∧ (∀ x ∈ cLs S, x ∈ cLs S1) ∧ (∀ x ∈ cLs S1, x < cSz S1) ∧ (∀ x ∈ cLs S, cH S1 x = cH S x) ∧ cSz S ∈ cLs S1 ∧ cH S1 (cSz S) = e := by
  have hlt := R.2.2.2.2.2.2.1.2.2
  subst h
  refine ⟨rfl, rfl, fun x hx => List.mem_append_left _ hx, fun x hx => ?_, fun x hx => ?_, List.mem_append_right _ (List.mem_singleton.mpr rfl), cH_eq _ _ _⟩
  · show x < cSz S + 1
    rcases List.mem_append.mp hx with h | h
    · have := hlt x h
      omega
    · have h' : x = cSz S := List.mem_singleton.mp h
      omega
  · have := hlt x hx
    rw [cH_pH, if_neg (by omega), cH_new, if_neg (by omega)]
def poM (M : MS) (t k : Nat) : MS := pA (pA (pB (pB (pB (pB (nwM M t k) 12 t 0) 13 t 0) 14 t 0) 15 t 0) 16 t 0) 17 t 0
theorem po_A {t k : Nat} (j u : Nat) (h : u ≠ t) : gA (poM M t k) j u = gA M j u := by
  unfold poM
  have : ∀ (X : MS) (a : Nat) (v : Int32), gA (pA X a t v) j u = gA X j u := by
    intro X a v
    by_cases c : j = a
    · subst c; rw [gA_pA, if_neg h]
    · rw [gA_pA_ne _ _ _ c]
  rw [this, this]
  exact nw_A j u h
theorem po_An {t k j : Nat} (h : j ≠ 16) (h2 : j ≠ 17) : gA (poM M t k) j = gA (nwM M t k) j := by
  unfold poM
  rw [gA_pA_ne _ _ _ h2, gA_pA_ne _ _ _ h]
  rfl
theorem up_Bn (X : MS) {t : Nat} (a : Nat) (v : Int64) (j u : Nat) (h : u ≠ t) : gB (pB X a t v) j u = gB X j u := by
  by_cases c : j = a
  · subst c; rw [gB_pB, if_neg h]
  · rw [gB_pB_ne _ _ _ c]
theorem po_B {t k : Nat} (j u : Nat) (h : u ≠ t) : gB (poM M t k) j u = gB M j u := by
  show gB (pB (pB (pB (pB (nwM M t k) 12 t 0) 13 t 0) 14 t 0) 15 t 0) j u = _
  rw [up_Bn _ _ _ _ _ h, up_Bn _ _ _ _ _ h, up_Bn _ _ _ _ _ h, up_Bn _ _ _ _ _ h]
  rfl
theorem po_Bn {t k j : Nat} (h : j ≠ 12) (h2 : j ≠ 13) (h3 : j ≠ 14) (h4 : j ≠ 15) : gB (poM M t k) j = gB M j := by
  show gB (pB (pB (pB (pB (nwM M t k) 12 t 0) 13 t 0) 14 t 0) 15 t 0) j = _
  rw [gB_pB_ne _ _ _ h4, gB_pB_ne _ _ _ h3, gB_pB_ne _ _ _ h2, gB_pB_ne _ _ _ h]
  rfl
theorem po_0 {t k : Nat} : gB (poM M t k) 12 t = 0 ∧ gB (poM M t k) 13 t = 0 ∧ gB (poM M t k) 14 t = 0 ∧ gB (poM M t k) 15 t = 0 ∧ gA (poM M t k) 16 t = 0 ∧ gA (poM M t k) 17 t = 0 := by
  refine ⟨?_, ?_, ?_, ?_, ?_, ?_⟩
  · show gB (pB (pB (pB (pB (nwM M t k) 12 t 0) 13 t 0) 14 t 0) 15 t 0) 12 t = _
    rw [gB_pB_ne _ _ _ (by decide), gB_pB_ne _ _ _ (by decide), gB_pB_ne _ _ _ (by decide), gB_pB, if_pos rfl]
  · show gB (pB (pB (pB (pB (nwM M t k) 12 t 0) 13 t 0) 14 t 0) 15 t 0) 13 t = _
    rw [gB_pB_ne _ _ _ (by decide), gB_pB_ne _ _ _ (by decide), gB_pB, if_pos rfl]
  · show gB (pB (pB (pB (pB (nwM M t k) 12 t 0) 13 t 0) 14 t 0) 15 t 0) 14 t = _
    rw [gB_pB_ne _ _ _ (by decide), gB_pB, if_pos rfl]
  · show gB (pB (pB (pB (pB (nwM M t k) 12 t 0) 13 t 0) 14 t 0) 15 t 0) 15 t = _
    rw [gB_pB, if_pos rfl]
  · unfold poM
    rw [gA_pA_ne _ _ _ (by decide), gA_pA, if_pos rfl]
  · unfold poM
    rw [gA_pA, if_pos rfl]
theorem m_po33 (R : Rel w B S M) {t k : Nat} (ht : t = nT M + 1) (h4 : t ≤ 4000) (a : Int32) : fX12_poses_33 M a (nI k) = some (0, pA (poM M t k) 5 (ra a) (nI t)) := by
  have i12 : inb (nI t) 4001 = true := inb_nI (by omega) (by omega)
  have ei : ix (a &&& 15) = ra a := rfl
  unfold fX12_poses_33 fX12_poses_46 fX12_poses_54 fX12_poses_62 fX12_poses_70 fX12_poses_78 fX12_poses_86 fX12_poses_97 poM
  rw [m_newT R ht h4, Option.bind_some]
  simp only
  rw [if_pos (show inb (nI t) (mlB 12) = true from i12), if_pos (show inb (nI t) (mlB 13) = true from i12), if_pos (show inb (nI t) (mlB 14) = true from i12), if_pos (show inb (nI t) (mlB 15) = true from i12), if_pos (show inb (nI t) (mlA 16) = true from i12), if_pos (show inb (nI t) (mlA 17) = true from i12), if_pos (inb5 a), ix_nI (by omega), ei]
theorem sim_pose (R : Rel w B S M) (a : Int32) {g : Bool} : SimA B S M (fX11_makePose S a (bI32 g)) (Option.bind (fX12_hasRoom M 1) (fun c8 => if c8.1 = 0 then some (8, c8.2) else fX12_poses_33 c8.2 a (if g then 12 else 11))) := by
  unfold fX11_makePose
  by_cases c5 : nT M < 4000
  · rw [((c_room R).1 c5).1, ((c_room R).1 c5).2, Option.bind_some, Option.bind_some, if_neg (show ¬ (1 : Int32) = 0 by decide), if_neg (show ¬ (1 : Int32) = 0 by decide)]
    simp only
    have key : ∀ k, k = 11 ∨ k = 12 → ∀ S1, S1 = cpH (cnew S (if k = 11 then .inr (2, [.long 0, .long 0, .long 0, .int 0, .null]) else .inr (1, [.long 0, .long 0, .long 0, .int 0, .null, .long 0]))) (cSz S) (if k = 11 then .inr (2, [.long 0, .long 0, .long 0, .int 0, .null]) else .inr (1, [.long 0, .long 0, .long 0, .int 0, .null, .long 0])) → ∃ S2, fX11_giveNew S1 a (some (cSz S)) = some (0, S2) ∧ ∀ q, q ≤ 80 → SimA B S M (some ((0, S2), 1, q)) (some (0, pA (poM M (nT M + 1) k) 5 (ra a) (nI (nT M + 1)))) := by
      intro k hk S1 hS
      obtain ⟨o1, o2, o3, o4, o5, o6, o7⟩ := one_cell R _ hS
      have kT : kN (poM M (nT M + 1) k) (nT M + 1) = k := by unfold kN; rw [po_An (by decide) (by decide), nw_6, ix_nI (by omega)]
      have sT : sN (poM M (nT M + 1) k) (nT M + 1) = 0 := by unfold sN; rw [po_An (by decide) (by decide), nw_7]; rfl
      have aT : aN (poM M (nT M + 1) k) (nT M + 1) = 0 := by unfold aN; rw [po_0.2.2.2.2.2]; rfl
      obtain ⟨tk, k1_, k2_⟩ := rl_tk R
      have fT : fN (poM M (nT M + 1) k) (nT M + 1) = tk := by unfold fN; rw [po_An (by decide) (by decide), nw_8, k2_, ix_nI (by omega)]
      have R' : Rel (wNew w (nT M + 1) (cSz S)) B (cpI S1 8 (nI (nT M + 1))) (poM M (nT M + 1) k) := by
        refine Rel_newO (k := k) R rfl (by omega) (by omega) o1 o2 o3 o4 o5 (fun i hi => ?_) rfl (fun j u h => po_A j u h) (by rw [po_An (by decide) (by decide), nw_An (by decide) (by decide) (by decide)]) (by rw [po_An (by decide) (by decide), nw_6]) (by rw [po_An (by decide) (by decide), nw_7]) (by rw [po_An (by decide) (by decide), nw_8]) (fun j hj => po_Bn (by omega) (by omega) (by omega) (by omega)) (fun j u h => po_B j u h) ?_
        · have : i = 0 := by
            unfold vld at hi
            rw [kT] at hi
            omega
          subst this
          exact o6
        · refine ⟨⟨by rw [kT, po_An (by decide) (by decide), nw_6], by rw [kT]; omega, by rw [sT, po_An (by decide) (by decide), nw_7]; rfl, by rw [fT, po_An (by decide) (by decide), nw_8]; exact k2_⟩, Or.inr (Or.inl ⟨by rw [kT]; exact hk, ?_, by rw [aT]; omega, by rw [aT, po_0.2.2.2.2.2]; rfl, Or.inl aT, by rw [po_0.1]; exact can64_0, by rw [po_0.2.1]; exact can64_0, by rw [po_0.2.2.1]; exact can64_0, by rw [po_0.2.2.2.1]; exact can64_0⟩)⟩
          have w0 : wNew w (nT M + 1) (cSz S) 0 (nT M + 1) = cSz S := if_pos rfl
          rw [w0, o7, kT]
          unfold poL
          rw [aT, po_0.1, po_0.2.1, po_0.2.2.1, po_0.2.2.2.1, po_0.2.2.2.2.1]
          rcases hk with h | h <;> subst h <;> rfl
      have pI1 : gI (poM M (nT M + 1) k) = gI (nwM M (nT M + 1) k) := rfl
      have pA1 : ∀ j, 21 ≤ j → gA (poM M (nT M + 1) k) j = gA M j := fun j hj => by rw [po_An (by omega) (by omega), nw_An (by omega) (by omega) (by omega)]
      have pB1 : gB (poM M (nT M + 1) k) 36 = gB M 36 := po_Bn (by decide) (by decide) (by decide) (by decide)
      obtain ⟨S2, g1, g2⟩ := sima_new (M' := poM M (nT M + 1) k) (t := nT M + 1) (k := k) R rfl (by omega) o1 pI1 pA1 pB1 R' a
      exact ⟨S2, g1, fun q hq => g2 1 q (by decide) hq⟩
    have hm : ∀ e, cSz S ∈ cLs (cnew S e) := fun e => List.mem_append_right _ (List.mem_singleton.mpr rfl)
    cases g with
    | false =>
      obtain ⟨S2, g1, g2⟩ := key 11 (Or.inl rfl) _ rfl
      rw [if_pos (show bI32 false = 0 from rfl), if_neg (show ¬ (false = true) by decide), show (11 : Int32) = nI 11 from rfl, m_po33 R rfl (by omega)]
      unfold fX11_makePose_30 fX11_makePose_34 fX4_init fX9_init
      have h1 : cH (cnew S (.inr (2, [.long 0, .long 0, .long 0, .int 0, .null]))) (cSz S) = .inr (2, [.long 0, .long 0, .long 0, .int 0, .null]) := by rw [cH_new, if_pos rfl]
      have kx : ∀ cs : List Nat, isKx (cnew S (.inr (2, [.long 0, .long 0, .long 0, .int 0, .null]))) (some (cSz S)) cs = cs.contains 2 := fun cs => isK_at (hm _) h1 cs
      rw [kx, kx, kx, if_pos (by decide), if_pos (by decide), if_pos (by decide), Option.bind_some, tp_at (hm _) h1 (by decide) (show 0 < 5 by decide), Option.bind_some, tp_up (hm _) (by decide) (show 1 < 5 by decide), Option.bind_some, tp_up (hm _) (by decide) (show 2 < 5 by decide), Option.bind_some, tp_up (hm _) (by decide) (show 3 < 5 by decide), Option.bind_some, tp_up (hm _) (by decide) (show 4 < 5 by decide), Option.bind_some, Option.bind_some]
      have g1' : fX11_giveNew (cpH (cnew S (.inr (2, [.long 0, .long 0, .long 0, .int 0, .null]))) (cSz S) (.inr (2, ((((([.long 0, .long 0, .long 0, .int 0, .null] : List Value).set 0 (.long 0)).set 1 (.long 0)).set 2 (.long 0)).set 3 (.int 0)).set 4 (va_rf none)))) a (some (cSz S)) = some (0, S2) := g1
      rw [g1', Option.bind_some]
      exact g2 5 (by decide)
    | true =>
      obtain ⟨S2, g1, g2⟩ := key 12 (Or.inr rfl) _ rfl
      rw [if_neg (show ¬ bI32 true = 0 by decide), if_pos (show (true = true) from rfl), show (12 : Int32) = nI 12 from rfl, m_po33 R rfl (by omega)]
      unfold fX11_makePose_20 fX11_makePose_34 fX3_init fX4_init fX9_init
      have h1 : cH (cnew S (.inr (1, [.long 0, .long 0, .long 0, .int 0, .null, .long 0]))) (cSz S) = .inr (1, [.long 0, .long 0, .long 0, .int 0, .null, .long 0]) := by rw [cH_new, if_pos rfl]
      have kx : ∀ cs : List Nat, isKx (cnew S (.inr (1, [.long 0, .long 0, .long 0, .int 0, .null, .long 0]))) (some (cSz S)) cs = cs.contains 1 := fun cs => isK_at (hm _) h1 cs
      rw [kx, kx, kx, kx, if_pos (by decide), if_pos (by decide), if_pos (by decide), if_pos (by decide), Option.bind_some, tp_at (hm _) h1 (by decide) (show 0 < 6 by decide), Option.bind_some, tp_up (hm _) (by decide) (show 1 < 6 by decide), Option.bind_some, tp_up (hm _) (by decide) (show 2 < 6 by decide), Option.bind_some, tp_up (hm _) (by decide) (show 3 < 6 by decide), Option.bind_some, tp_up (hm _) (by decide) (show 4 < 6 by decide), Option.bind_some, Option.bind_some, tp_up (hm _) (by decide) (show 5 < 6 by decide), Option.bind_some, Option.bind_some]
      have g1' : fX11_giveNew (cpH (cnew S (.inr (1, [.long 0, .long 0, .long 0, .int 0, .null, .long 0]))) (cSz S) (.inr (1, (((((([.long 0, .long 0, .long 0, .int 0, .null, .long 0] : List Value).set 0 (.long 0)).set 1 (.long 0)).set 2 (.long 0)).set 3 (.int 0)).set 4 (va_rf none)).set 5 (.long 0)))) a (some (cSz S)) = some (0, S2) := g1
      rw [g1', Option.bind_some]
      exact g2 6 (by decide)
  · rw [((c_room R).2 c5).1, ((c_room R).2 c5).2, Option.bind_some, Option.bind_some, if_pos rfl, if_pos rfl]; exact sima_err R 8 (by decide)
end N
