/-! places of rows are written alike -/
theorem cH_pH (S : CS) (a : Nat) (e : TE) (b : Nat) : cH (cpH S a e) b = if b = a then e else cH S b := rfl
theorem char_x (v : Int64) : ((v.toInt32.toUInt32 % 65536).toInt32).toInt64 = v &&& 65535 := by
  obtain ⟨n1_, hn1_, rfl⟩ := wb_of v
  have e1 : lN n1_ &&& 65535 = lN (n1_ % 2 ^ 16) := fb_maskL n1_ 16
  have e2 : ((lN n1_).toInt32.toUInt32 % 65536).toInt32 = nI (n1_ % 65536) := by
    rw [lN_i]
    apply Int32.toBitVec_inj.1
    apply BitVec.eq_of_toNat_eq
    show ((nI n1_).toUInt32 % 65536).toNat = (BitVec.ofNat 32 (n1_ % 65536)).toNat
    rw [UInt32.toNat_mod]
    show (BitVec.ofNat 32 n1_).toNat % 65536 = _
    simp only [BitVec.toNat_ofNat]
    omega
  rw [e1, e2, nI_l (by omega)]
def narK (k : Nat) (v : Int64) : Int64 := if k = 0 then (if v = 0 then 0 else 1) else if k = 1 then v &&& 65535 else if k = 2 then v.toInt32.toInt8.toInt32.toInt64 else if k = 3 then v.toInt32.toInt16.toInt32.toInt64 else if k = 4 then v.toInt32.toInt64 else if k = 5 then v else if k = 6 then (fX2_toBits32 v).toInt64 else v
section N
variable {w : Nat → Nat → Nat} {B : Nat} {S : CS} {M : MS}
theorem rl_ne (R : Rel w B S M) {t : Nat} (h1 : t ≠ 0) (h2 : t ≤ nT M) (hk : kN M t ≤ 10) : w 0 t ≠ w 1 t ∧ w 0 t ≠ w 2 t ∧ w 1 t ≠ w 2 t := by
  have hi := R.2.2.2.2.2.2.1.2.1
  have v0 : vld M 0 t := Or.inl rfl
  have v1 : vld M 1 t := Or.inr (Or.inl ⟨rfl, Or.inl hk⟩)
  have v2 : vld M 2 t := Or.inr (Or.inr ⟨rfl, hk⟩)
  refine ⟨fun h => ?_, fun h => ?_, fun h => ?_⟩
  · exact absurd (hi 0 t 1 t (by omega) h2 (by omega) h2 v0 v1 h).1 (by decide)
  · exact absurd (hi 0 t 2 t (by omega) h2 (by omega) h2 v0 v2 h).1 (by decide)
  · exact absurd (hi 1 t 2 t (by omega) h2 (by omega) h2 v1 v2 h).1 (by decide)
theorem Rel_val (R : Rel w B S M) {t : Nat} (h1 : t ≠ 0) (h2 : t ≤ nT M) (hk : kN M t < 8) {f : Nat → Int64} (e : cH S (w 1 t) = .inl (sN M t, .inr (.inl f))) {j : Nat} (hj : j < sN M t) {v fv : Int64} (hp : ∀ g, plc w M (kN M t) v fv g) : Rel w B (cpH S (w 1 t) (.inl (sN M t, .inr (.inl (va_up f j fv))))) (pB M 9 (fN M t + j) v) := by
  have ne := rl_ne R h1 h2 (by omega)
  have hth := rl_th R h1 h2
  obtain ⟨f1_, g1_, b1_, b2_, b3_, b4_, b5_⟩ := rl_row R h1 h2 (by omega)
  have hf : f1_ = f := by
    rw [if_pos hk, e] at b3_
    simp only [Sum.inl.injEq, Prod.mk.injEq, Sum.inr.injEq, true_and] at b3_
    exact b3_.symm
  subst hf
  refine Rel_mut (t0 := t) R ⟨by omega, h2⟩ (Nat.le_refl _) rfl rfl rfl rfl (fun a ha => ?_) rfl (fun _ _ => rfl) (fun _ _ _ _ => rfl) (fun k hk2 => gB_pB_ne _ _ _ (by omega)) (fun k u hk2 _ => by rw [gB_pB_ne _ _ _ (by omega)]) (fun i hi => ?_) (fun i _ => by rw [gB_pB_ne _ _ _ (by decide)]) ?_
  · rw [cH_pH, if_neg (ha 1 (Or.inr (Or.inl ⟨rfl, Or.inl (by omega)⟩)))]
  · rw [gB_pB, if_neg (by omega)]
  · refine ⟨hth.1, Or.inl ⟨show kN M t ≤ 10 by omega, f1_ |> fun _ => va_up f1_ j fv, g1_, b1_, ?_, ?_, ?_, fun i hi => ?_⟩⟩
    · rw [cH_pH, if_neg ne.1]; exact b2_
    · rw [cH_pH, if_pos rfl]
      show _ = Sum.inl (if kN M t < 8 then sN M t else 0, _)
      rw [if_pos hk]
    · rw [cH_pH, if_neg (fun q => ne.2.2 q.symm)]; exact b4_
    · show plc w (pB M 9 (fN M t + j) v) (kN M t) (gB (pB M 9 (fN M t + j) v) 9 (fN M t + i)) (va_up f1_ j fv i) (g1_ i)
      rw [gB_pB]
      by_cases c : i = j
      · subst c
        rw [if_pos rfl, up_eq]
        exact hp _
      · rw [if_neg (by omega), up_ne _ _ c]
        exact b5_ i hi
theorem Rel_prt (R : Rel w B S M) {t : Nat} (h1 : t ≠ 0) (h2 : t ≤ nT M) (hk : 8 ≤ kN M t ∧ kN M t ≤ 10) {g : Nat → Option Nat} (e : cH S (w 2 t) = .inl (sN M t, .inr (.inr (.inr (.inr g))))) {j u : Nat} (hj : j < sN M t) (hu : u ≤ nT M) (hh : u = 0 ∨ heldK (kN M t) (kN M u)) : Rel w B (cpH S (w 2 t) (.inl (sN M t, .inr (.inr (.inr (.inr (va_up g j (rfn w u)))))))) (pB M 9 (fN M t + j) (lN u)) := by
  have ne := rl_ne R h1 h2 hk.2
  have hth := rl_th R h1 h2
  obtain ⟨f1_, g1_, b1_, b2_, b3_, b4_, b5_⟩ := rl_row R h1 h2 hk.2
  have hf : g1_ = g := by
    rw [if_neg (show ¬ kN M t < 8 by omega), e] at b4_
    simp only [Sum.inl.injEq, Prod.mk.injEq, Sum.inr.injEq, true_and] at b4_
    exact b4_.symm
  subst hf
  refine Rel_mut (t0 := t) R ⟨by omega, h2⟩ (Nat.le_refl _) rfl rfl rfl rfl (fun a ha => ?_) rfl (fun _ _ => rfl) (fun _ _ _ _ => rfl) (fun k hk2 => gB_pB_ne _ _ _ (by omega)) (fun k u hk2 _ => by rw [gB_pB_ne _ _ _ (by omega)]) (fun i hi => ?_) (fun i _ => by rw [gB_pB_ne _ _ _ (by decide)]) ?_
  · rw [cH_pH, if_neg (ha 2 (Or.inr (Or.inr ⟨rfl, hk.2⟩)))]
  · rw [gB_pB, if_neg (by omega)]
  · refine ⟨hth.1, Or.inl ⟨hk.2, f1_, va_up g1_ j (rfn w u), b1_, ?_, ?_, ?_, fun i hi => ?_⟩⟩
    · rw [cH_pH, if_neg ne.2.1]; exact b2_
    · rw [cH_pH, if_neg ne.2.2]; exact b3_
    · rw [cH_pH, if_pos rfl]
      show _ = Sum.inl (if kN M t < 8 then 0 else sN M t, _)
      rw [if_neg (show ¬ kN M t < 8 by omega)]
    · show plc w (pB M 9 (fN M t + j) (lN u)) (kN M t) (gB (pB M 9 (fN M t + j) (lN u)) 9 (fN M t + i)) (f1_ i) (va_up g1_ j (rfn w u) i)
      rw [gB_pB]
      by_cases c : i = j
      · subst c
        rw [if_pos rfl, up_eq]
        exact Or.inr (Or.inr (Or.inr ⟨hk.1, u, hu, rfl, rfl, hh⟩))
      · rw [if_neg (by omega), up_ne _ _ c]
        exact b5_ i hi
theorem c_nar (R : Rel w B S M) {t : Nat} (h1 : t ≠ 0) (h2 : t ≤ nT M) (hk : kN M t < 8) (v : Int64) : fX8_narrowed S (some (w 0 t)) v = some (narK (kN M t) v, S) := by
  have hr := c_row R h1 h2 (by omega)
  unfold fX8_narrowed fX8_narrowed_85 narK
  rw [hr.1, Option.bind_some]
  have h8 : kN M t = 0 ∨ kN M t = 1 ∨ kN M t = 2 ∨ kN M t = 3 ∨ kN M t = 4 ∨ kN M t = 5 ∨ kN M t = 6 ∨ kN M t = 7 := by omega
  rcases h8 with h8 | h8 | h8 | h8 | h8 | h8 | h8 | h8 <;> rw [h8]
  · show (if v = 0 then some ((0 : Int64), S) else some (1, S)) = some (if v = 0 then 0 else 1, S)
    split <;> rfl
  · show some (((v.toInt32.toUInt32 % 65536).toInt32).toInt64, S) = some (v &&& 65535, S)
    rw [char_x]
  all_goals rfl
theorem c_setVal (R : Rel w B S M) {t : Nat} (h1 : t ≠ 0) (h2 : t ≤ nT M) (hk : kN M t < 8) {f : Nat → Int64} (e : cH S (w 1 t) = .inl (sN M t, .inr (.inl f))) (hs : sN M t ≤ 64) {j : Nat} (hj : j < sN M t) (v : Int64) : fX8_setValue S (some (w 0 t)) (nI j) v = some (cpH S (w 1 t) (.inl (sN M t, .inr (.inl (va_up f j (narK (kN M t) v)))))) := by
  have hr := c_row R h1 h2 (by omega)
  have hi := rl_in1 R h1 h2 (by omega)
  unfold fX8_setValue
  rw [if_neg (nI_n0 (by omega)), hr.2.2.1, Option.bind_some, tlen_at hi.1 e rfl, Option.bind_some, if_neg (fun h => by have := (nI_leI (a := sN M t) (b := j) (by omega) (by omega)).mp h; omega), Option.bind_some, c_isKx R h1 h2, if_pos (tag5.mpr (by omega)), c_nar R h1 h2 hk, Option.bind_some]
  unfold tasJ
  rw [arJ_at hi.1 e, Option.bind_some]
  simp only
  rw [if_pos (inb_nI (by omega) hj), ix_nI (by omega)]
  rfl
theorem c_may (R : Rel w B S M) {u : Nat} (h1 : u ≠ 0) (h2 : u ≤ nT M) {k : Nat} (hk : 8 ≤ k ∧ k ≤ 10) : (heldK k (kN M u) → fX8_mayHold S (nI k) (some (w 0 u)) = some (1, S)) ∧ (¬ heldK k (kN M u) → fX8_mayHold S (nI k) (some (w 0 u)) = some (0, S)) := by
  have hkN := (rl_kN R h1 h2).2
  have h8 : k = 8 ∨ k = 9 ∨ k = 10 := by omega
  have i8 := c_inst R h1 h2 [2, 1] [0, 3, 4, 5, 6] (by decide)
  have i9 := c_inst R h1 h2 [1] [0, 2, 3, 4, 5, 6] (by decide)
  have i10 := c_inst R h1 h2 [5] [0, 1, 2, 3, 4, 6] (by decide)
  have t8 : ∀ q, q ≤ 16 → ([2, 1].contains (tagK q) = true ↔ q = 11 ∨ q = 12) := by decide
  have t9 : ∀ q, q ≤ 16 → ([1].contains (tagK q) = true ↔ q = 12) := by decide
  unfold heldK
  rcases h8 with h8 | h8 | h8 <;> subst h8
  · have e : fX8_mayHold S (nI 8) (some (w 0 u)) = Option.bind (cInst S (some (w 0 u)) [2, 1] [0, 3, 4, 5, 6]) (fun c29 => some (c29, S)) := rfl
    rw [e, i8, Option.bind_some]
    constructor
    · intro h
      rw [if_pos ((t8 _ hkN).mpr (by omega))]
    · intro h
      rw [if_neg (fun q => h (Or.inl ⟨rfl, (t8 _ hkN).mp q⟩))]
  · have e : fX8_mayHold S (nI 9) (some (w 0 u)) = Option.bind (cInst S (some (w 0 u)) [1] [0, 2, 3, 4, 5, 6]) (fun c34 => some (c34, S)) := rfl
    rw [e, i9, Option.bind_some]
    constructor
    · intro h
      rw [if_pos ((t9 _ hkN).mpr (by omega))]
    · intro h
      rw [if_neg (fun q => h (Or.inr (Or.inl ⟨rfl, (t9 _ hkN).mp q⟩)))]
  · have e : fX8_mayHold S (nI 10) (some (w 0 u)) = (Option.bind (cInst S (some (w 0 u)) [5] [0, 1, 2, 3, 4, 6]) (fun c39 => if c39 = 0 then some (0, S) else (if cCast S (some (w 0 u)) [5] = true then (Option.bind (tgI S (some (w 0 u)) [5] 0) (fun c51 => if c51 = 4 then some (1, S) else some (0, S))) else none))) := rfl
    rw [e, i10, Option.bind_some, c_cast R h1 h2]
    by_cases c : kN M u ≤ 10
    · have hr := c_row R h1 h2 c
      rw [if_pos (tag5.mpr c), if_neg (show ¬ (1 : Int32) = 0 by decide), if_pos (tag5.mpr c), hr.1, Option.bind_some]
      have e4 : nI (kN M u) = 4 ↔ kN M u = 4 := nI_inj (b := 4) (by omega) (by decide)
      constructor
      · intro h
        rw [if_pos (e4.mpr (by omega))]
      · intro h
        rw [if_neg (show ¬ nI (kN M u) = 4 from fun q => h (Or.inr (Or.inr ⟨rfl, e4.mp q⟩)))]
    · rw [if_neg (show ¬ [5].contains (tagK (kN M u)) = true from fun h => c (tag5.mp h)), if_pos rfl]
      constructor
      · intro h
        omega
      · intro h
        rfl
theorem c_setPrt (R : Rel w B S M) {t : Nat} (h1 : t ≠ 0) (h2 : t ≤ nT M) (hk : 8 ≤ kN M t ∧ kN M t ≤ 10) {g : Nat → Option Nat} (e : cH S (w 2 t) = .inl (sN M t, .inr (.inr (.inr (.inr g))))) (hs : sN M t ≤ 64) {j u : Nat} (hj : j < sN M t) (hu : u ≤ nT M) : ((u = 0 ∨ heldK (kN M t) (kN M u)) → fX8_setPart S (some (w 0 t)) (nI j) (rfn w u) = some (1, cpH S (w 2 t) (.inl (sN M t, .inr (.inr (.inr (.inr (va_up g j (rfn w u))))))))) ∧ (¬ (u = 0 ∨ heldK (kN M t) (kN M u)) → fX8_setPart S (some (w 0 t)) (nI j) (rfn w u) = some (0, S)) := by
  have hr := c_row R h1 h2 hk.2
  have hi := rl_in1 R h1 h2 hk.2
  have e30 : fX8_setPart_30 S (some (w 0 t)) (nI j) (rfn w u) = some (1, cpH S (w 2 t) (.inl (sN M t, .inr (.inr (.inr (.inr (va_up g j (rfn w u)))))))) := by
    unfold fX8_setPart_30 tasQ
    rw [hr.2.2.2, Option.bind_some, arQ_at hi.2 e, Option.bind_some]
    simp only
    rw [if_pos ⟨inb_nI (by omega) hj, c_stK R hu⟩, ix_nI (by omega)]
    rfl
  unfold fX8_setPart fX8_setPart_28
  rw [if_neg (nI_n0 (by omega)), hr.2.2.2, Option.bind_some, tlen_at hi.2 e rfl, Option.bind_some, if_neg (fun h => by have := (nI_leI (a := sN M t) (b := j) (by omega) (by omega)).mp h; omega), e30]
  by_cases c : u = 0
  · subst c
    exact ⟨fun _ => rfl, fun h => absurd (Or.inl rfl) h⟩
  · rw [onul_r c, hr.1, Option.bind_some, rfn_s w c]
    have hm := c_may R c hu hk
    constructor
    · intro h
      rw [hm.1 (h.elim (fun q => absurd q c) id), Option.bind_some, if_neg (show ¬ (1 : Int32) = 0 by decide)]
      rw [rfn_s w c] at e30
      exact e30
    · intro h
      rw [hm.2 (fun q => h (Or.inr q)), Option.bind_some, if_pos rfl]
end N
