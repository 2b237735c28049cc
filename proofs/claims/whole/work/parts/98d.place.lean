/-! the face: place, by what it answers: 0 a value, 1 no row, 2 no such place -/
def fX11_place (S : CS) (v1 : Int32) (v2 : Int32) : Option ((Int32 × Int64) × CS) :=
  Option.bind (fX7_thingAt S v1) (fun c5 => Option.bind (cInst c5.2 c5.1 [5] [0, 1, 2, 3, 4, 6]) (fun c12 => if c12 = 0 then some ((1, 0), c5.2) else (if cCast c5.2 c5.1 [5] = true then (if isKx c5.2 c5.1 [5] = true then (Option.bind (fX8_has c5.2 c5.1 v2) (fun c39 => if c39.1 = 0 then some ((2, 0), c39.2) else (if isKx c39.2 c5.1 [5] = true then (Option.bind (fX8_holdsThings c39.2 c5.1) (fun c56 => if isKx c56.2 c5.1 [5] = true then (if c56.1 = 0 then (Option.bind (fX8_valueAt c56.2 c5.1 v2) (fun c75 => some ((0, c75.1), c75.2))) else (Option.bind (fX8_partAt c56.2 c5.1 v2) (fun c64 => Option.bind (fX11_shownThing c64.2 c64.1) (fun c67 => some ((0, c67.1), c67.2))))) else none)) else none))) else none) else none)))
section N
variable {w : Nat → Nat → Nat} {B : Nat} {S : CS} {M : MS}
theorem c_shown (R : Rel w B S M) {u k : Nat} (hu : u ≤ nT M) (hk : 8 ≤ k ∧ k ≤ 10) (hh : u = 0 ∨ heldK k (kN M u)) : fX11_shownThing S (rfn w u) = some (if u = 0 then (-1) else if k = 10 then (gA M 7 u).toInt64 else (gA M 16 u).toInt64, S) := by
  unfold fX11_shownThing
  by_cases c : u = 0
  · subst c
    rfl
  · have hkk := rl_kN R c hu
    have h' := hh.resolve_left c
    unfold heldK at h'
    rw [rfn_s w c, c_inst R c hu _ _ inst21, Option.bind_some, c_inst R c hu _ _ inst5, Option.bind_some, c_cast R c hu, c_cast R c hu, c_isKx R c hu, if_neg c]
    by_cases c2 : kN M u = 11 ∨ kN M u = 12
    · have t := (tag21 hkk.2).mpr c2
      rw [if_pos t, if_neg (show ¬ (1 : Int32) = 0 by decide), if_pos t, (c_pget R c hu c2).2.2.2.1, Option.bind_some, if_neg (show ¬ k = 10 by omega)]
    · have k4 : k = 10 ∧ kN M u = 4 := by omega
      have t5 : [5].contains (tagK (kN M u)) = true := tag5.mpr (by omega)
      rw [if_neg (fun h => c2 ((tag21 hkk.2).mp h)), if_pos rfl, if_pos t5, if_neg (show ¬ (1 : Int32) = 0 by decide), if_pos t5, if_pos t5]
      unfold fX8_length
      rw [(c_row R c hu (by omega)).2.1, Option.bind_some, Option.bind_some, if_pos k4.1, (rl_sN R c hu).1]
theorem sim_place (h : Pb B S M) (r i : Int32) : ∃ k x x', fX11_place S r i = some ((k, x), S) ∧ fX12_place M r i = some (x', pI M 0 k) ∧ ((k = 0 ∧ x = x') ∨ k = 1 ∨ k = 2) := by
  obtain ⟨⟨w, R⟩, _⟩ := h
  obtain ⟨t, h2, e1_, e2_⟩ := rl_slot R r
  have h4 := rl_4000 R
  have g5 : gA M 5 (ix (r &&& 15)) = nI t := e1_
  have m1 : fX12_place_27 M i (nI t) = some (0, pI M 0 1) := by
    unfold fX12_place_27 fX12_place_50 fX12_place_53
    rw [gI_pI, if_neg (show ¬ (1 : Int32) ≤ 0 by decide)]
  have m2 : fX12_place_45 M i (nI t) = some (0, pI M 0 2) := by
    unfold fX12_place_45 fX12_place_50 fX12_place_53
    rw [gI_pI, if_neg (show ¬ (2 : Int32) ≤ 0 by decide)]
  unfold fX11_place fX12_place fX12_place_10
  rw [c_thgAt, Option.bind_some, if_pos (inb5 r), g5, m1, m2]
  simp only
  rw [e2_]
  by_cases ct : t = 0
  · subst ct
    rw [if_pos (show nI 0 = 0 from rfl)]
    exact ⟨1, 0, 0, rfl, rfl, Or.inr (Or.inl rfl)⟩
  · have hk := rl_kN R ct h2
    have hs := rl_sN R ct h2
    rw [if_neg (show ¬ nI t = 0 from fun x => ct ((nI_inj (b := 0) (by omega) (by decide)).mp x)), ix_nI (by omega), if_pos (show inb (nI t) (mlA 6) = true from inb_nI (by omega) (by show t < 4001; omega)), hk.1, m_isRow hk.2, rfn_s w ct, c_inst R ct h2 _ _ inst5, Option.bind_some, c_cast R ct h2, c_isKx R ct h2]
    by_cases c1 : kN M t ≤ 10
    · have t5 := tag5.mpr c1
      rw [if_pos t5, if_neg (show ¬ (1 : Int32) = 0 by decide), if_pos t5, if_pos t5, if_pos c1, if_neg (show ¬ (1 : Int32) = 0 by decide), c_has R ct h2 c1, Option.bind_some, if_pos (show inb (nI t) (mlA 7) = true from inb_nI (by omega) (by show t < 4001; omega)), hs.1]
      obtain ⟨f1_, g1_, b1_, b2_, b3_, b4_, b5_⟩ := rl_row R ct h2 c1
      rcases ix_c i (n := sN M t) (by omega) with ⟨j1_, q1_, q2_⟩ | ⟨q1_, q2_⟩
      · rw [if_pos (show ∃ j, j < sN M t ∧ i = nI j from ⟨j1_, q1_, q2_⟩), q2_, if_neg (show ¬ (1 : Int32) = 0 by decide), if_neg (nI_n0 (by omega)), if_pos (show nI j1_ < nI (sN M t) from (nI_ltI (by omega) (by omega)).mpr q1_)]
        simp only
        rw [c_isKx R ct h2, if_pos t5, c_holds R ct h2 c1, Option.bind_some]
        simp only
        rw [c_isKx R ct h2, if_pos t5]
        have hpl := m_pl R ct h2 q1_
        have em : fX12_place_50 M (nI j1_) (nI t) 0 = fX12_place_85 (pI M 0 0) (gB M 9 (fN M t + j1_)) (nI (kN M t)) := by
          unfold fX12_place_50 fX12_place_53 fX12_place_77
          have g8 : gA (pI M 0 0) 8 t = gA M 8 t := rfl
          have g6 : gA (pI M 0 0) 6 t = nI (kN M t) := hk.1
          have g9 : gB (pI M 0 0) 9 = gB M 9 := rfl
          rw [gI_pI, if_pos (show (0 : Int32) ≤ 0 by decide), if_pos (show inb (nI t) (mlA 8) = true from inb_nI (by omega) (by show t < 4001; omega)), ix_nI (by omega), g8, if_pos hpl.1, hpl.2, if_pos (show inb (nI t) (mlA 6) = true from inb_nI (by omega) (by show t < 4001; omega)), g6, g9]
        rw [em]
        unfold fX12_place_85
        have k6 : (6 : Int32) ≤ nI (kN M t) ↔ 6 ≤ kN M t := nI_leI (a := 6) (by decide) (by omega)
        have k8 : (8 : Int32) ≤ nI (kN M t) ↔ 8 ≤ kN M t := nI_leI (a := 8) (by decide) (by omega)
        have j6 : nI (kN M t) = 6 ↔ kN M t = 6 := nI_inj (b := 6) (by omega) (by decide)
        have j10 : nI (kN M t) = 10 ↔ kN M t = 10 := nI_inj (b := 10) (by omega) (by decide)
        have hp := b5_ j1_ q1_
        by_cases c8 : kN M t < 8
        · rw [if_pos c8] at b3_
          rw [if_pos c8, if_pos rfl, c_value R ct h2 c8 b3_ b1_ q1_, Option.bind_some]
          rcases hp with ⟨p1_, p2_⟩ | ⟨p1_, x1_, p2_, p3_, p4_⟩ | ⟨p1_, p2_, p3_⟩ | ⟨p1_, p2_⟩
          · rw [if_neg (show ¬ 6 ≤ nI (kN M t) from fun h => by have := k6.mp h; omega), p2_]
            exact ⟨0, _, _, rfl, rfl, Or.inl ⟨rfl, rfl⟩⟩
          · have fr := fl_round p2_
            rw [if_pos (k6.mpr (by omega)), if_neg (show ¬ 8 ≤ nI (kN M t) from fun h => by have := k8.mp h; omega), if_pos (j6.mpr p1_), p4_, fl_sbits _ fr.2, Option.bind_some, fr.1, p3_]
            exact ⟨0, _, _, rfl, rfl, Or.inl ⟨rfl, rfl⟩⟩
          · rw [if_pos (k6.mpr (by omega)), if_neg (show ¬ 8 ≤ nI (kN M t) from fun h => by have := k8.mp h; omega), if_neg (show ¬ nI (kN M t) = 6 from fun h => by have := j6.mp h; omega), fl_one _ p3_, p2_]
            exact ⟨0, _, _, rfl, rfl, Or.inl ⟨rfl, rfl⟩⟩
          · omega
        · rw [if_neg c8] at b4_
          rcases hp with ⟨p1_, p2_⟩ | ⟨p1_, p2_⟩ | ⟨p1_, p2_⟩ | ⟨p1_, u1_, p2_, p3_, p4_, p5_⟩
          · omega
          · omega
          · omega
          · rw [if_neg c8, if_neg (show ¬ (1 : Int32) = 0 by decide), c_part R ct h2 ⟨by omega, c1⟩ b4_ b1_ q1_, Option.bind_some, p4_, c_shown R p2_ ⟨p1_, c1⟩ p5_, Option.bind_some, if_pos (k6.mpr (by omega)), if_pos (k8.mpr p1_), p3_, lN_32 (by omega), ix_nI (by omega)]
            have z0 : lN u1_ = 0 ↔ u1_ = 0 := pk_lEQ (b := 0) (by omega) (by decide)
            have g7 : gA (pI M 0 0) 7 u1_ = gA M 7 u1_ := rfl
            have g16 : gA (pI M 0 0) 16 u1_ = gA M 16 u1_ := rfl
            rw [g7, g16, if_pos (show inb (nI u1_) (mlA 7) = true from inb_nI (by omega) (by show u1_ < 4001; omega)), if_pos (show inb (nI u1_) (mlA 16) = true from inb_nI (by omega) (by show u1_ < 4001; omega))]
            by_cases cu : u1_ = 0
            · rw [if_pos cu, if_pos (z0.mpr cu)]
              exact ⟨0, _, _, rfl, rfl, Or.inl ⟨rfl, rfl⟩⟩
            · rw [if_neg cu, if_neg (fun h => cu (z0.mp h))]
              by_cases c10 : kN M t = 10
              · rw [if_pos c10, if_pos (j10.mpr c10)]
                exact ⟨0, _, _, rfl, rfl, Or.inl ⟨rfl, rfl⟩⟩
              · rw [if_neg c10, if_neg (fun h => c10 (j10.mp h))]
                exact ⟨0, _, _, rfl, rfl, Or.inl ⟨rfl, rfl⟩⟩
      · rw [if_neg (show ¬ ∃ j, j < sN M t ∧ i = nI j from fun h => by
          obtain ⟨j1_, p1_, p2_⟩ := h
          refine q2_ ⟨?_, ?_⟩
          · rw [p2_]; exact nI_n0 (by omega)
          · rw [p2_]; exact (nI_ltI (by omega) (by omega)).mpr p1_), if_pos rfl]
        rcases q1_ with q3_ | ⟨q3_, q4_⟩
        · rw [if_pos q3_]
          exact ⟨2, 0, 0, rfl, rfl, Or.inr (Or.inr rfl)⟩
        · rw [if_neg q3_, if_neg (fun h => q2_ ⟨q3_, h⟩)]
          exact ⟨2, 0, 0, rfl, rfl, Or.inr (Or.inr rfl)⟩
    · rw [if_neg (fun x => c1 (tag5.mp x)), if_pos rfl, if_neg c1, if_pos rfl]
      exact ⟨1, 0, 0, rfl, rfl, Or.inr (Or.inl rfl)⟩
end N
