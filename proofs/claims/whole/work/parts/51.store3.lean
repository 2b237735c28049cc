/-! stores, from their beginning -/
section N
variable {w : Nat → Nat → Nat} {B : Nat} {S : CS} {M : MS}
theorem sim_54 (R : Rel w B S M) {v : Nat} (hv : v ≤ 10) {a b c : Int32} {t u : Nat} (h2 : t ≤ nT M) (hu : u ≤ nT M) (ea : gA M 5 (ra a) = nI u) (eb : gA M 5 (ra b) = nI t) (hh : 8 ≤ v → u = 0 ∨ heldK v (kN M u)) : Sim w B S M (fX11_store_54 S (nI v) a c (if v < 8 then none else rfn w u) (rfn w t)) (fX12_stores_60 M (nI v) (a &&& 15) b c (if u = 0 then (-1) else nI (kN M u))) := by
  have hK := m_kindOf R b eb h2
  have h4 := rl_4000 R
  unfold fX11_store_54 fX12_stores_60 fX12_stores_94 fX12_stores_113 fX11_store_85
  rw [hK, Option.bind_some]
  simp only [if_pos (inb5 b), if_pos (inb3 c)]
  by_cases ct : t = 0
  · subst ct
    rw [if_pos rfl, if_pos rfl]
    exact sim_err R 1 (by decide)
  · have hk := rl_kN R ct h2
    rw [if_neg ct, onul_r ct, rfn_s w ct, if_neg (nI_nm (by omega)), if_neg (nI_nm (by omega)), c_inst R ct h2 _ _ inst5, Option.bind_some, c_cast R ct h2, c_isKx R ct h2]
    have e1 : nI (kN M t) = nI v ↔ kN M t = v := nI_inj (by omega) (by omega)
    have e2 : nI v = 8 ↔ v = 8 := nI_inj (b := 8) (by omega) (by decide)
    have e3 : nI (kN M t) = 9 ↔ kN M t = 9 := nI_inj (b := 9) (by omega) (by decide)
    have eM : ∀ X : Option (Int32 × MS), (if nI (kN M t) = nI v then X else (if nI v = 8 then (if nI (kN M t) = 9 then X else fX12_stores_92 M) else fX12_stores_92 M)) = if kN M t = v ∨ (v = 8 ∧ kN M t = 9) then X else some (2, M) := by
      intro X
      unfold fX12_stores_92
      by_cases c1 : kN M t = v
      · rw [if_pos (e1.mpr c1), if_pos (Or.inl c1)]
      · rw [if_neg (show ¬ nI (kN M t) = nI v from fun h => c1 (e1.mp h))]
        by_cases c2 : v = 8
        · rw [if_pos (e2.mpr c2)]
          by_cases c3 : kN M t = 9
          · rw [if_pos (e3.mpr c3), if_pos (Or.inr ⟨c2, c3⟩)]
          · rw [if_neg (show ¬ nI (kN M t) = 9 from fun h => c3 (e3.mp h)), if_neg (fun h => h.elim c1 (fun q => c3 q.2))]
        · rw [if_neg (show ¬ nI v = 8 from fun h => c2 (e2.mp h)), if_neg (fun h => h.elim c1 (fun q => c2 q.1))]
    rw [eM]
    by_cases c1 : kN M t ≤ 10
    · rw [if_pos (tag5.mpr c1), if_neg (show ¬ (1 : Int32) = 0 by decide), if_pos (tag5.mpr c1), if_pos (tag5.mpr c1), c_pass R ct h2 c1 hv, Option.bind_some]
      by_cases c2 : kN M t = v ∨ (v = 8 ∧ kN M t = 9)
      · rw [if_pos c2, if_pos c2, if_neg (show ¬ (1 : Int32) = 0 by decide), c_numAt, Option.bind_some, rl_num R c]
        have e5 : gA M 5 (ix (b &&& 15)) = nI t := eb
        have e6 : gB M 3 (ix (c &&& 15)) = gB M 3 (ra c) := rfl
        rw [e5, e6]
        exact sim_st R hv ct h2 hu ea c1 c2 hh _
      · rw [if_neg c2, if_neg c2, if_pos rfl]
        exact sim_err R 2 (by decide)
    · rw [if_neg (show ¬ [5].contains (tagK (kN M t)) = true from fun h => c1 (tag5.mp h)), if_pos rfl, if_neg (fun h => by omega)]
      exact sim_err R 2 (by decide)
theorem sim_store (R : Rel w B S M) {v : Nat} (hv : v ≤ 10) (a b c : Int32) : Sim w B S M (fX11_store S (nI v) a b c) (fX12_stores M (nI v) (a &&& 15) b c) := by
  obtain ⟨t, h2, eb, e2_⟩ := rl_slot R b
  obtain ⟨u, hu, ea, e4_⟩ := rl_slot R a
  have ea' : gA M 5 (ra (a &&& 15)) = nI u := by rw [ra_ra]; exact ea
  have hK := m_kindOf R (a &&& 15) ea' hu
  have h4 := rl_4000 R
  have e54 := fun (hh : 8 ≤ v → u = 0 ∨ heldK v (kN M u)) => sim_54 (c := c) R hv h2 hu ea eb hh
  unfold fX11_store fX12_stores fX11_store_26 fX11_store_38
  rw [hK, Option.bind_some, if_pos (show nI v ≤ 10 from (nI_leI (b := 10) (by omega) (by decide)).mpr hv), c_thgAt, Option.bind_some]
  simp only [c_thgAt, Option.bind_some, e2_, e4_]
  by_cases c8 : v < 8
  · rw [if_pos (show nI v < 8 from (nI_ltI (b := 8) (by omega) (by decide)).mpr c8), if_pos (show nI v ≤ 7 from (nI_leI (b := 7) (by omega) (by decide)).mpr (by omega))]
    have := e54 (fun h => by omega)
    rw [if_pos c8] at this
    exact this
  · rw [if_neg (show ¬ nI v < 8 from fun h => c8 ((nI_ltI (b := 8) (by omega) (by decide)).mp h)), if_neg (show ¬ nI v ≤ 7 from fun h => by have := (nI_leI (b := 7) (by omega) (by decide)).mp h; omega)]
    rw [if_neg c8] at e54
    by_cases cu : u = 0
    · subst cu
      have := e54 (fun _ => Or.inl rfl)
      rw [if_pos rfl] at this ⊢
      rw [if_pos rfl]
      exact this
    · have hk := rl_kN R cu hu
      rw [if_neg cu] at e54 ⊢
      rw [if_neg (nI_nm (by omega)), onul_r cu, rfn_s w cu]
      rw [rfn_s w cu] at e54
      have hm := c_may R cu hu (k := v) ⟨by omega, hv⟩
      by_cases ch : heldK v (kN M u)
      · rw [hm.1 ch, Option.bind_some, if_neg (show ¬ (1 : Int32) = 0 by decide)]
        have fin := e54 (fun _ => Or.inr ch)
        have eM : ∀ X : Option (Int32 × MS), (if nI v = 8 then (if (fX12_isPose (nI (kN M u))) = 0 then fX12_stores_58 M else X) else (if nI v = 9 then (if nI (kN M u) = 12 then X else fX12_stores_58 M) else (if nI (kN M u) = 4 then X else fX12_stores_58 M))) = X := by
          intro X
          rw [m_isPose hk.2]
          unfold heldK at ch
          rcases ch with ⟨p1_, p2_⟩ | ⟨p1_, p2_⟩ | ⟨p1_, p2_⟩
          · subst p1_
            rw [if_pos (show nI 8 = 8 from rfl), if_pos p2_, if_neg (show ¬ (1 : Int32) = 0 by decide)]
          · subst p1_
            rw [if_neg (show ¬ nI 9 = 8 by decide), if_pos (show nI 9 = 9 from rfl), p2_, if_pos (show nI 12 = 12 from rfl)]
          · subst p1_
            rw [if_neg (show ¬ nI 10 = 8 by decide), if_neg (show ¬ nI 10 = 9 by decide), p2_, if_pos (show nI 4 = 4 from rfl)]
        rw [eM]
        exact fin
      · rw [hm.2 ch, Option.bind_some, if_pos rfl]
        have eM : ∀ X : Option (Int32 × MS), (if nI v = 8 then (if (fX12_isPose (nI (kN M u))) = 0 then fX12_stores_58 M else X) else (if nI v = 9 then (if nI (kN M u) = 12 then X else fX12_stores_58 M) else (if nI (kN M u) = 4 then X else fX12_stores_58 M))) = some (2, M) := by
          intro X
          rw [m_isPose hk.2]
          unfold fX12_stores_58
          have h8 : v = 8 ∨ v = 9 ∨ v = 10 := by omega
          unfold heldK at ch
          rcases h8 with h8 | h8 | h8 <;> subst h8
          · rw [if_pos (show nI 8 = 8 from rfl), if_neg (fun q => ch (Or.inl ⟨rfl, q⟩)), if_pos rfl]
          · rw [if_neg (show ¬ nI 9 = 8 by decide), if_pos (show nI 9 = 9 from rfl), if_neg (show ¬ nI (kN M u) = 12 from fun q => ch (Or.inr (Or.inl ⟨rfl, (nI_inj (b := 12) (by omega) (by decide)).mp q⟩)))]
          · rw [if_neg (show ¬ nI 10 = 8 by decide), if_neg (show ¬ nI 10 = 9 by decide), if_neg (show ¬ nI (kN M u) = 4 from fun q => ch (Or.inr (Or.inr ⟨rfl, (nI_inj (b := 4) (by omega) (by decide)).mp q⟩)))]
        rw [eM]
        exact sim_err R 2 (by decide)
end N
