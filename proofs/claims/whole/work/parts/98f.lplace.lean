/-! the law's own method place, over the machine: what the class throws is caught there -/
def oA (g : CG) (S : CS) (o : Nat) (q : Nat) : Prop := cA g S q ∨ q = o
abbrev oAt (g : CG) (o : Nat) (f : Nat → Int64) (H : Heap) : Prop := va_at g.1 vwT (o, .inl (g.2.2.1, 1, .inr (.inl f))) H
abbrev hhL : List (Nat × Nat × Nat × Nat) := [((0 : Nat), (9 : Nat), (12 : Nat), (13 : Nat)), ((0 : Nat), (9 : Nat), (16 : Nat), (15 : Nat))]
def yP (g : CG) (S : CS) (o : Nat) (f : Nat → Int64) (v1 v2 : Int32) : Array Value → State → Prop := fun a U => xP g [.ref (co g), .int v1, .int v2, .ref o] S a U ∧ oAt g o f U.heap ∧ ¬ cA g S o ∧ va_Nc xIOB xISE U
def yQ (g : CG) (S : CS) (o : Nat) (k : Int32) (x : Int64) : Array Value → State → Outcome → State → Prop := fun _ st oc t => oc = .returned (some (.int k)) ∧ cAt g S t.heap ∧ (∃ f : Nat → Int64, oAt g o f t.heap ∧ (k = 0 → f 0 = x)) ∧ va_F (oA g S o) st t
theorem yP_blind {g : CG} {S : CS} {o : Nat} {f : Nat → Int64} {v1 v2 : Int32} : FrameBlind (yP g S o f v1 v2) := fun a U fr mk q => ⟨xP_blind a U fr mk q.1, q.2.1, q.2.2.1, q.2.2.2.moved (u := U) (U := U.calling fr mk a) (Vm.Alike.refl U.vm)⟩
section YP
variable {p : Program} {l : Launch} {e : Env} {s : State} {m : MethodId} {args : Array Value} {below : List Frame} {meth : Method} {c : Code} {g : CG} {S : CS} {o : Nat} {f : Nat → Int64} {v1 v2 : Int32} {k : Int32} {x : Int64}
theorem y_ret (C : CC p s m args meth c yL_place cL_place 5 (some .int)) {pc : Nat} {j : Int} {H : Heap} {locs : List Loc} {ls : Array Slot} (hj : Int32.ofInt j = k) (hA : cAt g S H) (hf : oAt g o f H) (hk : k = 0 → f 0 = x) (hS : va_S (oA g S o) s.heap H locs) (d0 : decode cL_place pc = .ok (.iconst j, 1)) (d1 : decode cL_place (pc + 1) = .ok (.ireturn, 1)) : W p l e (cr_ 12 1 6) s m args below meth c H locs 1 6 (vx_MQ below (yQ g S o k x) (fun _ _ _ => False) args s 1 6 (oA g S o)) (F0 m pc ls []) := by
  refine lv_iconst C.1 C.2.1 d0 hj ?_
  refine vx_ret ?_
  exact W.iret C.1 C.2.1 C.2.2.2.1 (fun t ht hW => ⟨rfl, by rw [ht]; exact hA, ⟨f, by rw [ht]; exact hf, hk⟩, hS.F ht⟩) hS.2.2 d1 C.2.2.2.2.1
theorem oS_of {H H1 : Heap} {st t : State} {locs L : List Loc} (hS : va_S (oA g S o) s.heap H locs) (h0 : st.heap = H) (hF : va_F (cA g S) st t) (hL : ∀ q ∈ L, cA g S q.base) (h1 : t.heap = H1) : va_S (oA g S o) s.heap H1 (locs ++ L) := by
  subst h1
  refine ⟨Nat.le_trans hS.1 (by rw [← h0]; exact hF.1), fun q q1 q2 => ?_, fun q hq => ?_⟩
  · rw [← hS.2.1 q q1 q2, ← h0]
    exact hF.2 q (by rw [h0]; exact Nat.lt_of_lt_of_le q1 hS.1) (fun hh => q2 (Or.inl hh))
  · rcases List.mem_append.mp hq with h | h
    · exact hS.2.2 q h
    · exact Or.inl (hL q h)
theorem tL_place (C : CC p s m args meth c yL_place cL_place 5 (some .int)) (K : cK g s) (G : cSep g) (hl : l.stackTraces = false) (ht : c.exceptionTable.toList = tableOf hhL) (hA : cAt g S s.heap) (hL : cSepL g S) (hz : s.heap.size = cSz S) (hu : xU (cA g S) s s.heap) (hf : oAt g o f s.heap) (hno : ¬ cA g S o) (hn : va_Nc xIOB xISE s) (hv : fX11_place S v1 v2 = some ((k, x), S)) {ls : Array Slot} (hls : lv_has ls 5 [(0, .ref (co g)), (1, .int v1), (2, .int v2), (3, .ref o)]) : W p l e (cr_ 12 1 6) s m args below meth c s.heap [] 0 0 (vx_MQ below (yQ g S o k x) (fun _ _ _ => False) args s 1 6 (oA g S o)) (F0 m 0 ls []) := by
  have hi := C.2.2.2.2.2.2.2
  refine lv_aload_n C.1 C.2.1 dL_place_0 rfl (lv_at hls 3 rfl) ?_
  refine lv_iconst (v := 0) C.1 C.2.1 dL_place_1 (by decide) ?_
  refine lv_aload_n C.1 C.2.1 dL_place_2 rfl (lv_at hls 0 rfl) ?_
  refine lv_iload_n C.1 C.2.1 dL_place_3 rfl (lv_at hls 1 rfl) ?_
  refine lv_iload_n C.1 C.2.1 dL_place_4 rfl (lv_at hls 2 rfl) ?_
  have hr := vx_runV (g := F0 m 5 ls [.int v2, .int v1, .ref (co g), .int 0, .ref o]) (C := RX11) (own := yL_place.cls) (index := 7) (R := cr_ 12 1 6) (H := s.heap) (locs := []) (cells := 0) (slots := 0) (e := e) (below := below) (meth := meth) (b := co g) (As := [.int v1, .int v2]) (rest := [.int 0, .ref o]) ⟨C.1, C.2.1, rfl, C.2.2.2.2.2.1, gw_hts C⟩ (pX11_place l hl G S v1 v2 hv) ⟨callB_of (y := yX11_place) (own := yL_place.cls) (index := 7) (R := cr_ 12 1 6) (rm := cr_ 10 1 6) (mc := 1) (ms := 6) 2 (gw_hts C) (gw_in2 kw_1073) rfl rfl rfl (hi _ kw_71 rfl) (hi _ kw_1070 rfl) (by decide +kernel) ⟨Nat.le_of_ble_eq_true rfl, Nat.le_of_ble_eq_true rfl⟩, hi _ kw_1071 rfl, hi _ kw_1072 rfl⟩ ⟨xP_blind, va_recv K.1 (hb_P hA.1) (ci := 7) (q0 := 0) rfl rfl, fun U hU hW => ⟨⟨rfl, cK_warm hW K, by rw [hU]; exact hA, hL, by rw [hU]; exact hz⟩, by rw [hU]; exact xU_warm hW hu⟩⟩ rfl rfl (by show ls.size = _; rw [C.2.2.1]; exact hls.1) rfl (lv_room (Nat.le_of_ble_eq_true rfl)) dL_place_5 ⟨Nat.le_of_ble_eq_true rfl, Nat.le_of_ble_eq_true rfl⟩
  have h00 : va_S (oA g S o) s.heap s.heap [] := va_S.rf
  intro T hT X
  rcases hr T hT X with ⟨v, st₀, t, T', L, h0, X', hL', e1, e2, ⟨hk, hv', hK2, hA2, hL2, hz2, hF, hin⟩, st⟩ | ⟨q, st₀, t, T', L, E, ce, h0, X', hL', e1, e2, ⟨hE, hk, hA2, hF⟩, hce, hcv, hcl, st⟩
  · cases hv'
    subst hk
    have hS := oS_of (o := o) h00 h0 hF hL' rfl
    have hf2 : oAt g o f t.heap := hf.kept (by rw [hF.2 o (by rw [h0]; exact hf.lt) hno, h0])
    have kk : W p l e (cr_ 12 1 6) s m args below meth c t.heap ([] ++ L) (0 + 1) (0 + 6) (vx_MQ below (yQ g S o 0 x) (fun _ _ _ => False) args s 1 6 (oA g S o)) (F0 m 8 ls [.long x, .int 0, .ref o]) := by
      refine hb_last C.1 C.2.1 K.1 1 hf2 rfl (by show ¬ ((0 : Int32) < 0 ∨ 1 ≤ (0 : Int32).toNatClampNeg); decide) dL_place_8 (fun H1 sl q1 q2 q3 => ?_)
      refine lv_goto (tgt := 20) C.1 C.2.1 dL_place_9 rfl ?_
      have hA3 : cAt g S H1 := by
        have ne : ∀ q : Nat × va_E, va_at g.1 vwT q t.heap → cA g S q.1 → va_at g.1 vwT q H1 := fun q hq hc => hq.kept (q3 _ (fun h => hno (h ▸ hc)))
        exact ⟨ne _ hA2.1 (Or.inl rfl), ne _ hA2.2.1 (Or.inr (Or.inl ⟨5, by decide, rfl⟩)), fun i hi => ne _ (hA2.2.2.1 i hi) (Or.inr (Or.inl ⟨i, by omega, rfl⟩)), fun i hi => ne _ (hA2.2.2.2.1 i hi) (Or.inr (Or.inl ⟨i, by omega, rfl⟩)), ne _ hA2.2.2.2.2.1 (Or.inr (Or.inl ⟨18, by decide, rfl⟩)), fun a ha => ne _ (hA2.2.2.2.2.2 a ha) (Or.inr (Or.inr (Or.inl ha)))⟩
      exact y_ret C (j := 0) (by decide) hA3 q1 (fun _ => by simp [va_up]) (hS.put q2 q3 (Or.inr rfl)) dL_place_20 dL_place_21
    obtain ⟨t2, a1, b1⟩ := kk T' e1 X'
    exact ⟨t2, st t2 a1, b1⟩
  · have hS := oS_of (o := o) h00 h0 hF hL' rfl
    have hf2 : oAt g o f t.heap := hf.kept (by rw [hF.2 o (by rw [h0]; exact hf.lt) hno, h0])
    have kk : vx_W p l e (cr_ 12 1 6) s m args below meth c t.heap ([] ++ L) (0 + 1) (0 + 6) (vx_MQ below (yQ g S o k x) (fun _ _ _ => False) args s 1 6 (oA g S o)) (F0 m 5 ls [.int 0, .ref o]) q := by
      rcases hk with hk | hk
      · subst hk
        have hE1 : E = xISE := hE
        subst hE1
        refine vx_catch (own := yL_place.cls) (name := xISE) (E := xISE) (ce := ce) C.2.2.2.2.2.1 [] ⟨0, 9, 12, 13⟩ [⟨0, 9, 16, 15⟩] ht (fun z hz => nomatch hz) (by decide) (by decide) (hi _ kw_1068 rfl) (va_tabs rfl rfl (K.2.1 _ (nw_in kw_1076) rfl)) hce hcv hcl ?_
        refine lv_astore C.1 C.2.1 dL_place_12 hls (by decide) rfl (fun ls2 hls2 => ?_)
        exact y_ret C (j := 1) (by decide) hA2 hf2 (fun h => absurd h (by decide)) hS dL_place_14 dL_place_15
      · subst hk
        have hE1 : E = xIOB := hE
        subst hE1
        refine vx_catch (own := yL_place.cls) (name := xIOB) (E := xIOB) (ce := ce) C.2.2.2.2.2.1 [⟨0, 9, 12, 13⟩] ⟨0, 9, 16, 15⟩ [] ht (fun z hz => ?_) (by decide) (by decide) (hi _ kw_1069 rfl) (va_tabs rfl rfl (K.2.1 _ (nw_in kw_1143) rfl)) hce hcv hcl ?_
        · cases List.mem_singleton.mp hz
          exact Or.inr ⟨by decide, xISE, hi _ kw_1068 rfl, hn⟩
        · refine lv_astore C.1 C.2.1 dL_place_16 hls (by decide) rfl (fun ls2 hls2 => ?_)
          exact y_ret C (j := 2) (by decide) hA2 hf2 (fun h => absurd h (by decide)) hS dL_place_18 dL_place_19
    obtain ⟨t2, a1, b1⟩ := kk T' e1 X'
    exact ⟨t2, st.trans a1, b1⟩
end YP
theorem pL_place (l : Launch) (hl : l.stackTraces = false) {g : CG} (G : cSep g) (S : CS) (o : Nat) (f : Nat → Int64) (v1 v2 : Int32) {k : Int32} {x : Int64} (hv : fX11_place S v1 v2 = some ((k, x), S)) : vx_Met l yL_place (.codeWith yL_place cL_place 5 (some .int) hhL :: gw_G) (cr_ 12 1 6) (yP g S o f v1 v2) (yQ g S o k x) (fun _ _ _ => False) 1 6 (oA g S o) := by
  refine vx_ofWH (cc := cL_place) (maxL := 5) (ret := some .int) (hh := hhL) (by decide +kernel) rfl ?_
  intro p e s m args below meth c s₁ B hml hP
  have hts := atoms_spec (ws := (Cond.codeWith yL_place cL_place 5 (some .int) hhL :: gw_G)) B.pre
  obtain ⟨⟨⟨hv', hK, hA, hL, hz⟩, hu⟩, hf, hno, hn⟩ := hP
  have htb := vx_table (x := yL_place) B (hts _ List.mem_cons_self)
  subst hv'
  rw [lg_entry_eq]
  exact tL_place ⟨B.exec, B.bytes, hml, B.returns, B.notSynchronized, findClass_of_methodNamed B.named, (name_of_methodNamed B.named B.method).1, fun w hw hg => hts w (List.mem_cons_of_mem _ (gw_in hw hg))⟩ hK G hl htb hA hL hz hu hf hno hn hv (lv_entry [.ref (co g), .int v1, .int v2, .ref o] (Nat.le_of_ble_eq_true rfl))
