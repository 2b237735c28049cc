/-! place, over the machine: it answers, or throws one of two -/
def xISE : String := "java/lang/IllegalStateException"
def xIOB : String := "java/lang/IndexOutOfBoundsException"
def xNs : List String := ["java/lang/RuntimeException", "java/lang/Exception"]
def xU (A : Nat → Prop) (U : State) (H : Heap) : Prop := vx_Zq Bundle.tN "UNASSIGNED_STACK" Bundle.steD A U H ∧ vx_Zq Bundle.tN "SUPPRESSED_SENTINEL" Bundle.listD A U H ∧ (∃ a, vk_R RX11 108 "there is no row" a U) ∧ ∃ a, vk_R RX11 118 "no such place" a U
def xP (g : CG) (As : List Value) (S : CS) : Array Value → State → Prop := fun a U => cC_P g As S a U ∧ xU (cA g S) U U.heap
def xN (k : Int32) : String := if k = 1 then xISE else xIOB
def xQ (g : CG) (k : Int32) (x : Int64) (S S1 : CS) : Array Value → State → Outcome → State → Prop := fun a st o t => k = 0 ∧ cC_Q g (some (.long x)) S S1 a st o t
def xX (g : CG) (k : Int32) (S S1 : CS) : String → State → State → Prop := fun E st t => E = xN k ∧ (k = 1 ∨ k = 2) ∧ cAt g S1 t.heap ∧ va_F (cA g S) st t
theorem xU_same {A : Nat → Prop} {U V : State} {H : Heap} (e : U.vm = V.vm) (h : xU A U H) : xU A V H := ⟨vx_Zq.moved (e ▸ Vm.Alike.refl _) h.1, vx_Zq.moved (e ▸ Vm.Alike.refl _) h.2.1, h.2.2.1.imp fun _ q => vk_R.same e.symm q, h.2.2.2.imp fun _ q => vk_R.same e.symm q⟩
theorem xU_warm {A : Nat → Prop} {s U : State} {H : Heap} (hW : s.WarmedH U.vm) (h : xU A s H) : xU A U H := ⟨vx_Zq.moved hW.alike h.1, vx_Zq.moved hW.alike h.2.1, h.2.2.1.imp fun _ q => vk_R.warm hW q, h.2.2.2.imp fun _ q => vk_R.warm hW q⟩
theorem xU_kept {A : Nat → Prop} {U : State} {H H1 : Heap} (h : xU A U H) (hq : ∀ a : Nat, a < H.size → ¬ A a → H1[a]? = H[a]?) : xU A U H1 := ⟨h.1.kept hq, h.2.1.kept hq, h.2.2⟩
theorem xU_narrow {A B : Nat → Prop} {U : State} {H : Heap} (h : xU A U H) (hAB : ∀ q, B q → A q) : xU B U H := ⟨h.1.narrow hAB, h.2.1.narrow hAB, h.2.2⟩
theorem xP_blind {g : CG} {As : List Value} {S : CS} : FrameBlind (xP g As S) := fun a U f mk q => ⟨cC_blind a U f mk q.1, xU_same (U := U) (V := U.calling f mk a) rfl q.2⟩
set_option maxRecDepth 100000 in
theorem xat_1 : ∀ w ∈ vx_atS RX11 110 xISE xNs, w ∈ lw_tbl ∧ (goodWord w = true ∨ isN w = true) := by decide +kernel
theorem xgd_1 : ∀ w ∈ Cond.classLink RX11 106 xISE :: Cond.initialized xISE :: vx_atS RX11 110 xISE xNs, vx_ot w = true := by decide +kernel
set_option maxRecDepth 100000 in
theorem xat_2 : ∀ w ∈ vx_atS RX11 120 xIOB xNs, w ∈ lw_tbl ∧ (goodWord w = true ∨ isN w = true) := by decide +kernel
theorem xgd_2 : ∀ w ∈ Cond.classLink RX11 116 xIOB :: Cond.initialized xIOB :: vx_atS RX11 120 xIOB xNs, vx_ot w = true := by decide +kernel
theorem cAt_keep {g : CG} {S : CS} {H H1 : Heap} (h : cAt g S H) (ho : ∀ q : Nat, q < H.size → H1[q]? = H[q]?) : cAt g S H1 := by
  have lt : ∀ q : Nat × va_E, va_at g.1 vwT q H → va_at g.1 vwT q H1 := fun q hq => hq.kept (ho _ hq.lt)
  exact ⟨lt _ h.1, lt _ h.2.1, fun i hi => lt _ (h.2.2.1 i hi), fun i hi => lt _ (h.2.2.2.1 i hi), lt _ h.2.2.2.2.1, fun b hb => lt _ (h.2.2.2.2.2 b hb)⟩
theorem va_S_keep {A : Nat → Prop} {H0 H H1 : Heap} {locs : List Loc} (h : va_S A H0 H locs) (h1 : H.size ≤ H1.size) (ho : ∀ q : Nat, q < H.size → H1[q]? = H[q]?) : va_S A H0 H1 locs := ⟨Nat.le_trans h.1 h1, fun q g1 g2 => (ho q (Nat.lt_of_lt_of_le g1 h.1)).trans (h.2.1 q g1 g2), h.2.2⟩
section XP
variable {p : Program} {l : Launch} {e : Env} {s : State} {m : MethodId} {args : Array Value} {below : List Frame} {meth : Method} {c : Code} {g : CG} {S0 S S1 : CS} {k1 n mc ms pc cells slots : Nat} {lv : List (Nat × Value)} {st rest : List Value}
theorem jx_ret {x : Int64} {XC : String → State → State → Prop} (kk : CJ p l e s m args below meth c n k1 mc ms g S0 (some (.long x)) S1 pc lv st S cells slots) : JJ p l e (cr_ k1 mc ms) s m args below meth c n (cW g s S0) (vx_MQ below (xQ g 0 x S0 S1) XC args s mc ms (cA g S0)) pc lv st S cells slots := fun H locs ls hl hw => by
  intro T hT X
  obtain ⟨t, a1, o, b1, b2, b3, b4⟩ := kk H locs ls hl hw T hT X
  exact ⟨t, a1, o, b1, b2, Or.inl ⟨⟨rfl, b3⟩, b4⟩⟩
theorem x_hat (C : CC p s m args meth c yX11_place cX11_place 5 (some .long)) (K : cK g s) {L : List Cond} (h : ∀ w ∈ L, w ∈ lw_tbl ∧ (goodWord w = true ∨ isN w = true)) : ∀ w ∈ L, w.before args s = true := fun w hw => by
  obtain ⟨h1, h2⟩ := h w hw
  rcases h2 with h2 | h2
  · exact C.2.2.2.2.2.2.2 w h1 h2
  · exact va_tabs (isN_tab h2) rfl (K.2.1 w (nw_in h1) h2)
theorem jx_throw1 {x : Int64} (C : CC p s m args meth c yX11_place cX11_place 5 (some .long)) (K : cK g s) (hl : l.stackTraces = false) (hout : ∀ x ∈ c.exceptionTable.toList, False) (hz : xU (cA g S0) s s.heap) (hst : (st.map fun v => v.category).sum ≤ 100) : JJ p l e (cr_ 10 1 6) s m args below meth c 5 (cW g s S0) (vx_MQ below (xQ g 1 x S0 S1) (xX g 1 S0 S1) args s 1 6 (cA g S0)) 27 lv st S1 0 0 := fun H locs ls hls hw => by
  obtain ⟨a, ha⟩ := hz.2.2.1
  have hi := C.2.2.2.2.2.2.2
  exact vx_throwS (A := cA g S0) (own := RX11) (cls := xISE) (names := xNs) (ik := 106) (is := 108) (ic := 110) (text := "there is no row") (sa := a) C.1 C.2.1 hl C.2.2.2.2.2.1 (by decide +kernel) (by decide +kernel) (hi _ kw_1074 rfl) (hi _ kw_91 rfl) ha (x_hat C K xat_1) xgd_1 hz.1 hz.2.1 hw.2.2.2.1 (by rw [C.2.2.1]; exact hls.1) dX11_place_27 dX11_place_30 dX11_place_31 dX11_place_33 dX11_place_36 (fun x hx => (hout x hx).elim) (by show 2 + 3 < 10; omega) (by show _ + (13 * (2 + 1) + 43) ≤ 480; omega) (Nat.le_refl _) (Nat.le_refl _) C.2.2.2.2.1 (fun t hA h1 h2 => ⟨rfl, by decide, cAt_keep hw.1 h2, va_S.F (va_S_keep hw.2.2.2.1 h1 h2) rfl⟩) hw.2.2.2.1.2.2 (Nat.le_refl _) (Nat.le_refl _)
theorem jx_throw2 {x : Int64} (C : CC p s m args meth c yX11_place cX11_place 5 (some .long)) (K : cK g s) (hl : l.stackTraces = false) (hout : ∀ x ∈ c.exceptionTable.toList, False) (hz : xU (cA g S0) s s.heap) (hst : (st.map fun v => v.category).sum ≤ 100) : JJ p l e (cr_ 10 1 6) s m args below meth c 5 (cW g s S0) (vx_MQ below (xQ g 2 x S0 S1) (xX g 2 S0 S1) args s 1 6 (cA g S0)) 45 lv st S1 0 0 := fun H locs ls hls hw => by
  obtain ⟨a, ha⟩ := hz.2.2.2
  have hi := C.2.2.2.2.2.2.2
  exact vx_throwS (A := cA g S0) (own := RX11) (cls := xIOB) (names := xNs) (ik := 116) (is := 118) (ic := 120) (text := "no such place") (sa := a) C.1 C.2.1 hl C.2.2.2.2.2.1 (by decide +kernel) (by decide +kernel) (hi _ kw_1141 rfl) (hi _ kw_92 rfl) ha (x_hat C K xat_2) xgd_2 hz.1 hz.2.1 hw.2.2.2.1 (by rw [C.2.2.1]; exact hls.1) dX11_place_45 dX11_place_48 dX11_place_49 dX11_place_51 dX11_place_54 (fun x hx => (hout x hx).elim) (by show 2 + 3 < 10; omega) (by show _ + (13 * (2 + 1) + 43) ≤ 480; omega) (Nat.le_refl _) (Nat.le_refl _) C.2.2.2.2.1 (fun t hA h1 h2 => ⟨rfl, by decide, cAt_keep hw.1 h2, va_S.F (va_S_keep hw.2.2.2.1 h1 h2) rfl⟩) hw.2.2.2.1.2.2 (Nat.le_refl _) (Nat.le_refl _)
end XP
set_option maxRecDepth 100000 in
set_option maxHeartbeats 1000000 in
theorem tX11_place_0 {p : Program} {l : Launch} {e : Env} {s : State} {m : MethodId} {args : Array Value} {below : List Frame} {meth : Method} {c : Code} {g : CG} {S0 : CS} (C : CC p s m args meth c yX11_place cX11_place 5 (some .long)) (K : cK g s) (G : cSep g) (hl : l.stackTraces = false) (hout : ∀ x ∈ c.exceptionTable.toList, False) (hz : xU (cA g S0) s s.heap) (S : CS) (v1 v2 : Int32) {k : Int32} {x : Int64} {S1 : CS} (hv : fX11_place S v1 v2 = some ((k, x), S1)) : JJ p l e (cr_ 10 1 6) s m args below meth c 5 (cW g s S0) (vx_MQ below (xQ g k x S0 S1) (xX g k S0 S1) args s 1 6 (cA g S0)) 0 [(0, .ref (co g)), (1, .int v1), (2, .int v2)] [] S 0 0 := by
  unfold fX11_place at hv
  refine jr_aload_n C dX11_place_0 rfl 0 rfl ?_
  refine jc_getR C K 5 (by decide) (by decide) kw_127 rfl dX11_place_1 ?_
  refine jr_iload_n C dX11_place_4 rfl 1 rfl ?_
  obtain ⟨c5, hc5, hv⟩ := Option.bind_eq_some_iff.mp hv
  refine jc_callR (rest := []) C K (pX7_thingAt l G S v1 hc5) oX7_thingAt kw_497 kw_495 rfl ⟨Nat.le_of_ble_eq_true rfl, Nat.le_of_ble_eq_true rfl⟩ rfl (Nat.le_of_ble_eq_true rfl) ⟨Nat.le_of_ble_eq_true rfl, Nat.le_of_ble_eq_true rfl⟩ dX11_place_5 ?_
  refine jr_nastore (i := 4) (lv' := [(4, va_rf c5.1), (0, .ref (co g)), (1, .int v1), (2, .int v2)]) C dX11_place_8 (by decide) (by simp [cat_rf, cat_i, cat_l, cat_r]) ?_
  refine jr_naload C dX11_place_10 0 rfl ?_
  obtain ⟨c12, hc12, hv⟩ := Option.bind_eq_some_iff.mp hv
  refine jc_inst C K hc12 y_Row n_Row kw_508 dX11_place_12 ?_
  refine jr_if_eq (tgt := 27) C dX11_place_15 rfl (fun q15 => ?_) (fun q15 => ?_)
  · have hv := (if_pos q15).symm.trans hv
    cases hv
    exact jx_throw1 C K hl hout hz (Nat.le_of_ble_eq_true rfl)
  · have hv := (if_neg q15).symm.trans hv
    refine jr_naload C dX11_place_18 0 rfl ?_
    by_cases z20 : cCast c5.2 c5.1 [5] = true
    case neg => exact op_none ((if_neg z20).symm.trans hv)
    have hv := (if_pos z20).symm.trans hv
    refine jc_cast C K z20 y_Row kw_508 dX11_place_20 ?_
    refine jr_nastore_n (i := 3) (lv' := [(3, va_rf c5.1), (4, va_rf c5.1), (0, .ref (co g)), (1, .int v1), (2, .int v2)]) C dX11_place_23 rfl (by decide) (by simp [cat_rf, cat_i, cat_l, cat_r]) ?_
    refine jr_goto (tgt := 37) C dX11_place_24 rfl ?_
    refine jr_naload_n C dX11_place_37 rfl 0 rfl ?_
    refine jr_iload_n C dX11_place_38 rfl 4 rfl ?_
    by_cases z39 : isKx c5.2 c5.1 [5] = true
    case neg => exact op_none ((if_neg z39).symm.trans hv)
    have hv := (if_pos z39).symm.trans hv
    obtain ⟨c39, hc39, hv⟩ := Option.bind_eq_some_iff.mp hv
    refine jc_callT (ci := 5) (rest := []) C K (pX8_has l G c5.2 c5.1 v2 hc39) z39 rfl oX8_has kw_637 kw_635 rfl ⟨Nat.le_of_ble_eq_true rfl, Nat.le_of_ble_eq_true rfl⟩ rfl (Nat.le_of_ble_eq_true rfl) ⟨Nat.le_of_ble_eq_true rfl, Nat.le_of_ble_eq_true rfl⟩ dX11_place_39 ?_
    refine jr_if_ne (tgt := 55) C dX11_place_42 rfl (fun q42 => ?_) (fun q42 => ?_)
    · have hv := (if_neg q42).symm.trans hv
      by_cases z56 : isKx c39.2 c5.1 [5] = true
      case neg => exact op_none ((if_neg z56).symm.trans hv)
      have hv := (if_pos z56).symm.trans hv
      obtain ⟨c56, hc56, hv⟩ := Option.bind_eq_some_iff.mp hv
      refine jr_naload_n C dX11_place_55 rfl 0 rfl ?_
      refine jc_callT (ci := 5) (rest := []) C K (pX8_holdsThings l G c39.2 c5.1 hc56) z56 rfl oX8_holdsThings kw_576 kw_639 rfl ⟨Nat.le_of_ble_eq_true rfl, Nat.le_of_ble_eq_true rfl⟩ rfl (Nat.le_of_ble_eq_true rfl) ⟨Nat.le_of_ble_eq_true rfl, Nat.le_of_ble_eq_true rfl⟩ dX11_place_56 ?_
      by_cases z64 : isKx c56.2 c5.1 [5] = true
      case neg => exact op_none ((if_neg z64).symm.trans hv)
      have hv := (if_pos z64).symm.trans hv
      refine jr_if_eq (tgt := 73) C dX11_place_59 rfl (fun q59 => ?_) (fun q59 => ?_)
      · have hv := (if_pos q59).symm.trans hv
        obtain ⟨c75, hc75, hv⟩ := Option.bind_eq_some_iff.mp hv
        cases hv
        refine jr_naload_n C dX11_place_73 rfl 0 rfl ?_
        refine jr_iload_n C dX11_place_74 rfl 4 rfl ?_
        refine jc_callT (ci := 5) (rest := []) C K (pX8_valueAt l G c56.2 c5.1 v2 hc75) z64 rfl oX8_valueAt kw_643 kw_641 rfl ⟨Nat.le_of_ble_eq_true rfl, Nat.le_of_ble_eq_true rfl⟩ rfl (Nat.le_of_ble_eq_true rfl) ⟨Nat.le_of_ble_eq_true rfl, Nat.le_of_ble_eq_true rfl⟩ dX11_place_75 ?_
        exact jx_ret (jc_lret C K dX11_place_78 rfl ⟨Nat.le_of_ble_eq_true rfl, Nat.le_of_ble_eq_true rfl⟩)
      · have hv := (if_neg q59).symm.trans hv
        obtain ⟨c64, hc64, hv⟩ := Option.bind_eq_some_iff.mp hv
        obtain ⟨c67, hc67, hv⟩ := Option.bind_eq_some_iff.mp hv
        cases hv
        refine jr_naload_n C dX11_place_62 rfl 0 rfl ?_
        refine jr_iload_n C dX11_place_63 rfl 4 rfl ?_
        refine jc_callT (ci := 5) (rest := []) C K (pX8_partAt l G c56.2 c5.1 v2 hc64) z64 rfl oX8_partAt kw_593 kw_640 rfl ⟨Nat.le_of_ble_eq_true rfl, Nat.le_of_ble_eq_true rfl⟩ rfl (Nat.le_of_ble_eq_true rfl) ⟨Nat.le_of_ble_eq_true rfl, Nat.le_of_ble_eq_true rfl⟩ dX11_place_64 ?_
        refine jc_callS (rest := []) C K (pX11_shownThing l G c64.2 c64.1 hc67) oX11_shownThing kw_1157 rfl ⟨Nat.le_of_ble_eq_true rfl, Nat.le_of_ble_eq_true rfl⟩ rfl (Nat.le_of_ble_eq_true rfl) ⟨Nat.le_of_ble_eq_true rfl, Nat.le_of_ble_eq_true rfl⟩ dX11_place_67 ?_
        refine jr_goto (tgt := 78) C dX11_place_70 rfl ?_
        exact jx_ret (jc_lret C K dX11_place_78 rfl ⟨Nat.le_of_ble_eq_true rfl, Nat.le_of_ble_eq_true rfl⟩)
    · have hv := (if_pos q42).symm.trans hv
      cases hv
      exact jx_throw2 C K hl hout hz (Nat.le_of_ble_eq_true rfl)
theorem pX11_place (l : Launch) (hl : l.stackTraces = false) {g : CG} (G : cSep g) (S : CS) (v1 v2 : Int32) {k : Int32} {x : Int64} {S1 : CS} (hv : fX11_place S v1 v2 = some ((k, x), S1)) : vx_Met l yX11_place (.code yX11_place cX11_place 5 (some .long) :: gw_G) (cr_ 10 1 6) (xP g [.ref (co g), .int v1, .int v2] S) (xQ g k x S S1) (xX g k S S1) 1 6 (cA g S) := by
  refine vx_ofW (cc := cX11_place) (maxL := 5) (ret := some .long) (by decide +kernel) rfl ?_
  intro p e s m args below meth c s₁ B hml hout hP
  have hts := atoms_spec (ws := (Cond.code yX11_place cX11_place 5 (some .long) :: gw_G)) B.pre
  obtain ⟨⟨hv', hK, hP, hL, hz⟩, hu⟩ := hP
  subst hv'
  rw [lg_entry_eq]
  exact tX11_place_0 ⟨B.exec, B.bytes, hml, B.returns, B.notSynchronized, findClass_of_methodNamed B.named, (name_of_methodNamed B.named B.method).1, fun w hw hg => hts w (List.mem_cons_of_mem _ (gw_in hw hg))⟩ hK G hl hout hu S v1 v2 hv s.heap [] _ (lv_entry [.ref (co g), .int v1, .int v2] (Nat.le_of_ble_eq_true rfl)) ⟨hP, hL, hz, va_S.rf, fun a ha => Or.inr (Or.inr (Or.inl ha)), hz⟩
