/-! RobotCell.takeFuel()Z -/
def fX11_takeFuel_19 (S : CS) : Option (Int32 × CS) :=
  some (1, S)
def fX11_takeFuel (S : CS) : Option (Int32 × CS) :=
  if 0 < (gI S.1 10) then fX11_takeFuel_19 (cpI S 10 ((gI S.1 10) - 1)) else some (0, S)
theorem oX11_takeFuel : ok_c yX11_takeFuel cX11_takeFuel 1 (some .boolean) 0 (.instanceMethod yX11_takeFuel) := ⟨kw_202, ⟨kw_201, rfl⟩, kw_71, by decide +kernel⟩
set_option maxRecDepth 100000 in
set_option maxHeartbeats 1000000 in
theorem tX11_takeFuel_19 {p : Program} {l : Launch} {e : Env} {s : State} {m : MethodId} {args : Array Value} {below : List Frame} {meth : Method} {c : Code} {g : CG} {S0 : CS} (C : CC p s m args meth c yX11_takeFuel cX11_takeFuel 1 (some .boolean)) (K : cK g s) (G : cSep g)  (S : CS) {w : Int32 × CS} (hv : fX11_takeFuel_19 S = some w) : CJ p l e s m args below meth c 1 0 0 0 g S0 (some (.int w.1)) w.2 19 [] [] S 0 0 := by
  unfold fX11_takeFuel_19 at hv
  refine jr_iconst (v := 1) C dX11_takeFuel_19 (by decide) ?_
  exact jc_zret C K dX11_takeFuel_20 rfl (Option.some.inj hv) ⟨Nat.le_refl _, Nat.le_refl _⟩
set_option maxRecDepth 100000 in
set_option maxHeartbeats 1000000 in
theorem tX11_takeFuel_0 {p : Program} {l : Launch} {e : Env} {s : State} {m : MethodId} {args : Array Value} {below : List Frame} {meth : Method} {c : Code} {g : CG} {S0 : CS} (C : CC p s m args meth c yX11_takeFuel cX11_takeFuel 1 (some .boolean)) (K : cK g s) (G : cSep g)  (S : CS) {w : Int32 × CS} (hv : fX11_takeFuel S = some w) : CJ p l e s m args below meth c 1 0 0 0 g S0 (some (.int w.1)) w.2 0 [(0, .ref (co g))] [] S 0 0 := by
  unfold fX11_takeFuel at hv
  refine jr_aload_n C dX11_takeFuel_0 rfl 0 rfl ?_
  refine jc_getI C K 10 (by decide) rfl kw_132 rfl dX11_takeFuel_1 ?_
  refine jr_if_gt (tgt := 9) C dX11_takeFuel_4 rfl (fun q4 => ?_) (fun q4 => ?_)
  · have hv := (if_pos q4).symm.trans hv
    refine jr_aload_n C dX11_takeFuel_9 rfl 0 rfl ?_
    refine jr_dup C dX11_takeFuel_10 rfl ?_
    refine jc_getI C K 10 (by decide) rfl kw_132 rfl dX11_takeFuel_11 ?_
    refine jr_iconst (v := 1) C dX11_takeFuel_14 (by decide) ?_
    refine jr_isub C dX11_takeFuel_15 ?_
    refine jc_putI C K G 10 (by decide) rfl kw_132 rfl rfl (by decide +kernel) dX11_takeFuel_16 ?_
    exact jr_sub [] rfl (tX11_takeFuel_19 C K G  (cpI S 10 ((gI S.1 10) - 1)) hv)
  · have hv := (if_neg q4).symm.trans hv
    refine jr_iconst (v := 0) C dX11_takeFuel_7 (by decide) ?_
    exact jc_zret C K dX11_takeFuel_8 rfl (Option.some.inj hv) ⟨Nat.le_refl _, Nat.le_refl _⟩
theorem pX11_takeFuel (l : Launch) {g : CG} (G : cSep g)   (S : CS)  {w : Int32 × CS} (hw : fX11_takeFuel S = some w)  : cC l yX11_takeFuel cX11_takeFuel 1 (some .boolean) 0 0 0 g [.ref (co g)] S (some (.int w.1)) w.2 := cC_of (lv := [(0, .ref (co g))]) (by decide +kernel) (Nat.le_of_ble_eq_true rfl) rfl (fun C K => tX11_takeFuel_0 C K G  S hw)
/-! RobotCell.raise(II)I -/
def fX11_raise_37 (S : CS) (v1 : Int32) : Option (Int32 × CS) :=
  some (v1, S)
def fX11_raise_32 (S : CS) (v1 : Int32) (v2 : Int32) : Option (Int32 × CS) :=
  fX11_raise_37 (cpI S 12 v2) v1
def fX11_raise (S : CS) (v1 : Int32) (v2 : Int32) : Option (Int32 × CS) :=
  if (fX11_isFault v1) = 0 then some (v1, S) else (if (gI S.1 9) < 2000 then fX11_raise_32 (cpI S 9 ((gI S.1 9) + 1)) v1 v2 else some (10, S))
theorem oX11_raise : ok_c yX11_raise cX11_raise 3 (some .int) 2 (.instanceMethod yX11_raise) := ⟨kw_226, ⟨kw_225, rfl⟩, kw_71, by decide +kernel⟩
set_option maxRecDepth 100000 in
set_option maxHeartbeats 1000000 in
theorem tX11_raise_37 {p : Program} {l : Launch} {e : Env} {s : State} {m : MethodId} {args : Array Value} {below : List Frame} {meth : Method} {c : Code} {g : CG} {S0 : CS} (C : CC p s m args meth c yX11_raise cX11_raise 3 (some .int)) (K : cK g s) (G : cSep g)  (S : CS) (v1 : Int32) {w : Int32 × CS} (hv : fX11_raise_37 S v1 = some w) : CJ p l e s m args below meth c 3 1 0 0 g S0 (some (.int w.1)) w.2 37 [(1, .int v1)] [] S 0 0 := by
  unfold fX11_raise_37 at hv
  refine jr_iload_n C dX11_raise_37 rfl 0 rfl ?_
  exact jc_iret C K dX11_raise_38 (Option.some.inj hv) ⟨Nat.le_refl _, Nat.le_refl _⟩
set_option maxRecDepth 100000 in
set_option maxHeartbeats 1000000 in
theorem tX11_raise_32 {p : Program} {l : Launch} {e : Env} {s : State} {m : MethodId} {args : Array Value} {below : List Frame} {meth : Method} {c : Code} {g : CG} {S0 : CS} (C : CC p s m args meth c yX11_raise cX11_raise 3 (some .int)) (K : cK g s) (G : cSep g)  (S : CS) (v1 : Int32) (v2 : Int32) {w : Int32 × CS} (hv : fX11_raise_32 S v1 v2 = some w) : CJ p l e s m args below meth c 3 1 0 0 g S0 (some (.int w.1)) w.2 32 [(0, .ref (co g)), (1, .int v1), (2, .int v2)] [] S 0 0 := by
  unfold fX11_raise_32 at hv
  refine jr_aload_n C dX11_raise_32 rfl 0 rfl ?_
  refine jr_iload_n C dX11_raise_33 rfl 2 rfl ?_
  refine jc_putI C K G 12 (by decide) rfl kw_134 rfl rfl (by decide +kernel) dX11_raise_34 ?_
  exact jr_sub [1] rfl (tX11_raise_37 C K G  (cpI S 12 v2) v1 hv)
set_option maxRecDepth 100000 in
set_option maxHeartbeats 1000000 in
theorem tX11_raise_0 {p : Program} {l : Launch} {e : Env} {s : State} {m : MethodId} {args : Array Value} {below : List Frame} {meth : Method} {c : Code} {g : CG} {S0 : CS} (C : CC p s m args meth c yX11_raise cX11_raise 3 (some .int)) (K : cK g s) (G : cSep g)  (S : CS) (v1 : Int32) (v2 : Int32) {w : Int32 × CS} (hv : fX11_raise S v1 v2 = some w) : CJ p l e s m args below meth c 3 1 0 0 g S0 (some (.int w.1)) w.2 0 [(0, .ref (co g)), (1, .int v1), (2, .int v2)] [] S 0 0 := by
  unfold fX11_raise at hv
  refine jr_iload_n C dX11_raise_0 rfl 1 rfl ?_
  refine jr_pcall (rest := []) C (pX11_isFault l v1) oX11_isFault kw_227 rfl ⟨Nat.le_of_ble_eq_true rfl, Nat.le_of_ble_eq_true rfl⟩ rfl (Nat.le_of_ble_eq_true rfl) ⟨Nat.zero_le _, Nat.zero_le _⟩ dX11_raise_1 ?_
  refine jr_if_ne (tgt := 9) C dX11_raise_4 rfl (fun q4 => ?_) (fun q4 => ?_)
  · have hv := (if_neg q4).symm.trans hv
    refine jr_aload_n C dX11_raise_9 rfl 0 rfl ?_
    refine jc_getI C K 9 (by decide) rfl kw_131 rfl dX11_raise_10 ?_
    refine jr_sipush (v := 2000) C dX11_raise_13 (by decide) ?_
    refine jr_icmp_lt (tgt := 22) C dX11_raise_16 rfl (fun q16 => ?_) (fun q16 => ?_)
    · have hv := (if_pos q16).symm.trans hv
      refine jr_aload_n C dX11_raise_22 rfl 0 rfl ?_
      refine jr_dup C dX11_raise_23 rfl ?_
      refine jc_getI C K 9 (by decide) rfl kw_131 rfl dX11_raise_24 ?_
      refine jr_iconst (v := 1) C dX11_raise_27 (by decide) ?_
      refine jr_iadd C dX11_raise_28 ?_
      refine jc_putI C K G 9 (by decide) rfl kw_131 rfl rfl (by decide +kernel) dX11_raise_29 ?_
      exact tX11_raise_32 C K G  (cpI S 9 ((gI S.1 9) + 1)) v1 v2 hv
    · have hv := (if_neg q16).symm.trans hv
      refine jr_bipush (v := 10) C dX11_raise_19 (by decide) ?_
      exact jc_iret C K dX11_raise_21 (Option.some.inj hv) ⟨Nat.le_refl _, Nat.le_refl _⟩
  · have hv := (if_pos q4).symm.trans hv
    refine jr_iload_n C dX11_raise_7 rfl 1 rfl ?_
    exact jc_iret C K dX11_raise_8 (Option.some.inj hv) ⟨Nat.le_refl _, Nat.le_refl _⟩
theorem pX11_raise (l : Launch) {g : CG} (G : cSep g)   (S : CS) (v1 : Int32) (v2 : Int32) {w : Int32 × CS} (hw : fX11_raise S v1 v2 = some w)  : cC l yX11_raise cX11_raise 3 (some .int) 1 0 0 g [.ref (co g), .int v1, .int v2] S (some (.int w.1)) w.2 := cC_of (lv := [(0, .ref (co g)), (1, .int v1), (2, .int v2)]) (by decide +kernel) (Nat.le_of_ble_eq_true rfl) rfl (fun C K => tX11_raise_0 C K G  S v1 v2 hw)
/-! RobotCell.raiseAgain(I)I -/
def fX11_raiseAgain_22 (S : CS) : Option (Int32 × CS) :=
  some (gI S.1 13, S)
def fX11_raiseAgain (S : CS) (v1 : Int32) : Option (Int32 × CS) :=
  if (gI S.1 13) = 0 then (Option.bind (fX11_raise S 1 v1) (fun c10 => some (c10.1, c10.2))) else fX11_raiseAgain_22 (cpI S 12 (gI S.1 14))
theorem oX11_raiseAgain : ok_c yX11_raiseAgain cX11_raiseAgain 2 (some .int) 1 (.instanceMethod yX11_raiseAgain) := ⟨kw_245, ⟨kw_244, rfl⟩, kw_71, by decide +kernel⟩
set_option maxRecDepth 100000 in
set_option maxHeartbeats 1000000 in
theorem tX11_raiseAgain_22 {p : Program} {l : Launch} {e : Env} {s : State} {m : MethodId} {args : Array Value} {below : List Frame} {meth : Method} {c : Code} {g : CG} {S0 : CS} (C : CC p s m args meth c yX11_raiseAgain cX11_raiseAgain 2 (some .int)) (K : cK g s) (G : cSep g)  (S : CS) {w : Int32 × CS} (hv : fX11_raiseAgain_22 S = some w) : CJ p l e s m args below meth c 2 2 0 0 g S0 (some (.int w.1)) w.2 22 [(0, .ref (co g))] [] S 0 0 := by
  unfold fX11_raiseAgain_22 at hv
  refine jr_aload_n C dX11_raiseAgain_22 rfl 0 rfl ?_
  refine jc_getI C K 13 (by decide) rfl kw_135 rfl dX11_raiseAgain_23 ?_
  exact jc_iret C K dX11_raiseAgain_26 (Option.some.inj hv) ⟨Nat.le_refl _, Nat.le_refl _⟩
set_option maxRecDepth 100000 in
set_option maxHeartbeats 1000000 in
theorem tX11_raiseAgain_0 {p : Program} {l : Launch} {e : Env} {s : State} {m : MethodId} {args : Array Value} {below : List Frame} {meth : Method} {c : Code} {g : CG} {S0 : CS} (C : CC p s m args meth c yX11_raiseAgain cX11_raiseAgain 2 (some .int)) (K : cK g s) (G : cSep g)  (S : CS) (v1 : Int32) {w : Int32 × CS} (hv : fX11_raiseAgain S v1 = some w) : CJ p l e s m args below meth c 2 2 0 0 g S0 (some (.int w.1)) w.2 0 [(0, .ref (co g)), (1, .int v1)] [] S 0 0 := by
  unfold fX11_raiseAgain at hv
  refine jr_aload_n C dX11_raiseAgain_0 rfl 0 rfl ?_
  refine jc_getI C K 13 (by decide) rfl kw_135 rfl dX11_raiseAgain_1 ?_
  refine jr_if_ne (tgt := 14) C dX11_raiseAgain_4 rfl (fun q4 => ?_) (fun q4 => ?_)
  · have hv := (if_neg q4).symm.trans hv
    refine jr_aload_n C dX11_raiseAgain_14 rfl 0 rfl ?_
    refine jr_aload_n C dX11_raiseAgain_15 rfl 0 rfl ?_
    refine jc_getI C K 14 (by decide) rfl kw_136 rfl dX11_raiseAgain_16 ?_
    refine jc_putI C K G 12 (by decide) rfl kw_134 rfl rfl (by decide +kernel) dX11_raiseAgain_19 ?_
    exact jr_sub [0] rfl (tX11_raiseAgain_22 C K G  (cpI S 12 (gI S.1 14)) hv)
  · have hv := (if_pos q4).symm.trans hv
    refine jr_aload_n C dX11_raiseAgain_7 rfl 0 rfl ?_
    refine jr_iconst (v := 1) C dX11_raiseAgain_8 (by decide) ?_
    refine jr_iload_n C dX11_raiseAgain_9 rfl 1 rfl ?_
    obtain ⟨c10, hc10, hv⟩ := Option.bind_eq_some_iff.mp hv
    refine jc_callO (rest := []) C K (pX11_raise l G S 1 v1 hc10) oX11_raise kw_6 kw_223 rfl ⟨Nat.le_of_ble_eq_true rfl, Nat.le_of_ble_eq_true rfl⟩ rfl (Nat.le_of_ble_eq_true rfl) ⟨Nat.le_refl _, Nat.le_refl _⟩ dX11_raiseAgain_10 ?_
    exact jc_iret C K dX11_raiseAgain_13 (Option.some.inj hv) ⟨Nat.le_refl _, Nat.le_refl _⟩
theorem pX11_raiseAgain (l : Launch) {g : CG} (G : cSep g)   (S : CS) (v1 : Int32) {w : Int32 × CS} (hw : fX11_raiseAgain S v1 = some w)  : cC l yX11_raiseAgain cX11_raiseAgain 2 (some .int) 2 0 0 g [.ref (co g), .int v1] S (some (.int w.1)) w.2 := cC_of (lv := [(0, .ref (co g)), (1, .int v1)]) (by decide +kernel) (Nat.le_of_ble_eq_true rfl) rfl (fun C K => tX11_raiseAgain_0 C K G  S v1 hw)
/-! RobotCell.giveNumber(IJ)I -/
def fX11_giveNumber (S : CS) (v1 : Int32) (v2 : Int64) : Option (Int32 × CS) :=
  Option.bind (fX7_setNumber S v1 v2) (fun c6 => some (0, c6))
theorem oX11_giveNumber : ok_c yX11_giveNumber cX11_giveNumber 4 (some .int) 2 (.instanceMethod yX11_giveNumber) := ⟨kw_237, ⟨kw_236, rfl⟩, kw_71, by decide +kernel⟩
set_option maxRecDepth 100000 in
set_option maxHeartbeats 1000000 in
theorem tX11_giveNumber_0 {p : Program} {l : Launch} {e : Env} {s : State} {m : MethodId} {args : Array Value} {below : List Frame} {meth : Method} {c : Code} {g : CG} {S0 : CS} (C : CC p s m args meth c yX11_giveNumber cX11_giveNumber 4 (some .int)) (K : cK g s) (G : cSep g)  (S : CS) (v1 : Int32) (v2 : Int64) {w : Int32 × CS} (hv : fX11_giveNumber S v1 v2 = some w) : CJ p l e s m args below meth c 4 1 0 0 g S0 (some (.int w.1)) w.2 0 [(0, .ref (co g)), (1, .int v1), (2, .long v2)] [] S 0 0 := by
  unfold fX11_giveNumber at hv
  refine jr_aload_n C dX11_giveNumber_0 rfl 0 rfl ?_
  refine jc_getR C K 5 (by decide) (by decide) kw_127 rfl dX11_giveNumber_1 ?_
  refine jr_iload_n C dX11_giveNumber_4 rfl 1 rfl ?_
  refine jr_lload_n C dX11_giveNumber_5 rfl 2 rfl ?_
  obtain ⟨c6, hc6, hv⟩ := Option.bind_eq_some_iff.mp hv
  refine jc_callR (rest := []) C K (pX7_setNumber l G S v1 v2 hc6) oX7_setNumber kw_189 kw_187 rfl ⟨Nat.le_of_ble_eq_true rfl, Nat.le_of_ble_eq_true rfl⟩ rfl (Nat.le_of_ble_eq_true rfl) ⟨Nat.le_refl _, Nat.le_refl _⟩ dX11_giveNumber_6 ?_
  refine jr_iconst (v := 0) C dX11_giveNumber_9 (by decide) ?_
  exact jc_iret C K dX11_giveNumber_10 (Option.some.inj hv) ⟨Nat.le_refl _, Nat.le_refl _⟩
theorem pX11_giveNumber (l : Launch) {g : CG} (G : cSep g)   (S : CS) (v1 : Int32) (v2 : Int64) {w : Int32 × CS} (hw : fX11_giveNumber S v1 v2 = some w)  : cC l yX11_giveNumber cX11_giveNumber 4 (some .int) 1 0 0 g [.ref (co g), .int v1, .long v2] S (some (.int w.1)) w.2 := cC_of (lv := [(0, .ref (co g)), (1, .int v1), (2, .long v2)]) (by decide +kernel) (Nat.le_of_ble_eq_true rfl) rfl (fun C K => tX11_giveNumber_0 C K G  S v1 v2 hw)
/-! RobotCell.giveMeasure(IJ)I -/
def fX11_giveMeasure (S : CS) (v1 : Int32) (v2 : Int64) : Option (Int32 × CS) :=
  Option.bind (fX7_setMeasure S v1 v2) (fun c6 => some (0, c6))
theorem oX11_giveMeasure : ok_c yX11_giveMeasure cX11_giveMeasure 4 (some .int) 2 (.instanceMethod yX11_giveMeasure) := ⟨kw_321, ⟨kw_320, rfl⟩, kw_71, by decide +kernel⟩
set_option maxRecDepth 100000 in
set_option maxHeartbeats 1000000 in
theorem tX11_giveMeasure_0 {p : Program} {l : Launch} {e : Env} {s : State} {m : MethodId} {args : Array Value} {below : List Frame} {meth : Method} {c : Code} {g : CG} {S0 : CS} (C : CC p s m args meth c yX11_giveMeasure cX11_giveMeasure 4 (some .int)) (K : cK g s) (G : cSep g)  (S : CS) (v1 : Int32) (v2 : Int64) {w : Int32 × CS} (hv : fX11_giveMeasure S v1 v2 = some w) : CJ p l e s m args below meth c 4 1 0 0 g S0 (some (.int w.1)) w.2 0 [(0, .ref (co g)), (1, .int v1), (2, .long v2)] [] S 0 0 := by
  unfold fX11_giveMeasure at hv
  refine jr_aload_n C dX11_giveMeasure_0 rfl 0 rfl ?_
  refine jc_getR C K 5 (by decide) (by decide) kw_127 rfl dX11_giveMeasure_1 ?_
  refine jr_iload_n C dX11_giveMeasure_4 rfl 1 rfl ?_
  refine jr_lload_n C dX11_giveMeasure_5 rfl 2 rfl ?_
  obtain ⟨c6, hc6, hv⟩ := Option.bind_eq_some_iff.mp hv
  refine jc_callR (rest := []) C K (pX7_setMeasure l G S v1 v2 hc6) oX7_setMeasure kw_324 kw_322 rfl ⟨Nat.le_of_ble_eq_true rfl, Nat.le_of_ble_eq_true rfl⟩ rfl (Nat.le_of_ble_eq_true rfl) ⟨Nat.le_refl _, Nat.le_refl _⟩ dX11_giveMeasure_6 ?_
  refine jr_iconst (v := 0) C dX11_giveMeasure_9 (by decide) ?_
  exact jc_iret C K dX11_giveMeasure_10 (Option.some.inj hv) ⟨Nat.le_refl _, Nat.le_refl _⟩
theorem pX11_giveMeasure (l : Launch) {g : CG} (G : cSep g)   (S : CS) (v1 : Int32) (v2 : Int64) {w : Int32 × CS} (hw : fX11_giveMeasure S v1 v2 = some w)  : cC l yX11_giveMeasure cX11_giveMeasure 4 (some .int) 1 0 0 g [.ref (co g), .int v1, .long v2] S (some (.int w.1)) w.2 := cC_of (lv := [(0, .ref (co g)), (1, .int v1), (2, .long v2)]) (by decide +kernel) (Nat.le_of_ble_eq_true rfl) rfl (fun C K => tX11_giveMeasure_0 C K G  S v1 v2 hw)
/-! RobotCell.giveThing(ILRobotCell$Thing;)I -/
def fX11_giveThing (S : CS) (v1 : Int32) (v2 : Option Nat) : Option (Int32 × CS) :=
  Option.bind (fX7_setThing S v1 v2) (fun c6 => some (0, c6))
theorem oX11_giveThing : ok_c yX11_giveThing cX11_giveThing 3 (some .int) 2 (.instanceMethod yX11_giveThing) := ⟨kw_538, ⟨kw_537, rfl⟩, kw_71, by decide +kernel⟩
set_option maxRecDepth 100000 in
set_option maxHeartbeats 1000000 in
theorem tX11_giveThing_0 {p : Program} {l : Launch} {e : Env} {s : State} {m : MethodId} {args : Array Value} {below : List Frame} {meth : Method} {c : Code} {g : CG} {S0 : CS} (C : CC p s m args meth c yX11_giveThing cX11_giveThing 3 (some .int)) (K : cK g s) (G : cSep g)  (S : CS) (v1 : Int32) (v2 : Option Nat) {w : Int32 × CS} (hv : fX11_giveThing S v1 v2 = some w) : CJ p l e s m args below meth c 3 1 0 0 g S0 (some (.int w.1)) w.2 0 [(0, .ref (co g)), (1, .int v1), (2, va_rf v2)] [] S 0 0 := by
  unfold fX11_giveThing at hv
  refine jr_aload_n C dX11_giveThing_0 rfl 0 rfl ?_
  refine jc_getR C K 5 (by decide) (by decide) kw_127 rfl dX11_giveThing_1 ?_
  refine jr_iload_n C dX11_giveThing_4 rfl 1 rfl ?_
  refine jr_naload_n C dX11_giveThing_5 rfl 2 rfl ?_
  obtain ⟨c6, hc6, hv⟩ := Option.bind_eq_some_iff.mp hv
  refine jc_callR (rest := []) C K (pX7_setThing l G S v1 v2 hc6) oX7_setThing kw_541 kw_539 rfl ⟨Nat.le_of_ble_eq_true rfl, Nat.le_of_ble_eq_true rfl⟩ rfl (Nat.le_of_ble_eq_true rfl) ⟨Nat.le_refl _, Nat.le_refl _⟩ dX11_giveThing_6 ?_
  refine jr_iconst (v := 0) C dX11_giveThing_9 (by decide) ?_
  exact jc_iret C K dX11_giveThing_10 (Option.some.inj hv) ⟨Nat.le_refl _, Nat.le_refl _⟩
theorem pX11_giveThing (l : Launch) {g : CG} (G : cSep g)   (S : CS) (v1 : Int32) (v2 : Option Nat) {w : Int32 × CS} (hw : fX11_giveThing S v1 v2 = some w)  : cC l yX11_giveThing cX11_giveThing 3 (some .int) 1 0 0 g [.ref (co g), .int v1, va_rf v2] S (some (.int w.1)) w.2 := cC_of (lv := [(0, .ref (co g)), (1, .int v1), (2, va_rf v2)]) (by decide +kernel) (by simp [lg_sl, cat_rf, cat_i, cat_l, cat_r]) (by simp [lv_args, cat_rf, cat_i, cat_l, cat_r]) (fun C K => tX11_giveThing_0 C K G  S v1 v2 hw)
/-! RobotCell.keepLog(J)I -/
def fX11_keepLog_30 (S : CS) : Option (Int32 × CS) :=
  some (0, S)
def fX11_keepLog_20 (S : CS) : Option (Int32 × CS) :=
  fX11_keepLog_30 (cpI S 7 ((gI S.1 7) + 1))
def fX11_keepLog (S : CS) (v1 : Int64) : Option (Int32 × CS) :=
  if 200 ≤ (gI S.1 7) then fX11_keepLog_20 S else (if inb (gI S.1 7) (clB 6) = true then fX11_keepLog_20 (cpB S 6 (ix (gI S.1 7)) v1) else none)
theorem oX11_keepLog : ok_c yX11_keepLog cX11_keepLog 3 (some .int) 1 (.instanceMethod yX11_keepLog) := ⟨kw_259, ⟨kw_258, rfl⟩, kw_71, by decide +kernel⟩
set_option maxRecDepth 100000 in
set_option maxHeartbeats 1000000 in
theorem tX11_keepLog_30 {p : Program} {l : Launch} {e : Env} {s : State} {m : MethodId} {args : Array Value} {below : List Frame} {meth : Method} {c : Code} {g : CG} {S0 : CS} (C : CC p s m args meth c yX11_keepLog cX11_keepLog 3 (some .int)) (K : cK g s) (G : cSep g)  (S : CS) {w : Int32 × CS} (hv : fX11_keepLog_30 S = some w) : CJ p l e s m args below meth c 3 0 0 0 g S0 (some (.int w.1)) w.2 30 [] [] S 0 0 := by
  unfold fX11_keepLog_30 at hv
  refine jr_iconst (v := 0) C dX11_keepLog_30 (by decide) ?_
  exact jc_iret C K dX11_keepLog_31 (Option.some.inj hv) ⟨Nat.le_refl _, Nat.le_refl _⟩
set_option maxRecDepth 100000 in
set_option maxHeartbeats 1000000 in
theorem tX11_keepLog_20 {p : Program} {l : Launch} {e : Env} {s : State} {m : MethodId} {args : Array Value} {below : List Frame} {meth : Method} {c : Code} {g : CG} {S0 : CS} (C : CC p s m args meth c yX11_keepLog cX11_keepLog 3 (some .int)) (K : cK g s) (G : cSep g)  (S : CS) {w : Int32 × CS} (hv : fX11_keepLog_20 S = some w) : CJ p l e s m args below meth c 3 0 0 0 g S0 (some (.int w.1)) w.2 20 [(0, .ref (co g))] [] S 0 0 := by
  unfold fX11_keepLog_20 at hv
  refine jr_aload_n C dX11_keepLog_20 rfl 0 rfl ?_
  refine jr_dup C dX11_keepLog_21 rfl ?_
  refine jc_getI C K 7 (by decide) rfl kw_129 rfl dX11_keepLog_22 ?_
  refine jr_iconst (v := 1) C dX11_keepLog_25 (by decide) ?_
  refine jr_iadd C dX11_keepLog_26 ?_
  refine jc_putI C K G 7 (by decide) rfl kw_129 rfl rfl (by decide +kernel) dX11_keepLog_27 ?_
  exact jr_sub [] rfl (tX11_keepLog_30 C K G  (cpI S 7 ((gI S.1 7) + 1)) hv)
set_option maxRecDepth 100000 in
set_option maxHeartbeats 1000000 in
theorem tX11_keepLog_0 {p : Program} {l : Launch} {e : Env} {s : State} {m : MethodId} {args : Array Value} {below : List Frame} {meth : Method} {c : Code} {g : CG} {S0 : CS} (C : CC p s m args meth c yX11_keepLog cX11_keepLog 3 (some .int)) (K : cK g s) (G : cSep g)  (S : CS) (v1 : Int64) {w : Int32 × CS} (hv : fX11_keepLog S v1 = some w) : CJ p l e s m args below meth c 3 0 0 0 g S0 (some (.int w.1)) w.2 0 [(0, .ref (co g)), (1, .long v1)] [] S 0 0 := by
  unfold fX11_keepLog at hv
  refine jr_aload_n C dX11_keepLog_0 rfl 0 rfl ?_
  refine jc_getI C K 7 (by decide) rfl kw_129 rfl dX11_keepLog_1 ?_
  refine jr_sipush (v := 200) C dX11_keepLog_4 (by decide) ?_
  refine jr_icmp_ge (tgt := 20) C dX11_keepLog_7 rfl (fun q7 => ?_) (fun q7 => ?_)
  · have hv := (if_pos q7).symm.trans hv
    exact jr_sub [0] rfl (tX11_keepLog_20 C K G  S hv)
  · have hv := (if_neg q7).symm.trans hv
    refine jr_aload_n C dX11_keepLog_10 rfl 0 rfl ?_
    refine jc_getR C K 6 (by decide) (by decide) kw_128 rfl dX11_keepLog_11 ?_
    refine jr_aload_n C dX11_keepLog_14 rfl 0 rfl ?_
    refine jc_getI C K 7 (by decide) rfl kw_129 rfl dX11_keepLog_15 ?_
    refine jr_lload_n C dX11_keepLog_18 rfl 1 rfl ?_
    by_cases z19 : inb (gI S.1 7) (clB 6) = true
    case neg => exact op_none ((if_neg z19).symm.trans hv)
    have hv := (if_pos z19).symm.trans hv
    refine jc_last C K G z19 dX11_keepLog_19 ?_
    exact jr_sub [0] rfl (tX11_keepLog_20 C K G  (cpB S 6 (ix (gI S.1 7)) v1) hv)
theorem pX11_keepLog (l : Launch) {g : CG} (G : cSep g)   (S : CS) (v1 : Int64) {w : Int32 × CS} (hw : fX11_keepLog S v1 = some w)  : cC l yX11_keepLog cX11_keepLog 3 (some .int) 0 0 0 g [.ref (co g), .long v1] S (some (.int w.1)) w.2 := cC_of (lv := [(0, .ref (co g)), (1, .long v1)]) (by decide +kernel) (Nat.le_of_ble_eq_true rfl) rfl (fun C K => tX11_keepLog_0 C K G  S v1 hw)
/-! RobotCell.mayMake(I)Z -/
def fX11_mayMake (S : CS) (v1 : Int32) : Option (Int32 × CS) :=
  if 4000 < ((gI S.1 8) + v1) then some (0, S) else some (1, S)
theorem oX11_mayMake : ok_c yX11_mayMake cX11_mayMake 2 (some .boolean) 1 (.instanceMethod yX11_mayMake) := ⟨kw_507, ⟨kw_506, rfl⟩, kw_71, by decide +kernel⟩
set_option maxRecDepth 100000 in
set_option maxHeartbeats 1000000 in
theorem tX11_mayMake_0 {p : Program} {l : Launch} {e : Env} {s : State} {m : MethodId} {args : Array Value} {below : List Frame} {meth : Method} {c : Code} {g : CG} {S0 : CS} (C : CC p s m args meth c yX11_mayMake cX11_mayMake 2 (some .boolean)) (K : cK g s) (G : cSep g)  (S : CS) (v1 : Int32) {w : Int32 × CS} (hv : fX11_mayMake S v1 = some w) : CJ p l e s m args below meth c 2 0 0 0 g S0 (some (.int w.1)) w.2 0 [(0, .ref (co g)), (1, .int v1)] [] S 0 0 := by
  unfold fX11_mayMake at hv
  refine jr_aload_n C dX11_mayMake_0 rfl 0 rfl ?_
  refine jc_getI C K 8 (by decide) rfl kw_130 rfl dX11_mayMake_1 ?_
  refine jr_iload_n C dX11_mayMake_4 rfl 1 rfl ?_
  refine jr_iadd C dX11_mayMake_5 ?_
  refine jr_sipush (v := 4000) C dX11_mayMake_6 (by decide) ?_
  refine jr_icmp_gt (tgt := 16) C dX11_mayMake_9 rfl (fun q9 => ?_) (fun q9 => ?_)
  · have hv := (if_pos q9).symm.trans hv
    refine jr_iconst (v := 0) C dX11_mayMake_16 (by decide) ?_
    exact jc_zret C K dX11_mayMake_17 rfl (Option.some.inj hv) ⟨Nat.le_refl _, Nat.le_refl _⟩
  · have hv := (if_neg q9).symm.trans hv
    refine jr_iconst (v := 1) C dX11_mayMake_12 (by decide) ?_
    refine jr_goto (tgt := 17) C dX11_mayMake_13 rfl ?_
    exact jc_zret C K dX11_mayMake_17 rfl (Option.some.inj hv) ⟨Nat.le_refl _, Nat.le_refl _⟩
theorem pX11_mayMake (l : Launch) {g : CG} (G : cSep g)   (S : CS) (v1 : Int32) {w : Int32 × CS} (hw : fX11_mayMake S v1 = some w)  : cC l yX11_mayMake cX11_mayMake 2 (some .boolean) 0 0 0 g [.ref (co g), .int v1] S (some (.int w.1)) w.2 := cC_of (lv := [(0, .ref (co g)), (1, .int v1)]) (by decide +kernel) (Nat.le_of_ble_eq_true rfl) rfl (fun C K => tX11_mayMake_0 C K G  S v1 hw)
/-! RobotCell.giveNew(ILRobotCell$Thing;)I -/
def fX11_giveNew_10 (S : CS) (v1 : Int32) (v2 : Option Nat) : Option (Int32 × CS) :=
  Option.bind (fX11_giveThing S v1 v2) (fun c13 => some (c13.1, c13.2))
def fX11_giveNew (S : CS) (v1 : Int32) (v2 : Option Nat) : Option (Int32 × CS) :=
  fX11_giveNew_10 (cpI S 8 ((gI S.1 8) + 1)) v1 v2
theorem oX11_giveNew : ok_c yX11_giveNew cX11_giveNew 3 (some .int) 2 (.instanceMethod yX11_giveNew) := ⟨kw_534, ⟨kw_533, rfl⟩, kw_71, by decide +kernel⟩
set_option maxRecDepth 100000 in
set_option maxHeartbeats 1000000 in
theorem tX11_giveNew_10 {p : Program} {l : Launch} {e : Env} {s : State} {m : MethodId} {args : Array Value} {below : List Frame} {meth : Method} {c : Code} {g : CG} {S0 : CS} (C : CC p s m args meth c yX11_giveNew cX11_giveNew 3 (some .int)) (K : cK g s) (G : cSep g)  (S : CS) (v1 : Int32) (v2 : Option Nat) {w : Int32 × CS} (hv : fX11_giveNew_10 S v1 v2 = some w) : CJ p l e s m args below meth c 3 2 0 0 g S0 (some (.int w.1)) w.2 10 [(0, .ref (co g)), (1, .int v1), (2, va_rf v2)] [] S 0 0 := by
  unfold fX11_giveNew_10 at hv
  refine jr_aload_n C dX11_giveNew_10 rfl 0 rfl ?_
  refine jr_iload_n C dX11_giveNew_11 rfl 1 rfl ?_
  refine jr_naload_n C dX11_giveNew_12 rfl 2 rfl ?_
  obtain ⟨c13, hc13, hv⟩ := Option.bind_eq_some_iff.mp hv
  refine jc_callO (rest := []) C K (pX11_giveThing l G S v1 v2 hc13) oX11_giveThing kw_22 kw_535 rfl ⟨Nat.le_of_ble_eq_true rfl, Nat.le_of_ble_eq_true rfl⟩ rfl (Nat.le_of_ble_eq_true rfl) ⟨Nat.le_refl _, Nat.le_refl _⟩ dX11_giveNew_13 ?_
  exact jc_iret C K dX11_giveNew_16 (Option.some.inj hv) ⟨Nat.le_refl _, Nat.le_refl _⟩
set_option maxRecDepth 100000 in
set_option maxHeartbeats 1000000 in
theorem tX11_giveNew_0 {p : Program} {l : Launch} {e : Env} {s : State} {m : MethodId} {args : Array Value} {below : List Frame} {meth : Method} {c : Code} {g : CG} {S0 : CS} (C : CC p s m args meth c yX11_giveNew cX11_giveNew 3 (some .int)) (K : cK g s) (G : cSep g)  (S : CS) (v1 : Int32) (v2 : Option Nat) {w : Int32 × CS} (hv : fX11_giveNew S v1 v2 = some w) : CJ p l e s m args below meth c 3 2 0 0 g S0 (some (.int w.1)) w.2 0 [(0, .ref (co g)), (1, .int v1), (2, va_rf v2)] [] S 0 0 := by
  unfold fX11_giveNew at hv
  refine jr_aload_n C dX11_giveNew_0 rfl 0 rfl ?_
  refine jr_dup C dX11_giveNew_1 rfl ?_
  refine jc_getI C K 8 (by decide) rfl kw_130 rfl dX11_giveNew_2 ?_
  refine jr_iconst (v := 1) C dX11_giveNew_5 (by decide) ?_
  refine jr_iadd C dX11_giveNew_6 ?_
  refine jc_putI C K G 8 (by decide) rfl kw_130 rfl rfl (by decide +kernel) dX11_giveNew_7 ?_
  exact tX11_giveNew_10 C K G  (cpI S 8 ((gI S.1 8) + 1)) v1 v2 hv
theorem pX11_giveNew (l : Launch) {g : CG} (G : cSep g)   (S : CS) (v1 : Int32) (v2 : Option Nat) {w : Int32 × CS} (hw : fX11_giveNew S v1 v2 = some w)  : cC l yX11_giveNew cX11_giveNew 3 (some .int) 2 0 0 g [.ref (co g), .int v1, va_rf v2] S (some (.int w.1)) w.2 := cC_of (lv := [(0, .ref (co g)), (1, .int v1), (2, va_rf v2)]) (by decide +kernel) (by simp [lg_sl, cat_rf, cat_i, cat_l, cat_r]) (by simp [lv_args, cat_rf, cat_i, cat_l, cat_r]) (fun C K => tX11_giveNew_0 C K G  S v1 v2 hw)
/-! RobotCell.passed(I)I -/
def fX11_passed (S : CS) (v1 : Int32) : Option (Int32 × CS) :=
  if inb v1 (clA 1) = true then (Option.bind (fX7_numberAt S (gA S.1 1 (ix v1))) (fun c10 => if c10.1 = 0 then some (0, c10.2) else (if inb v1 (clA 2) = true then some ((gA c10.2.1 2 (ix v1)) &&& 255, c10.2) else none))) else none
theorem oX11_passed : ok_c yX11_passed cX11_passed 2 (some .int) 1 (.instanceMethod yX11_passed) := ⟨kw_206, ⟨kw_205, rfl⟩, kw_71, by decide +kernel⟩
set_option maxRecDepth 100000 in
set_option maxHeartbeats 1000000 in
theorem tX11_passed_0 {p : Program} {l : Launch} {e : Env} {s : State} {m : MethodId} {args : Array Value} {below : List Frame} {meth : Method} {c : Code} {g : CG} {S0 : CS} (C : CC p s m args meth c yX11_passed cX11_passed 2 (some .int)) (K : cK g s) (G : cSep g)  (S : CS) (v1 : Int32) {w : Int32 × CS} (hv : fX11_passed S v1 = some w) : CJ p l e s m args below meth c 2 1 0 0 g S0 (some (.int w.1)) w.2 0 [(0, .ref (co g)), (1, .int v1)] [] S 0 0 := by
  unfold fX11_passed at hv
  refine jr_aload_n C dX11_passed_0 rfl 0 rfl ?_
  refine jc_getR C K 5 (by decide) (by decide) kw_127 rfl dX11_passed_1 ?_
  refine jr_aload_n C dX11_passed_4 rfl 0 rfl ?_
  refine jc_getR C K 1 (by decide) (by decide) kw_123 rfl dX11_passed_5 ?_
  refine jr_iload_n C dX11_passed_8 rfl 1 rfl ?_
  by_cases z9 : inb v1 (clA 1) = true
  case neg => exact op_none ((if_neg z9).symm.trans hv)
  have hv := (if_pos z9).symm.trans hv
  refine jc_iald C K z9 dX11_passed_9 ?_
  obtain ⟨c10, hc10, hv⟩ := Option.bind_eq_some_iff.mp hv
  refine jc_callR (rest := []) C K (pX7_numberAt l G S (gA S.1 1 (ix v1)) hc10) oX7_numberAt kw_209 kw_207 rfl ⟨Nat.le_of_ble_eq_true rfl, Nat.le_of_ble_eq_true rfl⟩ rfl (Nat.le_of_ble_eq_true rfl) ⟨Nat.le_refl _, Nat.le_refl _⟩ dX11_passed_10 ?_
  refine jr_lconst (v := 0) C dX11_passed_13 (by decide) ?_
  refine jr_lcmp_eq (tgt := 31) C dX11_passed_14 dX11_passed_15 rfl (fun q14 => ?_) (fun q14 => ?_)
  · have hv := (if_pos q14).symm.trans hv
    refine jr_iconst (v := 0) C dX11_passed_31 (by decide) ?_
    exact jc_iret C K dX11_passed_32 (Option.some.inj hv) ⟨Nat.le_refl _, Nat.le_refl _⟩
  · have hv := (if_neg q14).symm.trans hv
    refine jr_aload_n C dX11_passed_18 rfl 0 rfl ?_
    refine jc_getR C K 2 (by decide) (by decide) kw_124 rfl dX11_passed_19 ?_
    refine jr_iload_n C dX11_passed_22 rfl 1 rfl ?_
    by_cases z23 : inb v1 (clA 2) = true
    case neg => exact op_none ((if_neg z23).symm.trans hv)
    have hv := (if_pos z23).symm.trans hv
    refine jc_iald C K z23 dX11_passed_23 ?_
    refine jr_sipush (v := 255) C dX11_passed_24 (by decide) ?_
    refine jr_iand C dX11_passed_27 ?_
    refine jr_goto (tgt := 32) C dX11_passed_28 rfl ?_
    exact jc_iret C K dX11_passed_32 (Option.some.inj hv) ⟨Nat.le_refl _, Nat.le_refl _⟩
theorem pX11_passed (l : Launch) {g : CG} (G : cSep g)   (S : CS) (v1 : Int32) {w : Int32 × CS} (hw : fX11_passed S v1 = some w)  : cC l yX11_passed cX11_passed 2 (some .int) 1 0 0 g [.ref (co g), .int v1] S (some (.int w.1)) w.2 := cC_of (lv := [(0, .ref (co g)), (1, .int v1)]) (by decide +kernel) (Nat.le_of_ble_eq_true rfl) rfl (fun C K => tX11_passed_0 C K G  S v1 hw)
/-! RobotCell.onNumbers(IIII)I -/
def fX11_onNumbers_244 (S : CS) (t1 : Int32) (t2 : Int64) : Option (Int32 × CS) :=
  Option.bind (fX11_giveNumber S t1 t2) (fun c244 => some (c244.1, c244.2))
def fX11_onNumbers_263 (S : CS) (t1 : Int32) (t2 : Int64) : Option (Int32 × CS) :=
  Option.bind (fX11_giveNumber S t1 t2) (fun c263 => some (c263.1, c263.2))
def fX11_onNumbers (S : CS) (v1 : Int32) (v2 : Int32) (v3 : Int32) (v4 : Int32) : Option (Int32 × CS) :=
  Option.bind (fX7_numberAt S v3) (fun c5 => Option.bind (fX7_numberAt c5.2 v4) (fun c16 => if v1 = 1 then (Option.bind (fX11_giveNumber c16.2 v2 (fX11_wide v3 v4)) (fun c92 => some (c92.1, c92.2))) else if v1 = 2 then (Option.bind (fX11_giveNumber c16.2 v2 (c5.1 + c16.1)) (fun c103 => some (c103.1, c103.2))) else if v1 = 3 then (Option.bind (fX11_giveNumber c16.2 v2 (c5.1 - c16.1)) (fun c114 => some (c114.1, c114.2))) else if v1 = 4 then (Option.bind (fX11_giveNumber c16.2 v2 (c5.1 * c16.1)) (fun c125 => some (c125.1, c125.2))) else if v1 = 5 then (if c16.1 = 0 then some (6, c16.2) else (if c16.1 = 0 then none else (Option.bind (fX11_giveNumber c16.2 v2 (c5.1 / c16.1)) (fun c148 => some (c148.1, c148.2))))) else if v1 = 6 then (if c16.1 = 0 then some (6, c16.2) else (if c16.1 = 0 then none else (Option.bind (fX11_giveNumber c16.2 v2 (c5.1 - c5.1 / c16.1 * c16.1)) (fun c171 => some (c171.1, c171.2))))) else if v1 = 7 then (Option.bind (fX11_giveNumber c16.2 v2 (c5.1 &&& c16.1)) (fun c182 => some (c182.1, c182.2))) else if v1 = 8 then (Option.bind (fX11_giveNumber c16.2 v2 (c5.1 ^^^ c16.1)) (fun c193 => some (c193.1, c193.2))) else if v1 = 9 then (Option.bind (fX11_giveNumber c16.2 v2 (c5.1 <<< ((((c16.1 &&& 63).toInt32) : Int32).toInt64 &&& 63))) (fun c209 => some (c209.1, c209.2))) else if v1 = 10 then (Option.bind (fX11_giveNumber c16.2 v2 (c5.1 >>> ((((c16.1 &&& 63).toInt32) : Int32).toInt64 &&& 63))) (fun c225 => some (c225.1, c225.2))) else if v1 = 11 then (if c16.1 ≤ c5.1 then fX11_onNumbers_244 c16.2 v2 0 else fX11_onNumbers_244 c16.2 v2 1) else if v1 = 12 then (if c5.1 = c16.1 then fX11_onNumbers_263 c16.2 v2 1 else fX11_onNumbers_263 c16.2 v2 0) else some (2, c16.2)))
theorem oX11_onNumbers : ok_c yX11_onNumbers cX11_onNumbers 9 (some .int) 4 (.instanceMethod yX11_onNumbers) := ⟨kw_249, ⟨kw_248, rfl⟩, kw_71, by decide +kernel⟩
set_option maxRecDepth 100000 in
set_option maxHeartbeats 1000000 in
theorem tX11_onNumbers_244 {p : Program} {l : Launch} {e : Env} {s : State} {m : MethodId} {args : Array Value} {below : List Frame} {meth : Method} {c : Code} {g : CG} {S0 : CS} (C : CC p s m args meth c yX11_onNumbers cX11_onNumbers 9 (some .int)) (K : cK g s) (G : cSep g)  (S : CS) (t1 : Int32) (t2 : Int64) {w : Int32 × CS} (hv : fX11_onNumbers_244 S t1 t2 = some w) : CJ p l e s m args below meth c 9 2 0 0 g S0 (some (.int w.1)) w.2 244 [] [.long t2, .int t1, .ref (co g)] S 0 0 := by
  unfold fX11_onNumbers_244 at hv
  obtain ⟨c244, hc244, hv⟩ := Option.bind_eq_some_iff.mp hv
  refine jc_callO (rest := []) C K (pX11_giveNumber l G S t1 t2 hc244) oX11_giveNumber kw_8 kw_234 rfl ⟨Nat.le_of_ble_eq_true rfl, Nat.le_of_ble_eq_true rfl⟩ rfl (Nat.le_of_ble_eq_true rfl) ⟨Nat.le_refl _, Nat.le_refl _⟩ dX11_onNumbers_244 ?_
  exact jc_iret C K dX11_onNumbers_247 (Option.some.inj hv) ⟨Nat.le_refl _, Nat.le_refl _⟩
set_option maxRecDepth 100000 in
set_option maxHeartbeats 1000000 in
theorem tX11_onNumbers_263 {p : Program} {l : Launch} {e : Env} {s : State} {m : MethodId} {args : Array Value} {below : List Frame} {meth : Method} {c : Code} {g : CG} {S0 : CS} (C : CC p s m args meth c yX11_onNumbers cX11_onNumbers 9 (some .int)) (K : cK g s) (G : cSep g)  (S : CS) (t1 : Int32) (t2 : Int64) {w : Int32 × CS} (hv : fX11_onNumbers_263 S t1 t2 = some w) : CJ p l e s m args below meth c 9 2 0 0 g S0 (some (.int w.1)) w.2 263 [] [.long t2, .int t1, .ref (co g)] S 0 0 := by
  unfold fX11_onNumbers_263 at hv
  obtain ⟨c263, hc263, hv⟩ := Option.bind_eq_some_iff.mp hv
  refine jc_callO (rest := []) C K (pX11_giveNumber l G S t1 t2 hc263) oX11_giveNumber kw_8 kw_234 rfl ⟨Nat.le_of_ble_eq_true rfl, Nat.le_of_ble_eq_true rfl⟩ rfl (Nat.le_of_ble_eq_true rfl) ⟨Nat.le_refl _, Nat.le_refl _⟩ dX11_onNumbers_263 ?_
  exact jc_iret C K dX11_onNumbers_266 (Option.some.inj hv) ⟨Nat.le_refl _, Nat.le_refl _⟩
set_option maxRecDepth 100000 in
set_option maxHeartbeats 1000000 in
theorem tX11_onNumbers_0 {p : Program} {l : Launch} {e : Env} {s : State} {m : MethodId} {args : Array Value} {below : List Frame} {meth : Method} {c : Code} {g : CG} {S0 : CS} (C : CC p s m args meth c yX11_onNumbers cX11_onNumbers 9 (some .int)) (K : cK g s) (G : cSep g)  (S : CS) (v1 : Int32) (v2 : Int32) (v3 : Int32) (v4 : Int32) {w : Int32 × CS} (hv : fX11_onNumbers S v1 v2 v3 v4 = some w) : CJ p l e s m args below meth c 9 2 0 0 g S0 (some (.int w.1)) w.2 0 [(0, .ref (co g)), (1, .int v1), (2, .int v2), (3, .int v3), (4, .int v4)] [] S 0 0 := by
  unfold fX11_onNumbers at hv
  refine jr_aload_n C dX11_onNumbers_0 rfl 0 rfl ?_
  refine jc_getR C K 5 (by decide) (by decide) kw_127 rfl dX11_onNumbers_1 ?_
  refine jr_iload_n C dX11_onNumbers_4 rfl 3 rfl ?_
  obtain ⟨c5, hc5, hv⟩ := Option.bind_eq_some_iff.mp hv
  refine jc_callR (rest := []) C K (pX7_numberAt l G S v3 hc5) oX7_numberAt kw_209 kw_207 rfl ⟨Nat.le_of_ble_eq_true rfl, Nat.le_of_ble_eq_true rfl⟩ rfl (Nat.le_of_ble_eq_true rfl) ⟨Nat.le_refl _, Nat.le_refl _⟩ dX11_onNumbers_5 ?_
  refine jr_lstore (lv' := [(5, .long c5.1), (0, .ref (co g)), (1, .int v1), (2, .int v2), (3, .int v3), (4, .int v4)]) C dX11_onNumbers_8 (by decide) rfl ?_
  refine jr_aload_n C dX11_onNumbers_10 rfl 1 rfl ?_
  refine jc_getR C K 5 (by decide) (by decide) kw_127 rfl dX11_onNumbers_11 ?_
  refine jr_iload C dX11_onNumbers_14 5 rfl ?_
  obtain ⟨c16, hc16, hv⟩ := Option.bind_eq_some_iff.mp hv
  refine jc_callR (rest := []) C K (pX7_numberAt l G c5.2 v4 hc16) oX7_numberAt kw_209 kw_207 rfl ⟨Nat.le_of_ble_eq_true rfl, Nat.le_of_ble_eq_true rfl⟩ rfl (Nat.le_of_ble_eq_true rfl) ⟨Nat.le_refl _, Nat.le_refl _⟩ dX11_onNumbers_16 ?_
  refine jr_lstore (lv' := [(7, .long c16.1), (5, .long c5.1), (0, .ref (co g)), (1, .int v1), (2, .int v2), (3, .int v3), (4, .int v4)]) C dX11_onNumbers_19 (by decide) rfl ?_
  refine jr_iload_n C dX11_onNumbers_21 rfl 3 rfl ?_
  by_cases q22_0 : v1 = 1
  · have hv := (if_pos q22_0).symm.trans hv
    refine jr_tableIn (off := 62) (tgt := 84) C dX11_onNumbers_22 (by rw [q22_0]; decide) (by rw [q22_0]; decide) (by rw [q22_0]; rfl) rfl ?_
    refine jr_aload_n C dX11_onNumbers_84 rfl 2 rfl ?_
    refine jr_iload_n C dX11_onNumbers_85 rfl 4 rfl ?_
    refine jr_iload_n C dX11_onNumbers_86 rfl 5 rfl ?_
    refine jr_iload C dX11_onNumbers_87 6 rfl ?_
    refine jr_pcall (rest := [.int v2, .ref (co g)]) C (pX11_wide l v3 v4) oX11_wide kw_183 rfl ⟨Nat.le_of_ble_eq_true rfl, Nat.le_of_ble_eq_true rfl⟩ rfl (Nat.le_of_ble_eq_true rfl) ⟨Nat.zero_le _, Nat.zero_le _⟩ dX11_onNumbers_89 ?_
    obtain ⟨c92, hc92, hv⟩ := Option.bind_eq_some_iff.mp hv
    refine jc_callO (rest := []) C K (pX11_giveNumber l G c16.2 v2 (fX11_wide v3 v4) hc92) oX11_giveNumber kw_8 kw_234 rfl ⟨Nat.le_of_ble_eq_true rfl, Nat.le_of_ble_eq_true rfl⟩ rfl (Nat.le_of_ble_eq_true rfl) ⟨Nat.le_refl _, Nat.le_refl _⟩ dX11_onNumbers_92 ?_
    exact jc_iret C K dX11_onNumbers_95 (Option.some.inj hv) ⟨Nat.le_refl _, Nat.le_refl _⟩
  have hv := (if_neg q22_0).symm.trans hv
  by_cases q22_1 : v1 = 2
  · have hv := (if_pos q22_1).symm.trans hv
    refine jr_tableIn (off := 74) (tgt := 96) C dX11_onNumbers_22 (by rw [q22_1]; decide) (by rw [q22_1]; decide) (by rw [q22_1]; rfl) rfl ?_
    refine jr_aload_n C dX11_onNumbers_96 rfl 2 rfl ?_
    refine jr_iload_n C dX11_onNumbers_97 rfl 4 rfl ?_
    refine jr_lload C dX11_onNumbers_98 1 rfl ?_
    refine jr_lload C dX11_onNumbers_100 0 rfl ?_
    refine jr_ladd C dX11_onNumbers_102 ?_
    obtain ⟨c103, hc103, hv⟩ := Option.bind_eq_some_iff.mp hv
    refine jc_callO (rest := []) C K (pX11_giveNumber l G c16.2 v2 (c5.1 + c16.1) hc103) oX11_giveNumber kw_8 kw_234 rfl ⟨Nat.le_of_ble_eq_true rfl, Nat.le_of_ble_eq_true rfl⟩ rfl (Nat.le_of_ble_eq_true rfl) ⟨Nat.le_refl _, Nat.le_refl _⟩ dX11_onNumbers_103 ?_
    exact jc_iret C K dX11_onNumbers_106 (Option.some.inj hv) ⟨Nat.le_refl _, Nat.le_refl _⟩
  have hv := (if_neg q22_1).symm.trans hv
  by_cases q22_2 : v1 = 3
  · have hv := (if_pos q22_2).symm.trans hv
    refine jr_tableIn (off := 85) (tgt := 107) C dX11_onNumbers_22 (by rw [q22_2]; decide) (by rw [q22_2]; decide) (by rw [q22_2]; rfl) rfl ?_
    refine jr_aload_n C dX11_onNumbers_107 rfl 2 rfl ?_
    refine jr_iload_n C dX11_onNumbers_108 rfl 4 rfl ?_
    refine jr_lload C dX11_onNumbers_109 1 rfl ?_
    refine jr_lload C dX11_onNumbers_111 0 rfl ?_
    refine jr_lsub C dX11_onNumbers_113 ?_
    obtain ⟨c114, hc114, hv⟩ := Option.bind_eq_some_iff.mp hv
    refine jc_callO (rest := []) C K (pX11_giveNumber l G c16.2 v2 (c5.1 - c16.1) hc114) oX11_giveNumber kw_8 kw_234 rfl ⟨Nat.le_of_ble_eq_true rfl, Nat.le_of_ble_eq_true rfl⟩ rfl (Nat.le_of_ble_eq_true rfl) ⟨Nat.le_refl _, Nat.le_refl _⟩ dX11_onNumbers_114 ?_
    exact jc_iret C K dX11_onNumbers_117 (Option.some.inj hv) ⟨Nat.le_refl _, Nat.le_refl _⟩
  have hv := (if_neg q22_2).symm.trans hv
  by_cases q22_3 : v1 = 4
  · have hv := (if_pos q22_3).symm.trans hv
    refine jr_tableIn (off := 96) (tgt := 118) C dX11_onNumbers_22 (by rw [q22_3]; decide) (by rw [q22_3]; decide) (by rw [q22_3]; rfl) rfl ?_
    refine jr_aload_n C dX11_onNumbers_118 rfl 2 rfl ?_
    refine jr_iload_n C dX11_onNumbers_119 rfl 4 rfl ?_
    refine jr_lload C dX11_onNumbers_120 1 rfl ?_
    refine jr_lload C dX11_onNumbers_122 0 rfl ?_
    refine jr_lmul C dX11_onNumbers_124 ?_
    obtain ⟨c125, hc125, hv⟩ := Option.bind_eq_some_iff.mp hv
    refine jc_callO (rest := []) C K (pX11_giveNumber l G c16.2 v2 (c5.1 * c16.1) hc125) oX11_giveNumber kw_8 kw_234 rfl ⟨Nat.le_of_ble_eq_true rfl, Nat.le_of_ble_eq_true rfl⟩ rfl (Nat.le_of_ble_eq_true rfl) ⟨Nat.le_refl _, Nat.le_refl _⟩ dX11_onNumbers_125 ?_
    exact jc_iret C K dX11_onNumbers_128 (Option.some.inj hv) ⟨Nat.le_refl _, Nat.le_refl _⟩
  have hv := (if_neg q22_3).symm.trans hv
  by_cases q22_4 : v1 = 5
  · have hv := (if_pos q22_4).symm.trans hv
    refine jr_tableIn (off := 107) (tgt := 129) C dX11_onNumbers_22 (by rw [q22_4]; decide) (by rw [q22_4]; decide) (by rw [q22_4]; rfl) rfl ?_
    refine jr_lload C dX11_onNumbers_129 0 rfl ?_
    refine jr_lconst (v := 0) C dX11_onNumbers_131 (by decide) ?_
    refine jr_lcmp_ne (tgt := 141) C dX11_onNumbers_132 dX11_onNumbers_133 rfl (fun q132 => ?_) (fun q132 => ?_)
    · have hv := (if_neg q132).symm.trans hv
      refine jr_aload_n C dX11_onNumbers_141 rfl 2 rfl ?_
      refine jr_iload_n C dX11_onNumbers_142 rfl 4 rfl ?_
      refine jr_lload C dX11_onNumbers_143 1 rfl ?_
      refine jr_lload C dX11_onNumbers_145 0 rfl ?_
      by_cases z147 : c16.1 = 0
      case pos => exact op_none ((if_pos z147).symm.trans hv)
      have hv := (if_neg z147).symm.trans hv
      refine jr_ldiv C dX11_onNumbers_147 z147 ?_
      obtain ⟨c148, hc148, hv⟩ := Option.bind_eq_some_iff.mp hv
      refine jc_callO (rest := []) C K (pX11_giveNumber l G c16.2 v2 (c5.1 / c16.1) hc148) oX11_giveNumber kw_8 kw_234 rfl ⟨Nat.le_of_ble_eq_true rfl, Nat.le_of_ble_eq_true rfl⟩ rfl (Nat.le_of_ble_eq_true rfl) ⟨Nat.le_refl _, Nat.le_refl _⟩ dX11_onNumbers_148 ?_
      exact jc_iret C K dX11_onNumbers_151 (Option.some.inj hv) ⟨Nat.le_refl _, Nat.le_refl _⟩
    · have hv := (if_pos q132).symm.trans hv
      refine jr_bipush (v := 6) C dX11_onNumbers_136 (by decide) ?_
      refine jr_goto (tgt := 151) C dX11_onNumbers_138 rfl ?_
      exact jc_iret C K dX11_onNumbers_151 (Option.some.inj hv) ⟨Nat.le_refl _, Nat.le_refl _⟩
  have hv := (if_neg q22_4).symm.trans hv
  by_cases q22_5 : v1 = 6
  · have hv := (if_pos q22_5).symm.trans hv
    refine jr_tableIn (off := 130) (tgt := 152) C dX11_onNumbers_22 (by rw [q22_5]; decide) (by rw [q22_5]; decide) (by rw [q22_5]; rfl) rfl ?_
    refine jr_lload C dX11_onNumbers_152 0 rfl ?_
    refine jr_lconst (v := 0) C dX11_onNumbers_154 (by decide) ?_
    refine jr_lcmp_ne (tgt := 164) C dX11_onNumbers_155 dX11_onNumbers_156 rfl (fun q155 => ?_) (fun q155 => ?_)
    · have hv := (if_neg q155).symm.trans hv
      refine jr_aload_n C dX11_onNumbers_164 rfl 2 rfl ?_
      refine jr_iload_n C dX11_onNumbers_165 rfl 4 rfl ?_
      refine jr_lload C dX11_onNumbers_166 1 rfl ?_
      refine jr_lload C dX11_onNumbers_168 0 rfl ?_
      by_cases z170 : c16.1 = 0
      case pos => exact op_none ((if_pos z170).symm.trans hv)
      have hv := (if_neg z170).symm.trans hv
      refine jr_lrem C dX11_onNumbers_170 z170 ?_
      obtain ⟨c171, hc171, hv⟩ := Option.bind_eq_some_iff.mp hv
      refine jc_callO (rest := []) C K (pX11_giveNumber l G c16.2 v2 (c5.1 - c5.1 / c16.1 * c16.1) hc171) oX11_giveNumber kw_8 kw_234 rfl ⟨Nat.le_of_ble_eq_true rfl, Nat.le_of_ble_eq_true rfl⟩ rfl (Nat.le_of_ble_eq_true rfl) ⟨Nat.le_refl _, Nat.le_refl _⟩ dX11_onNumbers_171 ?_
      exact jc_iret C K dX11_onNumbers_174 (Option.some.inj hv) ⟨Nat.le_refl _, Nat.le_refl _⟩
    · have hv := (if_pos q155).symm.trans hv
      refine jr_bipush (v := 6) C dX11_onNumbers_159 (by decide) ?_
      refine jr_goto (tgt := 174) C dX11_onNumbers_161 rfl ?_
      exact jc_iret C K dX11_onNumbers_174 (Option.some.inj hv) ⟨Nat.le_refl _, Nat.le_refl _⟩
  have hv := (if_neg q22_5).symm.trans hv
  by_cases q22_6 : v1 = 7
  · have hv := (if_pos q22_6).symm.trans hv
    refine jr_tableIn (off := 153) (tgt := 175) C dX11_onNumbers_22 (by rw [q22_6]; decide) (by rw [q22_6]; decide) (by rw [q22_6]; rfl) rfl ?_
    refine jr_aload_n C dX11_onNumbers_175 rfl 2 rfl ?_
    refine jr_iload_n C dX11_onNumbers_176 rfl 4 rfl ?_
    refine jr_lload C dX11_onNumbers_177 1 rfl ?_
    refine jr_lload C dX11_onNumbers_179 0 rfl ?_
    refine jr_land C dX11_onNumbers_181 ?_
    obtain ⟨c182, hc182, hv⟩ := Option.bind_eq_some_iff.mp hv
    refine jc_callO (rest := []) C K (pX11_giveNumber l G c16.2 v2 (c5.1 &&& c16.1) hc182) oX11_giveNumber kw_8 kw_234 rfl ⟨Nat.le_of_ble_eq_true rfl, Nat.le_of_ble_eq_true rfl⟩ rfl (Nat.le_of_ble_eq_true rfl) ⟨Nat.le_refl _, Nat.le_refl _⟩ dX11_onNumbers_182 ?_
    exact jc_iret C K dX11_onNumbers_185 (Option.some.inj hv) ⟨Nat.le_refl _, Nat.le_refl _⟩
  have hv := (if_neg q22_6).symm.trans hv
  by_cases q22_7 : v1 = 8
  · have hv := (if_pos q22_7).symm.trans hv
    refine jr_tableIn (off := 164) (tgt := 186) C dX11_onNumbers_22 (by rw [q22_7]; decide) (by rw [q22_7]; decide) (by rw [q22_7]; rfl) rfl ?_
    refine jr_aload_n C dX11_onNumbers_186 rfl 2 rfl ?_
    refine jr_iload_n C dX11_onNumbers_187 rfl 4 rfl ?_
    refine jr_lload C dX11_onNumbers_188 1 rfl ?_
    refine jr_lload C dX11_onNumbers_190 0 rfl ?_
    refine jr_lxor C dX11_onNumbers_192 ?_
    obtain ⟨c193, hc193, hv⟩ := Option.bind_eq_some_iff.mp hv
    refine jc_callO (rest := []) C K (pX11_giveNumber l G c16.2 v2 (c5.1 ^^^ c16.1) hc193) oX11_giveNumber kw_8 kw_234 rfl ⟨Nat.le_of_ble_eq_true rfl, Nat.le_of_ble_eq_true rfl⟩ rfl (Nat.le_of_ble_eq_true rfl) ⟨Nat.le_refl _, Nat.le_refl _⟩ dX11_onNumbers_193 ?_
    exact jc_iret C K dX11_onNumbers_196 (Option.some.inj hv) ⟨Nat.le_refl _, Nat.le_refl _⟩
  have hv := (if_neg q22_7).symm.trans hv
  by_cases q22_8 : v1 = 9
  · have hv := (if_pos q22_8).symm.trans hv
    refine jr_tableIn (off := 175) (tgt := 197) C dX11_onNumbers_22 (by rw [q22_8]; decide) (by rw [q22_8]; decide) (by rw [q22_8]; rfl) rfl ?_
    refine jr_aload_n C dX11_onNumbers_197 rfl 2 rfl ?_
    refine jr_iload_n C dX11_onNumbers_198 rfl 4 rfl ?_
    refine jr_lload C dX11_onNumbers_199 1 rfl ?_
    refine jr_lload C dX11_onNumbers_201 0 rfl ?_
    refine jr_ldc2 C kw_250 dX11_onNumbers_203 ?_
    refine jr_land C dX11_onNumbers_206 ?_
    refine jr_l2i C dX11_onNumbers_207 ?_
    refine jr_lshl C dX11_onNumbers_208 ?_
    obtain ⟨c209, hc209, hv⟩ := Option.bind_eq_some_iff.mp hv
    refine jc_callO (rest := []) C K (pX11_giveNumber l G c16.2 v2 (c5.1 <<< ((((c16.1 &&& 63).toInt32) : Int32).toInt64 &&& 63)) hc209) oX11_giveNumber kw_8 kw_234 rfl ⟨Nat.le_of_ble_eq_true rfl, Nat.le_of_ble_eq_true rfl⟩ rfl (Nat.le_of_ble_eq_true rfl) ⟨Nat.le_refl _, Nat.le_refl _⟩ dX11_onNumbers_209 ?_
    exact jc_iret C K dX11_onNumbers_212 (Option.some.inj hv) ⟨Nat.le_refl _, Nat.le_refl _⟩
  have hv := (if_neg q22_8).symm.trans hv
  by_cases q22_9 : v1 = 10
  · have hv := (if_pos q22_9).symm.trans hv
    refine jr_tableIn (off := 191) (tgt := 213) C dX11_onNumbers_22 (by rw [q22_9]; decide) (by rw [q22_9]; decide) (by rw [q22_9]; rfl) rfl ?_
    refine jr_aload_n C dX11_onNumbers_213 rfl 2 rfl ?_
    refine jr_iload_n C dX11_onNumbers_214 rfl 4 rfl ?_
    refine jr_lload C dX11_onNumbers_215 1 rfl ?_
    refine jr_lload C dX11_onNumbers_217 0 rfl ?_
    refine jr_ldc2 C kw_250 dX11_onNumbers_219 ?_
    refine jr_land C dX11_onNumbers_222 ?_
    refine jr_l2i C dX11_onNumbers_223 ?_
    refine jr_lshr C dX11_onNumbers_224 ?_
    obtain ⟨c225, hc225, hv⟩ := Option.bind_eq_some_iff.mp hv
    refine jc_callO (rest := []) C K (pX11_giveNumber l G c16.2 v2 (c5.1 >>> ((((c16.1 &&& 63).toInt32) : Int32).toInt64 &&& 63)) hc225) oX11_giveNumber kw_8 kw_234 rfl ⟨Nat.le_of_ble_eq_true rfl, Nat.le_of_ble_eq_true rfl⟩ rfl (Nat.le_of_ble_eq_true rfl) ⟨Nat.le_refl _, Nat.le_refl _⟩ dX11_onNumbers_225 ?_
    exact jc_iret C K dX11_onNumbers_228 (Option.some.inj hv) ⟨Nat.le_refl _, Nat.le_refl _⟩
  have hv := (if_neg q22_9).symm.trans hv
  by_cases q22_10 : v1 = 11
  · have hv := (if_pos q22_10).symm.trans hv
    refine jr_tableIn (off := 207) (tgt := 229) C dX11_onNumbers_22 (by rw [q22_10]; decide) (by rw [q22_10]; decide) (by rw [q22_10]; rfl) rfl ?_
    refine jr_aload_n C dX11_onNumbers_229 rfl 2 rfl ?_
    refine jr_iload_n C dX11_onNumbers_230 rfl 4 rfl ?_
    refine jr_lload C dX11_onNumbers_231 1 rfl ?_
    refine jr_lload C dX11_onNumbers_233 0 rfl ?_
    refine jr_lcmp_ge (tgt := 243) C dX11_onNumbers_235 dX11_onNumbers_236 rfl (fun q235 => ?_) (fun q235 => ?_)
    · have hv := (if_pos q235).symm.trans hv
      refine jr_lconst (v := 0) C dX11_onNumbers_243 (by decide) ?_
      exact jr_sub [] rfl (tX11_onNumbers_244 C K G  c16.2 v2 0 hv)
    · have hv := (if_neg q235).symm.trans hv
      refine jr_lconst (v := 1) C dX11_onNumbers_239 (by decide) ?_
      refine jr_goto (tgt := 244) C dX11_onNumbers_240 rfl ?_
      exact jr_sub [] rfl (tX11_onNumbers_244 C K G  c16.2 v2 1 hv)
  have hv := (if_neg q22_10).symm.trans hv
  by_cases q22_11 : v1 = 12
  · have hv := (if_pos q22_11).symm.trans hv
    refine jr_tableIn (off := 226) (tgt := 248) C dX11_onNumbers_22 (by rw [q22_11]; decide) (by rw [q22_11]; decide) (by rw [q22_11]; rfl) rfl ?_
    refine jr_aload_n C dX11_onNumbers_248 rfl 2 rfl ?_
    refine jr_iload_n C dX11_onNumbers_249 rfl 4 rfl ?_
    refine jr_lload C dX11_onNumbers_250 1 rfl ?_
    refine jr_lload C dX11_onNumbers_252 0 rfl ?_
    refine jr_lcmp_ne (tgt := 262) C dX11_onNumbers_254 dX11_onNumbers_255 rfl (fun q254 => ?_) (fun q254 => ?_)
    · have hv := (if_neg q254).symm.trans hv
      refine jr_lconst (v := 0) C dX11_onNumbers_262 (by decide) ?_
      exact jr_sub [] rfl (tX11_onNumbers_263 C K G  c16.2 v2 0 hv)
    · have hv := (if_pos q254).symm.trans hv
      refine jr_lconst (v := 1) C dX11_onNumbers_258 (by decide) ?_
      refine jr_goto (tgt := 263) C dX11_onNumbers_259 rfl ?_
      exact jr_sub [] rfl (tX11_onNumbers_263 C K G  c16.2 v2 1 hv)
  have hv := (if_neg q22_11).symm.trans hv
  refine jr_tableOut (tgt := 267) C dX11_onNumbers_22 (by have := sw_ne (a := 1) q22_0 (by decide); have := sw_ne (a := 2) q22_1 (by decide); have := sw_ne (a := 3) q22_2 (by decide); have := sw_ne (a := 4) q22_3 (by decide); have := sw_ne (a := 5) q22_4 (by decide); have := sw_ne (a := 6) q22_5 (by decide); have := sw_ne (a := 7) q22_6 (by decide); have := sw_ne (a := 8) q22_7 (by decide); have := sw_ne (a := 9) q22_8 (by decide); have := sw_ne (a := 10) q22_9 (by decide); have := sw_ne (a := 11) q22_10 (by decide); have := sw_ne (a := 12) q22_11 (by decide); omega) rfl ?_
  refine jr_iconst (v := 2) C dX11_onNumbers_267 (by decide) ?_
  exact jc_iret C K dX11_onNumbers_268 (Option.some.inj hv) ⟨Nat.le_refl _, Nat.le_refl _⟩
theorem pX11_onNumbers (l : Launch) {g : CG} (G : cSep g)   (S : CS) (v1 : Int32) (v2 : Int32) (v3 : Int32) (v4 : Int32) {w : Int32 × CS} (hw : fX11_onNumbers S v1 v2 v3 v4 = some w)  : cC l yX11_onNumbers cX11_onNumbers 9 (some .int) 2 0 0 g [.ref (co g), .int v1, .int v2, .int v3, .int v4] S (some (.int w.1)) w.2 := cC_of (lv := [(0, .ref (co g)), (1, .int v1), (2, .int v2), (3, .int v3), (4, .int v4)]) (by decide +kernel) (Nat.le_of_ble_eq_true rfl) rfl (fun C K => tX11_onNumbers_0 C K G  S v1 v2 v3 v4 hw)
/-! RobotCell.raiseOrLog(II)I -/
def fX11_raiseOrLog_60 (S : CS) : Option (Int32 × CS) :=
  some (2, S)
def fX11_raiseOrLog_88 (S : CS) : Option (Int32 × CS) :=
  some (2, S)
def fX11_raiseOrLog (S : CS) (v1 : Int32) (v2 : Int32) : Option (Int32 × CS) :=
  if v1 = 18 then (Option.bind (fX7_numberAt S v2) (fun c37 => if c37.1 < 1 then fX11_raiseOrLog_60 c37.2 else (if 9 < c37.1 then fX11_raiseOrLog_60 c37.2 else some (c37.1.toInt32, c37.2)))) else if v1 = 19 then fX11_raiseOrLog_88 S else if v1 = 20 then (Option.bind (fX7_numberAt S v2) (fun c68 => Option.bind (fX11_keepLog c68.2 c68.1) (fun c71 => some (c71.1, c71.2)))) else if v1 = 21 then (Option.bind (fX7_measureAt S v2) (fun c81 => Option.bind (fX11_keepLog c81.2 c81.1) (fun c84 => some (c84.1, c84.2)))) else fX11_raiseOrLog_88 S
theorem oX11_raiseOrLog : ok_c yX11_raiseOrLog cX11_raiseOrLog 5 (some .int) 2 (.instanceMethod yX11_raiseOrLog) := ⟨kw_254, ⟨kw_253, rfl⟩, kw_71, by decide +kernel⟩
set_option maxRecDepth 100000 in
set_option maxHeartbeats 1000000 in
theorem tX11_raiseOrLog_60 {p : Program} {l : Launch} {e : Env} {s : State} {m : MethodId} {args : Array Value} {below : List Frame} {meth : Method} {c : Code} {g : CG} {S0 : CS} (C : CC p s m args meth c yX11_raiseOrLog cX11_raiseOrLog 5 (some .int)) (K : cK g s) (G : cSep g)  (S : CS) {w : Int32 × CS} (hv : fX11_raiseOrLog_60 S = some w) : CJ p l e s m args below meth c 5 1 0 0 g S0 (some (.int w.1)) w.2 60 [] [] S 0 0 := by
  unfold fX11_raiseOrLog_60 at hv
  refine jr_iconst (v := 2) C dX11_raiseOrLog_60 (by decide) ?_
  exact jc_iret C K dX11_raiseOrLog_61 (Option.some.inj hv) ⟨Nat.le_refl _, Nat.le_refl _⟩
set_option maxRecDepth 100000 in
set_option maxHeartbeats 1000000 in
theorem tX11_raiseOrLog_88 {p : Program} {l : Launch} {e : Env} {s : State} {m : MethodId} {args : Array Value} {below : List Frame} {meth : Method} {c : Code} {g : CG} {S0 : CS} (C : CC p s m args meth c yX11_raiseOrLog cX11_raiseOrLog 5 (some .int)) (K : cK g s) (G : cSep g)  (S : CS) {w : Int32 × CS} (hv : fX11_raiseOrLog_88 S = some w) : CJ p l e s m args below meth c 5 1 0 0 g S0 (some (.int w.1)) w.2 88 [] [] S 0 0 := by
  unfold fX11_raiseOrLog_88 at hv
  refine jr_iconst (v := 2) C dX11_raiseOrLog_88 (by decide) ?_
  exact jc_iret C K dX11_raiseOrLog_89 (Option.some.inj hv) ⟨Nat.le_refl _, Nat.le_refl _⟩
set_option maxRecDepth 100000 in
set_option maxHeartbeats 1000000 in
theorem tX11_raiseOrLog_0 {p : Program} {l : Launch} {e : Env} {s : State} {m : MethodId} {args : Array Value} {below : List Frame} {meth : Method} {c : Code} {g : CG} {S0 : CS} (C : CC p s m args meth c yX11_raiseOrLog cX11_raiseOrLog 5 (some .int)) (K : cK g s) (G : cSep g)  (S : CS) (v1 : Int32) (v2 : Int32) {w : Int32 × CS} (hv : fX11_raiseOrLog S v1 v2 = some w) : CJ p l e s m args below meth c 5 1 0 0 g S0 (some (.int w.1)) w.2 0 [(0, .ref (co g)), (1, .int v1), (2, .int v2)] [] S 0 0 := by
  unfold fX11_raiseOrLog at hv
  refine jr_iload_n C dX11_raiseOrLog_0 rfl 1 rfl ?_
  by_cases q1_0 : v1 = 18
  · have hv := (if_pos q1_0).symm.trans hv
    refine jr_tableIn (off := 31) (tgt := 32) C dX11_raiseOrLog_1 (by rw [q1_0]; decide) (by rw [q1_0]; decide) (by rw [q1_0]; rfl) rfl ?_
    refine jr_aload_n C dX11_raiseOrLog_32 rfl 0 rfl ?_
    refine jc_getR C K 5 (by decide) (by decide) kw_127 rfl dX11_raiseOrLog_33 ?_
    refine jr_iload_n C dX11_raiseOrLog_36 rfl 2 rfl ?_
    obtain ⟨c37, hc37, hv⟩ := Option.bind_eq_some_iff.mp hv
    refine jc_callR (rest := []) C K (pX7_numberAt l G S v2 hc37) oX7_numberAt kw_209 kw_207 rfl ⟨Nat.le_of_ble_eq_true rfl, Nat.le_of_ble_eq_true rfl⟩ rfl (Nat.le_of_ble_eq_true rfl) ⟨Nat.le_refl _, Nat.le_refl _⟩ dX11_raiseOrLog_37 ?_
    refine jr_lstore_n (lv' := [(3, .long c37.1), (0, .ref (co g)), (1, .int v1), (2, .int v2)]) C dX11_raiseOrLog_40 rfl (by decide) rfl ?_
    refine jr_lload_n C dX11_raiseOrLog_41 rfl 0 rfl ?_
    refine jr_lconst (v := 1) C dX11_raiseOrLog_42 (by decide) ?_
    refine jr_lcmp_lt (tgt := 60) C dX11_raiseOrLog_43 dX11_raiseOrLog_44 rfl (fun q43 => ?_) (fun q43 => ?_)
    · have hv := (if_pos q43).symm.trans hv
      exact jr_sub [] rfl (tX11_raiseOrLog_60 C K G  c37.2 hv)
    · have hv := (if_neg q43).symm.trans hv
      refine jr_lload_n C dX11_raiseOrLog_47 rfl 0 rfl ?_
      refine jr_ldc2 C kw_255 dX11_raiseOrLog_48 ?_
      refine jr_lcmp_gt (tgt := 60) C dX11_raiseOrLog_51 dX11_raiseOrLog_52 rfl (fun q51 => ?_) (fun q51 => ?_)
      · have hv := (if_pos q51).symm.trans hv
        exact jr_sub [] rfl (tX11_raiseOrLog_60 C K G  c37.2 hv)
      · have hv := (if_neg q51).symm.trans hv
        refine jr_lload_n C dX11_raiseOrLog_55 rfl 0 rfl ?_
        refine jr_l2i C dX11_raiseOrLog_56 ?_
        refine jr_goto (tgt := 61) C dX11_raiseOrLog_57 rfl ?_
        exact jc_iret C K dX11_raiseOrLog_61 (Option.some.inj hv) ⟨Nat.le_refl _, Nat.le_refl _⟩
  have hv := (if_neg q1_0).symm.trans hv
  by_cases q1_1 : v1 = 19
  · have hv := (if_pos q1_1).symm.trans hv
    refine jr_tableIn (off := 87) (tgt := 88) C dX11_raiseOrLog_1 (by rw [q1_1]; decide) (by rw [q1_1]; decide) (by rw [q1_1]; rfl) rfl ?_
    exact jr_sub [] rfl (tX11_raiseOrLog_88 C K G  S hv)
  have hv := (if_neg q1_1).symm.trans hv
  by_cases q1_2 : v1 = 20
  · have hv := (if_pos q1_2).symm.trans hv
    refine jr_tableIn (off := 61) (tgt := 62) C dX11_raiseOrLog_1 (by rw [q1_2]; decide) (by rw [q1_2]; decide) (by rw [q1_2]; rfl) rfl ?_
    refine jr_aload_n C dX11_raiseOrLog_62 rfl 0 rfl ?_
    refine jr_aload_n C dX11_raiseOrLog_63 rfl 0 rfl ?_
    refine jc_getR C K 5 (by decide) (by decide) kw_127 rfl dX11_raiseOrLog_64 ?_
    refine jr_iload_n C dX11_raiseOrLog_67 rfl 2 rfl ?_
    obtain ⟨c68, hc68, hv⟩ := Option.bind_eq_some_iff.mp hv
    refine jc_callR (rest := [.ref (co g)]) C K (pX7_numberAt l G S v2 hc68) oX7_numberAt kw_209 kw_207 rfl ⟨Nat.le_of_ble_eq_true rfl, Nat.le_of_ble_eq_true rfl⟩ rfl (Nat.le_of_ble_eq_true rfl) ⟨Nat.le_refl _, Nat.le_refl _⟩ dX11_raiseOrLog_68 ?_
    obtain ⟨c71, hc71, hv⟩ := Option.bind_eq_some_iff.mp hv
    refine jc_callO (rest := []) C K (pX11_keepLog l G c68.2 c68.1 hc71) oX11_keepLog kw_13 kw_256 rfl ⟨Nat.le_of_ble_eq_true rfl, Nat.le_of_ble_eq_true rfl⟩ rfl (Nat.le_of_ble_eq_true rfl) ⟨Nat.le_refl _, Nat.le_refl _⟩ dX11_raiseOrLog_71 ?_
    exact jc_iret C K dX11_raiseOrLog_74 (Option.some.inj hv) ⟨Nat.le_refl _, Nat.le_refl _⟩
  have hv := (if_neg q1_2).symm.trans hv
  by_cases q1_3 : v1 = 21
  · have hv := (if_pos q1_3).symm.trans hv
    refine jr_tableIn (off := 74) (tgt := 75) C dX11_raiseOrLog_1 (by rw [q1_3]; decide) (by rw [q1_3]; decide) (by rw [q1_3]; rfl) rfl ?_
    refine jr_aload_n C dX11_raiseOrLog_75 rfl 0 rfl ?_
    refine jr_aload_n C dX11_raiseOrLog_76 rfl 0 rfl ?_
    refine jc_getR C K 5 (by decide) (by decide) kw_127 rfl dX11_raiseOrLog_77 ?_
    refine jr_iload_n C dX11_raiseOrLog_80 rfl 2 rfl ?_
    obtain ⟨c81, hc81, hv⟩ := Option.bind_eq_some_iff.mp hv
    refine jc_callR (rest := [.ref (co g)]) C K (pX7_measureAt l G S v2 hc81) oX7_measureAt kw_262 kw_260 rfl ⟨Nat.le_of_ble_eq_true rfl, Nat.le_of_ble_eq_true rfl⟩ rfl (Nat.le_of_ble_eq_true rfl) ⟨Nat.le_refl _, Nat.le_refl _⟩ dX11_raiseOrLog_81 ?_
    obtain ⟨c84, hc84, hv⟩ := Option.bind_eq_some_iff.mp hv
    refine jc_callO (rest := []) C K (pX11_keepLog l G c81.2 c81.1 hc84) oX11_keepLog kw_13 kw_256 rfl ⟨Nat.le_of_ble_eq_true rfl, Nat.le_of_ble_eq_true rfl⟩ rfl (Nat.le_of_ble_eq_true rfl) ⟨Nat.le_refl _, Nat.le_refl _⟩ dX11_raiseOrLog_84 ?_
    exact jc_iret C K dX11_raiseOrLog_87 (Option.some.inj hv) ⟨Nat.le_refl _, Nat.le_refl _⟩
  have hv := (if_neg q1_3).symm.trans hv
  refine jr_tableOut (tgt := 88) C dX11_raiseOrLog_1 (by have := sw_ne (a := 18) q1_0 (by decide); have := sw_ne (a := 19) q1_1 (by decide); have := sw_ne (a := 20) q1_2 (by decide); have := sw_ne (a := 21) q1_3 (by decide); omega) rfl ?_
  exact jr_sub [] rfl (tX11_raiseOrLog_88 C K G  S hv)
theorem pX11_raiseOrLog (l : Launch) {g : CG} (G : cSep g)   (S : CS) (v1 : Int32) (v2 : Int32) {w : Int32 × CS} (hw : fX11_raiseOrLog S v1 v2 = some w)  : cC l yX11_raiseOrLog cX11_raiseOrLog 5 (some .int) 1 0 0 g [.ref (co g), .int v1, .int v2] S (some (.int w.1)) w.2 := cC_of (lv := [(0, .ref (co g)), (1, .int v1), (2, .int v2)]) (by decide +kernel) (Nat.le_of_ble_eq_true rfl) rfl (fun C K => tX11_raiseOrLog_0 C K G  S v1 v2 hw)
/-! RobotCell.ofTwo(IJI)J -/
def fX11_ofTwo (S : CS) (v1 : Int32) (v2 : Int64) (v4 : Int32) : Option (Int64 × CS) :=
  Option.bind (fX7_measureAt S v4) (fun c6 => if ((v4 >>> (4 &&& 31)) &&& 7) = 0 then some (fX2_greater v2 c6.1, c6.2) else if ((v4 >>> (4 &&& 31)) &&& 7) = 1 then some (fX2_lesser v2 c6.1, c6.2) else if ((v4 >>> (4 &&& 31)) &&& 7) = 2 then some (fX2_withSign v2 c6.1, c6.2) else if ((v4 >>> (4 &&& 31)) &&& 7) = 3 then (Option.bind (fX7_measureAt c6.2 v1) (fun c92 => some (fX2_add (fX2_multiply v2 c6.1) c92.1, c92.2))) else if ((v4 >>> (4 &&& 31)) &&& 7) = 4 then some (fX2_ofWhole ((fX2_rankOf v2 c6.1).toInt64), c6.2) else if ((v4 >>> (4 &&& 31)) &&& 7) = 5 then (Option.bind (fX7_numberAt c6.2 v4) (fun c117 => some (fX2_scaled v2 c117.1, c117.2))) else if ((v4 >>> (4 &&& 31)) &&& 7) = 6 then some (fX2_middle v2 c6.1, c6.2) else some (v2, c6.2))
theorem oX11_ofTwo : ok_c yX11_ofTwo cX11_ofTwo 7 (some .long) 3 (.instanceMethod yX11_ofTwo) := ⟨kw_421, ⟨kw_420, rfl⟩, kw_71, by decide +kernel⟩
set_option maxRecDepth 100000 in
set_option maxHeartbeats 1000000 in
theorem tX11_ofTwo_0 {p : Program} {l : Launch} {e : Env} {s : State} {m : MethodId} {args : Array Value} {below : List Frame} {meth : Method} {c : Code} {g : CG} {S0 : CS} (C : CC p s m args meth c yX11_ofTwo cX11_ofTwo 7 (some .long)) (K : cK g s) (G : cSep g)  (S : CS) (v1 : Int32) (v2 : Int64) (v4 : Int32) {w : Int64 × CS} (hv : fX11_ofTwo S v1 v2 v4 = some w) : CJ p l e s m args below meth c 7 6 0 0 g S0 (some (.long w.1)) w.2 0 [(0, .ref (co g)), (1, .int v1), (2, .long v2), (4, .int v4)] [] S 0 0 := by
  unfold fX11_ofTwo at hv
  refine jr_aload_n C dX11_ofTwo_0 rfl 0 rfl ?_
  refine jc_getR C K 5 (by decide) (by decide) kw_127 rfl dX11_ofTwo_1 ?_
  refine jr_iload C dX11_ofTwo_4 3 rfl ?_
  obtain ⟨c6, hc6, hv⟩ := Option.bind_eq_some_iff.mp hv
  refine jc_callR (rest := []) C K (pX7_measureAt l G S v4 hc6) oX7_measureAt kw_262 kw_260 rfl ⟨Nat.le_of_ble_eq_true rfl, Nat.le_of_ble_eq_true rfl⟩ rfl (Nat.le_of_ble_eq_true rfl) ⟨Nat.le_refl _, Nat.le_refl _⟩ dX11_ofTwo_6 ?_
  refine jr_lstore (lv' := [(5, .long c6.1), (0, .ref (co g)), (1, .int v1), (2, .long v2), (4, .int v4)]) C dX11_ofTwo_9 (by decide) rfl ?_
  refine jr_iload C dX11_ofTwo_11 4 rfl ?_
  refine jr_iconst (v := 4) C dX11_ofTwo_13 (by decide) ?_
  refine jr_ishr C dX11_ofTwo_14 ?_
  refine jr_bipush (v := 7) C dX11_ofTwo_15 (by decide) ?_
  refine jr_iand C dX11_ofTwo_17 ?_
  by_cases q18_0 : ((v4 >>> (4 &&& 31)) &&& 7) = 0
  · have hv := (if_pos q18_0).symm.trans hv
    refine jr_tableIn (off := 42) (tgt := 60) C dX11_ofTwo_18 (by rw [q18_0]; decide) (by rw [q18_0]; decide) (by rw [q18_0]; rfl) rfl ?_
    refine jr_lload_n C dX11_ofTwo_60 rfl 3 rfl ?_
    refine jr_lload C dX11_ofTwo_61 0 rfl ?_
    refine jr_pcall (rest := []) C (pX2_greater l v2 c6.1) oX2_greater kw_422 rfl ⟨Nat.le_of_ble_eq_true rfl, Nat.le_of_ble_eq_true rfl⟩ rfl (Nat.le_of_ble_eq_true rfl) ⟨Nat.zero_le _, Nat.zero_le _⟩ dX11_ofTwo_63 ?_
    exact jc_lret C K dX11_ofTwo_66 (Option.some.inj hv) ⟨Nat.le_refl _, Nat.le_refl _⟩
  have hv := (if_neg q18_0).symm.trans hv
  by_cases q18_1 : ((v4 >>> (4 &&& 31)) &&& 7) = 1
  · have hv := (if_pos q18_1).symm.trans hv
    refine jr_tableIn (off := 49) (tgt := 67) C dX11_ofTwo_18 (by rw [q18_1]; decide) (by rw [q18_1]; decide) (by rw [q18_1]; rfl) rfl ?_
    refine jr_lload_n C dX11_ofTwo_67 rfl 3 rfl ?_
    refine jr_lload C dX11_ofTwo_68 0 rfl ?_
    refine jr_pcall (rest := []) C (pX2_lesser l v2 c6.1) oX2_lesser kw_431 rfl ⟨Nat.le_of_ble_eq_true rfl, Nat.le_of_ble_eq_true rfl⟩ rfl (Nat.le_of_ble_eq_true rfl) ⟨Nat.zero_le _, Nat.zero_le _⟩ dX11_ofTwo_70 ?_
    exact jc_lret C K dX11_ofTwo_73 (Option.some.inj hv) ⟨Nat.le_refl _, Nat.le_refl _⟩
  have hv := (if_neg q18_1).symm.trans hv
  by_cases q18_2 : ((v4 >>> (4 &&& 31)) &&& 7) = 2
  · have hv := (if_pos q18_2).symm.trans hv
    refine jr_tableIn (off := 56) (tgt := 74) C dX11_ofTwo_18 (by rw [q18_2]; decide) (by rw [q18_2]; decide) (by rw [q18_2]; rfl) rfl ?_
    refine jr_lload_n C dX11_ofTwo_74 rfl 3 rfl ?_
    refine jr_lload C dX11_ofTwo_75 0 rfl ?_
    refine jr_pcall (rest := []) C (pX2_withSign l v2 c6.1) oX2_withSign kw_434 rfl ⟨Nat.le_of_ble_eq_true rfl, Nat.le_of_ble_eq_true rfl⟩ rfl (Nat.le_of_ble_eq_true rfl) ⟨Nat.zero_le _, Nat.zero_le _⟩ dX11_ofTwo_77 ?_
    exact jc_lret C K dX11_ofTwo_80 (Option.some.inj hv) ⟨Nat.le_refl _, Nat.le_refl _⟩
  have hv := (if_neg q18_2).symm.trans hv
  by_cases q18_3 : ((v4 >>> (4 &&& 31)) &&& 7) = 3
  · have hv := (if_pos q18_3).symm.trans hv
    refine jr_tableIn (off := 63) (tgt := 81) C dX11_ofTwo_18 (by rw [q18_3]; decide) (by rw [q18_3]; decide) (by rw [q18_3]; rfl) rfl ?_
    refine jr_lload_n C dX11_ofTwo_81 rfl 3 rfl ?_
    refine jr_lload C dX11_ofTwo_82 0 rfl ?_
    refine jr_pcall (rest := []) C (pX2_multiply l v2 c6.1) oX2_multiply kw_345 rfl ⟨Nat.le_of_ble_eq_true rfl, Nat.le_of_ble_eq_true rfl⟩ rfl (Nat.le_of_ble_eq_true rfl) ⟨Nat.zero_le _, Nat.zero_le _⟩ dX11_ofTwo_84 ?_
    refine jr_aload_n C dX11_ofTwo_87 rfl 1 rfl ?_
    refine jc_getR C K 5 (by decide) (by decide) kw_127 rfl dX11_ofTwo_88 ?_
    refine jr_iload_n C dX11_ofTwo_91 rfl 2 rfl ?_
    obtain ⟨c92, hc92, hv⟩ := Option.bind_eq_some_iff.mp hv
    refine jc_callR (rest := [.long (fX2_multiply v2 c6.1)]) C K (pX7_measureAt l G c6.2 v1 hc92) oX7_measureAt kw_262 kw_260 rfl ⟨Nat.le_of_ble_eq_true rfl, Nat.le_of_ble_eq_true rfl⟩ rfl (Nat.le_of_ble_eq_true rfl) ⟨Nat.le_refl _, Nat.le_refl _⟩ dX11_ofTwo_92 ?_
    refine jr_pcall (rest := []) C (pX2_add l (fX2_multiply v2 c6.1) c92.1) oX2_add kw_326 rfl ⟨Nat.le_of_ble_eq_true rfl, Nat.le_of_ble_eq_true rfl⟩ rfl (Nat.le_of_ble_eq_true rfl) ⟨Nat.zero_le _, Nat.zero_le _⟩ dX11_ofTwo_95 ?_
    exact jc_lret C K dX11_ofTwo_98 (Option.some.inj hv) ⟨Nat.le_refl _, Nat.le_refl _⟩
  have hv := (if_neg q18_3).symm.trans hv
  by_cases q18_4 : ((v4 >>> (4 &&& 31)) &&& 7) = 4
  · have hv := (if_pos q18_4).symm.trans hv
    refine jr_tableIn (off := 81) (tgt := 99) C dX11_ofTwo_18 (by rw [q18_4]; decide) (by rw [q18_4]; decide) (by rw [q18_4]; rfl) rfl ?_
    refine jr_lload_n C dX11_ofTwo_99 rfl 3 rfl ?_
    refine jr_lload C dX11_ofTwo_100 0 rfl ?_
    refine jr_pcall (rest := []) C (pX2_rankOf l v2 c6.1) oX2_rankOf kw_437 rfl ⟨Nat.le_of_ble_eq_true rfl, Nat.le_of_ble_eq_true rfl⟩ rfl (Nat.le_of_ble_eq_true rfl) ⟨Nat.zero_le _, Nat.zero_le _⟩ dX11_ofTwo_102 ?_
    refine jr_i2l C dX11_ofTwo_105 ?_
    refine jr_pcall (rest := []) C (pX2_ofWhole l ((fX2_rankOf v2 c6.1).toInt64)) oX2_ofWhole kw_268 rfl ⟨Nat.le_of_ble_eq_true rfl, Nat.le_of_ble_eq_true rfl⟩ rfl (Nat.le_of_ble_eq_true rfl) ⟨Nat.zero_le _, Nat.zero_le _⟩ dX11_ofTwo_106 ?_
    exact jc_lret C K dX11_ofTwo_109 (Option.some.inj hv) ⟨Nat.le_refl _, Nat.le_refl _⟩
  have hv := (if_neg q18_4).symm.trans hv
  by_cases q18_5 : ((v4 >>> (4 &&& 31)) &&& 7) = 5
  · have hv := (if_pos q18_5).symm.trans hv
    refine jr_tableIn (off := 92) (tgt := 110) C dX11_ofTwo_18 (by rw [q18_5]; decide) (by rw [q18_5]; decide) (by rw [q18_5]; rfl) rfl ?_
    refine jr_lload_n C dX11_ofTwo_110 rfl 3 rfl ?_
    refine jr_aload_n C dX11_ofTwo_111 rfl 1 rfl ?_
    refine jc_getR C K 5 (by decide) (by decide) kw_127 rfl dX11_ofTwo_112 ?_
    refine jr_iload C dX11_ofTwo_115 4 rfl ?_
    obtain ⟨c117, hc117, hv⟩ := Option.bind_eq_some_iff.mp hv
    refine jc_callR (rest := [.long v2]) C K (pX7_numberAt l G c6.2 v4 hc117) oX7_numberAt kw_209 kw_207 rfl ⟨Nat.le_of_ble_eq_true rfl, Nat.le_of_ble_eq_true rfl⟩ rfl (Nat.le_of_ble_eq_true rfl) ⟨Nat.le_refl _, Nat.le_refl _⟩ dX11_ofTwo_117 ?_
    refine jr_pcall (rest := []) C (pX2_scaled l v2 c117.1) oX2_scaled kw_438 rfl ⟨Nat.le_of_ble_eq_true rfl, Nat.le_of_ble_eq_true rfl⟩ rfl (Nat.le_of_ble_eq_true rfl) ⟨Nat.zero_le _, Nat.zero_le _⟩ dX11_ofTwo_120 ?_
    exact jc_lret C K dX11_ofTwo_123 (Option.some.inj hv) ⟨Nat.le_refl _, Nat.le_refl _⟩
  have hv := (if_neg q18_5).symm.trans hv
  by_cases q18_6 : ((v4 >>> (4 &&& 31)) &&& 7) = 6
  · have hv := (if_pos q18_6).symm.trans hv
    refine jr_tableIn (off := 106) (tgt := 124) C dX11_ofTwo_18 (by rw [q18_6]; decide) (by rw [q18_6]; decide) (by rw [q18_6]; rfl) rfl ?_
    refine jr_lload_n C dX11_ofTwo_124 rfl 3 rfl ?_
    refine jr_lload C dX11_ofTwo_125 0 rfl ?_
    refine jr_pcall (rest := []) C (pX2_middle l v2 c6.1) oX2_middle kw_449 rfl ⟨Nat.le_of_ble_eq_true rfl, Nat.le_of_ble_eq_true rfl⟩ rfl (Nat.le_of_ble_eq_true rfl) ⟨Nat.zero_le _, Nat.zero_le _⟩ dX11_ofTwo_127 ?_
    exact jc_lret C K dX11_ofTwo_130 (Option.some.inj hv) ⟨Nat.le_refl _, Nat.le_refl _⟩
  have hv := (if_neg q18_6).symm.trans hv
  refine jr_tableOut (tgt := 131) C dX11_ofTwo_18 (by have := sw_ne (a := 0) q18_0 (by decide); have := sw_ne (a := 1) q18_1 (by decide); have := sw_ne (a := 2) q18_2 (by decide); have := sw_ne (a := 3) q18_3 (by decide); have := sw_ne (a := 4) q18_4 (by decide); have := sw_ne (a := 5) q18_5 (by decide); have := sw_ne (a := 6) q18_6 (by decide); omega) rfl ?_
  refine jr_lload_n C dX11_ofTwo_131 rfl 3 rfl ?_
  exact jc_lret C K dX11_ofTwo_132 (Option.some.inj hv) ⟨Nat.le_refl _, Nat.le_refl _⟩
theorem pX11_ofTwo (l : Launch) {g : CG} (G : cSep g)   (S : CS) (v1 : Int32) (v2 : Int64) (v4 : Int32) {w : Int64 × CS} (hw : fX11_ofTwo S v1 v2 v4 = some w)  : cC l yX11_ofTwo cX11_ofTwo 7 (some .long) 6 0 0 g [.ref (co g), .int v1, .long v2, .int v4] S (some (.long w.1)) w.2 := cC_of (lv := [(0, .ref (co g)), (1, .int v1), (2, .long v2), (4, .int v4)]) (by decide +kernel) (Nat.le_of_ble_eq_true rfl) rfl (fun C K => tX11_ofTwo_0 C K G  S v1 v2 v4 hw)
/-! RobotCell.toNumber(IJI)I -/
def fX11_toNumber_121 (S : CS) (t1 : Int32) (t2 : Int64) : Option (Int32 × CS) :=
  Option.bind (fX11_giveNumber S t1 t2) (fun c121 => some (c121.1, c121.2))
def fX11_toNumber_16 (S : CS) (v1 : Int32) (v2 : Int64) (v4 : Int32) : Option (Int32 × CS) :=
  if v4 = 0 then (Option.bind (fX11_giveNumber S v1 (fX2_cut v2)) (fun c62 => some (c62.1, c62.2))) else if v4 = 1 then (Option.bind (fX11_giveNumber S v1 (fX11_within32 (fX2_cut v2))) (fun c75 => some (c75.1, c75.2))) else if v4 = 2 then (Option.bind (fX11_giveNumber S v1 (fX2_halfUp v2)) (fun c85 => some (c85.1, c85.2))) else if v4 = 3 then (Option.bind (fX11_giveNumber S v1 v2) (fun c92 => some (c92.1, c92.2))) else if v4 = 4 then (Option.bind (fX11_giveNumber S v1 ((fX2_toBits32 v2).toInt64)) (fun c103 => some (c103.1, c103.2))) else if v4 = 5 then (if (fX2_isLost v2) = 0 then fX11_toNumber_121 S v1 0 else fX11_toNumber_121 S v1 1) else (Option.bind (fX11_giveNumber S v1 0) (fun c128 => some (c128.1, c128.2)))
def fX11_toNumber (S : CS) (v1 : Int32) (v2 : Int64) (v4 : Int32) : Option (Int32 × CS) :=
  if 2 < v4 then fX11_toNumber_16 S v1 v2 v4 else (if (fX2_isLost v2) = 0 then fX11_toNumber_16 S v1 v2 v4 else some (7, S))
theorem oX11_toNumber : ok_c yX11_toNumber cX11_toNumber 5 (some .int) 3 (.instanceMethod yX11_toNumber) := ⟨kw_466, ⟨kw_465, rfl⟩, kw_71, by decide +kernel⟩
set_option maxRecDepth 100000 in
set_option maxHeartbeats 1000000 in
theorem tX11_toNumber_121 {p : Program} {l : Launch} {e : Env} {s : State} {m : MethodId} {args : Array Value} {below : List Frame} {meth : Method} {c : Code} {g : CG} {S0 : CS} (C : CC p s m args meth c yX11_toNumber cX11_toNumber 5 (some .int)) (K : cK g s) (G : cSep g)  (S : CS) (t1 : Int32) (t2 : Int64) {w : Int32 × CS} (hv : fX11_toNumber_121 S t1 t2 = some w) : CJ p l e s m args below meth c 5 5 0 0 g S0 (some (.int w.1)) w.2 121 [] [.long t2, .int t1, .ref (co g)] S 0 0 := by
  unfold fX11_toNumber_121 at hv
  obtain ⟨c121, hc121, hv⟩ := Option.bind_eq_some_iff.mp hv
  refine jc_callO (rest := []) C K (pX11_giveNumber l G S t1 t2 hc121) oX11_giveNumber kw_8 kw_234 rfl ⟨Nat.le_of_ble_eq_true rfl, Nat.le_of_ble_eq_true rfl⟩ rfl (Nat.le_of_ble_eq_true rfl) ⟨Nat.le_refl _, Nat.le_refl _⟩ dX11_toNumber_121 ?_
  exact jc_iret C K dX11_toNumber_124 (Option.some.inj hv) ⟨Nat.le_refl _, Nat.le_refl _⟩
set_option maxRecDepth 100000 in
set_option maxHeartbeats 1000000 in
theorem tX11_toNumber_16 {p : Program} {l : Launch} {e : Env} {s : State} {m : MethodId} {args : Array Value} {below : List Frame} {meth : Method} {c : Code} {g : CG} {S0 : CS} (C : CC p s m args meth c yX11_toNumber cX11_toNumber 5 (some .int)) (K : cK g s) (G : cSep g)  (S : CS) (v1 : Int32) (v2 : Int64) (v4 : Int32) {w : Int32 × CS} (hv : fX11_toNumber_16 S v1 v2 v4 = some w) : CJ p l e s m args below meth c 5 5 0 0 g S0 (some (.int w.1)) w.2 16 [(0, .ref (co g)), (1, .int v1), (2, .long v2), (4, .int v4)] [] S 0 0 := by
  unfold fX11_toNumber_16 at hv
  refine jr_iload C dX11_toNumber_16 3 rfl ?_
  by_cases q18_0 : v4 = 0
  · have hv := (if_pos q18_0).symm.trans hv
    refine jr_tableIn (off := 38) (tgt := 56) C dX11_toNumber_18 (by rw [q18_0]; decide) (by rw [q18_0]; decide) (by rw [q18_0]; rfl) rfl ?_
    refine jr_aload_n C dX11_toNumber_56 rfl 0 rfl ?_
    refine jr_iload_n C dX11_toNumber_57 rfl 1 rfl ?_
    refine jr_lload_n C dX11_toNumber_58 rfl 2 rfl ?_
    refine jr_pcall (rest := [.int v1, .ref (co g)]) C (pX2_cut l v2) oX2_cut kw_468 rfl ⟨Nat.le_of_ble_eq_true rfl, Nat.le_of_ble_eq_true rfl⟩ rfl (Nat.le_of_ble_eq_true rfl) ⟨Nat.zero_le _, Nat.zero_le _⟩ dX11_toNumber_59 ?_
    obtain ⟨c62, hc62, hv⟩ := Option.bind_eq_some_iff.mp hv
    refine jc_callO (rest := []) C K (pX11_giveNumber l G S v1 (fX2_cut v2) hc62) oX11_giveNumber kw_8 kw_234 rfl ⟨Nat.le_of_ble_eq_true rfl, Nat.le_of_ble_eq_true rfl⟩ rfl (Nat.le_of_ble_eq_true rfl) ⟨Nat.le_refl _, Nat.le_refl _⟩ dX11_toNumber_62 ?_
    exact jc_iret C K dX11_toNumber_65 (Option.some.inj hv) ⟨Nat.le_refl _, Nat.le_refl _⟩
  have hv := (if_neg q18_0).symm.trans hv
  by_cases q18_1 : v4 = 1
  · have hv := (if_pos q18_1).symm.trans hv
    refine jr_tableIn (off := 48) (tgt := 66) C dX11_toNumber_18 (by rw [q18_1]; decide) (by rw [q18_1]; decide) (by rw [q18_1]; rfl) rfl ?_
    refine jr_aload_n C dX11_toNumber_66 rfl 0 rfl ?_
    refine jr_iload_n C dX11_toNumber_67 rfl 1 rfl ?_
    refine jr_lload_n C dX11_toNumber_68 rfl 2 rfl ?_
    refine jr_pcall (rest := [.int v1, .ref (co g)]) C (pX2_cut l v2) oX2_cut kw_468 rfl ⟨Nat.le_of_ble_eq_true rfl, Nat.le_of_ble_eq_true rfl⟩ rfl (Nat.le_of_ble_eq_true rfl) ⟨Nat.zero_le _, Nat.zero_le _⟩ dX11_toNumber_69 ?_
    refine jr_pcall (rest := [.int v1, .ref (co g)]) C (pX11_within32 l (fX2_cut v2)) oX11_within32 kw_471 rfl ⟨Nat.le_of_ble_eq_true rfl, Nat.le_of_ble_eq_true rfl⟩ rfl (Nat.le_of_ble_eq_true rfl) ⟨Nat.zero_le _, Nat.zero_le _⟩ dX11_toNumber_72 ?_
    obtain ⟨c75, hc75, hv⟩ := Option.bind_eq_some_iff.mp hv
    refine jc_callO (rest := []) C K (pX11_giveNumber l G S v1 (fX11_within32 (fX2_cut v2)) hc75) oX11_giveNumber kw_8 kw_234 rfl ⟨Nat.le_of_ble_eq_true rfl, Nat.le_of_ble_eq_true rfl⟩ rfl (Nat.le_of_ble_eq_true rfl) ⟨Nat.le_refl _, Nat.le_refl _⟩ dX11_toNumber_75 ?_
    exact jc_iret C K dX11_toNumber_78 (Option.some.inj hv) ⟨Nat.le_refl _, Nat.le_refl _⟩
  have hv := (if_neg q18_1).symm.trans hv
  by_cases q18_2 : v4 = 2
  · have hv := (if_pos q18_2).symm.trans hv
    refine jr_tableIn (off := 61) (tgt := 79) C dX11_toNumber_18 (by rw [q18_2]; decide) (by rw [q18_2]; decide) (by rw [q18_2]; rfl) rfl ?_
    refine jr_aload_n C dX11_toNumber_79 rfl 0 rfl ?_
    refine jr_iload_n C dX11_toNumber_80 rfl 1 rfl ?_
    refine jr_lload_n C dX11_toNumber_81 rfl 2 rfl ?_
    refine jr_pcall (rest := [.int v1, .ref (co g)]) C (pX2_halfUp l v2) oX2_halfUp kw_478 rfl ⟨Nat.le_of_ble_eq_true rfl, Nat.le_of_ble_eq_true rfl⟩ rfl (Nat.le_of_ble_eq_true rfl) ⟨Nat.zero_le _, Nat.zero_le _⟩ dX11_toNumber_82 ?_
    obtain ⟨c85, hc85, hv⟩ := Option.bind_eq_some_iff.mp hv
    refine jc_callO (rest := []) C K (pX11_giveNumber l G S v1 (fX2_halfUp v2) hc85) oX11_giveNumber kw_8 kw_234 rfl ⟨Nat.le_of_ble_eq_true rfl, Nat.le_of_ble_eq_true rfl⟩ rfl (Nat.le_of_ble_eq_true rfl) ⟨Nat.le_refl _, Nat.le_refl _⟩ dX11_toNumber_85 ?_
    exact jc_iret C K dX11_toNumber_88 (Option.some.inj hv) ⟨Nat.le_refl _, Nat.le_refl _⟩
  have hv := (if_neg q18_2).symm.trans hv
  by_cases q18_3 : v4 = 3
  · have hv := (if_pos q18_3).symm.trans hv
    refine jr_tableIn (off := 71) (tgt := 89) C dX11_toNumber_18 (by rw [q18_3]; decide) (by rw [q18_3]; decide) (by rw [q18_3]; rfl) rfl ?_
    refine jr_aload_n C dX11_toNumber_89 rfl 0 rfl ?_
    refine jr_iload_n C dX11_toNumber_90 rfl 1 rfl ?_
    refine jr_lload_n C dX11_toNumber_91 rfl 2 rfl ?_
    obtain ⟨c92, hc92, hv⟩ := Option.bind_eq_some_iff.mp hv
    refine jc_callO (rest := []) C K (pX11_giveNumber l G S v1 v2 hc92) oX11_giveNumber kw_8 kw_234 rfl ⟨Nat.le_of_ble_eq_true rfl, Nat.le_of_ble_eq_true rfl⟩ rfl (Nat.le_of_ble_eq_true rfl) ⟨Nat.le_refl _, Nat.le_refl _⟩ dX11_toNumber_92 ?_
    exact jc_iret C K dX11_toNumber_95 (Option.some.inj hv) ⟨Nat.le_refl _, Nat.le_refl _⟩
  have hv := (if_neg q18_3).symm.trans hv
  by_cases q18_4 : v4 = 4
  · have hv := (if_pos q18_4).symm.trans hv
    refine jr_tableIn (off := 78) (tgt := 96) C dX11_toNumber_18 (by rw [q18_4]; decide) (by rw [q18_4]; decide) (by rw [q18_4]; rfl) rfl ?_
    refine jr_aload_n C dX11_toNumber_96 rfl 0 rfl ?_
    refine jr_iload_n C dX11_toNumber_97 rfl 1 rfl ?_
    refine jr_lload_n C dX11_toNumber_98 rfl 2 rfl ?_
    refine jr_pcall (rest := [.int v1, .ref (co g)]) C (pX2_toBits32 l v2) oX2_toBits32 kw_407 rfl ⟨Nat.le_of_ble_eq_true rfl, Nat.le_of_ble_eq_true rfl⟩ rfl (Nat.le_of_ble_eq_true rfl) ⟨Nat.zero_le _, Nat.zero_le _⟩ dX11_toNumber_99 ?_
    refine jr_i2l C dX11_toNumber_102 ?_
    obtain ⟨c103, hc103, hv⟩ := Option.bind_eq_some_iff.mp hv
    refine jc_callO (rest := []) C K (pX11_giveNumber l G S v1 ((fX2_toBits32 v2).toInt64) hc103) oX11_giveNumber kw_8 kw_234 rfl ⟨Nat.le_of_ble_eq_true rfl, Nat.le_of_ble_eq_true rfl⟩ rfl (Nat.le_of_ble_eq_true rfl) ⟨Nat.le_refl _, Nat.le_refl _⟩ dX11_toNumber_103 ?_
    exact jc_iret C K dX11_toNumber_106 (Option.some.inj hv) ⟨Nat.le_refl _, Nat.le_refl _⟩
  have hv := (if_neg q18_4).symm.trans hv
  by_cases q18_5 : v4 = 5
  · have hv := (if_pos q18_5).symm.trans hv
    refine jr_tableIn (off := 89) (tgt := 107) C dX11_toNumber_18 (by rw [q18_5]; decide) (by rw [q18_5]; decide) (by rw [q18_5]; rfl) rfl ?_
    refine jr_aload_n C dX11_toNumber_107 rfl 0 rfl ?_
    refine jr_iload_n C dX11_toNumber_108 rfl 1 rfl ?_
    refine jr_lload_n C dX11_toNumber_109 rfl 2 rfl ?_
    refine jr_pcall (rest := [.int v1, .ref (co g)]) C (pX2_isLost l v2) oX2_isLost kw_467 rfl ⟨Nat.le_of_ble_eq_true rfl, Nat.le_of_ble_eq_true rfl⟩ rfl (Nat.le_of_ble_eq_true rfl) ⟨Nat.zero_le _, Nat.zero_le _⟩ dX11_toNumber_110 ?_
    refine jr_if_eq (tgt := 120) C dX11_toNumber_113 rfl (fun q113 => ?_) (fun q113 => ?_)
    · have hv := (if_pos q113).symm.trans hv
      refine jr_lconst (v := 0) C dX11_toNumber_120 (by decide) ?_
      exact jr_sub [] rfl (tX11_toNumber_121 C K G  S v1 0 hv)
    · have hv := (if_neg q113).symm.trans hv
      refine jr_lconst (v := 1) C dX11_toNumber_116 (by decide) ?_
      refine jr_goto (tgt := 121) C dX11_toNumber_117 rfl ?_
      exact jr_sub [] rfl (tX11_toNumber_121 C K G  S v1 1 hv)
  have hv := (if_neg q18_5).symm.trans hv
  refine jr_tableOut (tgt := 125) C dX11_toNumber_18 (by have := sw_ne (a := 0) q18_0 (by decide); have := sw_ne (a := 1) q18_1 (by decide); have := sw_ne (a := 2) q18_2 (by decide); have := sw_ne (a := 3) q18_3 (by decide); have := sw_ne (a := 4) q18_4 (by decide); have := sw_ne (a := 5) q18_5 (by decide); omega) rfl ?_
  refine jr_aload_n C dX11_toNumber_125 rfl 0 rfl ?_
  refine jr_iload_n C dX11_toNumber_126 rfl 1 rfl ?_
  refine jr_lconst (v := 0) C dX11_toNumber_127 (by decide) ?_
  obtain ⟨c128, hc128, hv⟩ := Option.bind_eq_some_iff.mp hv
  refine jc_callO (rest := []) C K (pX11_giveNumber l G S v1 0 hc128) oX11_giveNumber kw_8 kw_234 rfl ⟨Nat.le_of_ble_eq_true rfl, Nat.le_of_ble_eq_true rfl⟩ rfl (Nat.le_of_ble_eq_true rfl) ⟨Nat.le_refl _, Nat.le_refl _⟩ dX11_toNumber_128 ?_
  exact jc_iret C K dX11_toNumber_131 (Option.some.inj hv) ⟨Nat.le_refl _, Nat.le_refl _⟩
set_option maxRecDepth 100000 in
set_option maxHeartbeats 1000000 in
theorem tX11_toNumber_0 {p : Program} {l : Launch} {e : Env} {s : State} {m : MethodId} {args : Array Value} {below : List Frame} {meth : Method} {c : Code} {g : CG} {S0 : CS} (C : CC p s m args meth c yX11_toNumber cX11_toNumber 5 (some .int)) (K : cK g s) (G : cSep g)  (S : CS) (v1 : Int32) (v2 : Int64) (v4 : Int32) {w : Int32 × CS} (hv : fX11_toNumber S v1 v2 v4 = some w) : CJ p l e s m args below meth c 5 5 0 0 g S0 (some (.int w.1)) w.2 0 [(0, .ref (co g)), (1, .int v1), (2, .long v2), (4, .int v4)] [] S 0 0 := by
  unfold fX11_toNumber at hv
  refine jr_iload C dX11_toNumber_0 3 rfl ?_
  refine jr_iconst (v := 2) C dX11_toNumber_2 (by decide) ?_
  refine jr_icmp_gt (tgt := 16) C dX11_toNumber_3 rfl (fun q3 => ?_) (fun q3 => ?_)
  · have hv := (if_pos q3).symm.trans hv
    exact tX11_toNumber_16 C K G  S v1 v2 v4 hv
  · have hv := (if_neg q3).symm.trans hv
    refine jr_lload_n C dX11_toNumber_6 rfl 2 rfl ?_
    refine jr_pcall (rest := []) C (pX2_isLost l v2) oX2_isLost kw_467 rfl ⟨Nat.le_of_ble_eq_true rfl, Nat.le_of_ble_eq_true rfl⟩ rfl (Nat.le_of_ble_eq_true rfl) ⟨Nat.zero_le _, Nat.zero_le _⟩ dX11_toNumber_7 ?_
    refine jr_if_eq (tgt := 16) C dX11_toNumber_10 rfl (fun q10 => ?_) (fun q10 => ?_)
    · have hv := (if_pos q10).symm.trans hv
      exact tX11_toNumber_16 C K G  S v1 v2 v4 hv
    · have hv := (if_neg q10).symm.trans hv
      refine jr_bipush (v := 7) C dX11_toNumber_13 (by decide) ?_
      exact jc_iret C K dX11_toNumber_15 (Option.some.inj hv) ⟨Nat.le_refl _, Nat.le_refl _⟩
theorem pX11_toNumber (l : Launch) {g : CG} (G : cSep g)   (S : CS) (v1 : Int32) (v2 : Int64) (v4 : Int32) {w : Int32 × CS} (hw : fX11_toNumber S v1 v2 v4 = some w)  : cC l yX11_toNumber cX11_toNumber 5 (some .int) 5 0 0 g [.ref (co g), .int v1, .long v2, .int v4] S (some (.int w.1)) w.2 := cC_of (lv := [(0, .ref (co g)), (1, .int v1), (2, .long v2), (4, .int v4)]) (by decide +kernel) (Nat.le_of_ble_eq_true rfl) rfl (fun C K => tX11_toNumber_0 C K G  S v1 v2 v4 hw)
/-! RobotCell.onMeasures(IIII)I -/
def fX11_onMeasures_220 (S : CS) (t1 : Int32) (t2 : Int64) : Option (Int32 × CS) :=
  Option.bind (fX11_giveNumber S t1 t2) (fun c220 => some (c220.1, c220.2))
def fX11_onMeasures (S : CS) (v1 : Int32) (v2 : Int32) (v3 : Int32) (v4 : Int32) : Option (Int32 × CS) :=
  Option.bind (fX7_measureAt S v3) (fun c5 => Option.bind (fX7_measureAt c5.2 v4) (fun c16 => if v1 = 24 then (Option.bind (fX2_divide (fX2_ofWhole v3.toInt64) (fX2_ofWhole v4.toInt64)) (fun c93 => Option.bind (fX11_giveMeasure c16.2 v2 c93) (fun c96 => some (c96.1, c96.2)))) else if v1 = 25 then (Option.bind (fX11_giveMeasure c16.2 v2 (fX2_add c5.1 c16.1)) (fun c109 => some (c109.1, c109.2))) else if v1 = 26 then (Option.bind (fX11_giveMeasure c16.2 v2 (fX2_subtract c5.1 c16.1)) (fun c122 => some (c122.1, c122.2))) else if v1 = 27 then (Option.bind (fX11_giveMeasure c16.2 v2 (fX2_multiply c5.1 c16.1)) (fun c135 => some (c135.1, c135.2))) else if v1 = 28 then (Option.bind (fX2_divide c5.1 c16.1) (fun c145 => Option.bind (fX11_giveMeasure c16.2 v2 c145) (fun c148 => some (c148.1, c148.2)))) else if v1 = 29 then (Option.bind (fX2_remainder c5.1 c16.1) (fun c158 => Option.bind (fX11_giveMeasure c16.2 v2 c158) (fun c161 => some (c161.1, c161.2)))) else if v1 = 30 then (Option.bind (fX11_ofOne c5.1 (v4 &&& 15)) (fun c174 => Option.bind (fX11_giveMeasure c16.2 v2 c174) (fun c177 => some (c177.1, c177.2)))) else if v1 = 31 then (Option.bind (fX11_ofTwo c16.2 v2 c5.1 v4) (fun c189 => Option.bind (fX11_giveMeasure c189.2 v2 c189.1) (fun c192 => some (c192.1, c192.2)))) else if v1 = 32 then (if (fX11_holds ((v4 >>> (4 &&& 31)) &&& 7) c5.1 c16.1) = 0 then fX11_onMeasures_220 c16.2 v2 0 else fX11_onMeasures_220 c16.2 v2 1) else if v1 = 33 then (Option.bind (fX11_toNumber c16.2 v2 c5.1 (v4 &&& 7)) (fun c233 => some (c233.1, c233.2))) else if v1 = 34 then (Option.bind (fX7_numberAt c16.2 v3) (fun c244 => Option.bind (fX11_giveMeasure c244.2 v2 (fX11_toMeasure c244.1 (v4 &&& 3))) (fun c254 => some (c254.1, c254.2)))) else some (2, c16.2)))
theorem oX11_onMeasures : ok_c yX11_onMeasures cX11_onMeasures 9 (some .int) 4 (.instanceMethod yX11_onMeasures) := ⟨kw_267, ⟨kw_266, rfl⟩, kw_71, by decide +kernel⟩
set_option maxRecDepth 100000 in
set_option maxHeartbeats 1000000 in
theorem tX11_onMeasures_220 {p : Program} {l : Launch} {e : Env} {s : State} {m : MethodId} {args : Array Value} {below : List Frame} {meth : Method} {c : Code} {g : CG} {S0 : CS} (C : CC p s m args meth c yX11_onMeasures cX11_onMeasures 9 (some .int)) (K : cK g s) (G : cSep g)  (S : CS) (t1 : Int32) (t2 : Int64) {w : Int32 × CS} (hv : fX11_onMeasures_220 S t1 t2 = some w) : CJ p l e s m args below meth c 9 7 0 0 g S0 (some (.int w.1)) w.2 220 [] [.long t2, .int t1, .ref (co g)] S 0 0 := by
  unfold fX11_onMeasures_220 at hv
  obtain ⟨c220, hc220, hv⟩ := Option.bind_eq_some_iff.mp hv
  refine jc_callO (rest := []) C K (pX11_giveNumber l G S t1 t2 hc220) oX11_giveNumber kw_8 kw_234 rfl ⟨Nat.le_of_ble_eq_true rfl, Nat.le_of_ble_eq_true rfl⟩ rfl (Nat.le_of_ble_eq_true rfl) ⟨Nat.le_refl _, Nat.le_refl _⟩ dX11_onMeasures_220 ?_
  exact jc_iret C K dX11_onMeasures_223 (Option.some.inj hv) ⟨Nat.le_refl _, Nat.le_refl _⟩
set_option maxRecDepth 100000 in
set_option maxHeartbeats 1000000 in
theorem tX11_onMeasures_0 {p : Program} {l : Launch} {e : Env} {s : State} {m : MethodId} {args : Array Value} {below : List Frame} {meth : Method} {c : Code} {g : CG} {S0 : CS} (C : CC p s m args meth c yX11_onMeasures cX11_onMeasures 9 (some .int)) (K : cK g s) (G : cSep g)  (S : CS) (v1 : Int32) (v2 : Int32) (v3 : Int32) (v4 : Int32) {w : Int32 × CS} (hv : fX11_onMeasures S v1 v2 v3 v4 = some w) : CJ p l e s m args below meth c 9 7 0 0 g S0 (some (.int w.1)) w.2 0 [(0, .ref (co g)), (1, .int v1), (2, .int v2), (3, .int v3), (4, .int v4)] [] S 0 0 := by
  unfold fX11_onMeasures at hv
  refine jr_aload_n C dX11_onMeasures_0 rfl 0 rfl ?_
  refine jc_getR C K 5 (by decide) (by decide) kw_127 rfl dX11_onMeasures_1 ?_
  refine jr_iload_n C dX11_onMeasures_4 rfl 3 rfl ?_
  obtain ⟨c5, hc5, hv⟩ := Option.bind_eq_some_iff.mp hv
  refine jc_callR (rest := []) C K (pX7_measureAt l G S v3 hc5) oX7_measureAt kw_262 kw_260 rfl ⟨Nat.le_of_ble_eq_true rfl, Nat.le_of_ble_eq_true rfl⟩ rfl (Nat.le_of_ble_eq_true rfl) ⟨Nat.le_refl _, Nat.le_refl _⟩ dX11_onMeasures_5 ?_
  refine jr_lstore (lv' := [(5, .long c5.1), (0, .ref (co g)), (1, .int v1), (2, .int v2), (3, .int v3), (4, .int v4)]) C dX11_onMeasures_8 (by decide) rfl ?_
  refine jr_aload_n C dX11_onMeasures_10 rfl 1 rfl ?_
  refine jc_getR C K 5 (by decide) (by decide) kw_127 rfl dX11_onMeasures_11 ?_
  refine jr_iload C dX11_onMeasures_14 5 rfl ?_
  obtain ⟨c16, hc16, hv⟩ := Option.bind_eq_some_iff.mp hv
  refine jc_callR (rest := []) C K (pX7_measureAt l G c5.2 v4 hc16) oX7_measureAt kw_262 kw_260 rfl ⟨Nat.le_of_ble_eq_true rfl, Nat.le_of_ble_eq_true rfl⟩ rfl (Nat.le_of_ble_eq_true rfl) ⟨Nat.le_refl _, Nat.le_refl _⟩ dX11_onMeasures_16 ?_
  refine jr_lstore (lv' := [(7, .long c16.1), (5, .long c5.1), (0, .ref (co g)), (1, .int v1), (2, .int v2), (3, .int v3), (4, .int v4)]) C dX11_onMeasures_19 (by decide) rfl ?_
  refine jr_iload_n C dX11_onMeasures_21 rfl 3 rfl ?_
  by_cases q22_0 : v1 = 24
  · have hv := (if_pos q22_0).symm.trans hv
    refine jr_tableIn (off := 58) (tgt := 80) C dX11_onMeasures_22 (by rw [q22_0]; decide) (by rw [q22_0]; decide) (by rw [q22_0]; rfl) rfl ?_
    refine jr_aload_n C dX11_onMeasures_80 rfl 2 rfl ?_
    refine jr_iload_n C dX11_onMeasures_81 rfl 4 rfl ?_
    refine jr_iload_n C dX11_onMeasures_82 rfl 5 rfl ?_
    refine jr_i2l C dX11_onMeasures_83 ?_
    refine jr_pcall (rest := [.int v2, .ref (co g)]) C (pX2_ofWhole l v3.toInt64) oX2_ofWhole kw_268 rfl ⟨Nat.le_of_ble_eq_true rfl, Nat.le_of_ble_eq_true rfl⟩ rfl (Nat.le_of_ble_eq_true rfl) ⟨Nat.zero_le _, Nat.zero_le _⟩ dX11_onMeasures_84 ?_
    refine jr_iload C dX11_onMeasures_87 6 rfl ?_
    refine jr_i2l C dX11_onMeasures_89 ?_
    refine jr_pcall (rest := [.long (fX2_ofWhole v3.toInt64), .int v2, .ref (co g)]) C (pX2_ofWhole l v4.toInt64) oX2_ofWhole kw_268 rfl ⟨Nat.le_of_ble_eq_true rfl, Nat.le_of_ble_eq_true rfl⟩ rfl (Nat.le_of_ble_eq_true rfl) ⟨Nat.zero_le _, Nat.zero_le _⟩ dX11_onMeasures_90 ?_
    obtain ⟨c93, hc93, hv⟩ := Option.bind_eq_some_iff.mp hv
    refine jr_pcall (rest := [.int v2, .ref (co g)]) C (pX2_divide l (fX2_ofWhole v3.toInt64) (fX2_ofWhole v4.toInt64) hc93) oX2_divide kw_289 rfl ⟨Nat.le_of_ble_eq_true rfl, Nat.le_of_ble_eq_true rfl⟩ rfl (Nat.le_of_ble_eq_true rfl) ⟨Nat.zero_le _, Nat.zero_le _⟩ dX11_onMeasures_93 ?_
    obtain ⟨c96, hc96, hv⟩ := Option.bind_eq_some_iff.mp hv
    refine jc_callO (rest := []) C K (pX11_giveMeasure l G c16.2 v2 c93 hc96) oX11_giveMeasure kw_15 kw_318 rfl ⟨Nat.le_of_ble_eq_true rfl, Nat.le_of_ble_eq_true rfl⟩ rfl (Nat.le_of_ble_eq_true rfl) ⟨Nat.le_refl _, Nat.le_refl _⟩ dX11_onMeasures_96 ?_
    exact jc_iret C K dX11_onMeasures_99 (Option.some.inj hv) ⟨Nat.le_refl _, Nat.le_refl _⟩
  have hv := (if_neg q22_0).symm.trans hv
  by_cases q22_1 : v1 = 25
  · have hv := (if_pos q22_1).symm.trans hv
    refine jr_tableIn (off := 78) (tgt := 100) C dX11_onMeasures_22 (by rw [q22_1]; decide) (by rw [q22_1]; decide) (by rw [q22_1]; rfl) rfl ?_
    refine jr_aload_n C dX11_onMeasures_100 rfl 2 rfl ?_
    refine jr_iload_n C dX11_onMeasures_101 rfl 4 rfl ?_
    refine jr_lload C dX11_onMeasures_102 1 rfl ?_
    refine jr_lload C dX11_onMeasures_104 0 rfl ?_
    refine jr_pcall (rest := [.int v2, .ref (co g)]) C (pX2_add l c5.1 c16.1) oX2_add kw_326 rfl ⟨Nat.le_of_ble_eq_true rfl, Nat.le_of_ble_eq_true rfl⟩ rfl (Nat.le_of_ble_eq_true rfl) ⟨Nat.zero_le _, Nat.zero_le _⟩ dX11_onMeasures_106 ?_
    obtain ⟨c109, hc109, hv⟩ := Option.bind_eq_some_iff.mp hv
    refine jc_callO (rest := []) C K (pX11_giveMeasure l G c16.2 v2 (fX2_add c5.1 c16.1) hc109) oX11_giveMeasure kw_15 kw_318 rfl ⟨Nat.le_of_ble_eq_true rfl, Nat.le_of_ble_eq_true rfl⟩ rfl (Nat.le_of_ble_eq_true rfl) ⟨Nat.le_refl _, Nat.le_refl _⟩ dX11_onMeasures_109 ?_
    exact jc_iret C K dX11_onMeasures_112 (Option.some.inj hv) ⟨Nat.le_refl _, Nat.le_refl _⟩
  have hv := (if_neg q22_1).symm.trans hv
  by_cases q22_2 : v1 = 26
  · have hv := (if_pos q22_2).symm.trans hv
    refine jr_tableIn (off := 91) (tgt := 113) C dX11_onMeasures_22 (by rw [q22_2]; decide) (by rw [q22_2]; decide) (by rw [q22_2]; rfl) rfl ?_
    refine jr_aload_n C dX11_onMeasures_113 rfl 2 rfl ?_
    refine jr_iload_n C dX11_onMeasures_114 rfl 4 rfl ?_
    refine jr_lload C dX11_onMeasures_115 1 rfl ?_
    refine jr_lload C dX11_onMeasures_117 0 rfl ?_
    refine jr_pcall (rest := [.int v2, .ref (co g)]) C (pX2_subtract l c5.1 c16.1) oX2_subtract kw_338 rfl ⟨Nat.le_of_ble_eq_true rfl, Nat.le_of_ble_eq_true rfl⟩ rfl (Nat.le_of_ble_eq_true rfl) ⟨Nat.zero_le _, Nat.zero_le _⟩ dX11_onMeasures_119 ?_
    obtain ⟨c122, hc122, hv⟩ := Option.bind_eq_some_iff.mp hv
    refine jc_callO (rest := []) C K (pX11_giveMeasure l G c16.2 v2 (fX2_subtract c5.1 c16.1) hc122) oX11_giveMeasure kw_15 kw_318 rfl ⟨Nat.le_of_ble_eq_true rfl, Nat.le_of_ble_eq_true rfl⟩ rfl (Nat.le_of_ble_eq_true rfl) ⟨Nat.le_refl _, Nat.le_refl _⟩ dX11_onMeasures_122 ?_
    exact jc_iret C K dX11_onMeasures_125 (Option.some.inj hv) ⟨Nat.le_refl _, Nat.le_refl _⟩
  have hv := (if_neg q22_2).symm.trans hv
  by_cases q22_3 : v1 = 27
  · have hv := (if_pos q22_3).symm.trans hv
    refine jr_tableIn (off := 104) (tgt := 126) C dX11_onMeasures_22 (by rw [q22_3]; decide) (by rw [q22_3]; decide) (by rw [q22_3]; rfl) rfl ?_
    refine jr_aload_n C dX11_onMeasures_126 rfl 2 rfl ?_
    refine jr_iload_n C dX11_onMeasures_127 rfl 4 rfl ?_
    refine jr_lload C dX11_onMeasures_128 1 rfl ?_
    refine jr_lload C dX11_onMeasures_130 0 rfl ?_
    refine jr_pcall (rest := [.int v2, .ref (co g)]) C (pX2_multiply l c5.1 c16.1) oX2_multiply kw_345 rfl ⟨Nat.le_of_ble_eq_true rfl, Nat.le_of_ble_eq_true rfl⟩ rfl (Nat.le_of_ble_eq_true rfl) ⟨Nat.zero_le _, Nat.zero_le _⟩ dX11_onMeasures_132 ?_
    obtain ⟨c135, hc135, hv⟩ := Option.bind_eq_some_iff.mp hv
    refine jc_callO (rest := []) C K (pX11_giveMeasure l G c16.2 v2 (fX2_multiply c5.1 c16.1) hc135) oX11_giveMeasure kw_15 kw_318 rfl ⟨Nat.le_of_ble_eq_true rfl, Nat.le_of_ble_eq_true rfl⟩ rfl (Nat.le_of_ble_eq_true rfl) ⟨Nat.le_refl _, Nat.le_refl _⟩ dX11_onMeasures_135 ?_
    exact jc_iret C K dX11_onMeasures_138 (Option.some.inj hv) ⟨Nat.le_refl _, Nat.le_refl _⟩
  have hv := (if_neg q22_3).symm.trans hv
  by_cases q22_4 : v1 = 28
  · have hv := (if_pos q22_4).symm.trans hv
    refine jr_tableIn (off := 117) (tgt := 139) C dX11_onMeasures_22 (by rw [q22_4]; decide) (by rw [q22_4]; decide) (by rw [q22_4]; rfl) rfl ?_
    refine jr_aload_n C dX11_onMeasures_139 rfl 2 rfl ?_
    refine jr_iload_n C dX11_onMeasures_140 rfl 4 rfl ?_
    refine jr_lload C dX11_onMeasures_141 1 rfl ?_
    refine jr_lload C dX11_onMeasures_143 0 rfl ?_
    obtain ⟨c145, hc145, hv⟩ := Option.bind_eq_some_iff.mp hv
    refine jr_pcall (rest := [.int v2, .ref (co g)]) C (pX2_divide l c5.1 c16.1 hc145) oX2_divide kw_289 rfl ⟨Nat.le_of_ble_eq_true rfl, Nat.le_of_ble_eq_true rfl⟩ rfl (Nat.le_of_ble_eq_true rfl) ⟨Nat.zero_le _, Nat.zero_le _⟩ dX11_onMeasures_145 ?_
    obtain ⟨c148, hc148, hv⟩ := Option.bind_eq_some_iff.mp hv
    refine jc_callO (rest := []) C K (pX11_giveMeasure l G c16.2 v2 c145 hc148) oX11_giveMeasure kw_15 kw_318 rfl ⟨Nat.le_of_ble_eq_true rfl, Nat.le_of_ble_eq_true rfl⟩ rfl (Nat.le_of_ble_eq_true rfl) ⟨Nat.le_refl _, Nat.le_refl _⟩ dX11_onMeasures_148 ?_
    exact jc_iret C K dX11_onMeasures_151 (Option.some.inj hv) ⟨Nat.le_refl _, Nat.le_refl _⟩
  have hv := (if_neg q22_4).symm.trans hv
  by_cases q22_5 : v1 = 29
  · have hv := (if_pos q22_5).symm.trans hv
    refine jr_tableIn (off := 130) (tgt := 152) C dX11_onMeasures_22 (by rw [q22_5]; decide) (by rw [q22_5]; decide) (by rw [q22_5]; rfl) rfl ?_
    refine jr_aload_n C dX11_onMeasures_152 rfl 2 rfl ?_
    refine jr_iload_n C dX11_onMeasures_153 rfl 4 rfl ?_
    refine jr_lload C dX11_onMeasures_154 1 rfl ?_
    refine jr_lload C dX11_onMeasures_156 0 rfl ?_
    obtain ⟨c158, hc158, hv⟩ := Option.bind_eq_some_iff.mp hv
    refine jr_pcall (rest := [.int v2, .ref (co g)]) C (pX2_remainder l c5.1 c16.1 hc158) oX2_remainder kw_351 rfl ⟨Nat.le_of_ble_eq_true rfl, Nat.le_of_ble_eq_true rfl⟩ rfl (Nat.le_of_ble_eq_true rfl) ⟨Nat.zero_le _, Nat.zero_le _⟩ dX11_onMeasures_158 ?_
    obtain ⟨c161, hc161, hv⟩ := Option.bind_eq_some_iff.mp hv
    refine jc_callO (rest := []) C K (pX11_giveMeasure l G c16.2 v2 c158 hc161) oX11_giveMeasure kw_15 kw_318 rfl ⟨Nat.le_of_ble_eq_true rfl, Nat.le_of_ble_eq_true rfl⟩ rfl (Nat.le_of_ble_eq_true rfl) ⟨Nat.le_refl _, Nat.le_refl _⟩ dX11_onMeasures_161 ?_
    exact jc_iret C K dX11_onMeasures_164 (Option.some.inj hv) ⟨Nat.le_refl _, Nat.le_refl _⟩
  have hv := (if_neg q22_5).symm.trans hv
  by_cases q22_6 : v1 = 30
  · have hv := (if_pos q22_6).symm.trans hv
    refine jr_tableIn (off := 143) (tgt := 165) C dX11_onMeasures_22 (by rw [q22_6]; decide) (by rw [q22_6]; decide) (by rw [q22_6]; rfl) rfl ?_
    refine jr_aload_n C dX11_onMeasures_165 rfl 2 rfl ?_
    refine jr_iload_n C dX11_onMeasures_166 rfl 4 rfl ?_
    refine jr_lload C dX11_onMeasures_167 1 rfl ?_
    refine jr_iload C dX11_onMeasures_169 6 rfl ?_
    refine jr_bipush (v := 15) C dX11_onMeasures_171 (by decide) ?_
    refine jr_iand C dX11_onMeasures_173 ?_
    obtain ⟨c174, hc174, hv⟩ := Option.bind_eq_some_iff.mp hv
    refine jr_pcall (rest := [.int v2, .ref (co g)]) C (pX11_ofOne l c5.1 (v4 &&& 15) hc174) oX11_ofOne kw_360 rfl ⟨Nat.le_of_ble_eq_true rfl, Nat.le_of_ble_eq_true rfl⟩ rfl (Nat.le_of_ble_eq_true rfl) ⟨Nat.zero_le _, Nat.zero_le _⟩ dX11_onMeasures_174 ?_
    obtain ⟨c177, hc177, hv⟩ := Option.bind_eq_some_iff.mp hv
    refine jc_callO (rest := []) C K (pX11_giveMeasure l G c16.2 v2 c174 hc177) oX11_giveMeasure kw_15 kw_318 rfl ⟨Nat.le_of_ble_eq_true rfl, Nat.le_of_ble_eq_true rfl⟩ rfl (Nat.le_of_ble_eq_true rfl) ⟨Nat.le_refl _, Nat.le_refl _⟩ dX11_onMeasures_177 ?_
    exact jc_iret C K dX11_onMeasures_180 (Option.some.inj hv) ⟨Nat.le_refl _, Nat.le_refl _⟩
  have hv := (if_neg q22_6).symm.trans hv
  by_cases q22_7 : v1 = 31
  · have hv := (if_pos q22_7).symm.trans hv
    refine jr_tableIn (off := 159) (tgt := 181) C dX11_onMeasures_22 (by rw [q22_7]; decide) (by rw [q22_7]; decide) (by rw [q22_7]; rfl) rfl ?_
    refine jr_aload_n C dX11_onMeasures_181 rfl 2 rfl ?_
    refine jr_iload_n C dX11_onMeasures_182 rfl 4 rfl ?_
    refine jr_aload_n C dX11_onMeasures_183 rfl 2 rfl ?_
    refine jr_iload_n C dX11_onMeasures_184 rfl 4 rfl ?_
    refine jr_lload C dX11_onMeasures_185 1 rfl ?_
    refine jr_iload C dX11_onMeasures_187 6 rfl ?_
    obtain ⟨c189, hc189, hv⟩ := Option.bind_eq_some_iff.mp hv
    refine jc_callO (rest := [.int v2, .ref (co g)]) C K (pX11_ofTwo l G c16.2 v2 c5.1 v4 hc189) oX11_ofTwo kw_16 kw_418 rfl ⟨Nat.le_of_ble_eq_true rfl, Nat.le_of_ble_eq_true rfl⟩ rfl (Nat.le_of_ble_eq_true rfl) ⟨Nat.le_refl _, Nat.le_refl _⟩ dX11_onMeasures_189 ?_
    obtain ⟨c192, hc192, hv⟩ := Option.bind_eq_some_iff.mp hv
    refine jc_callO (rest := []) C K (pX11_giveMeasure l G c189.2 v2 c189.1 hc192) oX11_giveMeasure kw_15 kw_318 rfl ⟨Nat.le_of_ble_eq_true rfl, Nat.le_of_ble_eq_true rfl⟩ rfl (Nat.le_of_ble_eq_true rfl) ⟨Nat.le_refl _, Nat.le_refl _⟩ dX11_onMeasures_192 ?_
    exact jc_iret C K dX11_onMeasures_195 (Option.some.inj hv) ⟨Nat.le_refl _, Nat.le_refl _⟩
  have hv := (if_neg q22_7).symm.trans hv
  by_cases q22_8 : v1 = 32
  · have hv := (if_pos q22_8).symm.trans hv
    refine jr_tableIn (off := 174) (tgt := 196) C dX11_onMeasures_22 (by rw [q22_8]; decide) (by rw [q22_8]; decide) (by rw [q22_8]; rfl) rfl ?_
    refine jr_aload_n C dX11_onMeasures_196 rfl 2 rfl ?_
    refine jr_iload_n C dX11_onMeasures_197 rfl 4 rfl ?_
    refine jr_iload C dX11_onMeasures_198 6 rfl ?_
    refine jr_iconst (v := 4) C dX11_onMeasures_200 (by decide) ?_
    refine jr_ishr C dX11_onMeasures_201 ?_
    refine jr_bipush (v := 7) C dX11_onMeasures_202 (by decide) ?_
    refine jr_iand C dX11_onMeasures_204 ?_
    refine jr_lload C dX11_onMeasures_205 1 rfl ?_
    refine jr_lload C dX11_onMeasures_207 0 rfl ?_
    refine jr_pcall (rest := [.int v2, .ref (co g)]) C (pX11_holds l ((v4 >>> (4 &&& 31)) &&& 7) c5.1 c16.1) oX11_holds kw_453 rfl ⟨Nat.le_of_ble_eq_true rfl, Nat.le_of_ble_eq_true rfl⟩ rfl (Nat.le_of_ble_eq_true rfl) ⟨Nat.zero_le _, Nat.zero_le _⟩ dX11_onMeasures_209 ?_
    refine jr_if_eq (tgt := 219) C dX11_onMeasures_212 rfl (fun q212 => ?_) (fun q212 => ?_)
    · have hv := (if_pos q212).symm.trans hv
      refine jr_lconst (v := 0) C dX11_onMeasures_219 (by decide) ?_
      exact jr_sub [] rfl (tX11_onMeasures_220 C K G  c16.2 v2 0 hv)
    · have hv := (if_neg q212).symm.trans hv
      refine jr_lconst (v := 1) C dX11_onMeasures_215 (by decide) ?_
      refine jr_goto (tgt := 220) C dX11_onMeasures_216 rfl ?_
      exact jr_sub [] rfl (tX11_onMeasures_220 C K G  c16.2 v2 1 hv)
  have hv := (if_neg q22_8).symm.trans hv
  by_cases q22_9 : v1 = 33
  · have hv := (if_pos q22_9).symm.trans hv
    refine jr_tableIn (off := 202) (tgt := 224) C dX11_onMeasures_22 (by rw [q22_9]; decide) (by rw [q22_9]; decide) (by rw [q22_9]; rfl) rfl ?_
    refine jr_aload_n C dX11_onMeasures_224 rfl 2 rfl ?_
    refine jr_iload_n C dX11_onMeasures_225 rfl 4 rfl ?_
    refine jr_lload C dX11_onMeasures_226 1 rfl ?_
    refine jr_iload C dX11_onMeasures_228 6 rfl ?_
    refine jr_bipush (v := 7) C dX11_onMeasures_230 (by decide) ?_
    refine jr_iand C dX11_onMeasures_232 ?_
    obtain ⟨c233, hc233, hv⟩ := Option.bind_eq_some_iff.mp hv
    refine jc_callO (rest := []) C K (pX11_toNumber l G c16.2 v2 c5.1 (v4 &&& 7) hc233) oX11_toNumber kw_17 kw_463 rfl ⟨Nat.le_of_ble_eq_true rfl, Nat.le_of_ble_eq_true rfl⟩ rfl (Nat.le_of_ble_eq_true rfl) ⟨Nat.le_refl _, Nat.le_refl _⟩ dX11_onMeasures_233 ?_
    exact jc_iret C K dX11_onMeasures_236 (Option.some.inj hv) ⟨Nat.le_refl _, Nat.le_refl _⟩
  have hv := (if_neg q22_9).symm.trans hv
  by_cases q22_10 : v1 = 34
  · have hv := (if_pos q22_10).symm.trans hv
    refine jr_tableIn (off := 215) (tgt := 237) C dX11_onMeasures_22 (by rw [q22_10]; decide) (by rw [q22_10]; decide) (by rw [q22_10]; rfl) rfl ?_
    refine jr_aload_n C dX11_onMeasures_237 rfl 2 rfl ?_
    refine jr_iload_n C dX11_onMeasures_238 rfl 4 rfl ?_
    refine jr_aload_n C dX11_onMeasures_239 rfl 2 rfl ?_
    refine jc_getR C K 5 (by decide) (by decide) kw_127 rfl dX11_onMeasures_240 ?_
    refine jr_iload_n C dX11_onMeasures_243 rfl 5 rfl ?_
    obtain ⟨c244, hc244, hv⟩ := Option.bind_eq_some_iff.mp hv
    refine jc_callR (rest := [.int v2, .ref (co g)]) C K (pX7_numberAt l G c16.2 v3 hc244) oX7_numberAt kw_209 kw_207 rfl ⟨Nat.le_of_ble_eq_true rfl, Nat.le_of_ble_eq_true rfl⟩ rfl (Nat.le_of_ble_eq_true rfl) ⟨Nat.le_refl _, Nat.le_refl _⟩ dX11_onMeasures_244 ?_
    refine jr_iload C dX11_onMeasures_247 6 rfl ?_
    refine jr_iconst (v := 3) C dX11_onMeasures_249 (by decide) ?_
    refine jr_iand C dX11_onMeasures_250 ?_
    refine jr_pcall (rest := [.int v2, .ref (co g)]) C (pX11_toMeasure l c244.1 (v4 &&& 3)) oX11_toMeasure kw_482 rfl ⟨Nat.le_of_ble_eq_true rfl, Nat.le_of_ble_eq_true rfl⟩ rfl (Nat.le_of_ble_eq_true rfl) ⟨Nat.zero_le _, Nat.zero_le _⟩ dX11_onMeasures_251 ?_
    obtain ⟨c254, hc254, hv⟩ := Option.bind_eq_some_iff.mp hv
    refine jc_callO (rest := []) C K (pX11_giveMeasure l G c244.2 v2 (fX11_toMeasure c244.1 (v4 &&& 3)) hc254) oX11_giveMeasure kw_15 kw_318 rfl ⟨Nat.le_of_ble_eq_true rfl, Nat.le_of_ble_eq_true rfl⟩ rfl (Nat.le_of_ble_eq_true rfl) ⟨Nat.le_refl _, Nat.le_refl _⟩ dX11_onMeasures_254 ?_
    exact jc_iret C K dX11_onMeasures_257 (Option.some.inj hv) ⟨Nat.le_refl _, Nat.le_refl _⟩
  have hv := (if_neg q22_10).symm.trans hv
  refine jr_tableOut (tgt := 258) C dX11_onMeasures_22 (by have := sw_ne (a := 24) q22_0 (by decide); have := sw_ne (a := 25) q22_1 (by decide); have := sw_ne (a := 26) q22_2 (by decide); have := sw_ne (a := 27) q22_3 (by decide); have := sw_ne (a := 28) q22_4 (by decide); have := sw_ne (a := 29) q22_5 (by decide); have := sw_ne (a := 30) q22_6 (by decide); have := sw_ne (a := 31) q22_7 (by decide); have := sw_ne (a := 32) q22_8 (by decide); have := sw_ne (a := 33) q22_9 (by decide); have := sw_ne (a := 34) q22_10 (by decide); omega) rfl ?_
  refine jr_iconst (v := 2) C dX11_onMeasures_258 (by decide) ?_
  exact jc_iret C K dX11_onMeasures_259 (Option.some.inj hv) ⟨Nat.le_refl _, Nat.le_refl _⟩
theorem pX11_onMeasures (l : Launch) {g : CG} (G : cSep g)   (S : CS) (v1 : Int32) (v2 : Int32) (v3 : Int32) (v4 : Int32) {w : Int32 × CS} (hw : fX11_onMeasures S v1 v2 v3 v4 = some w)  : cC l yX11_onMeasures cX11_onMeasures 9 (some .int) 7 0 0 g [.ref (co g), .int v1, .int v2, .int v3, .int v4] S (some (.int w.1)) w.2 := cC_of (lv := [(0, .ref (co g)), (1, .int v1), (2, .int v2), (3, .int v3), (4, .int v4)]) (by decide +kernel) (Nat.le_of_ble_eq_true rfl) rfl (fun C K => tX11_onMeasures_0 C K G  S v1 v2 v3 v4 hw)
/-! RobotCell.tellLength(ILRobotCell$Thing;)I -/
def fX11_tellLength (S : CS) (v1 : Int32) (v2 : Option Nat) : Option (Int32 × CS) :=
  onul v2 (some (1, S)) (fun _ => Option.bind (cInst S v2 [5] [0, 1, 2, 3, 4, 6]) (fun c7 => if c7 = 0 then some (2, S) else (if cCast S v2 [5] = true then (if isKx S v2 [5] = true then (Option.bind (fX8_length S v2) (fun c21 => Option.bind (fX11_giveNumber c21.2 v1 c21.1.toInt64) (fun c25 => some (c25.1, c25.2)))) else none) else none)))
theorem oX11_tellLength : ok_c yX11_tellLength cX11_tellLength 4 (some .int) 2 (.instanceMethod yX11_tellLength) := ⟨kw_561, ⟨kw_560, rfl⟩, kw_71, by decide +kernel⟩
set_option maxRecDepth 100000 in
set_option maxHeartbeats 1000000 in
theorem tX11_tellLength_0 {p : Program} {l : Launch} {e : Env} {s : State} {m : MethodId} {args : Array Value} {below : List Frame} {meth : Method} {c : Code} {g : CG} {S0 : CS} (C : CC p s m args meth c yX11_tellLength cX11_tellLength 4 (some .int)) (K : cK g s) (G : cSep g)  (S : CS) (v1 : Int32) (v2 : Option Nat) {w : Int32 × CS} (hv : fX11_tellLength S v1 v2 = some w) : CJ p l e s m args below meth c 4 2 0 0 g S0 (some (.int w.1)) w.2 0 [(0, .ref (co g)), (1, .int v1), (2, va_rf v2)] [] S 0 0 := by
  unfold fX11_tellLength at hv
  refine jr_naload_n C dX11_tellLength_0 rfl 2 rfl ?_
  refine jr_ifnonnull (tgt := 6) C dX11_tellLength_1 rfl (fun a1 q1 => ?_) (fun q1 => ?_)
  · have hv := (onul_s q1).symm.trans hv
    refine jr_naload_n C dX11_tellLength_6 rfl 2 rfl ?_
    obtain ⟨c7, hc7, hv⟩ := Option.bind_eq_some_iff.mp hv
    refine jc_inst C K hc7 y_Row n_Row kw_508 dX11_tellLength_7 ?_
    refine jr_if_eq (tgt := 31) C dX11_tellLength_10 rfl (fun q10 => ?_) (fun q10 => ?_)
    · have hv := (if_pos q10).symm.trans hv
      refine jr_iconst (v := 2) C dX11_tellLength_31 (by decide) ?_
      exact jc_iret C K dX11_tellLength_32 (Option.some.inj hv) ⟨Nat.le_refl _, Nat.le_refl _⟩
    · have hv := (if_neg q10).symm.trans hv
      refine jr_naload_n C dX11_tellLength_13 rfl 2 rfl ?_
      by_cases z14 : cCast S v2 [5] = true
      case neg => exact op_none ((if_neg z14).symm.trans hv)
      have hv := (if_pos z14).symm.trans hv
      refine jc_cast C K z14 y_Row kw_508 dX11_tellLength_14 ?_
      refine jr_nastore_n (i := 3) (lv' := [(3, va_rf v2), (0, .ref (co g)), (1, .int v1), (2, va_rf v2)]) C dX11_tellLength_17 rfl (by decide) (by simp [cat_rf, cat_i, cat_l, cat_r]) ?_
      refine jr_aload_n C dX11_tellLength_18 rfl 1 rfl ?_
      refine jr_iload_n C dX11_tellLength_19 rfl 2 rfl ?_
      refine jr_naload_n C dX11_tellLength_20 rfl 0 rfl ?_
      by_cases z21_5 : isKx S v2 [5] = true
      case pos =>
        have hv := (if_pos z21_5).symm.trans hv
        obtain ⟨c21, hc21, hv⟩ := Option.bind_eq_some_iff.mp hv
        refine jc_callT (ci := 5) (rest := [.int v1, .ref (co g)]) C K (pX8_length l G S v2  hc21) z21_5 rfl oX8_length kw_564 kw_562 rfl ⟨Nat.le_of_ble_eq_true rfl, Nat.le_of_ble_eq_true rfl⟩ rfl (Nat.le_of_ble_eq_true rfl) ⟨Nat.le_refl _, Nat.le_refl _⟩ dX11_tellLength_21 ?_
        refine jr_i2l C dX11_tellLength_24 ?_
        obtain ⟨c25, hc25, hv⟩ := Option.bind_eq_some_iff.mp hv
        refine jc_callO (rest := []) C K (pX11_giveNumber l G c21.2 v1 c21.1.toInt64 hc25) oX11_giveNumber kw_8 kw_234 rfl ⟨Nat.le_of_ble_eq_true rfl, Nat.le_of_ble_eq_true rfl⟩ rfl (Nat.le_of_ble_eq_true rfl) ⟨Nat.le_refl _, Nat.le_refl _⟩ dX11_tellLength_25 ?_
        refine jr_goto (tgt := 32) C dX11_tellLength_28 rfl ?_
        exact jc_iret C K dX11_tellLength_32 (Option.some.inj hv) ⟨Nat.le_refl _, Nat.le_refl _⟩
      have hv := (if_neg z21_5).symm.trans hv
      exact op_none hv
  · have hv := (onul_n q1).symm.trans hv
    refine jr_iconst (v := 1) C dX11_tellLength_4 (by decide) ?_
    exact jc_iret C K dX11_tellLength_5 (Option.some.inj hv) ⟨Nat.le_refl _, Nat.le_refl _⟩
theorem pX11_tellLength (l : Launch) {g : CG} (G : cSep g)   (S : CS) (v1 : Int32) (v2 : Option Nat) {w : Int32 × CS} (hw : fX11_tellLength S v1 v2 = some w)  : cC l yX11_tellLength cX11_tellLength 4 (some .int) 2 0 0 g [.ref (co g), .int v1, va_rf v2] S (some (.int w.1)) w.2 := cC_of (lv := [(0, .ref (co g)), (1, .int v1), (2, va_rf v2)]) (by decide +kernel) (by simp [lg_sl, cat_rf, cat_i, cat_l, cat_r]) (by simp [lv_args, cat_rf, cat_i, cat_l, cat_r]) (fun C K => tX11_tellLength_0 C K G  S v1 v2 hw)
/-! RobotCell.copy(LRobotCell$Thing;LRobotCell$Thing;I)I -/
def fX11_copy_8 (S : CS) : Option (Int32 × CS) :=
  some (1, S)
def fX11_copy_46 (S : CS) : Option (Int32 × CS) :=
  some (5, S)
def fX11_copy_109 (S : CS) : Option (Int32 × CS) :=
  some (3, S)
def fX11_copy_85 (S : CS) (v4 : Option Nat) (v5 : Option Nat) (v6 : Int32) (v7 : Int32) (v8 : Int32) : Option (Int32 × CS) :=
  if isKx S v4 [5] = true then (Option.bind (fX8_hasRange S v4 v6 v8) (fun c91 => if c91.1 = 0 then fX11_copy_109 c91.2 else (if isKx c91.2 v5 [5] = true then (Option.bind (fX8_hasRange c91.2 v5 v7 v8) (fun c103 => if c103.1 = 0 then fX11_copy_109 c103.2 else (if isKx c103.2 v5 [5] = true then (Option.bind (fX8_takeFrom c103.2 v5 v4 v6 v7 v8) (fun c121 => if c121.1 = 0 then some (5, c121.2) else some (0, c121.2))) else none))) else none))) else none
def fX11_copy_72 (S : CS) (v3 : Int32) (v4 : Option Nat) (v5 : Option Nat) (v6 : Int32) (v7 : Int32) : Option (Int32 × CS) :=
  Option.bind (fX7_numberAt S (v3 + 2)) (fun c79 => fX11_copy_85 c79.2 v4 v5 v6 v7 c79.1.toInt32)
def fX11_copy_59 (S : CS) (v3 : Int32) (v4 : Option Nat) (v5 : Option Nat) (v6 : Int32) : Option (Int32 × CS) :=
  Option.bind (fX7_numberAt S (v3 + 1)) (fun c66 => fX11_copy_72 c66.2 v3 v4 v5 v6 c66.1.toInt32)
def fX11_copy (S : CS) (v1 : Option Nat) (v2 : Option Nat) (v3 : Int32) : Option (Int32 × CS) :=
  onul v1 (fX11_copy_8 S) (fun _ => onul v2 (fX11_copy_8 S) (fun _ => Option.bind (cInst S v1 [5] [0, 1, 2, 3, 4, 6]) (fun c11 => if c11 = 0 then fX11_copy_46 S else (if cCast S v1 [5] = true then (Option.bind (cInst S v2 [5] [0, 1, 2, 3, 4, 6]) (fun c24 => if c24 = 0 then fX11_copy_46 S else (if cCast S v2 [5] = true then (if isKx S v2 [5] = true then (Option.bind (fX8_isAlike S v2 v1) (fun c40 => if c40.1 = 0 then fX11_copy_46 c40.2 else (Option.bind (fX7_numberAt c40.2 v3) (fun c53 => fX11_copy_59 c53.2 v3 v1 v2 c53.1.toInt32)))) else none) else none))) else none))))
theorem oX11_copy : ok_c yX11_copy cX11_copy 9 (some .int) 3 (.instanceMethod yX11_copy) := ⟨kw_569, ⟨kw_568, rfl⟩, kw_71, by decide +kernel⟩
set_option maxRecDepth 100000 in
set_option maxHeartbeats 1000000 in
theorem tX11_copy_8 {p : Program} {l : Launch} {e : Env} {s : State} {m : MethodId} {args : Array Value} {below : List Frame} {meth : Method} {c : Code} {g : CG} {S0 : CS} (C : CC p s m args meth c yX11_copy cX11_copy 9 (some .int)) (K : cK g s) (G : cSep g)  (S : CS) {w : Int32 × CS} (hv : fX11_copy_8 S = some w) : CJ p l e s m args below meth c 9 3 0 0 g S0 (some (.int w.1)) w.2 8 [] [] S 0 0 := by
  unfold fX11_copy_8 at hv
  refine jr_iconst (v := 1) C dX11_copy_8 (by decide) ?_
  exact jc_iret C K dX11_copy_9 (Option.some.inj hv) ⟨Nat.le_refl _, Nat.le_refl _⟩
set_option maxRecDepth 100000 in
set_option maxHeartbeats 1000000 in
theorem tX11_copy_46 {p : Program} {l : Launch} {e : Env} {s : State} {m : MethodId} {args : Array Value} {below : List Frame} {meth : Method} {c : Code} {g : CG} {S0 : CS} (C : CC p s m args meth c yX11_copy cX11_copy 9 (some .int)) (K : cK g s) (G : cSep g)  (S : CS) {w : Int32 × CS} (hv : fX11_copy_46 S = some w) : CJ p l e s m args below meth c 9 3 0 0 g S0 (some (.int w.1)) w.2 46 [] [] S 0 0 := by
  unfold fX11_copy_46 at hv
  refine jr_iconst (v := 5) C dX11_copy_46 (by decide) ?_
  exact jc_iret C K dX11_copy_47 (Option.some.inj hv) ⟨Nat.le_refl _, Nat.le_refl _⟩
set_option maxRecDepth 100000 in
set_option maxHeartbeats 1000000 in
theorem tX11_copy_109 {p : Program} {l : Launch} {e : Env} {s : State} {m : MethodId} {args : Array Value} {below : List Frame} {meth : Method} {c : Code} {g : CG} {S0 : CS} (C : CC p s m args meth c yX11_copy cX11_copy 9 (some .int)) (K : cK g s) (G : cSep g)  (S : CS) {w : Int32 × CS} (hv : fX11_copy_109 S = some w) : CJ p l e s m args below meth c 9 3 0 0 g S0 (some (.int w.1)) w.2 109 [] [] S 0 0 := by
  unfold fX11_copy_109 at hv
  refine jr_iconst (v := 3) C dX11_copy_109 (by decide) ?_
  exact jc_iret C K dX11_copy_110 (Option.some.inj hv) ⟨Nat.le_refl _, Nat.le_refl _⟩
set_option maxRecDepth 100000 in
set_option maxHeartbeats 1000000 in
theorem tX11_copy_85 {p : Program} {l : Launch} {e : Env} {s : State} {m : MethodId} {args : Array Value} {below : List Frame} {meth : Method} {c : Code} {g : CG} {S0 : CS} (C : CC p s m args meth c yX11_copy cX11_copy 9 (some .int)) (K : cK g s) (G : cSep g)  (S : CS) (v4 : Option Nat) (v5 : Option Nat) (v6 : Int32) (v7 : Int32) (v8 : Int32) {w : Int32 × CS} (hv : fX11_copy_85 S v4 v5 v6 v7 v8 = some w) : CJ p l e s m args below meth c 9 3 0 0 g S0 (some (.int w.1)) w.2 85 [(4, va_rf v4), (5, va_rf v5), (6, .int v6), (7, .int v7), (8, .int v8)] [] S 0 0 := by
  unfold fX11_copy_85 at hv
  refine jr_naload C dX11_copy_85 0 rfl ?_
  refine jr_iload C dX11_copy_87 2 rfl ?_
  refine jr_iload C dX11_copy_89 4 rfl ?_
  by_cases z91_5 : isKx S v4 [5] = true
  case pos =>
    have hv := (if_pos z91_5).symm.trans hv
    obtain ⟨c91, hc91, hv⟩ := Option.bind_eq_some_iff.mp hv
    refine jc_callT (ci := 5) (rest := []) C K (pX8_hasRange l G S v4 v6 v8 hc91) z91_5 rfl oX8_hasRange kw_580 kw_578 rfl ⟨Nat.le_of_ble_eq_true rfl, Nat.le_of_ble_eq_true rfl⟩ rfl (Nat.le_of_ble_eq_true rfl) ⟨Nat.le_refl _, Nat.le_refl _⟩ dX11_copy_91 ?_
    refine jr_if_eq (tgt := 109) C dX11_copy_94 rfl (fun q94 => ?_) (fun q94 => ?_)
    · have hv := (if_pos q94).symm.trans hv
      exact jr_sub [] rfl (tX11_copy_109 C K G  c91.2 hv)
    · have hv := (if_neg q94).symm.trans hv
      refine jr_naload C dX11_copy_97 1 rfl ?_
      refine jr_iload C dX11_copy_99 3 rfl ?_
      refine jr_iload C dX11_copy_101 4 rfl ?_
      by_cases z103_5 : isKx c91.2 v5 [5] = true
      case pos =>
        have hv := (if_pos z103_5).symm.trans hv
        obtain ⟨c103, hc103, hv⟩ := Option.bind_eq_some_iff.mp hv
        refine jc_callT (ci := 5) (rest := []) C K (pX8_hasRange l G c91.2 v5 v7 v8 hc103) z103_5 rfl oX8_hasRange kw_580 kw_578 rfl ⟨Nat.le_of_ble_eq_true rfl, Nat.le_of_ble_eq_true rfl⟩ rfl (Nat.le_of_ble_eq_true rfl) ⟨Nat.le_refl _, Nat.le_refl _⟩ dX11_copy_103 ?_
        refine jr_if_ne (tgt := 111) C dX11_copy_106 rfl (fun q106 => ?_) (fun q106 => ?_)
        · have hv := (if_neg q106).symm.trans hv
          refine jr_naload C dX11_copy_111 1 rfl ?_
          refine jr_naload C dX11_copy_113 0 rfl ?_
          refine jr_iload C dX11_copy_115 2 rfl ?_
          refine jr_iload C dX11_copy_117 3 rfl ?_
          refine jr_iload C dX11_copy_119 4 rfl ?_
          by_cases z121_5 : isKx c103.2 v5 [5] = true
          case pos =>
            have hv := (if_pos z121_5).symm.trans hv
            obtain ⟨c121, hc121, hv⟩ := Option.bind_eq_some_iff.mp hv
            refine jc_callT (ci := 5) (rest := []) C K (pX8_takeFrom l G c103.2 v5 v4 v6 v7 v8 hc121) z121_5 rfl oX8_takeFrom kw_584 kw_582 rfl ⟨Nat.le_of_ble_eq_true rfl, Nat.le_of_ble_eq_true rfl⟩ rfl (Nat.le_of_ble_eq_true rfl) ⟨Nat.le_refl _, Nat.le_refl _⟩ dX11_copy_121 ?_
            refine jr_if_eq (tgt := 131) C dX11_copy_124 rfl (fun q124 => ?_) (fun q124 => ?_)
            · have hv := (if_pos q124).symm.trans hv
              refine jr_iconst (v := 5) C dX11_copy_131 (by decide) ?_
              exact jc_iret C K dX11_copy_132 (Option.some.inj hv) ⟨Nat.le_refl _, Nat.le_refl _⟩
            · have hv := (if_neg q124).symm.trans hv
              refine jr_iconst (v := 0) C dX11_copy_127 (by decide) ?_
              refine jr_goto (tgt := 132) C dX11_copy_128 rfl ?_
              exact jc_iret C K dX11_copy_132 (Option.some.inj hv) ⟨Nat.le_refl _, Nat.le_refl _⟩
          have hv := (if_neg z121_5).symm.trans hv
          exact op_none hv
        · have hv := (if_pos q106).symm.trans hv
          exact jr_sub [] rfl (tX11_copy_109 C K G  c103.2 hv)
      have hv := (if_neg z103_5).symm.trans hv
      exact op_none hv
  have hv := (if_neg z91_5).symm.trans hv
  exact op_none hv
set_option maxRecDepth 100000 in
set_option maxHeartbeats 1000000 in
theorem tX11_copy_72 {p : Program} {l : Launch} {e : Env} {s : State} {m : MethodId} {args : Array Value} {below : List Frame} {meth : Method} {c : Code} {g : CG} {S0 : CS} (C : CC p s m args meth c yX11_copy cX11_copy 9 (some .int)) (K : cK g s) (G : cSep g)  (S : CS) (v3 : Int32) (v4 : Option Nat) (v5 : Option Nat) (v6 : Int32) (v7 : Int32) {w : Int32 × CS} (hv : fX11_copy_72 S v3 v4 v5 v6 v7 = some w) : CJ p l e s m args below meth c 9 3 0 0 g S0 (some (.int w.1)) w.2 72 [(0, .ref (co g)), (3, .int v3), (4, va_rf v4), (5, va_rf v5), (6, .int v6), (7, .int v7)] [] S 0 0 := by
  unfold fX11_copy_72 at hv
  refine jr_aload_n C dX11_copy_72 rfl 0 rfl ?_
  refine jc_getR C K 5 (by decide) (by decide) kw_127 rfl dX11_copy_73 ?_
  refine jr_iload_n C dX11_copy_76 rfl 1 rfl ?_
  refine jr_iconst (v := 2) C dX11_copy_77 (by decide) ?_
  refine jr_iadd C dX11_copy_78 ?_
  obtain ⟨c79, hc79, hv⟩ := Option.bind_eq_some_iff.mp hv
  refine jc_callR (rest := []) C K (pX7_numberAt l G S (v3 + 2) hc79) oX7_numberAt kw_209 kw_207 rfl ⟨Nat.le_of_ble_eq_true rfl, Nat.le_of_ble_eq_true rfl⟩ rfl (Nat.le_of_ble_eq_true rfl) ⟨Nat.le_refl _, Nat.le_refl _⟩ dX11_copy_79 ?_
  refine jr_l2i C dX11_copy_82 ?_
  refine jr_istore (lv' := [(8, .int c79.1.toInt32), (0, .ref (co g)), (3, .int v3), (4, va_rf v4), (5, va_rf v5), (6, .int v6), (7, .int v7)]) C dX11_copy_83 (by decide) rfl ?_
  exact jr_sub [3, 4, 5, 6, 0] rfl (tX11_copy_85 C K G  c79.2 v4 v5 v6 v7 c79.1.toInt32 hv)
set_option maxRecDepth 100000 in
set_option maxHeartbeats 1000000 in
theorem tX11_copy_59 {p : Program} {l : Launch} {e : Env} {s : State} {m : MethodId} {args : Array Value} {below : List Frame} {meth : Method} {c : Code} {g : CG} {S0 : CS} (C : CC p s m args meth c yX11_copy cX11_copy 9 (some .int)) (K : cK g s) (G : cSep g)  (S : CS) (v3 : Int32) (v4 : Option Nat) (v5 : Option Nat) (v6 : Int32) {w : Int32 × CS} (hv : fX11_copy_59 S v3 v4 v5 v6 = some w) : CJ p l e s m args below meth c 9 3 0 0 g S0 (some (.int w.1)) w.2 59 [(0, .ref (co g)), (3, .int v3), (4, va_rf v4), (5, va_rf v5), (6, .int v6)] [] S 0 0 := by
  unfold fX11_copy_59 at hv
  refine jr_aload_n C dX11_copy_59 rfl 0 rfl ?_
  refine jc_getR C K 5 (by decide) (by decide) kw_127 rfl dX11_copy_60 ?_
  refine jr_iload_n C dX11_copy_63 rfl 1 rfl ?_
  refine jr_iconst (v := 1) C dX11_copy_64 (by decide) ?_
  refine jr_iadd C dX11_copy_65 ?_
  obtain ⟨c66, hc66, hv⟩ := Option.bind_eq_some_iff.mp hv
  refine jc_callR (rest := []) C K (pX7_numberAt l G S (v3 + 1) hc66) oX7_numberAt kw_209 kw_207 rfl ⟨Nat.le_of_ble_eq_true rfl, Nat.le_of_ble_eq_true rfl⟩ rfl (Nat.le_of_ble_eq_true rfl) ⟨Nat.le_refl _, Nat.le_refl _⟩ dX11_copy_66 ?_
  refine jr_l2i C dX11_copy_69 ?_
  refine jr_istore (lv' := [(7, .int c66.1.toInt32), (0, .ref (co g)), (3, .int v3), (4, va_rf v4), (5, va_rf v5), (6, .int v6)]) C dX11_copy_70 (by decide) rfl ?_
  exact jr_sub [1, 2, 3, 4, 5, 0] rfl (tX11_copy_72 C K G  c66.2 v3 v4 v5 v6 c66.1.toInt32 hv)
set_option maxRecDepth 100000 in
set_option maxHeartbeats 1000000 in
theorem tX11_copy_0 {p : Program} {l : Launch} {e : Env} {s : State} {m : MethodId} {args : Array Value} {below : List Frame} {meth : Method} {c : Code} {g : CG} {S0 : CS} (C : CC p s m args meth c yX11_copy cX11_copy 9 (some .int)) (K : cK g s) (G : cSep g)  (S : CS) (v1 : Option Nat) (v2 : Option Nat) (v3 : Int32) {w : Int32 × CS} (hv : fX11_copy S v1 v2 v3 = some w) : CJ p l e s m args below meth c 9 3 0 0 g S0 (some (.int w.1)) w.2 0 [(0, .ref (co g)), (1, va_rf v1), (2, va_rf v2), (3, .int v3)] [] S 0 0 := by
  unfold fX11_copy at hv
  refine jr_naload_n C dX11_copy_0 rfl 1 rfl ?_
  refine jr_ifnull (tgt := 8) C dX11_copy_1 rfl (fun q1 => ?_) (fun a1 q1 => ?_)
  · have hv := (onul_n q1).symm.trans hv
    exact jr_sub [] rfl (tX11_copy_8 C K G  S hv)
  · have hv := (onul_s q1).symm.trans hv
    refine jr_naload_n C dX11_copy_4 rfl 2 rfl ?_
    refine jr_ifnonnull (tgt := 10) C dX11_copy_5 rfl (fun a5 q5 => ?_) (fun q5 => ?_)
    · have hv := (onul_s q5).symm.trans hv
      refine jr_naload_n C dX11_copy_10 rfl 1 rfl ?_
      obtain ⟨c11, hc11, hv⟩ := Option.bind_eq_some_iff.mp hv
      refine jc_inst C K hc11 y_Row n_Row kw_508 dX11_copy_11 ?_
      refine jr_if_eq (tgt := 46) C dX11_copy_14 rfl (fun q14 => ?_) (fun q14 => ?_)
      · have hv := (if_pos q14).symm.trans hv
        exact jr_sub [] rfl (tX11_copy_46 C K G  S hv)
      · have hv := (if_neg q14).symm.trans hv
        refine jr_naload_n C dX11_copy_17 rfl 1 rfl ?_
        by_cases z18 : cCast S v1 [5] = true
        case neg => exact op_none ((if_neg z18).symm.trans hv)
        have hv := (if_pos z18).symm.trans hv
        refine jc_cast C K z18 y_Row kw_508 dX11_copy_18 ?_
        refine jr_nastore (i := 4) (lv' := [(4, va_rf v1), (0, .ref (co g)), (1, va_rf v1), (2, va_rf v2), (3, .int v3)]) C dX11_copy_21 (by decide) rfl ?_
        refine jr_naload_n C dX11_copy_23 rfl 3 rfl ?_
        obtain ⟨c24, hc24, hv⟩ := Option.bind_eq_some_iff.mp hv
        refine jc_inst C K hc24 y_Row n_Row kw_508 dX11_copy_24 ?_
        refine jr_if_eq (tgt := 46) C dX11_copy_27 rfl (fun q27 => ?_) (fun q27 => ?_)
        · have hv := (if_pos q27).symm.trans hv
          exact jr_sub [] rfl (tX11_copy_46 C K G  S hv)
        · have hv := (if_neg q27).symm.trans hv
          refine jr_naload_n C dX11_copy_30 rfl 3 rfl ?_
          by_cases z31 : cCast S v2 [5] = true
          case neg => exact op_none ((if_neg z31).symm.trans hv)
          have hv := (if_pos z31).symm.trans hv
          refine jc_cast C K z31 y_Row kw_508 dX11_copy_31 ?_
          refine jr_nastore (i := 5) (lv' := [(5, va_rf v2), (4, va_rf v1), (0, .ref (co g)), (1, va_rf v1), (2, va_rf v2), (3, .int v3)]) C dX11_copy_34 (by decide) (by simp [cat_rf, cat_i, cat_l, cat_r]) ?_
          refine jr_naload C dX11_copy_36 0 rfl ?_
          refine jr_naload C dX11_copy_38 1 rfl ?_
          by_cases z40_5 : isKx S v2 [5] = true
          case pos =>
            have hv := (if_pos z40_5).symm.trans hv
            obtain ⟨c40, hc40, hv⟩ := Option.bind_eq_some_iff.mp hv
            refine jc_callT (ci := 5) (rest := []) C K (pX8_isAlike l G S v2 v1 hc40) z40_5 rfl oX8_isAlike kw_572 kw_570 rfl ⟨Nat.le_of_ble_eq_true rfl, Nat.le_of_ble_eq_true rfl⟩ rfl (Nat.le_of_ble_eq_true rfl) ⟨Nat.le_refl _, Nat.le_refl _⟩ dX11_copy_40 ?_
            refine jr_if_ne (tgt := 48) C dX11_copy_43 rfl (fun q43 => ?_) (fun q43 => ?_)
            · have hv := (if_neg q43).symm.trans hv
              refine jr_aload_n C dX11_copy_48 rfl 2 rfl ?_
              refine jc_getR C K 5 (by decide) (by decide) kw_127 rfl dX11_copy_49 ?_
              refine jr_iload_n C dX11_copy_52 rfl 5 rfl ?_
              obtain ⟨c53, hc53, hv⟩ := Option.bind_eq_some_iff.mp hv
              refine jc_callR (rest := []) C K (pX7_numberAt l G c40.2 v3 hc53) oX7_numberAt kw_209 kw_207 rfl ⟨Nat.le_of_ble_eq_true rfl, Nat.le_of_ble_eq_true rfl⟩ rfl (Nat.le_of_ble_eq_true rfl) ⟨Nat.le_refl _, Nat.le_refl _⟩ dX11_copy_53 ?_
              refine jr_l2i C dX11_copy_56 ?_
              refine jr_istore (i := 6) (lv' := [(6, .int c53.1.toInt32), (5, va_rf v2), (4, va_rf v1), (0, .ref (co g)), (1, va_rf v1), (2, va_rf v2), (3, .int v3)]) C dX11_copy_57 (by decide) (by simp [cat_rf, cat_i, cat_l, cat_r]) ?_
              exact jr_sub [3, 6, 2, 1, 0] rfl (tX11_copy_59 C K G  c53.2 v3 v1 v2 c53.1.toInt32 hv)
            · have hv := (if_pos q43).symm.trans hv
              exact jr_sub [] rfl (tX11_copy_46 C K G  c40.2 hv)
          have hv := (if_neg z40_5).symm.trans hv
          exact op_none hv
    · have hv := (onul_n q5).symm.trans hv
      exact jr_sub [] rfl (tX11_copy_8 C K G  S hv)
theorem pX11_copy (l : Launch) {g : CG} (G : cSep g)   (S : CS) (v1 : Option Nat) (v2 : Option Nat) (v3 : Int32) {w : Int32 × CS} (hw : fX11_copy S v1 v2 v3 = some w)  : cC l yX11_copy cX11_copy 9 (some .int) 3 0 0 g [.ref (co g), va_rf v1, va_rf v2, .int v3] S (some (.int w.1)) w.2 := cC_of (lv := [(0, .ref (co g)), (1, va_rf v1), (2, va_rf v2), (3, .int v3)]) (by decide +kernel) (by simp [lg_sl, cat_rf, cat_i, cat_l, cat_r]) (by simp [lv_args, cat_rf, cat_i, cat_l, cat_r]) (fun C K => tX11_copy_0 C K G  S v1 v2 v3 hw)
/-! RobotCell.load(IIII)I -/
def fX11_load_49 (S : CS) : Option (Int32 × CS) :=
  some (2, S)
def fX11_load_63 (S : CS) (v1 : Int32) (v2 : Int32) (v6 : Option Nat) (v7 : Int32) : Option (Int32 × CS) :=
  if isKx S v6 [5] = true then (Option.bind (fX8_has S v6 v7) (fun c67 => if c67.1 = 0 then some (3, c67.2) else (if isKx c67.2 v6 [5] = true then (Option.bind (fX8_holdsThings c67.2 v6) (fun c77 => if c77.1 = 0 then (if v1 = 6 then (if isKx c77.2 v6 [5] = true then (Option.bind (fX8_valueAt c77.2 v6 v7) (fun c108 => Option.bind (fX11_giveMeasure c108.2 v2 (fX2_ofBits32 c108.1.toInt32)) (fun c115 => some (c115.1, c115.2)))) else none) else (if v1 = 7 then (if isKx c77.2 v6 [5] = true then (Option.bind (fX8_valueAt c77.2 v6 v7) (fun c131 => Option.bind (fX11_giveMeasure c131.2 v2 c131.1) (fun c134 => some (c134.1, c134.2)))) else none) else (if isKx c77.2 v6 [5] = true then (Option.bind (fX8_valueAt c77.2 v6 v7) (fun c146 => Option.bind (fX11_giveNumber c146.2 v2 c146.1) (fun c149 => some (c149.1, c149.2)))) else none))) else (if isKx c77.2 v6 [5] = true then (Option.bind (fX8_partAt c77.2 v6 v7) (fun c89 => Option.bind (fX11_giveThing c89.2 v2 c89.1) (fun c92 => some (c92.1, c92.2)))) else none))) else none))) else none
def fX11_load_18 (S : CS) (v1 : Int32) (v2 : Int32) (v4 : Int32) (v5 : Option Nat) : Option (Int32 × CS) :=
  onul v5 (some (1, S)) (fun _ => Option.bind (cInst S v5 [5] [0, 1, 2, 3, 4, 6]) (fun c27 => if c27 = 0 then fX11_load_49 S else (if cCast S v5 [5] = true then (if isKx S v5 [5] = true then (Option.bind (fX8_passesFor S v5 v1) (fun c43 => if c43.1 = 0 then fX11_load_49 c43.2 else (Option.bind (fX7_numberAt c43.2 v4) (fun c57 => fX11_load_63 c57.2 v1 v2 v5 c57.1.toInt32)))) else none) else none)))
def fX11_load (S : CS) (v1 : Int32) (v2 : Int32) (v3 : Int32) (v4 : Int32) : Option (Int32 × CS) :=
  if v1 ≤ 10 then (Option.bind (fX7_thingAt S v3) (fun c13 => fX11_load_18 c13.2 v1 v2 v4 c13.1)) else some (2, S)
theorem oX11_load : ok_c yX11_load cX11_load 8 (some .int) 4 (.instanceMethod yX11_load) := ⟨kw_630, ⟨kw_629, rfl⟩, kw_71, by decide +kernel⟩
set_option maxRecDepth 100000 in
set_option maxHeartbeats 1000000 in
theorem tX11_load_49 {p : Program} {l : Launch} {e : Env} {s : State} {m : MethodId} {args : Array Value} {below : List Frame} {meth : Method} {c : Code} {g : CG} {S0 : CS} (C : CC p s m args meth c yX11_load cX11_load 8 (some .int)) (K : cK g s) (G : cSep g)  (S : CS) {w : Int32 × CS} (hv : fX11_load_49 S = some w) : CJ p l e s m args below meth c 8 4 0 0 g S0 (some (.int w.1)) w.2 49 [] [] S 0 0 := by
  unfold fX11_load_49 at hv
  refine jr_iconst (v := 2) C dX11_load_49 (by decide) ?_
  exact jc_iret C K dX11_load_50 (Option.some.inj hv) ⟨Nat.le_refl _, Nat.le_refl _⟩
set_option maxRecDepth 100000 in
set_option maxHeartbeats 1000000 in
theorem tX11_load_63 {p : Program} {l : Launch} {e : Env} {s : State} {m : MethodId} {args : Array Value} {below : List Frame} {meth : Method} {c : Code} {g : CG} {S0 : CS} (C : CC p s m args meth c yX11_load cX11_load 8 (some .int)) (K : cK g s) (G : cSep g)  (S : CS) (v1 : Int32) (v2 : Int32) (v6 : Option Nat) (v7 : Int32) {w : Int32 × CS} (hv : fX11_load_63 S v1 v2 v6 v7 = some w) : CJ p l e s m args below meth c 8 4 0 0 g S0 (some (.int w.1)) w.2 63 [(0, .ref (co g)), (1, .int v1), (2, .int v2), (6, va_rf v6), (7, .int v7)] [] S 0 0 := by
  unfold fX11_load_63 at hv
  refine jr_naload C dX11_load_63 3 rfl ?_
  refine jr_iload C dX11_load_65 4 rfl ?_
  by_cases z67_5 : isKx S v6 [5] = true
  case pos =>
    have hv := (if_pos z67_5).symm.trans hv
    obtain ⟨c67, hc67, hv⟩ := Option.bind_eq_some_iff.mp hv
    refine jc_callT (ci := 5) (rest := []) C K (pX8_has l G S v6 v7 hc67) z67_5 rfl oX8_has kw_637 kw_635 rfl ⟨Nat.le_of_ble_eq_true rfl, Nat.le_of_ble_eq_true rfl⟩ rfl (Nat.le_of_ble_eq_true rfl) ⟨Nat.le_refl _, Nat.le_refl _⟩ dX11_load_67 ?_
    refine jr_if_ne (tgt := 75) C dX11_load_70 rfl (fun q70 => ?_) (fun q70 => ?_)
    · have hv := (if_neg q70).symm.trans hv
      refine jr_naload C dX11_load_75 3 rfl ?_
      by_cases z77_5 : isKx c67.2 v6 [5] = true
      case pos =>
        have hv := (if_pos z77_5).symm.trans hv
        obtain ⟨c77, hc77, hv⟩ := Option.bind_eq_some_iff.mp hv
        refine jc_callT (ci := 5) (rest := []) C K (pX8_holdsThings l G c67.2 v6  hc77) z77_5 rfl oX8_holdsThings kw_576 kw_639 rfl ⟨Nat.le_of_ble_eq_true rfl, Nat.le_of_ble_eq_true rfl⟩ rfl (Nat.le_of_ble_eq_true rfl) ⟨Nat.le_refl _, Nat.le_refl _⟩ dX11_load_77 ?_
        refine jr_if_eq (tgt := 96) C dX11_load_80 rfl (fun q80 => ?_) (fun q80 => ?_)
        · have hv := (if_pos q80).symm.trans hv
          refine jr_iload_n C dX11_load_96 rfl 1 rfl ?_
          refine jr_bipush (v := 6) C dX11_load_97 (by decide) ?_
          refine jr_icmp_ne (tgt := 119) C dX11_load_99 rfl (fun q99 => ?_) (fun q99 => ?_)
          · have hv := (if_neg q99).symm.trans hv
            refine jr_iload_n C dX11_load_119 rfl 1 rfl ?_
            refine jr_bipush (v := 7) C dX11_load_120 (by decide) ?_
            refine jr_icmp_ne (tgt := 140) C dX11_load_122 rfl (fun q122 => ?_) (fun q122 => ?_)
            · have hv := (if_neg q122).symm.trans hv
              refine jr_aload_n C dX11_load_140 rfl 0 rfl ?_
              refine jr_iload_n C dX11_load_141 rfl 2 rfl ?_
              refine jr_naload C dX11_load_142 3 rfl ?_
              refine jr_iload C dX11_load_144 4 rfl ?_
              by_cases z146_5 : isKx c77.2 v6 [5] = true
              case pos =>
                have hv := (if_pos z146_5).symm.trans hv
                obtain ⟨c146, hc146, hv⟩ := Option.bind_eq_some_iff.mp hv
                refine jc_callT (ci := 5) (rest := [.int v2, .ref (co g)]) C K (pX8_valueAt l G c77.2 v6 v7 hc146) z146_5 rfl oX8_valueAt kw_643 kw_641 rfl ⟨Nat.le_of_ble_eq_true rfl, Nat.le_of_ble_eq_true rfl⟩ rfl (Nat.le_of_ble_eq_true rfl) ⟨Nat.le_refl _, Nat.le_refl _⟩ dX11_load_146 ?_
                obtain ⟨c149, hc149, hv⟩ := Option.bind_eq_some_iff.mp hv
                refine jc_callO (rest := []) C K (pX11_giveNumber l G c146.2 v2 c146.1 hc149) oX11_giveNumber kw_8 kw_234 rfl ⟨Nat.le_of_ble_eq_true rfl, Nat.le_of_ble_eq_true rfl⟩ rfl (Nat.le_of_ble_eq_true rfl) ⟨Nat.le_refl _, Nat.le_refl _⟩ dX11_load_149 ?_
                exact jc_iret C K dX11_load_152 (Option.some.inj hv) ⟨Nat.le_refl _, Nat.le_refl _⟩
              have hv := (if_neg z146_5).symm.trans hv
              exact op_none hv
            · have hv := (if_pos q122).symm.trans hv
              refine jr_aload_n C dX11_load_125 rfl 0 rfl ?_
              refine jr_iload_n C dX11_load_126 rfl 2 rfl ?_
              refine jr_naload C dX11_load_127 3 rfl ?_
              refine jr_iload C dX11_load_129 4 rfl ?_
              by_cases z131_5 : isKx c77.2 v6 [5] = true
              case pos =>
                have hv := (if_pos z131_5).symm.trans hv
                obtain ⟨c131, hc131, hv⟩ := Option.bind_eq_some_iff.mp hv
                refine jc_callT (ci := 5) (rest := [.int v2, .ref (co g)]) C K (pX8_valueAt l G c77.2 v6 v7 hc131) z131_5 rfl oX8_valueAt kw_643 kw_641 rfl ⟨Nat.le_of_ble_eq_true rfl, Nat.le_of_ble_eq_true rfl⟩ rfl (Nat.le_of_ble_eq_true rfl) ⟨Nat.le_refl _, Nat.le_refl _⟩ dX11_load_131 ?_
                obtain ⟨c134, hc134, hv⟩ := Option.bind_eq_some_iff.mp hv
                refine jc_callO (rest := []) C K (pX11_giveMeasure l G c131.2 v2 c131.1 hc134) oX11_giveMeasure kw_15 kw_318 rfl ⟨Nat.le_of_ble_eq_true rfl, Nat.le_of_ble_eq_true rfl⟩ rfl (Nat.le_of_ble_eq_true rfl) ⟨Nat.le_refl _, Nat.le_refl _⟩ dX11_load_134 ?_
                refine jr_goto (tgt := 152) C dX11_load_137 rfl ?_
                exact jc_iret C K dX11_load_152 (Option.some.inj hv) ⟨Nat.le_refl _, Nat.le_refl _⟩
              have hv := (if_neg z131_5).symm.trans hv
              exact op_none hv
          · have hv := (if_pos q99).symm.trans hv
            refine jr_aload_n C dX11_load_102 rfl 0 rfl ?_
            refine jr_iload_n C dX11_load_103 rfl 2 rfl ?_
            refine jr_naload C dX11_load_104 3 rfl ?_
            refine jr_iload C dX11_load_106 4 rfl ?_
            by_cases z108_5 : isKx c77.2 v6 [5] = true
            case pos =>
              have hv := (if_pos z108_5).symm.trans hv
              obtain ⟨c108, hc108, hv⟩ := Option.bind_eq_some_iff.mp hv
              refine jc_callT (ci := 5) (rest := [.int v2, .ref (co g)]) C K (pX8_valueAt l G c77.2 v6 v7 hc108) z108_5 rfl oX8_valueAt kw_643 kw_641 rfl ⟨Nat.le_of_ble_eq_true rfl, Nat.le_of_ble_eq_true rfl⟩ rfl (Nat.le_of_ble_eq_true rfl) ⟨Nat.le_refl _, Nat.le_refl _⟩ dX11_load_108 ?_
              refine jr_l2i C dX11_load_111 ?_
              refine jr_pcall (rest := [.int v2, .ref (co g)]) C (pX2_ofBits32 l c108.1.toInt32) oX2_ofBits32 kw_413 rfl ⟨Nat.le_of_ble_eq_true rfl, Nat.le_of_ble_eq_true rfl⟩ rfl (Nat.le_of_ble_eq_true rfl) ⟨Nat.zero_le _, Nat.zero_le _⟩ dX11_load_112 ?_
              obtain ⟨c115, hc115, hv⟩ := Option.bind_eq_some_iff.mp hv
              refine jc_callO (rest := []) C K (pX11_giveMeasure l G c108.2 v2 (fX2_ofBits32 c108.1.toInt32) hc115) oX11_giveMeasure kw_15 kw_318 rfl ⟨Nat.le_of_ble_eq_true rfl, Nat.le_of_ble_eq_true rfl⟩ rfl (Nat.le_of_ble_eq_true rfl) ⟨Nat.le_refl _, Nat.le_refl _⟩ dX11_load_115 ?_
              exact jc_iret C K dX11_load_118 (Option.some.inj hv) ⟨Nat.le_refl _, Nat.le_refl _⟩
            have hv := (if_neg z108_5).symm.trans hv
            exact op_none hv
        · have hv := (if_neg q80).symm.trans hv
          refine jr_aload_n C dX11_load_83 rfl 0 rfl ?_
          refine jr_iload_n C dX11_load_84 rfl 2 rfl ?_
          refine jr_naload C dX11_load_85 3 rfl ?_
          refine jr_iload C dX11_load_87 4 rfl ?_
          by_cases z89_5 : isKx c77.2 v6 [5] = true
          case pos =>
            have hv := (if_pos z89_5).symm.trans hv
            obtain ⟨c89, hc89, hv⟩ := Option.bind_eq_some_iff.mp hv
            refine jc_callT (ci := 5) (rest := [.int v2, .ref (co g)]) C K (pX8_partAt l G c77.2 v6 v7 hc89) z89_5 rfl oX8_partAt kw_593 kw_640 rfl ⟨Nat.le_of_ble_eq_true rfl, Nat.le_of_ble_eq_true rfl⟩ rfl (Nat.le_of_ble_eq_true rfl) ⟨Nat.le_refl _, Nat.le_refl _⟩ dX11_load_89 ?_
            obtain ⟨c92, hc92, hv⟩ := Option.bind_eq_some_iff.mp hv
            refine jc_callO (rest := []) C K (pX11_giveThing l G c89.2 v2 c89.1 hc92) oX11_giveThing kw_22 kw_535 rfl ⟨Nat.le_of_ble_eq_true rfl, Nat.le_of_ble_eq_true rfl⟩ rfl (Nat.le_of_ble_eq_true rfl) ⟨Nat.le_refl _, Nat.le_refl _⟩ dX11_load_92 ?_
            exact jc_iret C K dX11_load_95 (Option.some.inj hv) ⟨Nat.le_refl _, Nat.le_refl _⟩
          have hv := (if_neg z89_5).symm.trans hv
          exact op_none hv
      have hv := (if_neg z77_5).symm.trans hv
      exact op_none hv
    · have hv := (if_pos q70).symm.trans hv
      refine jr_iconst (v := 3) C dX11_load_73 (by decide) ?_
      exact jc_iret C K dX11_load_74 (Option.some.inj hv) ⟨Nat.le_refl _, Nat.le_refl _⟩
  have hv := (if_neg z67_5).symm.trans hv
  exact op_none hv
set_option maxRecDepth 100000 in
set_option maxHeartbeats 1000000 in
theorem tX11_load_18 {p : Program} {l : Launch} {e : Env} {s : State} {m : MethodId} {args : Array Value} {below : List Frame} {meth : Method} {c : Code} {g : CG} {S0 : CS} (C : CC p s m args meth c yX11_load cX11_load 8 (some .int)) (K : cK g s) (G : cSep g)  (S : CS) (v1 : Int32) (v2 : Int32) (v4 : Int32) (v5 : Option Nat) {w : Int32 × CS} (hv : fX11_load_18 S v1 v2 v4 v5 = some w) : CJ p l e s m args below meth c 8 4 0 0 g S0 (some (.int w.1)) w.2 18 [(0, .ref (co g)), (1, .int v1), (2, .int v2), (4, .int v4), (5, va_rf v5)] [] S 0 0 := by
  unfold fX11_load_18 at hv
  refine jr_naload C dX11_load_18 4 rfl ?_
  refine jr_ifnonnull (tgt := 25) C dX11_load_20 rfl (fun a20 q20 => ?_) (fun q20 => ?_)
  · have hv := (onul_s q20).symm.trans hv
    refine jr_naload C dX11_load_25 4 rfl ?_
    obtain ⟨c27, hc27, hv⟩ := Option.bind_eq_some_iff.mp hv
    refine jc_inst C K hc27 y_Row n_Row kw_508 dX11_load_27 ?_
    refine jr_if_eq (tgt := 49) C dX11_load_30 rfl (fun q30 => ?_) (fun q30 => ?_)
    · have hv := (if_pos q30).symm.trans hv
      exact jr_sub [] rfl (tX11_load_49 C K G  S hv)
    · have hv := (if_neg q30).symm.trans hv
      refine jr_naload C dX11_load_33 4 rfl ?_
      by_cases z35 : cCast S v5 [5] = true
      case neg => exact op_none ((if_neg z35).symm.trans hv)
      have hv := (if_pos z35).symm.trans hv
      refine jc_cast C K z35 y_Row kw_508 dX11_load_35 ?_
      refine jr_nastore (i := 6) (lv' := [(6, va_rf v5), (0, .ref (co g)), (1, .int v1), (2, .int v2), (4, .int v4), (5, va_rf v5)]) C dX11_load_38 (by decide) (by simp [cat_rf, cat_i, cat_l, cat_r]) ?_
      refine jr_naload C dX11_load_40 0 rfl ?_
      refine jr_iload_n C dX11_load_42 rfl 2 rfl ?_
      by_cases z43_5 : isKx S v5 [5] = true
      case pos =>
        have hv := (if_pos z43_5).symm.trans hv
        obtain ⟨c43, hc43, hv⟩ := Option.bind_eq_some_iff.mp hv
        refine jc_callT (ci := 5) (rest := []) C K (pX8_passesFor l G S v5 v1 hc43) z43_5 rfl oX8_passesFor kw_633 kw_631 rfl ⟨Nat.le_of_ble_eq_true rfl, Nat.le_of_ble_eq_true rfl⟩ rfl (Nat.le_of_ble_eq_true rfl) ⟨Nat.le_refl _, Nat.le_refl _⟩ dX11_load_43 ?_
        refine jr_if_ne (tgt := 51) C dX11_load_46 rfl (fun q46 => ?_) (fun q46 => ?_)
        · have hv := (if_neg q46).symm.trans hv
          refine jr_aload_n C dX11_load_51 rfl 1 rfl ?_
          refine jc_getR C K 5 (by decide) (by decide) kw_127 rfl dX11_load_52 ?_
          refine jr_iload C dX11_load_55 4 rfl ?_
          obtain ⟨c57, hc57, hv⟩ := Option.bind_eq_some_iff.mp hv
          refine jc_callR (rest := []) C K (pX7_numberAt l G c43.2 v4 hc57) oX7_numberAt kw_209 kw_207 rfl ⟨Nat.le_of_ble_eq_true rfl, Nat.le_of_ble_eq_true rfl⟩ rfl (Nat.le_of_ble_eq_true rfl) ⟨Nat.le_refl _, Nat.le_refl _⟩ dX11_load_57 ?_
          refine jr_l2i C dX11_load_60 ?_
          refine jr_istore (i := 7) (lv' := [(7, .int c57.1.toInt32), (6, va_rf v5), (0, .ref (co g)), (1, .int v1), (2, .int v2), (4, .int v4), (5, va_rf v5)]) C dX11_load_61 (by decide) (by simp [cat_rf, cat_i, cat_l, cat_r]) ?_
          exact jr_sub [2, 3, 4, 1, 0] rfl (tX11_load_63 C K G  c57.2 v1 v2 v5 c57.1.toInt32 hv)
        · have hv := (if_pos q46).symm.trans hv
          exact jr_sub [] rfl (tX11_load_49 C K G  c43.2 hv)
      have hv := (if_neg z43_5).symm.trans hv
      exact op_none hv
  · have hv := (onul_n q20).symm.trans hv
    refine jr_iconst (v := 1) C dX11_load_23 (by decide) ?_
    exact jc_iret C K dX11_load_24 (Option.some.inj hv) ⟨Nat.le_refl _, Nat.le_refl _⟩
set_option maxRecDepth 100000 in
set_option maxHeartbeats 1000000 in
theorem tX11_load_0 {p : Program} {l : Launch} {e : Env} {s : State} {m : MethodId} {args : Array Value} {below : List Frame} {meth : Method} {c : Code} {g : CG} {S0 : CS} (C : CC p s m args meth c yX11_load cX11_load 8 (some .int)) (K : cK g s) (G : cSep g)  (S : CS) (v1 : Int32) (v2 : Int32) (v3 : Int32) (v4 : Int32) {w : Int32 × CS} (hv : fX11_load S v1 v2 v3 v4 = some w) : CJ p l e s m args below meth c 8 4 0 0 g S0 (some (.int w.1)) w.2 0 [(0, .ref (co g)), (1, .int v1), (2, .int v2), (3, .int v3), (4, .int v4)] [] S 0 0 := by
  unfold fX11_load at hv
  refine jr_iload_n C dX11_load_0 rfl 1 rfl ?_
  refine jr_bipush (v := 10) C dX11_load_1 (by decide) ?_
  refine jr_icmp_le (tgt := 8) C dX11_load_3 rfl (fun q3 => ?_) (fun q3 => ?_)
  · have hv := (if_pos q3).symm.trans hv
    refine jr_aload_n C dX11_load_8 rfl 0 rfl ?_
    refine jc_getR C K 5 (by decide) (by decide) kw_127 rfl dX11_load_9 ?_
    refine jr_iload_n C dX11_load_12 rfl 3 rfl ?_
    obtain ⟨c13, hc13, hv⟩ := Option.bind_eq_some_iff.mp hv
    refine jc_callR (rest := []) C K (pX7_thingAt l G S v3 hc13) oX7_thingAt kw_497 kw_495 rfl ⟨Nat.le_of_ble_eq_true rfl, Nat.le_of_ble_eq_true rfl⟩ rfl (Nat.le_of_ble_eq_true rfl) ⟨Nat.le_refl _, Nat.le_refl _⟩ dX11_load_13 ?_
    refine jr_nastore (i := 5) (lv' := [(5, va_rf c13.1), (0, .ref (co g)), (1, .int v1), (2, .int v2), (3, .int v3), (4, .int v4)]) C dX11_load_16 (by decide) rfl ?_
    exact jr_sub [1, 2, 3, 5, 0] rfl (tX11_load_18 C K G  c13.2 v1 v2 v4 c13.1 hv)
  · have hv := (if_neg q3).symm.trans hv
    refine jr_iconst (v := 2) C dX11_load_6 (by decide) ?_
    exact jc_iret C K dX11_load_7 (Option.some.inj hv) ⟨Nat.le_refl _, Nat.le_refl _⟩
theorem pX11_load (l : Launch) {g : CG} (G : cSep g)   (S : CS) (v1 : Int32) (v2 : Int32) (v3 : Int32) (v4 : Int32) {w : Int32 × CS} (hw : fX11_load S v1 v2 v3 v4 = some w)  : cC l yX11_load cX11_load 8 (some .int) 4 0 0 g [.ref (co g), .int v1, .int v2, .int v3, .int v4] S (some (.int w.1)) w.2 := cC_of (lv := [(0, .ref (co g)), (1, .int v1), (2, .int v2), (3, .int v3), (4, .int v4)]) (by decide +kernel) (Nat.le_of_ble_eq_true rfl) rfl (fun C K => tX11_load_0 C K G  S v1 v2 v3 v4 hw)
/-! RobotCell.store(IIII)I -/
def fX11_store_85 (S : CS) : Option (Int32 × CS) :=
  some (2, S)
def fX11_store_184 (S : CS) (t0 : Option Nat) (t1 : Int32) (t2 : Int64) : Option (Int32 × CS) :=
  if isKx S t0 [5] = true then (Option.bind (fX8_setValue S t0 t1 t2) (fun c184 => some (0, c184))) else none
def fX11_store_154 (S : CS) (v2 : Int32) (v7 : Option Nat) (v8 : Int32) (t0 : Int32) : Option (Int32 × CS) :=
  if t0 = 0 then (Option.bind (fX7_numberAt S v2) (fun c181 => fX11_store_184 c181.2 v7 v8 c181.1)) else (Option.bind (fX7_measureAt S v2) (fun c170 => fX11_store_184 c170.2 v7 v8 c170.1))
def fX11_store_149 (S : CS) (v2 : Int32) (v7 : Option Nat) (v8 : Int32) : Option (Int32 × CS) :=
  fX11_store_154 S v2 v7 v8 1
def fX11_store_99 (S : CS) (v1 : Int32) (v2 : Int32) (v5 : Option Nat) (v7 : Option Nat) (v8 : Int32) : Option (Int32 × CS) :=
  if isKx S v7 [5] = true then (Option.bind (fX8_has S v7 v8) (fun c103 => if c103.1 = 0 then some (3, c103.2) else (if isKx c103.2 v7 [5] = true then (Option.bind (fX8_holdsThings c103.2 v7) (fun c113 => if c113.1 = 0 then (if v1 = 6 then fX11_store_149 c113.2 v2 v7 v8 else (if v1 = 7 then fX11_store_149 c113.2 v2 v7 v8 else fX11_store_154 c113.2 v2 v7 v8 0)) else (if isKx c113.2 v7 [5] = true then (Option.bind (fX8_setPart c113.2 v7 v8 v5) (fun c125 => if c125.1 = 0 then some (5, c125.2) else some (0, c125.2))) else none))) else none))) else none
def fX11_store_54 (S : CS) (v1 : Int32) (v2 : Int32) (v4 : Int32) (v5 : Option Nat) (v6 : Option Nat) : Option (Int32 × CS) :=
  onul v6 (some (1, S)) (fun _ => Option.bind (cInst S v6 [5] [0, 1, 2, 3, 4, 6]) (fun c63 => if c63 = 0 then fX11_store_85 S else (if cCast S v6 [5] = true then (if isKx S v6 [5] = true then (Option.bind (fX8_passesFor S v6 v1) (fun c79 => if c79.1 = 0 then fX11_store_85 c79.2 else (Option.bind (fX7_numberAt c79.2 v4) (fun c93 => fX11_store_99 c93.2 v1 v2 v5 v6 c93.1.toInt32)))) else none) else none)))
def fX11_store_38 (S : CS) (v1 : Int32) (v2 : Int32) (v4 : Int32) (v5 : Option Nat) (v6 : Option Nat) : Option (Int32 × CS) :=
  onul v5 (fX11_store_54 S v1 v2 v4 v5 v6) (fun _ => Option.bind (fX8_mayHold S v1 v5) (fun c46 => if c46.1 = 0 then some (2, c46.2) else fX11_store_54 c46.2 v1 v2 v4 v5 v6))
def fX11_store_26 (S : CS) (v1 : Int32) (v2 : Int32) (v3 : Int32) (v4 : Int32) (t0 : Option Nat) : Option (Int32 × CS) :=
  Option.bind (fX7_thingAt S v3) (fun c33 => fX11_store_38 c33.2 v1 v2 v4 t0 c33.1)
def fX11_store (S : CS) (v1 : Int32) (v2 : Int32) (v3 : Int32) (v4 : Int32) : Option (Int32 × CS) :=
  if v1 ≤ 10 then (if v1 < 8 then fX11_store_26 S v1 v2 v3 v4 none else (Option.bind (fX7_thingAt S v2) (fun c19 => fX11_store_26 c19.2 v1 v2 v3 v4 c19.1))) else some (2, S)
theorem oX11_store : ok_c yX11_store cX11_store 10 (some .int) 4 (.instanceMethod yX11_store) := ⟨kw_648, ⟨kw_647, rfl⟩, kw_71, by decide +kernel⟩
set_option maxRecDepth 100000 in
set_option maxHeartbeats 1000000 in
theorem tX11_store_85 {p : Program} {l : Launch} {e : Env} {s : State} {m : MethodId} {args : Array Value} {below : List Frame} {meth : Method} {c : Code} {g : CG} {S0 : CS} (C : CC p s m args meth c yX11_store cX11_store 10 (some .int)) (K : cK g s) (G : cSep g)  (S : CS) {w : Int32 × CS} (hv : fX11_store_85 S = some w) : CJ p l e s m args below meth c 10 6 0 0 g S0 (some (.int w.1)) w.2 85 [] [] S 0 0 := by
  unfold fX11_store_85 at hv
  refine jr_iconst (v := 2) C dX11_store_85 (by decide) ?_
  exact jc_iret C K dX11_store_86 (Option.some.inj hv) ⟨Nat.le_refl _, Nat.le_refl _⟩
set_option maxRecDepth 100000 in
set_option maxHeartbeats 1000000 in
theorem tX11_store_184 {p : Program} {l : Launch} {e : Env} {s : State} {m : MethodId} {args : Array Value} {below : List Frame} {meth : Method} {c : Code} {g : CG} {S0 : CS} (C : CC p s m args meth c yX11_store cX11_store 10 (some .int)) (K : cK g s) (G : cSep g)  (S : CS) (t0 : Option Nat) (t1 : Int32) (t2 : Int64) {w : Int32 × CS} (hv : fX11_store_184 S t0 t1 t2 = some w) : CJ p l e s m args below meth c 10 6 0 0 g S0 (some (.int w.1)) w.2 184 [] [.long t2, .int t1, va_rf t0] S 0 0 := by
  unfold fX11_store_184 at hv
  by_cases z184_5 : isKx S t0 [5] = true
  case pos =>
    have hv := (if_pos z184_5).symm.trans hv
    obtain ⟨c184, hc184, hv⟩ := Option.bind_eq_some_iff.mp hv
    refine jc_callT (ci := 5) (rest := []) C K (pX8_setValue l G S t0 t1 t2 hc184) z184_5 rfl oX8_setValue kw_652 kw_650 rfl ⟨Nat.le_of_ble_eq_true rfl, Nat.le_of_ble_eq_true rfl⟩ rfl (Nat.le_of_ble_eq_true rfl) ⟨Nat.le_refl _, Nat.le_refl _⟩ dX11_store_184 ?_
    refine jr_iconst (v := 0) C dX11_store_187 (by decide) ?_
    exact jc_iret C K dX11_store_188 (Option.some.inj hv) ⟨Nat.le_refl _, Nat.le_refl _⟩
  have hv := (if_neg z184_5).symm.trans hv
  exact op_none hv
set_option maxRecDepth 100000 in
set_option maxHeartbeats 1000000 in
theorem tX11_store_154 {p : Program} {l : Launch} {e : Env} {s : State} {m : MethodId} {args : Array Value} {below : List Frame} {meth : Method} {c : Code} {g : CG} {S0 : CS} (C : CC p s m args meth c yX11_store cX11_store 10 (some .int)) (K : cK g s) (G : cSep g)  (S : CS) (v2 : Int32) (v7 : Option Nat) (v8 : Int32) (t0 : Int32) {w : Int32 × CS} (hv : fX11_store_154 S v2 v7 v8 t0 = some w) : CJ p l e s m args below meth c 10 6 0 0 g S0 (some (.int w.1)) w.2 154 [(0, .ref (co g)), (2, .int v2), (7, va_rf v7), (8, .int v8)] [.int t0] S 0 0 := by
  unfold fX11_store_154 at hv
  refine jr_istore (lv' := [(9, .int t0), (0, .ref (co g)), (2, .int v2), (7, va_rf v7), (8, .int v8)]) C dX11_store_154 (by decide) rfl ?_
  refine jr_naload C dX11_store_156 3 rfl ?_
  refine jr_iload C dX11_store_158 4 rfl ?_
  refine jr_iload C dX11_store_160 0 rfl ?_
  refine jr_if_eq (tgt := 176) C dX11_store_162 rfl (fun q162 => ?_) (fun q162 => ?_)
  · have hv := (if_pos q162).symm.trans hv
    refine jr_aload_n C dX11_store_176 rfl 1 rfl ?_
    refine jc_getR C K 5 (by decide) (by decide) kw_127 rfl dX11_store_177 ?_
    refine jr_iload_n C dX11_store_180 rfl 2 rfl ?_
    obtain ⟨c181, hc181, hv⟩ := Option.bind_eq_some_iff.mp hv
    refine jc_callR (rest := [.int v8, va_rf v7]) C K (pX7_numberAt l G S v2 hc181) oX7_numberAt kw_209 kw_207 rfl ⟨Nat.le_of_ble_eq_true rfl, Nat.le_of_ble_eq_true rfl⟩ rfl (by simp [cat_rf, cat_i, cat_l, cat_r]) ⟨Nat.le_refl _, Nat.le_refl _⟩ dX11_store_181 ?_
    exact jr_sub [] rfl (tX11_store_184 C K G  c181.2 v7 v8 c181.1 hv)
  · have hv := (if_neg q162).symm.trans hv
    refine jr_aload_n C dX11_store_165 rfl 1 rfl ?_
    refine jc_getR C K 5 (by decide) (by decide) kw_127 rfl dX11_store_166 ?_
    refine jr_iload_n C dX11_store_169 rfl 2 rfl ?_
    obtain ⟨c170, hc170, hv⟩ := Option.bind_eq_some_iff.mp hv
    refine jc_callR (rest := [.int v8, va_rf v7]) C K (pX7_measureAt l G S v2 hc170) oX7_measureAt kw_262 kw_260 rfl ⟨Nat.le_of_ble_eq_true rfl, Nat.le_of_ble_eq_true rfl⟩ rfl (by simp [cat_rf, cat_i, cat_l, cat_r]) ⟨Nat.le_refl _, Nat.le_refl _⟩ dX11_store_170 ?_
    refine jr_goto (tgt := 184) C dX11_store_173 rfl ?_
    exact jr_sub [] rfl (tX11_store_184 C K G  c170.2 v7 v8 c170.1 hv)
set_option maxRecDepth 100000 in
set_option maxHeartbeats 1000000 in
theorem tX11_store_149 {p : Program} {l : Launch} {e : Env} {s : State} {m : MethodId} {args : Array Value} {below : List Frame} {meth : Method} {c : Code} {g : CG} {S0 : CS} (C : CC p s m args meth c yX11_store cX11_store 10 (some .int)) (K : cK g s) (G : cSep g)  (S : CS) (v2 : Int32) (v7 : Option Nat) (v8 : Int32) {w : Int32 × CS} (hv : fX11_store_149 S v2 v7 v8 = some w) : CJ p l e s m args below meth c 10 6 0 0 g S0 (some (.int w.1)) w.2 149 [(0, .ref (co g)), (2, .int v2), (7, va_rf v7), (8, .int v8)] [] S 0 0 := by
  unfold fX11_store_149 at hv
  refine jr_iconst (v := 1) C dX11_store_149 (by decide) ?_
  refine jr_goto (tgt := 154) C dX11_store_150 rfl ?_
  exact tX11_store_154 C K G  S v2 v7 v8 1 hv
set_option maxRecDepth 100000 in
set_option maxHeartbeats 1000000 in
theorem tX11_store_99 {p : Program} {l : Launch} {e : Env} {s : State} {m : MethodId} {args : Array Value} {below : List Frame} {meth : Method} {c : Code} {g : CG} {S0 : CS} (C : CC p s m args meth c yX11_store cX11_store 10 (some .int)) (K : cK g s) (G : cSep g)  (S : CS) (v1 : Int32) (v2 : Int32) (v5 : Option Nat) (v7 : Option Nat) (v8 : Int32) {w : Int32 × CS} (hv : fX11_store_99 S v1 v2 v5 v7 v8 = some w) : CJ p l e s m args below meth c 10 6 0 0 g S0 (some (.int w.1)) w.2 99 [(0, .ref (co g)), (1, .int v1), (2, .int v2), (5, va_rf v5), (7, va_rf v7), (8, .int v8)] [] S 0 0 := by
  unfold fX11_store_99 at hv
  refine jr_naload C dX11_store_99 4 rfl ?_
  refine jr_iload C dX11_store_101 5 rfl ?_
  by_cases z103_5 : isKx S v7 [5] = true
  case pos =>
    have hv := (if_pos z103_5).symm.trans hv
    obtain ⟨c103, hc103, hv⟩ := Option.bind_eq_some_iff.mp hv
    refine jc_callT (ci := 5) (rest := []) C K (pX8_has l G S v7 v8 hc103) z103_5 rfl oX8_has kw_637 kw_635 rfl ⟨Nat.le_of_ble_eq_true rfl, Nat.le_of_ble_eq_true rfl⟩ rfl (Nat.le_of_ble_eq_true rfl) ⟨Nat.le_refl _, Nat.le_refl _⟩ dX11_store_103 ?_
    refine jr_if_ne (tgt := 111) C dX11_store_106 rfl (fun q106 => ?_) (fun q106 => ?_)
    · have hv := (if_neg q106).symm.trans hv
      refine jr_naload C dX11_store_111 4 rfl ?_
      by_cases z113_5 : isKx c103.2 v7 [5] = true
      case pos =>
        have hv := (if_pos z113_5).symm.trans hv
        obtain ⟨c113, hc113, hv⟩ := Option.bind_eq_some_iff.mp hv
        refine jc_callT (ci := 5) (rest := []) C K (pX8_holdsThings l G c103.2 v7  hc113) z113_5 rfl oX8_holdsThings kw_576 kw_639 rfl ⟨Nat.le_of_ble_eq_true rfl, Nat.le_of_ble_eq_true rfl⟩ rfl (Nat.le_of_ble_eq_true rfl) ⟨Nat.le_refl _, Nat.le_refl _⟩ dX11_store_113 ?_
        refine jr_if_eq (tgt := 137) C dX11_store_116 rfl (fun q116 => ?_) (fun q116 => ?_)
        · have hv := (if_pos q116).symm.trans hv
          refine jr_iload_n C dX11_store_137 rfl 1 rfl ?_
          refine jr_bipush (v := 6) C dX11_store_138 (by decide) ?_
          refine jr_icmp_eq (tgt := 149) C dX11_store_140 rfl (fun q140 => ?_) (fun q140 => ?_)
          · have hv := (if_pos q140).symm.trans hv
            exact jr_sub [0, 2, 4, 5] rfl (tX11_store_149 C K G  c113.2 v2 v7 v8 hv)
          · have hv := (if_neg q140).symm.trans hv
            refine jr_iload_n C dX11_store_143 rfl 1 rfl ?_
            refine jr_bipush (v := 7) C dX11_store_144 (by decide) ?_
            refine jr_icmp_ne (tgt := 153) C dX11_store_146 rfl (fun q146 => ?_) (fun q146 => ?_)
            · have hv := (if_neg q146).symm.trans hv
              refine jr_iconst (v := 0) C dX11_store_153 (by decide) ?_
              exact jr_sub [0, 2, 4, 5] rfl (tX11_store_154 C K G  c113.2 v2 v7 v8 0 hv)
            · have hv := (if_pos q146).symm.trans hv
              exact jr_sub [0, 2, 4, 5] rfl (tX11_store_149 C K G  c113.2 v2 v7 v8 hv)
        · have hv := (if_neg q116).symm.trans hv
          refine jr_naload C dX11_store_119 4 rfl ?_
          refine jr_iload C dX11_store_121 5 rfl ?_
          refine jr_naload C dX11_store_123 3 rfl ?_
          by_cases z125_5 : isKx c113.2 v7 [5] = true
          case pos =>
            have hv := (if_pos z125_5).symm.trans hv
            obtain ⟨c125, hc125, hv⟩ := Option.bind_eq_some_iff.mp hv
            refine jc_callT (ci := 5) (rest := []) C K (pX8_setPart l G c113.2 v7 v8 v5 hc125) z125_5 rfl oX8_setPart kw_550 kw_548 rfl ⟨Nat.le_of_ble_eq_true rfl, Nat.le_of_ble_eq_true rfl⟩ rfl (Nat.le_of_ble_eq_true rfl) ⟨Nat.le_refl _, Nat.le_refl _⟩ dX11_store_125 ?_
            refine jr_if_eq (tgt := 135) C dX11_store_128 rfl (fun q128 => ?_) (fun q128 => ?_)
            · have hv := (if_pos q128).symm.trans hv
              refine jr_iconst (v := 5) C dX11_store_135 (by decide) ?_
              exact jc_iret C K dX11_store_136 (Option.some.inj hv) ⟨Nat.le_refl _, Nat.le_refl _⟩
            · have hv := (if_neg q128).symm.trans hv
              refine jr_iconst (v := 0) C dX11_store_131 (by decide) ?_
              refine jr_goto (tgt := 136) C dX11_store_132 rfl ?_
              exact jc_iret C K dX11_store_136 (Option.some.inj hv) ⟨Nat.le_refl _, Nat.le_refl _⟩
          have hv := (if_neg z125_5).symm.trans hv
          exact op_none hv
      have hv := (if_neg z113_5).symm.trans hv
      exact op_none hv
    · have hv := (if_pos q106).symm.trans hv
      refine jr_iconst (v := 3) C dX11_store_109 (by decide) ?_
      exact jc_iret C K dX11_store_110 (Option.some.inj hv) ⟨Nat.le_refl _, Nat.le_refl _⟩
  have hv := (if_neg z103_5).symm.trans hv
  exact op_none hv
set_option maxRecDepth 100000 in
set_option maxHeartbeats 1000000 in
theorem tX11_store_54 {p : Program} {l : Launch} {e : Env} {s : State} {m : MethodId} {args : Array Value} {below : List Frame} {meth : Method} {c : Code} {g : CG} {S0 : CS} (C : CC p s m args meth c yX11_store cX11_store 10 (some .int)) (K : cK g s) (G : cSep g)  (S : CS) (v1 : Int32) (v2 : Int32) (v4 : Int32) (v5 : Option Nat) (v6 : Option Nat) {w : Int32 × CS} (hv : fX11_store_54 S v1 v2 v4 v5 v6 = some w) : CJ p l e s m args below meth c 10 6 0 0 g S0 (some (.int w.1)) w.2 54 [(0, .ref (co g)), (1, .int v1), (2, .int v2), (4, .int v4), (5, va_rf v5), (6, va_rf v6)] [] S 0 0 := by
  unfold fX11_store_54 at hv
  refine jr_naload C dX11_store_54 5 rfl ?_
  refine jr_ifnonnull (tgt := 61) C dX11_store_56 rfl (fun a56 q56 => ?_) (fun q56 => ?_)
  · have hv := (onul_s q56).symm.trans hv
    refine jr_naload C dX11_store_61 5 rfl ?_
    obtain ⟨c63, hc63, hv⟩ := Option.bind_eq_some_iff.mp hv
    refine jc_inst C K hc63 y_Row n_Row kw_508 dX11_store_63 ?_
    refine jr_if_eq (tgt := 85) C dX11_store_66 rfl (fun q66 => ?_) (fun q66 => ?_)
    · have hv := (if_pos q66).symm.trans hv
      exact jr_sub [] rfl (tX11_store_85 C K G  S hv)
    · have hv := (if_neg q66).symm.trans hv
      refine jr_naload C dX11_store_69 5 rfl ?_
      by_cases z71 : cCast S v6 [5] = true
      case neg => exact op_none ((if_neg z71).symm.trans hv)
      have hv := (if_pos z71).symm.trans hv
      refine jc_cast C K z71 y_Row kw_508 dX11_store_71 ?_
      refine jr_nastore (i := 7) (lv' := [(7, va_rf v6), (0, .ref (co g)), (1, .int v1), (2, .int v2), (4, .int v4), (5, va_rf v5), (6, va_rf v6)]) C dX11_store_74 (by decide) (by simp [cat_rf, cat_i, cat_l, cat_r]) ?_
      refine jr_naload C dX11_store_76 0 rfl ?_
      refine jr_iload_n C dX11_store_78 rfl 2 rfl ?_
      by_cases z79_5 : isKx S v6 [5] = true
      case pos =>
        have hv := (if_pos z79_5).symm.trans hv
        obtain ⟨c79, hc79, hv⟩ := Option.bind_eq_some_iff.mp hv
        refine jc_callT (ci := 5) (rest := []) C K (pX8_passesFor l G S v6 v1 hc79) z79_5 rfl oX8_passesFor kw_633 kw_631 rfl ⟨Nat.le_of_ble_eq_true rfl, Nat.le_of_ble_eq_true rfl⟩ rfl (Nat.le_of_ble_eq_true rfl) ⟨Nat.le_refl _, Nat.le_refl _⟩ dX11_store_79 ?_
        refine jr_if_ne (tgt := 87) C dX11_store_82 rfl (fun q82 => ?_) (fun q82 => ?_)
        · have hv := (if_neg q82).symm.trans hv
          refine jr_aload_n C dX11_store_87 rfl 1 rfl ?_
          refine jc_getR C K 5 (by decide) (by decide) kw_127 rfl dX11_store_88 ?_
          refine jr_iload C dX11_store_91 4 rfl ?_
          obtain ⟨c93, hc93, hv⟩ := Option.bind_eq_some_iff.mp hv
          refine jc_callR (rest := []) C K (pX7_numberAt l G c79.2 v4 hc93) oX7_numberAt kw_209 kw_207 rfl ⟨Nat.le_of_ble_eq_true rfl, Nat.le_of_ble_eq_true rfl⟩ rfl (Nat.le_of_ble_eq_true rfl) ⟨Nat.le_refl _, Nat.le_refl _⟩ dX11_store_93 ?_
          refine jr_l2i C dX11_store_96 ?_
          refine jr_istore (i := 8) (lv' := [(8, .int c93.1.toInt32), (7, va_rf v6), (0, .ref (co g)), (1, .int v1), (2, .int v2), (4, .int v4), (5, va_rf v5), (6, va_rf v6)]) C dX11_store_97 (by decide) (by simp [cat_rf, cat_i, cat_l, cat_r]) ?_
          exact jr_sub [2, 3, 4, 6, 1, 0] rfl (tX11_store_99 C K G  c93.2 v1 v2 v5 v6 c93.1.toInt32 hv)
        · have hv := (if_pos q82).symm.trans hv
          exact jr_sub [] rfl (tX11_store_85 C K G  c79.2 hv)
      have hv := (if_neg z79_5).symm.trans hv
      exact op_none hv
  · have hv := (onul_n q56).symm.trans hv
    refine jr_iconst (v := 1) C dX11_store_59 (by decide) ?_
    exact jc_iret C K dX11_store_60 (Option.some.inj hv) ⟨Nat.le_refl _, Nat.le_refl _⟩
set_option maxRecDepth 100000 in
set_option maxHeartbeats 1000000 in
theorem tX11_store_38 {p : Program} {l : Launch} {e : Env} {s : State} {m : MethodId} {args : Array Value} {below : List Frame} {meth : Method} {c : Code} {g : CG} {S0 : CS} (C : CC p s m args meth c yX11_store cX11_store 10 (some .int)) (K : cK g s) (G : cSep g)  (S : CS) (v1 : Int32) (v2 : Int32) (v4 : Int32) (v5 : Option Nat) (v6 : Option Nat) {w : Int32 × CS} (hv : fX11_store_38 S v1 v2 v4 v5 v6 = some w) : CJ p l e s m args below meth c 10 6 0 0 g S0 (some (.int w.1)) w.2 38 [(0, .ref (co g)), (1, .int v1), (2, .int v2), (4, .int v4), (5, va_rf v5), (6, va_rf v6)] [] S 0 0 := by
  unfold fX11_store_38 at hv
  refine jr_naload C dX11_store_38 4 rfl ?_
  refine jr_ifnull (tgt := 54) C dX11_store_40 rfl (fun q40 => ?_) (fun a40 q40 => ?_)
  · have hv := (onul_n q40).symm.trans hv
    exact tX11_store_54 C K G  S v1 v2 v4 v5 v6 hv
  · have hv := (onul_s q40).symm.trans hv
    refine jr_iload_n C dX11_store_43 rfl 1 rfl ?_
    refine jr_naload C dX11_store_44 4 rfl ?_
    obtain ⟨c46, hc46, hv⟩ := Option.bind_eq_some_iff.mp hv
    refine jc_callS (rest := []) C K (pX8_mayHold l G S v1 v5 hc46) oX8_mayHold kw_649 rfl ⟨Nat.le_of_ble_eq_true rfl, Nat.le_of_ble_eq_true rfl⟩ rfl (Nat.le_of_ble_eq_true rfl) ⟨Nat.le_refl _, Nat.le_refl _⟩ dX11_store_46 ?_
    refine jr_if_ne (tgt := 54) C dX11_store_49 rfl (fun q49 => ?_) (fun q49 => ?_)
    · have hv := (if_neg q49).symm.trans hv
      exact tX11_store_54 C K G  c46.2 v1 v2 v4 v5 v6 hv
    · have hv := (if_pos q49).symm.trans hv
      refine jr_iconst (v := 2) C dX11_store_52 (by decide) ?_
      exact jc_iret C K dX11_store_53 (Option.some.inj hv) ⟨Nat.le_refl _, Nat.le_refl _⟩
set_option maxRecDepth 100000 in
set_option maxHeartbeats 1000000 in
theorem tX11_store_26 {p : Program} {l : Launch} {e : Env} {s : State} {m : MethodId} {args : Array Value} {below : List Frame} {meth : Method} {c : Code} {g : CG} {S0 : CS} (C : CC p s m args meth c yX11_store cX11_store 10 (some .int)) (K : cK g s) (G : cSep g)  (S : CS) (v1 : Int32) (v2 : Int32) (v3 : Int32) (v4 : Int32) (t0 : Option Nat) {w : Int32 × CS} (hv : fX11_store_26 S v1 v2 v3 v4 t0 = some w) : CJ p l e s m args below meth c 10 6 0 0 g S0 (some (.int w.1)) w.2 26 [(0, .ref (co g)), (1, .int v1), (2, .int v2), (3, .int v3), (4, .int v4)] [va_rf t0] S 0 0 := by
  unfold fX11_store_26 at hv
  refine jr_nastore (i := 5) (lv' := [(5, va_rf t0), (0, .ref (co g)), (1, .int v1), (2, .int v2), (3, .int v3), (4, .int v4)]) C dX11_store_26 (by decide) rfl ?_
  refine jr_aload_n C dX11_store_28 rfl 1 rfl ?_
  refine jc_getR C K 5 (by decide) (by decide) kw_127 rfl dX11_store_29 ?_
  refine jr_iload_n C dX11_store_32 rfl 4 rfl ?_
  obtain ⟨c33, hc33, hv⟩ := Option.bind_eq_some_iff.mp hv
  refine jc_callR (rest := []) C K (pX7_thingAt l G S v3 hc33) oX7_thingAt kw_497 kw_495 rfl ⟨Nat.le_of_ble_eq_true rfl, Nat.le_of_ble_eq_true rfl⟩ rfl (Nat.le_of_ble_eq_true rfl) ⟨Nat.le_refl _, Nat.le_refl _⟩ dX11_store_33 ?_
  refine jr_nastore (i := 6) (lv' := [(6, va_rf c33.1), (5, va_rf t0), (0, .ref (co g)), (1, .int v1), (2, .int v2), (3, .int v3), (4, .int v4)]) C dX11_store_36 (by decide) (by simp [cat_rf, cat_i, cat_l, cat_r]) ?_
  exact jr_sub [2, 3, 4, 6, 1, 0] rfl (tX11_store_38 C K G  c33.2 v1 v2 v4 t0 c33.1 hv)
set_option maxRecDepth 100000 in
set_option maxHeartbeats 1000000 in
theorem tX11_store_0 {p : Program} {l : Launch} {e : Env} {s : State} {m : MethodId} {args : Array Value} {below : List Frame} {meth : Method} {c : Code} {g : CG} {S0 : CS} (C : CC p s m args meth c yX11_store cX11_store 10 (some .int)) (K : cK g s) (G : cSep g)  (S : CS) (v1 : Int32) (v2 : Int32) (v3 : Int32) (v4 : Int32) {w : Int32 × CS} (hv : fX11_store S v1 v2 v3 v4 = some w) : CJ p l e s m args below meth c 10 6 0 0 g S0 (some (.int w.1)) w.2 0 [(0, .ref (co g)), (1, .int v1), (2, .int v2), (3, .int v3), (4, .int v4)] [] S 0 0 := by
  unfold fX11_store at hv
  refine jr_iload_n C dX11_store_0 rfl 1 rfl ?_
  refine jr_bipush (v := 10) C dX11_store_1 (by decide) ?_
  refine jr_icmp_le (tgt := 8) C dX11_store_3 rfl (fun q3 => ?_) (fun q3 => ?_)
  · have hv := (if_pos q3).symm.trans hv
    refine jr_iload_n C dX11_store_8 rfl 1 rfl ?_
    refine jr_bipush (v := 8) C dX11_store_9 (by decide) ?_
    refine jr_icmp_lt (tgt := 25) C dX11_store_11 rfl (fun q11 => ?_) (fun q11 => ?_)
    · have hv := (if_pos q11).symm.trans hv
      refine jr_null C dX11_store_25 ?_
      exact tX11_store_26 C K G  S v1 v2 v3 v4 none hv
    · have hv := (if_neg q11).symm.trans hv
      refine jr_aload_n C dX11_store_14 rfl 0 rfl ?_
      refine jc_getR C K 5 (by decide) (by decide) kw_127 rfl dX11_store_15 ?_
      refine jr_iload_n C dX11_store_18 rfl 2 rfl ?_
      obtain ⟨c19, hc19, hv⟩ := Option.bind_eq_some_iff.mp hv
      refine jc_callR (rest := []) C K (pX7_thingAt l G S v2 hc19) oX7_thingAt kw_497 kw_495 rfl ⟨Nat.le_of_ble_eq_true rfl, Nat.le_of_ble_eq_true rfl⟩ rfl (Nat.le_of_ble_eq_true rfl) ⟨Nat.le_refl _, Nat.le_refl _⟩ dX11_store_19 ?_
      refine jr_goto (tgt := 26) C dX11_store_22 rfl ?_
      exact tX11_store_26 C K G  c19.2 v1 v2 v3 v4 c19.1 hv
  · have hv := (if_neg q3).symm.trans hv
    refine jr_iconst (v := 2) C dX11_store_6 (by decide) ?_
    exact jc_iret C K dX11_store_7 (Option.some.inj hv) ⟨Nat.le_refl _, Nat.le_refl _⟩
theorem pX11_store (l : Launch) {g : CG} (G : cSep g)   (S : CS) (v1 : Int32) (v2 : Int32) (v3 : Int32) (v4 : Int32) {w : Int32 × CS} (hw : fX11_store S v1 v2 v3 v4 = some w)  : cC l yX11_store cX11_store 10 (some .int) 6 0 0 g [.ref (co g), .int v1, .int v2, .int v3, .int v4] S (some (.int w.1)) w.2 := cC_of (lv := [(0, .ref (co g)), (1, .int v1), (2, .int v2), (3, .int v3), (4, .int v4)]) (by decide +kernel) (Nat.le_of_ble_eq_true rfl) rfl (fun C K => tX11_store_0 C K G  S v1 v2 v3 v4 hw)
/-! RobotCell.shownThing(LRobotCell$Thing;)J -/
def fX11_shownThing (S : CS) (v0 : Option Nat) : Option (Int64 × CS) :=
  Option.bind (cInst S v0 [2, 1] [0, 3, 4, 5, 6]) (fun c1 => if c1 = 0 then (Option.bind (cInst S v0 [5] [0, 1, 2, 3, 4, 6]) (fun c19 => if c19 = 0 then some ((-1), S) else (if cCast S v0 [5] = true then (if isKx S v0 [5] = true then (Option.bind (fX8_length S v0) (fun c31 => some (c31.1.toInt64, c31.2))) else none) else none))) else (if cCast S v0 [2, 1] = true then (Option.bind (tgI S v0 [2, 1] 3) (fun c13 => some (c13.toInt64, S))) else none))
theorem oX11_shownThing : ok_c yX11_shownThing cX11_shownThing 2 (some .long) 1 (.static yX11_shownThing) := ⟨kw_1159, ⟨kw_1158, rfl⟩, kw_71, by decide +kernel⟩
set_option maxRecDepth 100000 in
set_option maxHeartbeats 1000000 in
theorem tX11_shownThing_0 {p : Program} {l : Launch} {e : Env} {s : State} {m : MethodId} {args : Array Value} {below : List Frame} {meth : Method} {c : Code} {g : CG} {S0 : CS} (C : CC p s m args meth c yX11_shownThing cX11_shownThing 2 (some .long)) (K : cK g s) (G : cSep g)  (S : CS) (v0 : Option Nat) {w : Int64 × CS} (hv : fX11_shownThing S v0 = some w) : CJ p l e s m args below meth c 2 1 0 0 g S0 (some (.long w.1)) w.2 0 [(0, va_rf v0)] [] S 0 0 := by
  unfold fX11_shownThing at hv
  refine jr_naload_n C dX11_shownThing_0 rfl 0 rfl ?_
  obtain ⟨c1, hc1, hv⟩ := Option.bind_eq_some_iff.mp hv
  refine jc_inst C K hc1 y_Pose n_Pose kw_701 dX11_shownThing_1 ?_
  refine jr_if_eq (tgt := 18) C dX11_shownThing_4 rfl (fun q4 => ?_) (fun q4 => ?_)
  · have hv := (if_pos q4).symm.trans hv
    refine jr_naload_n C dX11_shownThing_18 rfl 0 rfl ?_
    obtain ⟨c19, hc19, hv⟩ := Option.bind_eq_some_iff.mp hv
    refine jc_inst C K hc19 y_Row n_Row kw_508 dX11_shownThing_19 ?_
    refine jr_if_eq (tgt := 38) C dX11_shownThing_22 rfl (fun q22 => ?_) (fun q22 => ?_)
    · have hv := (if_pos q22).symm.trans hv
      refine jr_ldc2 C kw_604 dX11_shownThing_38 ?_
      exact jc_lret C K dX11_shownThing_41 (Option.some.inj hv) ⟨Nat.le_refl _, Nat.le_refl _⟩
    · have hv := (if_neg q22).symm.trans hv
      refine jr_naload_n C dX11_shownThing_25 rfl 0 rfl ?_
      by_cases z26 : cCast S v0 [5] = true
      case neg => exact op_none ((if_neg z26).symm.trans hv)
      have hv := (if_pos z26).symm.trans hv
      refine jc_cast C K z26 y_Row kw_508 dX11_shownThing_26 ?_
      refine jr_nastore_n (i := 1) (lv' := [(1, va_rf v0), (0, va_rf v0)]) C dX11_shownThing_29 rfl (by decide) (by simp [cat_rf, cat_i, cat_l, cat_r]) ?_
      refine jr_naload_n C dX11_shownThing_30 rfl 0 rfl ?_
      by_cases z31_5 : isKx S v0 [5] = true
      case pos =>
        have hv := (if_pos z31_5).symm.trans hv
        obtain ⟨c31, hc31, hv⟩ := Option.bind_eq_some_iff.mp hv
        refine jc_callT (ci := 5) (rest := []) C K (pX8_length l G S v0  hc31) z31_5 rfl oX8_length kw_564 kw_562 rfl ⟨Nat.le_of_ble_eq_true rfl, Nat.le_of_ble_eq_true rfl⟩ rfl (Nat.le_of_ble_eq_true rfl) ⟨Nat.le_refl _, Nat.le_refl _⟩ dX11_shownThing_31 ?_
        refine jr_i2l C dX11_shownThing_34 ?_
        refine jr_goto (tgt := 41) C dX11_shownThing_35 rfl ?_
        exact jc_lret C K dX11_shownThing_41 (Option.some.inj hv) ⟨Nat.le_refl _, Nat.le_refl _⟩
      have hv := (if_neg z31_5).symm.trans hv
      exact op_none hv
  · have hv := (if_neg q4).symm.trans hv
    refine jr_naload_n C dX11_shownThing_7 rfl 0 rfl ?_
    by_cases z8 : cCast S v0 [2, 1] = true
    case neg => exact op_none ((if_neg z8).symm.trans hv)
    have hv := (if_pos z8).symm.trans hv
    refine jc_cast C K z8 y_Pose kw_701 dX11_shownThing_8 ?_
    refine jr_nastore_n (i := 1) (lv' := [(1, va_rf v0), (0, va_rf v0)]) C dX11_shownThing_11 rfl (by decide) (by simp [cat_rf, cat_i, cat_l, cat_r]) ?_
    refine jr_naload_n C dX11_shownThing_12 rfl 0 rfl ?_
    obtain ⟨c13, hc13, hv⟩ := Option.bind_eq_some_iff.mp hv
    refine jc_tg C K (tgI_F hc13) fg_Pose_mark kw_685 dX11_shownThing_13 ?_
    refine jr_i2l C dX11_shownThing_16 ?_
    exact jc_lret C K dX11_shownThing_17 (Option.some.inj hv) ⟨Nat.le_refl _, Nat.le_refl _⟩
theorem pX11_shownThing (l : Launch) {g : CG} (G : cSep g)   (S : CS) (v0 : Option Nat) {w : Int64 × CS} (hw : fX11_shownThing S v0 = some w)  : cC l yX11_shownThing cX11_shownThing 2 (some .long) 1 0 0 g [va_rf v0] S (some (.long w.1)) w.2 := cC_of (lv := [(0, va_rf v0)]) (by decide +kernel) (by simp [lg_sl, cat_rf, cat_i, cat_l, cat_r]) (by simp [lv_args, cat_rf, cat_i, cat_l, cat_r]) (fun C K => tX11_shownThing_0 C K G  S v0 hw)
/-! RobotCell.read(ILRobotCell$Thing;I)I -/
theorem u_X4_chainLength_chainLength_1 : ok_u yX4_chainLength yX4_chainLength RX4 RX3 cX4_chainLength 3 (some .int) 0 := ⟨kw_719, kw_715, kw_81, kw_717, nw_in kw_718, Or.inr ⟨kw_715, _, _, _, kw_719⟩, by decide +kernel⟩
def fX11_read_161 (S : CS) (t1 : Int32) (t2 : Int32) : Option (Int32 × CS) :=
  Option.bind (fX11_giveNumber S t1 t2.toInt64) (fun c162 => some (c162.1, c162.2))
def fX11_read (S : CS) (v1 : Int32) (v2 : Option Nat) (v3 : Int32) : Option (Int32 × CS) :=
  onul v2 (some (1, S)) (fun _ => Option.bind (cInst S v2 [2, 1] [0, 3, 4, 5, 6]) (fun c7 => if c7 = 0 then some (2, S) else (if cCast S v2 [2, 1] = true then (if v3 = 0 then (Option.bind (tgJ S v2 [2, 1] 0) (fun c72 => Option.bind (fX11_giveMeasure S v1 c72) (fun c75 => some (c75.1, c75.2)))) else if v3 = 1 then (Option.bind (tgJ S v2 [2, 1] 1) (fun c83 => Option.bind (fX11_giveMeasure S v1 c83) (fun c86 => some (c86.1, c86.2)))) else if v3 = 2 then (Option.bind (tgJ S v2 [2, 1] 2) (fun c94 => Option.bind (fX11_giveMeasure S v1 c94) (fun c97 => some (c97.1, c97.2)))) else if v3 = 3 then (Option.bind (tgI S v2 [2, 1] 3) (fun c105 => Option.bind (fX11_giveNumber S v1 c105.toInt64) (fun c109 => some (c109.1, c109.2)))) else if v3 = 4 then (Option.bind (tgN S v2 [2, 1] 4) (fun c117 => Option.bind (fX11_giveThing S v1 c117) (fun c120 => some (c120.1, c120.2)))) else if v3 = 5 then (Option.bind (cInst S v2 [1] [0, 2, 3, 4, 5, 6]) (fun c126 => if c126 = 0 then some (2, S) else (if cCast S v2 [1] = true then (Option.bind (tgJ S v2 [1] 5) (fun c143 => Option.bind (fX11_giveMeasure S v1 c143) (fun c146 => some (c146.1, c146.2)))) else none))) else if v3 = 6 then (if isKx S v2 [2] = true then (Option.bind (fX4_chainLength S v2) (fun c158 => fX11_read_161 c158.2 v1 c158.1)) else if isKx S v2 [1] = true then (Option.bind (fX4_chainLength S v2) (fun c158 => fX11_read_161 c158.2 v1 c158.1)) else none) else some (0, S)) else none)))
theorem oX11_read : ok_c yX11_read cX11_read 6 (some .int) 3 (.instanceMethod yX11_read) := ⟨kw_713, ⟨kw_712, rfl⟩, kw_71, by decide +kernel⟩
set_option maxRecDepth 100000 in
set_option maxHeartbeats 1000000 in
theorem tX11_read_161 {p : Program} {l : Launch} {e : Env} {s : State} {m : MethodId} {args : Array Value} {below : List Frame} {meth : Method} {c : Code} {g : CG} {S0 : CS} (C : CC p s m args meth c yX11_read cX11_read 6 (some .int)) (K : cK g s) (G : cSep g)  (S : CS) (t1 : Int32) (t2 : Int32) {w : Int32 × CS} (hv : fX11_read_161 S t1 t2 = some w) : CJ p l e s m args below meth c 6 2 0 0 g S0 (some (.int w.1)) w.2 161 [] [.int t2, .int t1, .ref (co g)] S 0 0 := by
  unfold fX11_read_161 at hv
  refine jr_i2l C dX11_read_161 ?_
  obtain ⟨c162, hc162, hv⟩ := Option.bind_eq_some_iff.mp hv
  refine jc_callO (rest := []) C K (pX11_giveNumber l G S t1 t2.toInt64 hc162) oX11_giveNumber kw_8 kw_234 rfl ⟨Nat.le_of_ble_eq_true rfl, Nat.le_of_ble_eq_true rfl⟩ rfl (Nat.le_of_ble_eq_true rfl) ⟨Nat.le_refl _, Nat.le_refl _⟩ dX11_read_162 ?_
  exact jc_iret C K dX11_read_165 (Option.some.inj hv) ⟨Nat.le_refl _, Nat.le_refl _⟩
set_option maxRecDepth 100000 in
set_option maxHeartbeats 1000000 in
theorem tX11_read_0 {p : Program} {l : Launch} {e : Env} {s : State} {m : MethodId} {args : Array Value} {below : List Frame} {meth : Method} {c : Code} {g : CG} {S0 : CS} (C : CC p s m args meth c yX11_read cX11_read 6 (some .int)) (K : cK g s) (G : cSep g)  (S : CS) (v1 : Int32) (v2 : Option Nat) (v3 : Int32) {w : Int32 × CS} (hv : fX11_read S v1 v2 v3 = some w) : CJ p l e s m args below meth c 6 2 0 0 g S0 (some (.int w.1)) w.2 0 [(0, .ref (co g)), (1, .int v1), (2, va_rf v2), (3, .int v3)] [] S 0 0 := by
  unfold fX11_read at hv
  refine jr_naload_n C dX11_read_0 rfl 2 rfl ?_
  refine jr_ifnonnull (tgt := 6) C dX11_read_1 rfl (fun a1 q1 => ?_) (fun q1 => ?_)
  · have hv := (onul_s q1).symm.trans hv
    refine jr_naload_n C dX11_read_6 rfl 2 rfl ?_
    obtain ⟨c7, hc7, hv⟩ := Option.bind_eq_some_iff.mp hv
    refine jc_inst C K hc7 y_Pose n_Pose kw_701 dX11_read_7 ?_
    refine jr_if_eq (tgt := 22) C dX11_read_10 rfl (fun q10 => ?_) (fun q10 => ?_)
    · have hv := (if_pos q10).symm.trans hv
      refine jr_iconst (v := 2) C dX11_read_22 (by decide) ?_
      exact jc_iret C K dX11_read_23 (Option.some.inj hv) ⟨Nat.le_refl _, Nat.le_refl _⟩
    · have hv := (if_neg q10).symm.trans hv
      refine jr_naload_n C dX11_read_13 rfl 2 rfl ?_
      by_cases z14 : cCast S v2 [2, 1] = true
      case neg => exact op_none ((if_neg z14).symm.trans hv)
      have hv := (if_pos z14).symm.trans hv
      refine jc_cast C K z14 y_Pose kw_701 dX11_read_14 ?_
      refine jr_nastore (i := 4) (lv' := [(4, va_rf v2), (0, .ref (co g)), (1, .int v1), (2, va_rf v2), (3, .int v3)]) C dX11_read_17 (by decide) rfl ?_
      refine jr_goto (tgt := 24) C dX11_read_19 rfl ?_
      refine jr_iload_n C dX11_read_24 rfl 4 rfl ?_
      by_cases q25_0 : v3 = 0
      · have hv := (if_pos q25_0).symm.trans hv
        refine jr_tableIn (off := 43) (tgt := 68) C dX11_read_25 (by rw [q25_0]; decide) (by rw [q25_0]; decide) (by rw [q25_0]; rfl) rfl ?_
        refine jr_aload_n C dX11_read_68 rfl 1 rfl ?_
        refine jr_iload_n C dX11_read_69 rfl 2 rfl ?_
        refine jr_naload C dX11_read_70 0 rfl ?_
        obtain ⟨c72, hc72, hv⟩ := Option.bind_eq_some_iff.mp hv
        refine jc_tg C K (tgJ_F hc72) fg_Pose_x kw_679 dX11_read_72 ?_
        obtain ⟨c75, hc75, hv⟩ := Option.bind_eq_some_iff.mp hv
        refine jc_callO (rest := []) C K (pX11_giveMeasure l G S v1 c72 hc75) oX11_giveMeasure kw_15 kw_318 rfl ⟨Nat.le_of_ble_eq_true rfl, Nat.le_of_ble_eq_true rfl⟩ rfl (Nat.le_of_ble_eq_true rfl) ⟨Nat.le_refl _, Nat.le_refl _⟩ dX11_read_75 ?_
        exact jc_iret C K dX11_read_78 (Option.some.inj hv) ⟨Nat.le_refl _, Nat.le_refl _⟩
      have hv := (if_neg q25_0).symm.trans hv
      by_cases q25_1 : v3 = 1
      · have hv := (if_pos q25_1).symm.trans hv
        refine jr_tableIn (off := 54) (tgt := 79) C dX11_read_25 (by rw [q25_1]; decide) (by rw [q25_1]; decide) (by rw [q25_1]; rfl) rfl ?_
        refine jr_aload_n C dX11_read_79 rfl 1 rfl ?_
        refine jr_iload_n C dX11_read_80 rfl 2 rfl ?_
        refine jr_naload C dX11_read_81 0 rfl ?_
        obtain ⟨c83, hc83, hv⟩ := Option.bind_eq_some_iff.mp hv
        refine jc_tg C K (tgJ_F hc83) fg_Pose_y kw_681 dX11_read_83 ?_
        obtain ⟨c86, hc86, hv⟩ := Option.bind_eq_some_iff.mp hv
        refine jc_callO (rest := []) C K (pX11_giveMeasure l G S v1 c83 hc86) oX11_giveMeasure kw_15 kw_318 rfl ⟨Nat.le_of_ble_eq_true rfl, Nat.le_of_ble_eq_true rfl⟩ rfl (Nat.le_of_ble_eq_true rfl) ⟨Nat.le_refl _, Nat.le_refl _⟩ dX11_read_86 ?_
        exact jc_iret C K dX11_read_89 (Option.some.inj hv) ⟨Nat.le_refl _, Nat.le_refl _⟩
      have hv := (if_neg q25_1).symm.trans hv
      by_cases q25_2 : v3 = 2
      · have hv := (if_pos q25_2).symm.trans hv
        refine jr_tableIn (off := 65) (tgt := 90) C dX11_read_25 (by rw [q25_2]; decide) (by rw [q25_2]; decide) (by rw [q25_2]; rfl) rfl ?_
        refine jr_aload_n C dX11_read_90 rfl 1 rfl ?_
        refine jr_iload_n C dX11_read_91 rfl 2 rfl ?_
        refine jr_naload C dX11_read_92 0 rfl ?_
        obtain ⟨c94, hc94, hv⟩ := Option.bind_eq_some_iff.mp hv
        refine jc_tg C K (tgJ_F hc94) fg_Pose_angle kw_683 dX11_read_94 ?_
        obtain ⟨c97, hc97, hv⟩ := Option.bind_eq_some_iff.mp hv
        refine jc_callO (rest := []) C K (pX11_giveMeasure l G S v1 c94 hc97) oX11_giveMeasure kw_15 kw_318 rfl ⟨Nat.le_of_ble_eq_true rfl, Nat.le_of_ble_eq_true rfl⟩ rfl (Nat.le_of_ble_eq_true rfl) ⟨Nat.le_refl _, Nat.le_refl _⟩ dX11_read_97 ?_
        exact jc_iret C K dX11_read_100 (Option.some.inj hv) ⟨Nat.le_refl _, Nat.le_refl _⟩
      have hv := (if_neg q25_2).symm.trans hv
      by_cases q25_3 : v3 = 3
      · have hv := (if_pos q25_3).symm.trans hv
        refine jr_tableIn (off := 76) (tgt := 101) C dX11_read_25 (by rw [q25_3]; decide) (by rw [q25_3]; decide) (by rw [q25_3]; rfl) rfl ?_
        refine jr_aload_n C dX11_read_101 rfl 1 rfl ?_
        refine jr_iload_n C dX11_read_102 rfl 2 rfl ?_
        refine jr_naload C dX11_read_103 0 rfl ?_
        obtain ⟨c105, hc105, hv⟩ := Option.bind_eq_some_iff.mp hv
        refine jc_tg C K (tgI_F hc105) fg_Pose_mark kw_685 dX11_read_105 ?_
        refine jr_i2l C dX11_read_108 ?_
        obtain ⟨c109, hc109, hv⟩ := Option.bind_eq_some_iff.mp hv
        refine jc_callO (rest := []) C K (pX11_giveNumber l G S v1 c105.toInt64 hc109) oX11_giveNumber kw_8 kw_234 rfl ⟨Nat.le_of_ble_eq_true rfl, Nat.le_of_ble_eq_true rfl⟩ rfl (Nat.le_of_ble_eq_true rfl) ⟨Nat.le_refl _, Nat.le_refl _⟩ dX11_read_109 ?_
        exact jc_iret C K dX11_read_112 (Option.some.inj hv) ⟨Nat.le_refl _, Nat.le_refl _⟩
      have hv := (if_neg q25_3).symm.trans hv
      by_cases q25_4 : v3 = 4
      · have hv := (if_pos q25_4).symm.trans hv
        refine jr_tableIn (off := 88) (tgt := 113) C dX11_read_25 (by rw [q25_4]; decide) (by rw [q25_4]; decide) (by rw [q25_4]; rfl) rfl ?_
        refine jr_aload_n C dX11_read_113 rfl 1 rfl ?_
        refine jr_iload_n C dX11_read_114 rfl 2 rfl ?_
        refine jr_naload C dX11_read_115 0 rfl ?_
        obtain ⟨c117, hc117, hv⟩ := Option.bind_eq_some_iff.mp hv
        refine jc_tg C K (tgN_F hc117) fg_Pose_after kw_687 dX11_read_117 ?_
        obtain ⟨c120, hc120, hv⟩ := Option.bind_eq_some_iff.mp hv
        refine jc_callO (rest := []) C K (pX11_giveThing l G S v1 c117 hc120) oX11_giveThing kw_22 kw_535 rfl ⟨Nat.le_of_ble_eq_true rfl, Nat.le_of_ble_eq_true rfl⟩ rfl (Nat.le_of_ble_eq_true rfl) ⟨Nat.le_refl _, Nat.le_refl _⟩ dX11_read_120 ?_
        exact jc_iret C K dX11_read_123 (Option.some.inj hv) ⟨Nat.le_refl _, Nat.le_refl _⟩
      have hv := (if_neg q25_4).symm.trans hv
      by_cases q25_5 : v3 = 5
      · have hv := (if_pos q25_5).symm.trans hv
        refine jr_tableIn (off := 99) (tgt := 124) C dX11_read_25 (by rw [q25_5]; decide) (by rw [q25_5]; decide) (by rw [q25_5]; rfl) rfl ?_
        refine jr_naload C dX11_read_124 0 rfl ?_
        obtain ⟨c126, hc126, hv⟩ := Option.bind_eq_some_iff.mp hv
        refine jc_inst C K hc126 y_Grasp n_Grasp kw_667 dX11_read_126 ?_
        refine jr_if_eq (tgt := 152) C dX11_read_129 rfl (fun q129 => ?_) (fun q129 => ?_)
        · have hv := (if_pos q129).symm.trans hv
          refine jr_iconst (v := 2) C dX11_read_152 (by decide) ?_
          exact jc_iret C K dX11_read_153 (Option.some.inj hv) ⟨Nat.le_refl _, Nat.le_refl _⟩
        · have hv := (if_neg q129).symm.trans hv
          refine jr_naload C dX11_read_132 0 rfl ?_
          by_cases z134 : cCast S v2 [1] = true
          case neg => exact op_none ((if_neg z134).symm.trans hv)
          have hv := (if_pos z134).symm.trans hv
          refine jc_cast C K z134 y_Grasp kw_667 dX11_read_134 ?_
          refine jr_nastore (i := 5) (lv' := [(5, va_rf v2), (4, va_rf v2), (0, .ref (co g)), (1, .int v1), (2, va_rf v2), (3, .int v3)]) C dX11_read_137 (by decide) (by simp [cat_rf, cat_i, cat_l, cat_r]) ?_
          refine jr_aload_n C dX11_read_139 rfl 2 rfl ?_
          refine jr_iload_n C dX11_read_140 rfl 3 rfl ?_
          refine jr_naload C dX11_read_141 0 rfl ?_
          obtain ⟨c143, hc143, hv⟩ := Option.bind_eq_some_iff.mp hv
          refine jc_tg C K (tgJ_F hc143) fg_Grasp_force kw_677 dX11_read_143 ?_
          obtain ⟨c146, hc146, hv⟩ := Option.bind_eq_some_iff.mp hv
          refine jc_callO (rest := []) C K (pX11_giveMeasure l G S v1 c143 hc146) oX11_giveMeasure kw_15 kw_318 rfl ⟨Nat.le_of_ble_eq_true rfl, Nat.le_of_ble_eq_true rfl⟩ rfl (Nat.le_of_ble_eq_true rfl) ⟨Nat.le_refl _, Nat.le_refl _⟩ dX11_read_146 ?_
          refine jr_goto (tgt := 153) C dX11_read_149 rfl ?_
          exact jc_iret C K dX11_read_153 (Option.some.inj hv) ⟨Nat.le_refl _, Nat.le_refl _⟩
      have hv := (if_neg q25_5).symm.trans hv
      by_cases q25_6 : v3 = 6
      · have hv := (if_pos q25_6).symm.trans hv
        refine jr_tableIn (off := 129) (tgt := 154) C dX11_read_25 (by rw [q25_6]; decide) (by rw [q25_6]; decide) (by rw [q25_6]; rfl) rfl ?_
        refine jr_aload_n C dX11_read_154 rfl 1 rfl ?_
        refine jr_iload_n C dX11_read_155 rfl 2 rfl ?_
        refine jr_naload C dX11_read_156 0 rfl ?_
        by_cases z158_2 : isKx S v2 [2] = true
        case pos =>
          have hv := (if_pos z158_2).symm.trans hv
          obtain ⟨c158, hc158, hv⟩ := Option.bind_eq_some_iff.mp hv
          refine jc_callT (ci := 2) (rest := [.int v1, .ref (co g)]) C K (pX4_chainLength l G S v2  hc158) z158_2 rfl oX4_chainLength kw_716 kw_714 rfl ⟨Nat.le_of_ble_eq_true rfl, Nat.le_of_ble_eq_true rfl⟩ rfl (Nat.le_of_ble_eq_true rfl) ⟨Nat.le_refl _, Nat.le_refl _⟩ dX11_read_158 ?_
          exact jr_sub [] rfl (tX11_read_161 C K G  c158.2 v1 c158.1 hv)
        have hv := (if_neg z158_2).symm.trans hv
        by_cases z158_1 : isKx S v2 [1] = true
        case pos =>
          have hv := (if_pos z158_1).symm.trans hv
          obtain ⟨c158, hc158, hv⟩ := Option.bind_eq_some_iff.mp hv
          refine jc_callU (ci := 1) (rest := [.int v1, .ref (co g)]) C K (pX4_chainLength l G S v2  hc158) z158_1 rfl u_X4_chainLength_chainLength_1 kw_714 rfl ⟨Nat.le_of_ble_eq_true rfl, Nat.le_of_ble_eq_true rfl⟩ rfl (Nat.le_of_ble_eq_true rfl) ⟨Nat.le_refl _, Nat.le_refl _⟩ dX11_read_158 ?_
          exact jr_sub [] rfl (tX11_read_161 C K G  c158.2 v1 c158.1 hv)
        have hv := (if_neg z158_1).symm.trans hv
        exact op_none hv
      have hv := (if_neg q25_6).symm.trans hv
      refine jr_tableOut (tgt := 166) C dX11_read_25 (by have := sw_ne (a := 0) q25_0 (by decide); have := sw_ne (a := 1) q25_1 (by decide); have := sw_ne (a := 2) q25_2 (by decide); have := sw_ne (a := 3) q25_3 (by decide); have := sw_ne (a := 4) q25_4 (by decide); have := sw_ne (a := 5) q25_5 (by decide); have := sw_ne (a := 6) q25_6 (by decide); omega) rfl ?_
      refine jr_iconst (v := 0) C dX11_read_166 (by decide) ?_
      exact jc_iret C K dX11_read_167 (Option.some.inj hv) ⟨Nat.le_refl _, Nat.le_refl _⟩
  · have hv := (onul_n q1).symm.trans hv
    refine jr_iconst (v := 1) C dX11_read_4 (by decide) ?_
    exact jc_iret C K dX11_read_5 (Option.some.inj hv) ⟨Nat.le_refl _, Nat.le_refl _⟩
theorem pX11_read (l : Launch) {g : CG} (G : cSep g)   (S : CS) (v1 : Int32) (v2 : Option Nat) (v3 : Int32) {w : Int32 × CS} (hw : fX11_read S v1 v2 v3 = some w)  : cC l yX11_read cX11_read 6 (some .int) 2 0 0 g [.ref (co g), .int v1, va_rf v2, .int v3] S (some (.int w.1)) w.2 := cC_of (lv := [(0, .ref (co g)), (1, .int v1), (2, va_rf v2), (3, .int v3)]) (by decide +kernel) (by simp [lg_sl, cat_rf, cat_i, cat_l, cat_r]) (by simp [lv_args, cat_rf, cat_i, cat_l, cat_r]) (fun C K => tX11_read_0 C K G  S v1 v2 v3 hw)
/-! RobotCell.writeMeasure(LRobotCell$Pose;IJ)I -/
def fX11_writeMeasure_87 (S : CS) : Option (Int32 × CS) :=
  some (0, S)
def fX11_writeMeasure (S : CS) (v0 : Option Nat) (v1 : Int32) (v2 : Int64) : Option (Int32 × CS) :=
  if v1 = 0 then (Option.bind (tp S v0 [2, 1] 0 (.long v2)) (fun c42 => some (0, c42))) else if v1 = 1 then (Option.bind (tp S v0 [2, 1] 1 (.long v2)) (fun c49 => some (0, c49))) else if v1 = 2 then (Option.bind (tp S v0 [2, 1] 2 (.long v2)) (fun c56 => some (0, c56))) else if v1 = 3 then fX11_writeMeasure_87 S else if v1 = 4 then fX11_writeMeasure_87 S else if v1 = 5 then (Option.bind (cInst S v0 [1] [0, 2, 3, 4, 5, 6]) (fun c62 => if c62 = 0 then some (2, S) else (if cCast S v0 [1] = true then (Option.bind (tp S v0 [1] 5 (.long v2)) (fun c82 => some (0, c82))) else none))) else fX11_writeMeasure_87 S
theorem oX11_writeMeasure : ok_c yX11_writeMeasure cX11_writeMeasure 5 (some .int) 3 (.static yX11_writeMeasure) := ⟨kw_726, ⟨kw_725, rfl⟩, kw_71, by decide +kernel⟩
set_option maxRecDepth 100000 in
set_option maxHeartbeats 1000000 in
theorem tX11_writeMeasure_87 {p : Program} {l : Launch} {e : Env} {s : State} {m : MethodId} {args : Array Value} {below : List Frame} {meth : Method} {c : Code} {g : CG} {S0 : CS} (C : CC p s m args meth c yX11_writeMeasure cX11_writeMeasure 5 (some .int)) (K : cK g s) (G : cSep g)  (S : CS) {w : Int32 × CS} (hv : fX11_writeMeasure_87 S = some w) : CJ p l e s m args below meth c 5 0 0 0 g S0 (some (.int w.1)) w.2 87 [] [] S 0 0 := by
  unfold fX11_writeMeasure_87 at hv
  refine jr_iconst (v := 0) C dX11_writeMeasure_87 (by decide) ?_
  exact jc_iret C K dX11_writeMeasure_88 (Option.some.inj hv) ⟨Nat.le_refl _, Nat.le_refl _⟩
set_option maxRecDepth 100000 in
set_option maxHeartbeats 1000000 in
theorem tX11_writeMeasure_0 {p : Program} {l : Launch} {e : Env} {s : State} {m : MethodId} {args : Array Value} {below : List Frame} {meth : Method} {c : Code} {g : CG} {S0 : CS} (C : CC p s m args meth c yX11_writeMeasure cX11_writeMeasure 5 (some .int)) (K : cK g s) (G : cSep g)  (S : CS) (v0 : Option Nat) (v1 : Int32) (v2 : Int64) {w : Int32 × CS} (hv : fX11_writeMeasure S v0 v1 v2 = some w) : CJ p l e s m args below meth c 5 0 0 0 g S0 (some (.int w.1)) w.2 0 [(0, va_rf v0), (1, .int v1), (2, .long v2)] [] S 0 0 := by
  unfold fX11_writeMeasure at hv
  refine jr_iload_n C dX11_writeMeasure_0 rfl 1 rfl ?_
  by_cases q1_0 : v1 = 0
  · have hv := (if_pos q1_0).symm.trans hv
    refine jr_tableIn (off := 39) (tgt := 40) C dX11_writeMeasure_1 (by rw [q1_0]; decide) (by rw [q1_0]; decide) (by rw [q1_0]; rfl) rfl ?_
    refine jr_naload_n C dX11_writeMeasure_40 rfl 0 rfl ?_
    refine jr_lload_n C dX11_writeMeasure_41 rfl 2 rfl ?_
    obtain ⟨c42, hc42, hv⟩ := Option.bind_eq_some_iff.mp hv
    refine jc_tp C K hc42 fp_Pose_x rfl rfl kw_679 dX11_writeMeasure_42 ?_
    refine jr_iconst (v := 0) C dX11_writeMeasure_45 (by decide) ?_
    exact jc_iret C K dX11_writeMeasure_46 (Option.some.inj hv) ⟨Nat.le_refl _, Nat.le_refl _⟩
  have hv := (if_neg q1_0).symm.trans hv
  by_cases q1_1 : v1 = 1
  · have hv := (if_pos q1_1).symm.trans hv
    refine jr_tableIn (off := 46) (tgt := 47) C dX11_writeMeasure_1 (by rw [q1_1]; decide) (by rw [q1_1]; decide) (by rw [q1_1]; rfl) rfl ?_
    refine jr_naload_n C dX11_writeMeasure_47 rfl 0 rfl ?_
    refine jr_lload_n C dX11_writeMeasure_48 rfl 2 rfl ?_
    obtain ⟨c49, hc49, hv⟩ := Option.bind_eq_some_iff.mp hv
    refine jc_tp C K hc49 fp_Pose_y rfl rfl kw_681 dX11_writeMeasure_49 ?_
    refine jr_iconst (v := 0) C dX11_writeMeasure_52 (by decide) ?_
    exact jc_iret C K dX11_writeMeasure_53 (Option.some.inj hv) ⟨Nat.le_refl _, Nat.le_refl _⟩
  have hv := (if_neg q1_1).symm.trans hv
  by_cases q1_2 : v1 = 2
  · have hv := (if_pos q1_2).symm.trans hv
    refine jr_tableIn (off := 53) (tgt := 54) C dX11_writeMeasure_1 (by rw [q1_2]; decide) (by rw [q1_2]; decide) (by rw [q1_2]; rfl) rfl ?_
    refine jr_naload_n C dX11_writeMeasure_54 rfl 0 rfl ?_
    refine jr_lload_n C dX11_writeMeasure_55 rfl 2 rfl ?_
    obtain ⟨c56, hc56, hv⟩ := Option.bind_eq_some_iff.mp hv
    refine jc_tp C K hc56 fp_Pose_angle rfl rfl kw_683 dX11_writeMeasure_56 ?_
    refine jr_iconst (v := 0) C dX11_writeMeasure_59 (by decide) ?_
    exact jc_iret C K dX11_writeMeasure_60 (Option.some.inj hv) ⟨Nat.le_refl _, Nat.le_refl _⟩
  have hv := (if_neg q1_2).symm.trans hv
  by_cases q1_3 : v1 = 3
  · have hv := (if_pos q1_3).symm.trans hv
    refine jr_tableIn (off := 86) (tgt := 87) C dX11_writeMeasure_1 (by rw [q1_3]; decide) (by rw [q1_3]; decide) (by rw [q1_3]; rfl) rfl ?_
    exact jr_sub [] rfl (tX11_writeMeasure_87 C K G  S hv)
  have hv := (if_neg q1_3).symm.trans hv
  by_cases q1_4 : v1 = 4
  · have hv := (if_pos q1_4).symm.trans hv
    refine jr_tableIn (off := 86) (tgt := 87) C dX11_writeMeasure_1 (by rw [q1_4]; decide) (by rw [q1_4]; decide) (by rw [q1_4]; rfl) rfl ?_
    exact jr_sub [] rfl (tX11_writeMeasure_87 C K G  S hv)
  have hv := (if_neg q1_4).symm.trans hv
  by_cases q1_5 : v1 = 5
  · have hv := (if_pos q1_5).symm.trans hv
    refine jr_tableIn (off := 60) (tgt := 61) C dX11_writeMeasure_1 (by rw [q1_5]; decide) (by rw [q1_5]; decide) (by rw [q1_5]; rfl) rfl ?_
    refine jr_naload_n C dX11_writeMeasure_61 rfl 0 rfl ?_
    obtain ⟨c62, hc62, hv⟩ := Option.bind_eq_some_iff.mp hv
    refine jc_inst C K hc62 y_Grasp n_Grasp kw_667 dX11_writeMeasure_62 ?_
    refine jr_if_eq (tgt := 77) C dX11_writeMeasure_65 rfl (fun q65 => ?_) (fun q65 => ?_)
    · have hv := (if_pos q65).symm.trans hv
      refine jr_iconst (v := 2) C dX11_writeMeasure_77 (by decide) ?_
      exact jc_iret C K dX11_writeMeasure_78 (Option.some.inj hv) ⟨Nat.le_refl _, Nat.le_refl _⟩
    · have hv := (if_neg q65).symm.trans hv
      refine jr_naload_n C dX11_writeMeasure_68 rfl 0 rfl ?_
      by_cases z69 : cCast S v0 [1] = true
      case neg => exact op_none ((if_neg z69).symm.trans hv)
      have hv := (if_pos z69).symm.trans hv
      refine jc_cast C K z69 y_Grasp kw_667 dX11_writeMeasure_69 ?_
      refine jr_nastore (i := 4) (lv' := [(4, va_rf v0), (0, va_rf v0), (1, .int v1), (2, .long v2)]) C dX11_writeMeasure_72 (by decide) rfl ?_
      refine jr_goto (tgt := 79) C dX11_writeMeasure_74 rfl ?_
      refine jr_naload C dX11_writeMeasure_79 0 rfl ?_
      refine jr_lload_n C dX11_writeMeasure_81 rfl 3 rfl ?_
      obtain ⟨c82, hc82, hv⟩ := Option.bind_eq_some_iff.mp hv
      refine jc_tp C K hc82 fp_Grasp_force rfl rfl kw_677 dX11_writeMeasure_82 ?_
      refine jr_iconst (v := 0) C dX11_writeMeasure_85 (by decide) ?_
      exact jc_iret C K dX11_writeMeasure_86 (Option.some.inj hv) ⟨Nat.le_refl _, Nat.le_refl _⟩
  have hv := (if_neg q1_5).symm.trans hv
  refine jr_tableOut (tgt := 87) C dX11_writeMeasure_1 (by have := sw_ne (a := 0) q1_0 (by decide); have := sw_ne (a := 1) q1_1 (by decide); have := sw_ne (a := 2) q1_2 (by decide); have := sw_ne (a := 3) q1_3 (by decide); have := sw_ne (a := 4) q1_4 (by decide); have := sw_ne (a := 5) q1_5 (by decide); omega) rfl ?_
  exact jr_sub [] rfl (tX11_writeMeasure_87 C K G  S hv)
theorem pX11_writeMeasure (l : Launch) {g : CG} (G : cSep g)   (S : CS) (v0 : Option Nat) (v1 : Int32) (v2 : Int64) {w : Int32 × CS} (hw : fX11_writeMeasure S v0 v1 v2 = some w)  : cC l yX11_writeMeasure cX11_writeMeasure 5 (some .int) 0 0 0 g [va_rf v0, .int v1, .long v2] S (some (.int w.1)) w.2 := cC_of (lv := [(0, va_rf v0), (1, .int v1), (2, .long v2)]) (by decide +kernel) (by simp [lg_sl, cat_rf, cat_i, cat_l, cat_r]) (by simp [lv_args, cat_rf, cat_i, cat_l, cat_r]) (fun C K => tX11_writeMeasure_0 C K G  S v0 v1 v2 hw)
/-! RobotCell.write(ILRobotCell$Thing;I)I -/
def fX11_write_123 (S : CS) (t0 : Option Nat) (t1 : Option Nat) : Option (Int32 × CS) :=
  Option.bind (tp S t0 [2, 1] 4 (va_rf t1)) (fun c123 => some (0, c123))
def fX11_write_34 (S : CS) (v1 : Int32) (v2 : Option Nat) (v3 : Int32) (v4 : Option Nat) : Option (Int32 × CS) :=
  onul v2 (some (1, S)) (fun _ => Option.bind (cInst S v2 [2, 1] [0, 3, 4, 5, 6]) (fun c41 => if c41 = 0 then some (2, S) else (if cCast S v2 [2, 1] = true then (if v3 = 3 then (Option.bind (fX7_numberAt S v1) (fun c91 => Option.bind (tp c91.2 v2 [2, 1] 3 (.int c91.1.toInt32)) (fun c95 => some (0, c95)))) else if v3 = 4 then (Option.bind (cInst S v4 [2, 1] [0, 3, 4, 5, 6]) (fun c104 => if c104 = 0 then fX11_write_123 S v2 none else (if cCast S v4 [2, 1] = true then fX11_write_123 S v2 v4 else none))) else (Option.bind (fX7_measureAt S v1) (fun c136 => Option.bind (fX11_writeMeasure c136.2 v2 v3 c136.1) (fun c139 => some (c139.1, c139.2))))) else none)))
def fX11_write_17 (S : CS) (v1 : Int32) (v2 : Option Nat) (v3 : Int32) (t0 : Option Nat) : Option (Int32 × CS) :=
  onul t0 (fX11_write_34 S v1 v2 v3 t0) (fun _ => Option.bind (cInst S t0 [2, 1] [0, 3, 4, 5, 6]) (fun c26 => if c26 = 0 then some (2, S) else fX11_write_34 S v1 v2 v3 t0))
def fX11_write (S : CS) (v1 : Int32) (v2 : Option Nat) (v3 : Int32) : Option (Int32 × CS) :=
  if v3 = 4 then (Option.bind (fX7_thingAt S v1) (fun c10 => fX11_write_17 c10.2 v1 v2 v3 c10.1)) else fX11_write_17 S v1 v2 v3 none
theorem oX11_write : ok_c yX11_write cX11_write 7 (some .int) 3 (.instanceMethod yX11_write) := ⟨kw_723, ⟨kw_722, rfl⟩, kw_71, by decide +kernel⟩
set_option maxRecDepth 100000 in
set_option maxHeartbeats 1000000 in
theorem tX11_write_123 {p : Program} {l : Launch} {e : Env} {s : State} {m : MethodId} {args : Array Value} {below : List Frame} {meth : Method} {c : Code} {g : CG} {S0 : CS} (C : CC p s m args meth c yX11_write cX11_write 7 (some .int)) (K : cK g s) (G : cSep g)  (S : CS) (t0 : Option Nat) (t1 : Option Nat) {w : Int32 × CS} (hv : fX11_write_123 S t0 t1 = some w) : CJ p l e s m args below meth c 7 1 0 0 g S0 (some (.int w.1)) w.2 123 [] [va_rf t1, va_rf t0] S 0 0 := by
  unfold fX11_write_123 at hv
  obtain ⟨c123, hc123, hv⟩ := Option.bind_eq_some_iff.mp hv
  refine jc_tp C K hc123 fp_Pose_after (nar_rf _) (fit_rf _) kw_687 dX11_write_123 ?_
  refine jr_iconst (v := 0) C dX11_write_126 (by decide) ?_
  exact jc_iret C K dX11_write_127 (Option.some.inj hv) ⟨Nat.le_refl _, Nat.le_refl _⟩
set_option maxRecDepth 100000 in
set_option maxHeartbeats 1000000 in
theorem tX11_write_34 {p : Program} {l : Launch} {e : Env} {s : State} {m : MethodId} {args : Array Value} {below : List Frame} {meth : Method} {c : Code} {g : CG} {S0 : CS} (C : CC p s m args meth c yX11_write cX11_write 7 (some .int)) (K : cK g s) (G : cSep g)  (S : CS) (v1 : Int32) (v2 : Option Nat) (v3 : Int32) (v4 : Option Nat) {w : Int32 × CS} (hv : fX11_write_34 S v1 v2 v3 v4 = some w) : CJ p l e s m args below meth c 7 1 0 0 g S0 (some (.int w.1)) w.2 34 [(0, .ref (co g)), (1, .int v1), (2, va_rf v2), (3, .int v3), (4, va_rf v4)] [] S 0 0 := by
  unfold fX11_write_34 at hv
  refine jr_naload_n C dX11_write_34 rfl 2 rfl ?_
  refine jr_ifnonnull (tgt := 40) C dX11_write_35 rfl (fun a35 q35 => ?_) (fun q35 => ?_)
  · have hv := (onul_s q35).symm.trans hv
    refine jr_naload_n C dX11_write_40 rfl 2 rfl ?_
    obtain ⟨c41, hc41, hv⟩ := Option.bind_eq_some_iff.mp hv
    refine jc_inst C K hc41 y_Pose n_Pose kw_701 dX11_write_41 ?_
    refine jr_if_eq (tgt := 56) C dX11_write_44 rfl (fun q44 => ?_) (fun q44 => ?_)
    · have hv := (if_pos q44).symm.trans hv
      refine jr_iconst (v := 2) C dX11_write_56 (by decide) ?_
      exact jc_iret C K dX11_write_57 (Option.some.inj hv) ⟨Nat.le_refl _, Nat.le_refl _⟩
    · have hv := (if_neg q44).symm.trans hv
      refine jr_naload_n C dX11_write_47 rfl 2 rfl ?_
      by_cases z48 : cCast S v2 [2, 1] = true
      case neg => exact op_none ((if_neg z48).symm.trans hv)
      have hv := (if_pos z48).symm.trans hv
      refine jc_cast C K z48 y_Pose kw_701 dX11_write_48 ?_
      refine jr_nastore (i := 5) (lv' := [(5, va_rf v2), (0, .ref (co g)), (1, .int v1), (2, va_rf v2), (3, .int v3), (4, va_rf v4)]) C dX11_write_51 (by decide) (by simp [cat_rf, cat_i, cat_l, cat_r]) ?_
      refine jr_goto (tgt := 58) C dX11_write_53 rfl ?_
      refine jr_iload_n C dX11_write_58 rfl 4 rfl ?_
      by_cases q59_0 : v3 = 3
      · have hv := (if_pos q59_0).symm.trans hv
        refine jr_lookup (off := 25) (tgt := 84) C dX11_write_59 rfl (by rw [q59_0]; rfl) rfl ?_
        refine jr_naload C dX11_write_84 0 rfl ?_
        refine jr_aload_n C dX11_write_86 rfl 1 rfl ?_
        refine jc_getR C K 5 (by decide) (by decide) kw_127 rfl dX11_write_87 ?_
        refine jr_iload_n C dX11_write_90 rfl 2 rfl ?_
        obtain ⟨c91, hc91, hv⟩ := Option.bind_eq_some_iff.mp hv
        refine jc_callR (rest := [va_rf v2]) C K (pX7_numberAt l G S v1 hc91) oX7_numberAt kw_209 kw_207 rfl ⟨Nat.le_of_ble_eq_true rfl, Nat.le_of_ble_eq_true rfl⟩ rfl (by simp [cat_rf, cat_i, cat_l, cat_r]) ⟨Nat.le_refl _, Nat.le_refl _⟩ dX11_write_91 ?_
        refine jr_l2i C dX11_write_94 ?_
        obtain ⟨c95, hc95, hv⟩ := Option.bind_eq_some_iff.mp hv
        refine jc_tp C K hc95 fp_Pose_mark rfl rfl kw_685 dX11_write_95 ?_
        refine jr_iconst (v := 0) C dX11_write_98 (by decide) ?_
        exact jc_iret C K dX11_write_99 (Option.some.inj hv) ⟨Nat.le_refl _, Nat.le_refl _⟩
      have hv := (if_neg q59_0).symm.trans hv
      by_cases q59_1 : v3 = 4
      · have hv := (if_pos q59_1).symm.trans hv
        refine jr_lookup (off := 41) (tgt := 100) C dX11_write_59 rfl (by rw [q59_1]; rfl) rfl ?_
        refine jr_naload C dX11_write_100 0 rfl ?_
        refine jr_naload C dX11_write_102 5 rfl ?_
        obtain ⟨c104, hc104, hv⟩ := Option.bind_eq_some_iff.mp hv
        refine jc_inst C K hc104 y_Pose n_Pose kw_701 dX11_write_104 ?_
        refine jr_if_eq (tgt := 122) C dX11_write_107 rfl (fun q107 => ?_) (fun q107 => ?_)
        · have hv := (if_pos q107).symm.trans hv
          refine jr_null C dX11_write_122 ?_
          exact jr_sub [] rfl (tX11_write_123 C K G  S v2 none hv)
        · have hv := (if_neg q107).symm.trans hv
          refine jr_naload C dX11_write_110 5 rfl ?_
          by_cases z112 : cCast S v4 [2, 1] = true
          case neg => exact op_none ((if_neg z112).symm.trans hv)
          have hv := (if_pos z112).symm.trans hv
          refine jc_cast C K z112 y_Pose kw_701 dX11_write_112 ?_
          refine jr_nastore (i := 6) (lv' := [(6, va_rf v4), (5, va_rf v2), (0, .ref (co g)), (1, .int v1), (2, va_rf v2), (3, .int v3), (4, va_rf v4)]) C dX11_write_115 (by decide) (by simp [cat_rf, cat_i, cat_l, cat_r]) ?_
          refine jr_naload C dX11_write_117 0 rfl ?_
          refine jr_goto (tgt := 123) C dX11_write_119 rfl ?_
          exact jr_sub [] rfl (tX11_write_123 C K G  S v2 v4 hv)
      have hv := (if_neg q59_1).symm.trans hv
      refine jr_lookup (off := 69) (tgt := 128) C dX11_write_59 rfl (((lv_osw q59_0 rfl).trans (lv_osw q59_1 rfl)).trans rfl) rfl ?_
      refine jr_naload C dX11_write_128 0 rfl ?_
      refine jr_iload_n C dX11_write_130 rfl 4 rfl ?_
      refine jr_aload_n C dX11_write_131 rfl 1 rfl ?_
      refine jc_getR C K 5 (by decide) (by decide) kw_127 rfl dX11_write_132 ?_
      refine jr_iload_n C dX11_write_135 rfl 2 rfl ?_
      obtain ⟨c136, hc136, hv⟩ := Option.bind_eq_some_iff.mp hv
      refine jc_callR (rest := [.int v3, va_rf v2]) C K (pX7_measureAt l G S v1 hc136) oX7_measureAt kw_262 kw_260 rfl ⟨Nat.le_of_ble_eq_true rfl, Nat.le_of_ble_eq_true rfl⟩ rfl (by simp [cat_rf, cat_i, cat_l, cat_r]) ⟨Nat.le_refl _, Nat.le_refl _⟩ dX11_write_136 ?_
      obtain ⟨c139, hc139, hv⟩ := Option.bind_eq_some_iff.mp hv
      refine jc_callS (rest := []) C K (pX11_writeMeasure l G c136.2 v2 v3 c136.1 hc139) oX11_writeMeasure kw_724 rfl ⟨Nat.le_of_ble_eq_true rfl, Nat.le_of_ble_eq_true rfl⟩ rfl (Nat.le_of_ble_eq_true rfl) ⟨Nat.le_refl _, Nat.le_refl _⟩ dX11_write_139 ?_
      exact jc_iret C K dX11_write_142 (Option.some.inj hv) ⟨Nat.le_refl _, Nat.le_refl _⟩
  · have hv := (onul_n q35).symm.trans hv
    refine jr_iconst (v := 1) C dX11_write_38 (by decide) ?_
    exact jc_iret C K dX11_write_39 (Option.some.inj hv) ⟨Nat.le_refl _, Nat.le_refl _⟩
set_option maxRecDepth 100000 in
set_option maxHeartbeats 1000000 in
theorem tX11_write_17 {p : Program} {l : Launch} {e : Env} {s : State} {m : MethodId} {args : Array Value} {below : List Frame} {meth : Method} {c : Code} {g : CG} {S0 : CS} (C : CC p s m args meth c yX11_write cX11_write 7 (some .int)) (K : cK g s) (G : cSep g)  (S : CS) (v1 : Int32) (v2 : Option Nat) (v3 : Int32) (t0 : Option Nat) {w : Int32 × CS} (hv : fX11_write_17 S v1 v2 v3 t0 = some w) : CJ p l e s m args below meth c 7 1 0 0 g S0 (some (.int w.1)) w.2 17 [(0, .ref (co g)), (1, .int v1), (2, va_rf v2), (3, .int v3)] [va_rf t0] S 0 0 := by
  unfold fX11_write_17 at hv
  refine jr_nastore (i := 4) (lv' := [(4, va_rf t0), (0, .ref (co g)), (1, .int v1), (2, va_rf v2), (3, .int v3)]) C dX11_write_17 (by decide) rfl ?_
  refine jr_naload C dX11_write_19 0 rfl ?_
  refine jr_ifnull (tgt := 34) C dX11_write_21 rfl (fun q21 => ?_) (fun a21 q21 => ?_)
  · have hv := (onul_n q21).symm.trans hv
    exact jr_sub [1, 2, 3, 4, 0] rfl (tX11_write_34 C K G  S v1 v2 v3 t0 hv)
  · have hv := (onul_s q21).symm.trans hv
    refine jr_naload C dX11_write_24 0 rfl ?_
    obtain ⟨c26, hc26, hv⟩ := Option.bind_eq_some_iff.mp hv
    refine jc_inst C K hc26 y_Pose n_Pose kw_701 dX11_write_26 ?_
    refine jr_if_ne (tgt := 34) C dX11_write_29 rfl (fun q29 => ?_) (fun q29 => ?_)
    · have hv := (if_neg q29).symm.trans hv
      exact jr_sub [1, 2, 3, 4, 0] rfl (tX11_write_34 C K G  S v1 v2 v3 t0 hv)
    · have hv := (if_pos q29).symm.trans hv
      refine jr_iconst (v := 2) C dX11_write_32 (by decide) ?_
      exact jc_iret C K dX11_write_33 (Option.some.inj hv) ⟨Nat.le_refl _, Nat.le_refl _⟩
set_option maxRecDepth 100000 in
set_option maxHeartbeats 1000000 in
theorem tX11_write_0 {p : Program} {l : Launch} {e : Env} {s : State} {m : MethodId} {args : Array Value} {below : List Frame} {meth : Method} {c : Code} {g : CG} {S0 : CS} (C : CC p s m args meth c yX11_write cX11_write 7 (some .int)) (K : cK g s) (G : cSep g)  (S : CS) (v1 : Int32) (v2 : Option Nat) (v3 : Int32) {w : Int32 × CS} (hv : fX11_write S v1 v2 v3 = some w) : CJ p l e s m args below meth c 7 1 0 0 g S0 (some (.int w.1)) w.2 0 [(0, .ref (co g)), (1, .int v1), (2, va_rf v2), (3, .int v3)] [] S 0 0 := by
  unfold fX11_write at hv
  refine jr_iload_n C dX11_write_0 rfl 3 rfl ?_
  refine jr_iconst (v := 4) C dX11_write_1 (by decide) ?_
  refine jr_icmp_ne (tgt := 16) C dX11_write_2 rfl (fun q2 => ?_) (fun q2 => ?_)
  · have hv := (if_neg q2).symm.trans hv
    refine jr_null C dX11_write_16 ?_
    exact tX11_write_17 C K G  S v1 v2 v3 none hv
  · have hv := (if_pos q2).symm.trans hv
    refine jr_aload_n C dX11_write_5 rfl 0 rfl ?_
    refine jc_getR C K 5 (by decide) (by decide) kw_127 rfl dX11_write_6 ?_
    refine jr_iload_n C dX11_write_9 rfl 1 rfl ?_
    obtain ⟨c10, hc10, hv⟩ := Option.bind_eq_some_iff.mp hv
    refine jc_callR (rest := []) C K (pX7_thingAt l G S v1 hc10) oX7_thingAt kw_497 kw_495 rfl ⟨Nat.le_of_ble_eq_true rfl, Nat.le_of_ble_eq_true rfl⟩ rfl (Nat.le_of_ble_eq_true rfl) ⟨Nat.le_refl _, Nat.le_refl _⟩ dX11_write_10 ?_
    refine jr_goto (tgt := 17) C dX11_write_13 rfl ?_
    exact tX11_write_17 C K G  c10.2 v1 v2 v3 c10.1 hv
theorem pX11_write (l : Launch) {g : CG} (G : cSep g)   (S : CS) (v1 : Int32) (v2 : Option Nat) (v3 : Int32) {w : Int32 × CS} (hw : fX11_write S v1 v2 v3 = some w)  : cC l yX11_write cX11_write 7 (some .int) 1 0 0 g [.ref (co g), .int v1, va_rf v2, .int v3] S (some (.int w.1)) w.2 := cC_of (lv := [(0, .ref (co g)), (1, .int v1), (2, va_rf v2), (3, .int v3)]) (by decide +kernel) (by simp [lg_sl, cat_rf, cat_i, cat_l, cat_r]) (by simp [lv_args, cat_rf, cat_i, cat_l, cat_r]) (fun C K => tX11_write_0 C K G  S v1 v2 v3 hw)
/-! RobotCell.shift(LRobotCell$Thing;JJ)I -/
def fX11_shift (S : CS) (v0 : Option Nat) (v1 : Int64) (v3 : Int64) : Option (Int32 × CS) :=
  onul v0 (some (1, S)) (fun _ => Option.bind (cInst S v0 [2, 1] [0, 3, 4, 5, 6]) (fun c7 => if c7 = 0 then some (2, S) else (if cCast S v0 [2, 1] = true then (Option.bind (tgJ S v0 [2, 1] 0) (fun c28 => Option.bind (tp S v0 [2, 1] 0 (.long (fX2_add c28 v1))) (fun c35 => Option.bind (tgJ c35 v0 [2, 1] 1) (fun c42 => Option.bind (tp c35 v0 [2, 1] 1 (.long (fX2_add c42 v3))) (fun c49 => some (0, c49)))))) else none)))
theorem oX11_shift : ok_c yX11_shift cX11_shift 6 (some .int) 3 (.static yX11_shift) := ⟨kw_729, ⟨kw_728, rfl⟩, kw_71, by decide +kernel⟩
set_option maxRecDepth 100000 in
set_option maxHeartbeats 1000000 in
theorem tX11_shift_0 {p : Program} {l : Launch} {e : Env} {s : State} {m : MethodId} {args : Array Value} {below : List Frame} {meth : Method} {c : Code} {g : CG} {S0 : CS} (C : CC p s m args meth c yX11_shift cX11_shift 6 (some .int)) (K : cK g s) (G : cSep g)  (S : CS) (v0 : Option Nat) (v1 : Int64) (v3 : Int64) {w : Int32 × CS} (hv : fX11_shift S v0 v1 v3 = some w) : CJ p l e s m args below meth c 6 5 0 0 g S0 (some (.int w.1)) w.2 0 [(0, va_rf v0), (1, .long v1), (3, .long v3)] [] S 0 0 := by
  unfold fX11_shift at hv
  refine jr_naload_n C dX11_shift_0 rfl 0 rfl ?_
  refine jr_ifnonnull (tgt := 6) C dX11_shift_1 rfl (fun a1 q1 => ?_) (fun q1 => ?_)
  · have hv := (onul_s q1).symm.trans hv
    refine jr_naload_n C dX11_shift_6 rfl 0 rfl ?_
    obtain ⟨c7, hc7, hv⟩ := Option.bind_eq_some_iff.mp hv
    refine jc_inst C K hc7 y_Pose n_Pose kw_701 dX11_shift_7 ?_
    refine jr_if_eq (tgt := 22) C dX11_shift_10 rfl (fun q10 => ?_) (fun q10 => ?_)
    · have hv := (if_pos q10).symm.trans hv
      refine jr_iconst (v := 2) C dX11_shift_22 (by decide) ?_
      exact jc_iret C K dX11_shift_23 (Option.some.inj hv) ⟨Nat.le_refl _, Nat.le_refl _⟩
    · have hv := (if_neg q10).symm.trans hv
      refine jr_naload_n C dX11_shift_13 rfl 0 rfl ?_
      by_cases z14 : cCast S v0 [2, 1] = true
      case neg => exact op_none ((if_neg z14).symm.trans hv)
      have hv := (if_pos z14).symm.trans hv
      refine jc_cast C K z14 y_Pose kw_701 dX11_shift_14 ?_
      refine jr_nastore (i := 5) (lv' := [(5, va_rf v0), (0, va_rf v0), (1, .long v1), (3, .long v3)]) C dX11_shift_17 (by decide) rfl ?_
      refine jr_goto (tgt := 24) C dX11_shift_19 rfl ?_
      refine jr_naload C dX11_shift_24 0 rfl ?_
      refine jr_naload C dX11_shift_26 0 rfl ?_
      obtain ⟨c28, hc28, hv⟩ := Option.bind_eq_some_iff.mp hv
      refine jc_tg C K (tgJ_F hc28) fg_Pose_x kw_679 dX11_shift_28 ?_
      refine jr_lload_n C dX11_shift_31 rfl 2 rfl ?_
      refine jr_pcall (rest := [va_rf v0]) C (pX2_add l c28 v1) oX2_add kw_326 rfl ⟨Nat.le_of_ble_eq_true rfl, Nat.le_of_ble_eq_true rfl⟩ rfl (by simp [cat_rf, cat_i, cat_l, cat_r]) ⟨Nat.zero_le _, Nat.zero_le _⟩ dX11_shift_32 ?_
      obtain ⟨c35, hc35, hv⟩ := Option.bind_eq_some_iff.mp hv
      refine jc_tp C K hc35 fp_Pose_x rfl rfl kw_679 dX11_shift_35 ?_
      refine jr_naload C dX11_shift_38 0 rfl ?_
      refine jr_naload C dX11_shift_40 0 rfl ?_
      obtain ⟨c42, hc42, hv⟩ := Option.bind_eq_some_iff.mp hv
      refine jc_tg C K (tgJ_F hc42) fg_Pose_y kw_681 dX11_shift_42 ?_
      refine jr_lload_n C dX11_shift_45 rfl 3 rfl ?_
      refine jr_pcall (rest := [va_rf v0]) C (pX2_add l c42 v3) oX2_add kw_326 rfl ⟨Nat.le_of_ble_eq_true rfl, Nat.le_of_ble_eq_true rfl⟩ rfl (by simp [cat_rf, cat_i, cat_l, cat_r]) ⟨Nat.zero_le _, Nat.zero_le _⟩ dX11_shift_46 ?_
      obtain ⟨c49, hc49, hv⟩ := Option.bind_eq_some_iff.mp hv
      refine jc_tp C K hc49 fp_Pose_y rfl rfl kw_681 dX11_shift_49 ?_
      refine jr_iconst (v := 0) C dX11_shift_52 (by decide) ?_
      exact jc_iret C K dX11_shift_53 (Option.some.inj hv) ⟨Nat.le_refl _, Nat.le_refl _⟩
  · have hv := (onul_n q1).symm.trans hv
    refine jr_iconst (v := 1) C dX11_shift_4 (by decide) ?_
    exact jc_iret C K dX11_shift_5 (Option.some.inj hv) ⟨Nat.le_refl _, Nat.le_refl _⟩
theorem pX11_shift (l : Launch) {g : CG} (G : cSep g)   (S : CS) (v0 : Option Nat) (v1 : Int64) (v3 : Int64) {w : Int32 × CS} (hw : fX11_shift S v0 v1 v3 = some w)  : cC l yX11_shift cX11_shift 6 (some .int) 5 0 0 g [va_rf v0, .long v1, .long v3] S (some (.int w.1)) w.2 := cC_of (lv := [(0, va_rf v0), (1, .long v1), (3, .long v3)]) (by decide +kernel) (by simp [lg_sl, cat_rf, cat_i, cat_l, cat_r]) (by simp [lv_args, cat_rf, cat_i, cat_l, cat_r]) (fun C K => tX11_shift_0 C K G  S v0 v1 v3 hw)
/-! RobotCell.tellApart(ILRobotCell$Thing;LRobotCell$Thing;)I -/
theorem u_X4_apartFrom_apartFrom_1 : ok_u yX4_apartFrom yX4_apartFrom RX4 RX3 cX4_apartFrom 6 (some .long) 1 := ⟨kw_739, kw_735, kw_81, kw_737, nw_in kw_738, Or.inr ⟨kw_735, _, _, _, kw_739⟩, by decide +kernel⟩
def fX11_tellApart_53 (S : CS) : Option (Int32 × CS) :=
  some (1, S)
def fX11_tellApart_64 (S : CS) (t1 : Int32) (t2 : Int64) : Option (Int32 × CS) :=
  Option.bind (fX11_giveMeasure S t1 t2) (fun c64 => some (c64.1, c64.2))
def fX11_tellApart_24 (S : CS) (v1 : Int32) (v2 : Option Nat) (v3 : Option Nat) : Option (Int32 × CS) :=
  Option.bind (cInst S v2 [2, 1] [0, 3, 4, 5, 6]) (fun c25 => if c25 = 0 then fX11_tellApart_53 S else (if cCast S v2 [2, 1] = true then (Option.bind (cInst S v3 [2, 1] [0, 3, 4, 5, 6]) (fun c38 => if c38 = 0 then fX11_tellApart_53 S else (if cCast S v3 [2, 1] = true then (if isKx S v2 [2] = true then (Option.bind (fX4_apartFrom S v2 v3) (fun c61 => fX11_tellApart_64 c61.2 v1 c61.1)) else if isKx S v2 [1] = true then (Option.bind (fX4_apartFrom S v2 v3) (fun c61 => fX11_tellApart_64 c61.2 v1 c61.1)) else none) else none))) else none))
def fX11_tellApart_22 (S : CS) : Option (Int32 × CS) :=
  some (2, S)
def fX11_tellApart_11 (S : CS) (v1 : Int32) (v2 : Option Nat) (v3 : Option Nat) : Option (Int32 × CS) :=
  onul v3 (fX11_tellApart_24 S v1 v2 v3) (fun _ => Option.bind (cInst S v3 [2, 1] [0, 3, 4, 5, 6]) (fun c16 => if c16 = 0 then fX11_tellApart_22 S else fX11_tellApart_24 S v1 v2 v3))
def fX11_tellApart (S : CS) (v1 : Int32) (v2 : Option Nat) (v3 : Option Nat) : Option (Int32 × CS) :=
  onul v2 (fX11_tellApart_11 S v1 v2 v3) (fun _ => Option.bind (cInst S v2 [2, 1] [0, 3, 4, 5, 6]) (fun c5 => if c5 = 0 then fX11_tellApart_22 S else fX11_tellApart_11 S v1 v2 v3))
theorem oX11_tellApart : ok_c yX11_tellApart cX11_tellApart 6 (some .int) 3 (.instanceMethod yX11_tellApart) := ⟨kw_733, ⟨kw_732, rfl⟩, kw_71, by decide +kernel⟩
set_option maxRecDepth 100000 in
set_option maxHeartbeats 1000000 in
theorem tX11_tellApart_53 {p : Program} {l : Launch} {e : Env} {s : State} {m : MethodId} {args : Array Value} {below : List Frame} {meth : Method} {c : Code} {g : CG} {S0 : CS} (C : CC p s m args meth c yX11_tellApart cX11_tellApart 6 (some .int)) (K : cK g s) (G : cSep g)  (S : CS) {w : Int32 × CS} (hv : fX11_tellApart_53 S = some w) : CJ p l e s m args below meth c 6 7 0 0 g S0 (some (.int w.1)) w.2 53 [] [] S 0 0 := by
  unfold fX11_tellApart_53 at hv
  refine jr_iconst (v := 1) C dX11_tellApart_53 (by decide) ?_
  exact jc_iret C K dX11_tellApart_54 (Option.some.inj hv) ⟨Nat.le_refl _, Nat.le_refl _⟩
set_option maxRecDepth 100000 in
set_option maxHeartbeats 1000000 in
theorem tX11_tellApart_64 {p : Program} {l : Launch} {e : Env} {s : State} {m : MethodId} {args : Array Value} {below : List Frame} {meth : Method} {c : Code} {g : CG} {S0 : CS} (C : CC p s m args meth c yX11_tellApart cX11_tellApart 6 (some .int)) (K : cK g s) (G : cSep g)  (S : CS) (t1 : Int32) (t2 : Int64) {w : Int32 × CS} (hv : fX11_tellApart_64 S t1 t2 = some w) : CJ p l e s m args below meth c 6 7 0 0 g S0 (some (.int w.1)) w.2 64 [] [.long t2, .int t1, .ref (co g)] S 0 0 := by
  unfold fX11_tellApart_64 at hv
  obtain ⟨c64, hc64, hv⟩ := Option.bind_eq_some_iff.mp hv
  refine jc_callO (rest := []) C K (pX11_giveMeasure l G S t1 t2 hc64) oX11_giveMeasure kw_15 kw_318 rfl ⟨Nat.le_of_ble_eq_true rfl, Nat.le_of_ble_eq_true rfl⟩ rfl (Nat.le_of_ble_eq_true rfl) ⟨Nat.le_refl _, Nat.le_refl _⟩ dX11_tellApart_64 ?_
  exact jc_iret C K dX11_tellApart_67 (Option.some.inj hv) ⟨Nat.le_refl _, Nat.le_refl _⟩
set_option maxRecDepth 100000 in
set_option maxHeartbeats 1000000 in
theorem tX11_tellApart_24 {p : Program} {l : Launch} {e : Env} {s : State} {m : MethodId} {args : Array Value} {below : List Frame} {meth : Method} {c : Code} {g : CG} {S0 : CS} (C : CC p s m args meth c yX11_tellApart cX11_tellApart 6 (some .int)) (K : cK g s) (G : cSep g)  (S : CS) (v1 : Int32) (v2 : Option Nat) (v3 : Option Nat) {w : Int32 × CS} (hv : fX11_tellApart_24 S v1 v2 v3 = some w) : CJ p l e s m args below meth c 6 7 0 0 g S0 (some (.int w.1)) w.2 24 [(0, .ref (co g)), (1, .int v1), (2, va_rf v2), (3, va_rf v3)] [] S 0 0 := by
  unfold fX11_tellApart_24 at hv
  refine jr_naload_n C dX11_tellApart_24 rfl 2 rfl ?_
  obtain ⟨c25, hc25, hv⟩ := Option.bind_eq_some_iff.mp hv
  refine jc_inst C K hc25 y_Pose n_Pose kw_701 dX11_tellApart_25 ?_
  refine jr_if_eq (tgt := 53) C dX11_tellApart_28 rfl (fun q28 => ?_) (fun q28 => ?_)
  · have hv := (if_pos q28).symm.trans hv
    exact jr_sub [] rfl (tX11_tellApart_53 C K G  S hv)
  · have hv := (if_neg q28).symm.trans hv
    refine jr_naload_n C dX11_tellApart_31 rfl 2 rfl ?_
    by_cases z32 : cCast S v2 [2, 1] = true
    case neg => exact op_none ((if_neg z32).symm.trans hv)
    have hv := (if_pos z32).symm.trans hv
    refine jc_cast C K z32 y_Pose kw_701 dX11_tellApart_32 ?_
    refine jr_nastore (i := 4) (lv' := [(4, va_rf v2), (0, .ref (co g)), (1, .int v1), (2, va_rf v2), (3, va_rf v3)]) C dX11_tellApart_35 (by decide) (by simp [cat_rf, cat_i, cat_l, cat_r]) ?_
    refine jr_naload_n C dX11_tellApart_37 rfl 4 rfl ?_
    obtain ⟨c38, hc38, hv⟩ := Option.bind_eq_some_iff.mp hv
    refine jc_inst C K hc38 y_Pose n_Pose kw_701 dX11_tellApart_38 ?_
    refine jr_if_eq (tgt := 53) C dX11_tellApart_41 rfl (fun q41 => ?_) (fun q41 => ?_)
    · have hv := (if_pos q41).symm.trans hv
      exact jr_sub [] rfl (tX11_tellApart_53 C K G  S hv)
    · have hv := (if_neg q41).symm.trans hv
      refine jr_naload_n C dX11_tellApart_44 rfl 4 rfl ?_
      by_cases z45 : cCast S v3 [2, 1] = true
      case neg => exact op_none ((if_neg z45).symm.trans hv)
      have hv := (if_pos z45).symm.trans hv
      refine jc_cast C K z45 y_Pose kw_701 dX11_tellApart_45 ?_
      refine jr_nastore (i := 5) (lv' := [(5, va_rf v3), (4, va_rf v2), (0, .ref (co g)), (1, .int v1), (2, va_rf v2), (3, va_rf v3)]) C dX11_tellApart_48 (by decide) (by simp [cat_rf, cat_i, cat_l, cat_r]) ?_
      refine jr_goto (tgt := 55) C dX11_tellApart_50 rfl ?_
      refine jr_aload_n C dX11_tellApart_55 rfl 2 rfl ?_
      refine jr_iload_n C dX11_tellApart_56 rfl 3 rfl ?_
      refine jr_naload C dX11_tellApart_57 1 rfl ?_
      refine jr_naload C dX11_tellApart_59 0 rfl ?_
      by_cases z61_2 : isKx S v2 [2] = true
      case pos =>
        have hv := (if_pos z61_2).symm.trans hv
        obtain ⟨c61, hc61, hv⟩ := Option.bind_eq_some_iff.mp hv
        refine jc_callT (ci := 2) (rest := [.int v1, .ref (co g)]) C K (pX4_apartFrom l G S v2 v3 hc61) z61_2 rfl oX4_apartFrom kw_736 kw_734 rfl ⟨Nat.le_of_ble_eq_true rfl, Nat.le_of_ble_eq_true rfl⟩ rfl (Nat.le_of_ble_eq_true rfl) ⟨Nat.le_refl _, Nat.le_refl _⟩ dX11_tellApart_61 ?_
        exact jr_sub [] rfl (tX11_tellApart_64 C K G  c61.2 v1 c61.1 hv)
      have hv := (if_neg z61_2).symm.trans hv
      by_cases z61_1 : isKx S v2 [1] = true
      case pos =>
        have hv := (if_pos z61_1).symm.trans hv
        obtain ⟨c61, hc61, hv⟩ := Option.bind_eq_some_iff.mp hv
        refine jc_callU (ci := 1) (rest := [.int v1, .ref (co g)]) C K (pX4_apartFrom l G S v2 v3 hc61) z61_1 rfl u_X4_apartFrom_apartFrom_1 kw_734 rfl ⟨Nat.le_of_ble_eq_true rfl, Nat.le_of_ble_eq_true rfl⟩ rfl (Nat.le_of_ble_eq_true rfl) ⟨Nat.le_refl _, Nat.le_refl _⟩ dX11_tellApart_61 ?_
        exact jr_sub [] rfl (tX11_tellApart_64 C K G  c61.2 v1 c61.1 hv)
      have hv := (if_neg z61_1).symm.trans hv
      exact op_none hv
set_option maxRecDepth 100000 in
set_option maxHeartbeats 1000000 in
theorem tX11_tellApart_22 {p : Program} {l : Launch} {e : Env} {s : State} {m : MethodId} {args : Array Value} {below : List Frame} {meth : Method} {c : Code} {g : CG} {S0 : CS} (C : CC p s m args meth c yX11_tellApart cX11_tellApart 6 (some .int)) (K : cK g s) (G : cSep g)  (S : CS) {w : Int32 × CS} (hv : fX11_tellApart_22 S = some w) : CJ p l e s m args below meth c 6 7 0 0 g S0 (some (.int w.1)) w.2 22 [] [] S 0 0 := by
  unfold fX11_tellApart_22 at hv
  refine jr_iconst (v := 2) C dX11_tellApart_22 (by decide) ?_
  exact jc_iret C K dX11_tellApart_23 (Option.some.inj hv) ⟨Nat.le_refl _, Nat.le_refl _⟩
set_option maxRecDepth 100000 in
set_option maxHeartbeats 1000000 in
theorem tX11_tellApart_11 {p : Program} {l : Launch} {e : Env} {s : State} {m : MethodId} {args : Array Value} {below : List Frame} {meth : Method} {c : Code} {g : CG} {S0 : CS} (C : CC p s m args meth c yX11_tellApart cX11_tellApart 6 (some .int)) (K : cK g s) (G : cSep g)  (S : CS) (v1 : Int32) (v2 : Option Nat) (v3 : Option Nat) {w : Int32 × CS} (hv : fX11_tellApart_11 S v1 v2 v3 = some w) : CJ p l e s m args below meth c 6 7 0 0 g S0 (some (.int w.1)) w.2 11 [(0, .ref (co g)), (1, .int v1), (2, va_rf v2), (3, va_rf v3)] [] S 0 0 := by
  unfold fX11_tellApart_11 at hv
  refine jr_naload_n C dX11_tellApart_11 rfl 3 rfl ?_
  refine jr_ifnull (tgt := 24) C dX11_tellApart_12 rfl (fun q12 => ?_) (fun a12 q12 => ?_)
  · have hv := (onul_n q12).symm.trans hv
    exact tX11_tellApart_24 C K G  S v1 v2 v3 hv
  · have hv := (onul_s q12).symm.trans hv
    refine jr_naload_n C dX11_tellApart_15 rfl 3 rfl ?_
    obtain ⟨c16, hc16, hv⟩ := Option.bind_eq_some_iff.mp hv
    refine jc_inst C K hc16 y_Pose n_Pose kw_701 dX11_tellApart_16 ?_
    refine jr_if_ne (tgt := 24) C dX11_tellApart_19 rfl (fun q19 => ?_) (fun q19 => ?_)
    · have hv := (if_neg q19).symm.trans hv
      exact tX11_tellApart_24 C K G  S v1 v2 v3 hv
    · have hv := (if_pos q19).symm.trans hv
      exact jr_sub [] rfl (tX11_tellApart_22 C K G  S hv)
set_option maxRecDepth 100000 in
set_option maxHeartbeats 1000000 in
theorem tX11_tellApart_0 {p : Program} {l : Launch} {e : Env} {s : State} {m : MethodId} {args : Array Value} {below : List Frame} {meth : Method} {c : Code} {g : CG} {S0 : CS} (C : CC p s m args meth c yX11_tellApart cX11_tellApart 6 (some .int)) (K : cK g s) (G : cSep g)  (S : CS) (v1 : Int32) (v2 : Option Nat) (v3 : Option Nat) {w : Int32 × CS} (hv : fX11_tellApart S v1 v2 v3 = some w) : CJ p l e s m args below meth c 6 7 0 0 g S0 (some (.int w.1)) w.2 0 [(0, .ref (co g)), (1, .int v1), (2, va_rf v2), (3, va_rf v3)] [] S 0 0 := by
  unfold fX11_tellApart at hv
  refine jr_naload_n C dX11_tellApart_0 rfl 2 rfl ?_
  refine jr_ifnull (tgt := 11) C dX11_tellApart_1 rfl (fun q1 => ?_) (fun a1 q1 => ?_)
  · have hv := (onul_n q1).symm.trans hv
    exact tX11_tellApart_11 C K G  S v1 v2 v3 hv
  · have hv := (onul_s q1).symm.trans hv
    refine jr_naload_n C dX11_tellApart_4 rfl 2 rfl ?_
    obtain ⟨c5, hc5, hv⟩ := Option.bind_eq_some_iff.mp hv
    refine jc_inst C K hc5 y_Pose n_Pose kw_701 dX11_tellApart_5 ?_
    refine jr_if_eq (tgt := 22) C dX11_tellApart_8 rfl (fun q8 => ?_) (fun q8 => ?_)
    · have hv := (if_pos q8).symm.trans hv
      exact jr_sub [] rfl (tX11_tellApart_22 C K G  S hv)
    · have hv := (if_neg q8).symm.trans hv
      exact tX11_tellApart_11 C K G  S v1 v2 v3 hv
theorem pX11_tellApart (l : Launch) {g : CG} (G : cSep g)   (S : CS) (v1 : Int32) (v2 : Option Nat) (v3 : Option Nat) {w : Int32 × CS} (hw : fX11_tellApart S v1 v2 v3 = some w)  : cC l yX11_tellApart cX11_tellApart 6 (some .int) 7 0 0 g [.ref (co g), .int v1, va_rf v2, va_rf v3] S (some (.int w.1)) w.2 := cC_of (lv := [(0, .ref (co g)), (1, .int v1), (2, va_rf v2), (3, va_rf v3)]) (by decide +kernel) (by simp [lg_sl, cat_rf, cat_i, cat_l, cat_r]) (by simp [lv_args, cat_rf, cat_i, cat_l, cat_r]) (fun C K => tX11_tellApart_0 C K G  S v1 v2 v3 hw)
/-! RobotCell.go(ILRobotCell$Thing;J)I -/
theorem u_Device_goTo_goTo_0 : ok_u ⟨RX1, "goTo", "(J)J"⟩ yX0_goTo RX1 RX0 cX0_goTo 7 (some .long) 1 := ⟨kw_814, kw_813, kw_84, kw_811, nw_in kw_812, Or.inl kw_810, by decide +kernel⟩
theorem u_Device_goTo_goTo_3 : ok_u ⟨RX1, "goTo", "(J)J"⟩ yX5_goTo RX1 RX5 cX5_goTo 3 (some .long) 1 := ⟨kw_888, kw_887, kw_87, kw_811, nw_in kw_886, Or.inl kw_810, by decide +kernel⟩
theorem u_Device_goTo_goTo_4 : ok_u ⟨RX1, "goTo", "(J)J"⟩ yX0_goTo RX1 RX6 cX0_goTo 7 (some .long) 1 := ⟨kw_814, kw_813, kw_84, kw_811, nw_in kw_892, Or.inl kw_810, by decide +kernel⟩
theorem u_Device_goTo_goTo_6 : ok_u ⟨RX1, "goTo", "(J)J"⟩ yX0_goTo RX1 RX10 cX0_goTo 7 (some .long) 1 := ⟨kw_814, kw_813, kw_84, kw_811, nw_in kw_893, Or.inl kw_810, by decide +kernel⟩
def fX11_go_30 (S : CS) (v1 : Int32) (t0 : Int64) : Option (Int32 × CS) :=
  if 0 ≤ t0 then (Option.bind (fX11_giveNumber S v1 t0) (fun c50 => some (c50.1, c50.2))) else some ((-t0).toInt32, S)
def fX11_go (S : CS) (v1 : Int32) (v2 : Option Nat) (v3 : Int64) : Option (Int32 × CS) :=
  onul v2 (some (1, S)) (fun _ => Option.bind (cInst S v2 [0, 3, 4, 6] [1, 2, 5]) (fun c7 => if c7 = 0 then some (2, S) else (if cCast S v2 [0, 3, 4, 6] = true then (if isKx S v2 [0] = true then (Option.bind (fX0_goTo S v2 v3) (fun c27 => fX11_go_30 c27.2 v1 c27.1)) else if isKx S v2 [3] = true then (Option.bind (fX5_goTo S v2 v3) (fun c27 => fX11_go_30 c27.2 v1 c27.1)) else if isKx S v2 [4] = true then (Option.bind (fX0_goTo S v2 v3) (fun c27 => fX11_go_30 c27.2 v1 c27.1)) else if isKx S v2 [6] = true then (Option.bind (fX0_goTo S v2 v3) (fun c27 => fX11_go_30 c27.2 v1 c27.1)) else none) else none)))
theorem oX11_go : ok_c yX11_go cX11_go 8 (some .int) 3 (.instanceMethod yX11_go) := ⟨kw_807, ⟨kw_806, rfl⟩, kw_71, by decide +kernel⟩
set_option maxRecDepth 100000 in
set_option maxHeartbeats 1000000 in
theorem tX11_go_30 {p : Program} {l : Launch} {e : Env} {s : State} {m : MethodId} {args : Array Value} {below : List Frame} {meth : Method} {c : Code} {g : CG} {S0 : CS} (C : CC p s m args meth c yX11_go cX11_go 8 (some .int)) (K : cK g s) (G : cSep g)  (S : CS) (v1 : Int32) (t0 : Int64) {w : Int32 × CS} (hv : fX11_go_30 S v1 t0 = some w) : CJ p l e s m args below meth c 8 7 0 0 g S0 (some (.int w.1)) w.2 30 [(0, .ref (co g)), (1, .int v1)] [.long t0] S 0 0 := by
  unfold fX11_go_30 at hv
  refine jr_lstore (lv' := [(6, .long t0), (0, .ref (co g)), (1, .int v1)]) C dX11_go_30 (by decide) rfl ?_
  refine jr_lload C dX11_go_32 0 rfl ?_
  refine jr_lconst (v := 0) C dX11_go_34 (by decide) ?_
  refine jr_lcmp_ge (tgt := 46) C dX11_go_35 dX11_go_36 rfl (fun q35 => ?_) (fun q35 => ?_)
  · have hv := (if_pos q35).symm.trans hv
    refine jr_aload_n C dX11_go_46 rfl 1 rfl ?_
    refine jr_iload_n C dX11_go_47 rfl 2 rfl ?_
    refine jr_lload C dX11_go_48 0 rfl ?_
    obtain ⟨c50, hc50, hv⟩ := Option.bind_eq_some_iff.mp hv
    refine jc_callO (rest := []) C K (pX11_giveNumber l G S v1 t0 hc50) oX11_giveNumber kw_8 kw_234 rfl ⟨Nat.le_of_ble_eq_true rfl, Nat.le_of_ble_eq_true rfl⟩ rfl (Nat.le_of_ble_eq_true rfl) ⟨Nat.le_refl _, Nat.le_refl _⟩ dX11_go_50 ?_
    exact jc_iret C K dX11_go_53 (Option.some.inj hv) ⟨Nat.le_refl _, Nat.le_refl _⟩
  · have hv := (if_neg q35).symm.trans hv
    refine jr_lload C dX11_go_39 0 rfl ?_
    refine jr_lneg C dX11_go_41 ?_
    refine jr_l2i C dX11_go_42 ?_
    refine jr_goto (tgt := 53) C dX11_go_43 rfl ?_
    exact jc_iret C K dX11_go_53 (Option.some.inj hv) ⟨Nat.le_refl _, Nat.le_refl _⟩
set_option maxRecDepth 100000 in
set_option maxHeartbeats 1000000 in
theorem tX11_go_0 {p : Program} {l : Launch} {e : Env} {s : State} {m : MethodId} {args : Array Value} {below : List Frame} {meth : Method} {c : Code} {g : CG} {S0 : CS} (C : CC p s m args meth c yX11_go cX11_go 8 (some .int)) (K : cK g s) (G : cSep g)  (S : CS) (v1 : Int32) (v2 : Option Nat) (v3 : Int64) {w : Int32 × CS} (hv : fX11_go S v1 v2 v3 = some w) : CJ p l e s m args below meth c 8 7 0 0 g S0 (some (.int w.1)) w.2 0 [(0, .ref (co g)), (1, .int v1), (2, va_rf v2), (3, .long v3)] [] S 0 0 := by
  unfold fX11_go at hv
  refine jr_naload_n C dX11_go_0 rfl 2 rfl ?_
  refine jr_ifnonnull (tgt := 6) C dX11_go_1 rfl (fun a1 q1 => ?_) (fun q1 => ?_)
  · have hv := (onul_s q1).symm.trans hv
    refine jr_naload_n C dX11_go_6 rfl 2 rfl ?_
    obtain ⟨c7, hc7, hv⟩ := Option.bind_eq_some_iff.mp hv
    refine jc_inst C K hc7 y_Device n_Device kw_808 dX11_go_7 ?_
    refine jr_if_eq (tgt := 22) C dX11_go_10 rfl (fun q10 => ?_) (fun q10 => ?_)
    · have hv := (if_pos q10).symm.trans hv
      refine jr_iconst (v := 2) C dX11_go_22 (by decide) ?_
      exact jc_iret C K dX11_go_23 (Option.some.inj hv) ⟨Nat.le_refl _, Nat.le_refl _⟩
    · have hv := (if_neg q10).symm.trans hv
      refine jr_naload_n C dX11_go_13 rfl 2 rfl ?_
      by_cases z14 : cCast S v2 [0, 3, 4, 6] = true
      case neg => exact op_none ((if_neg z14).symm.trans hv)
      have hv := (if_pos z14).symm.trans hv
      refine jc_cast C K z14 y_Device kw_808 dX11_go_14 ?_
      refine jr_nastore (i := 5) (lv' := [(5, va_rf v2), (0, .ref (co g)), (1, .int v1), (2, va_rf v2), (3, .long v3)]) C dX11_go_17 (by decide) rfl ?_
      refine jr_goto (tgt := 24) C dX11_go_19 rfl ?_
      refine jr_naload C dX11_go_24 0 rfl ?_
      refine jr_lload_n C dX11_go_26 rfl 4 rfl ?_
      by_cases z27_0 : isKx S v2 [0] = true
      case pos =>
        have hv := (if_pos z27_0).symm.trans hv
        obtain ⟨c27, hc27, hv⟩ := Option.bind_eq_some_iff.mp hv
        refine jc_callU (ci := 0) (rest := []) C K (pX0_goTo l G S v2 v3 hc27) z27_0 rfl u_Device_goTo_goTo_0 kw_809 rfl ⟨Nat.le_of_ble_eq_true rfl, Nat.le_of_ble_eq_true rfl⟩ rfl (Nat.le_of_ble_eq_true rfl) ⟨Nat.le_refl _, Nat.le_refl _⟩ dX11_go_27 ?_
        exact jr_sub [1, 2] rfl (tX11_go_30 C K G  c27.2 v1 c27.1 hv)
      have hv := (if_neg z27_0).symm.trans hv
      by_cases z27_3 : isKx S v2 [3] = true
      case pos =>
        have hv := (if_pos z27_3).symm.trans hv
        obtain ⟨c27, hc27, hv⟩ := Option.bind_eq_some_iff.mp hv
        refine jc_callU (ci := 3) (rest := []) C K (pX5_goTo l G S v2 v3 hc27) z27_3 rfl u_Device_goTo_goTo_3 kw_809 rfl ⟨Nat.le_of_ble_eq_true rfl, Nat.le_of_ble_eq_true rfl⟩ rfl (Nat.le_of_ble_eq_true rfl) ⟨Nat.le_refl _, Nat.le_refl _⟩ dX11_go_27 ?_
        exact jr_sub [1, 2] rfl (tX11_go_30 C K G  c27.2 v1 c27.1 hv)
      have hv := (if_neg z27_3).symm.trans hv
      by_cases z27_4 : isKx S v2 [4] = true
      case pos =>
        have hv := (if_pos z27_4).symm.trans hv
        obtain ⟨c27, hc27, hv⟩ := Option.bind_eq_some_iff.mp hv
        refine jc_callU (ci := 4) (rest := []) C K (pX0_goTo l G S v2 v3 hc27) z27_4 rfl u_Device_goTo_goTo_4 kw_809 rfl ⟨Nat.le_of_ble_eq_true rfl, Nat.le_of_ble_eq_true rfl⟩ rfl (Nat.le_of_ble_eq_true rfl) ⟨Nat.le_refl _, Nat.le_refl _⟩ dX11_go_27 ?_
        exact jr_sub [1, 2] rfl (tX11_go_30 C K G  c27.2 v1 c27.1 hv)
      have hv := (if_neg z27_4).symm.trans hv
      by_cases z27_6 : isKx S v2 [6] = true
      case pos =>
        have hv := (if_pos z27_6).symm.trans hv
        obtain ⟨c27, hc27, hv⟩ := Option.bind_eq_some_iff.mp hv
        refine jc_callU (ci := 6) (rest := []) C K (pX0_goTo l G S v2 v3 hc27) z27_6 rfl u_Device_goTo_goTo_6 kw_809 rfl ⟨Nat.le_of_ble_eq_true rfl, Nat.le_of_ble_eq_true rfl⟩ rfl (Nat.le_of_ble_eq_true rfl) ⟨Nat.le_refl _, Nat.le_refl _⟩ dX11_go_27 ?_
        exact jr_sub [1, 2] rfl (tX11_go_30 C K G  c27.2 v1 c27.1 hv)
      have hv := (if_neg z27_6).symm.trans hv
      exact op_none hv
  · have hv := (onul_n q1).symm.trans hv
    refine jr_iconst (v := 1) C dX11_go_4 (by decide) ?_
    exact jc_iret C K dX11_go_5 (Option.some.inj hv) ⟨Nat.le_refl _, Nat.le_refl _⟩
theorem pX11_go (l : Launch) {g : CG} (G : cSep g)   (S : CS) (v1 : Int32) (v2 : Option Nat) (v3 : Int64) {w : Int32 × CS} (hw : fX11_go S v1 v2 v3 = some w)  : cC l yX11_go cX11_go 8 (some .int) 7 0 0 g [.ref (co g), .int v1, va_rf v2, .long v3] S (some (.int w.1)) w.2 := cC_of (lv := [(0, .ref (co g)), (1, .int v1), (2, va_rf v2), (3, .long v3)]) (by decide +kernel) (by simp [lg_sl, cat_rf, cat_i, cat_l, cat_r]) (by simp [lv_args, cat_rf, cat_i, cat_l, cat_r]) (fun C K => tX11_go_0 C K G  S v1 v2 v3 hw)
/-! RobotCell.toldOf(LRobotCell$Device;I)J -/
theorem u_Device_at_at_0 : ok_u ⟨RX1, "at", "()J"⟩ yX0_at RX1 RX0 cX0_at 1 (some .long) 0 := ⟨kw_906, kw_905, kw_84, kw_903, nw_in kw_904, Or.inl kw_902, by decide +kernel⟩
theorem u_Device_at_at_3 : ok_u ⟨RX1, "at", "()J"⟩ yX5_at RX1 RX5 cX5_at 7 (some .long) 0 := ⟨kw_909, kw_908, kw_87, kw_903, nw_in kw_907, Or.inl kw_902, by decide +kernel⟩
theorem u_Device_at_at_4 : ok_u ⟨RX1, "at", "()J"⟩ yX0_at RX1 RX6 cX0_at 1 (some .long) 0 := ⟨kw_906, kw_905, kw_84, kw_903, nw_in kw_920, Or.inl kw_902, by decide +kernel⟩
theorem u_Device_at_at_6 : ok_u ⟨RX1, "at", "()J"⟩ yX0_at RX1 RX10 cX0_at 1 (some .long) 0 := ⟨kw_906, kw_905, kw_84, kw_903, nw_in kw_921, Or.inl kw_902, by decide +kernel⟩
theorem u_Device_span_span_0 : ok_u ⟨RX1, "span", "()I"⟩ yX0_span RX1 RX0 cX0_span 1 (some .int) 0 := ⟨kw_858, kw_848, kw_84, kw_924, nw_in kw_925, Or.inl kw_923, by decide +kernel⟩
theorem u_Device_span_span_3 : ok_u ⟨RX1, "span", "()I"⟩ yX5_span RX1 RX5 cX5_span 1 (some .int) 0 := ⟨kw_928, kw_927, kw_87, kw_924, nw_in kw_926, Or.inl kw_923, by decide +kernel⟩
theorem u_Device_span_span_4 : ok_u ⟨RX1, "span", "()I"⟩ yX6_span RX1 RX6 cX6_span 1 (some .int) 0 := ⟨kw_853, kw_852, kw_85, kw_924, nw_in kw_929, Or.inl kw_923, by decide +kernel⟩
theorem u_Device_span_span_6 : ok_u ⟨RX1, "span", "()I"⟩ yX10_span RX1 RX10 cX10_span 1 (some .int) 0 := ⟨kw_857, kw_856, kw_86, kw_924, nw_in kw_930, Or.inl kw_923, by decide +kernel⟩
theorem u_Device_rank_rank_0 : ok_u ⟨RX1, "rank", "()I"⟩ yX0_rank RX1 RX0 cX0_rank 1 (some .int) 0 := ⟨kw_936, kw_935, kw_84, kw_933, nw_in kw_934, Or.inl kw_932, by decide +kernel⟩
theorem u_Device_rank_rank_3 : ok_u ⟨RX1, "rank", "()I"⟩ yX5_rank RX1 RX5 cX5_rank 1 (some .int) 0 := ⟨kw_939, kw_938, kw_87, kw_933, nw_in kw_937, Or.inl kw_932, by decide +kernel⟩
theorem u_Device_rank_rank_4 : ok_u ⟨RX1, "rank", "()I"⟩ yX6_rank RX1 RX6 cX6_rank 1 (some .int) 0 := ⟨kw_942, kw_941, kw_85, kw_933, nw_in kw_940, Or.inl kw_932, by decide +kernel⟩
theorem u_Device_rank_rank_6 : ok_u ⟨RX1, "rank", "()I"⟩ yX10_rank RX1 RX10 cX10_rank 1 (some .int) 0 := ⟨kw_946, kw_945, kw_86, kw_933, nw_in kw_944, Or.inl kw_932, by decide +kernel⟩
theorem u_Device_travelled_travelled_0 : ok_u ⟨RX1, "travelled", "()J"⟩ yX0_travelled RX1 RX0 cX0_travelled 1 (some .long) 0 := ⟨kw_953, kw_952, kw_84, kw_950, nw_in kw_951, Or.inl kw_949, by decide +kernel⟩
theorem u_Device_travelled_travelled_3 : ok_u ⟨RX1, "travelled", "()J"⟩ yX5_travelled RX1 RX5 cX5_travelled 8 (some .long) 0 := ⟨kw_956, kw_955, kw_87, kw_950, nw_in kw_954, Or.inl kw_949, by decide +kernel⟩
theorem u_Device_travelled_travelled_4 : ok_u ⟨RX1, "travelled", "()J"⟩ yX0_travelled RX1 RX6 cX0_travelled 1 (some .long) 0 := ⟨kw_953, kw_952, kw_84, kw_950, nw_in kw_960, Or.inl kw_949, by decide +kernel⟩
theorem u_Device_travelled_travelled_6 : ok_u ⟨RX1, "travelled", "()J"⟩ yX0_travelled RX1 RX10 cX0_travelled 1 (some .long) 0 := ⟨kw_953, kw_952, kw_84, kw_950, nw_in kw_961, Or.inl kw_949, by decide +kernel⟩
theorem u_Device_moves_moves_0 : ok_u ⟨RX1, "moves", "()J"⟩ yX0_moves RX1 RX0 cX0_moves 1 (some .long) 0 := ⟨kw_967, kw_966, kw_84, kw_964, nw_in kw_965, Or.inl kw_963, by decide +kernel⟩
theorem u_Device_moves_moves_3 : ok_u ⟨RX1, "moves", "()J"⟩ yX5_moves RX1 RX5 cX5_moves 1 (some .long) 0 := ⟨kw_970, kw_969, kw_87, kw_964, nw_in kw_968, Or.inl kw_963, by decide +kernel⟩
theorem u_Device_moves_moves_4 : ok_u ⟨RX1, "moves", "()J"⟩ yX0_moves RX1 RX6 cX0_moves 1 (some .long) 0 := ⟨kw_967, kw_966, kw_84, kw_964, nw_in kw_971, Or.inl kw_963, by decide +kernel⟩
theorem u_Device_moves_moves_6 : ok_u ⟨RX1, "moves", "()J"⟩ yX0_moves RX1 RX10 cX0_moves 1 (some .long) 0 := ⟨kw_967, kw_966, kw_84, kw_964, nw_in kw_972, Or.inl kw_963, by decide +kernel⟩
theorem u_Device_speed_speed_0 : ok_u ⟨RX1, "speed", "()I"⟩ yX0_speed RX1 RX0 cX0_speed 1 (some .int) 0 := ⟨kw_878, kw_871, kw_84, kw_975, nw_in kw_976, Or.inl kw_974, by decide +kernel⟩
theorem u_Device_speed_speed_3 : ok_u ⟨RX1, "speed", "()I"⟩ yX5_speed RX1 RX5 cX5_speed 1 (some .int) 0 := ⟨kw_979, kw_978, kw_87, kw_975, nw_in kw_977, Or.inl kw_974, by decide +kernel⟩
theorem u_Device_speed_speed_4 : ok_u ⟨RX1, "speed", "()I"⟩ yX6_speed RX1 RX6 cX6_speed 1 (some .int) 0 := ⟨kw_876, kw_875, kw_85, kw_975, nw_in kw_980, Or.inl kw_974, by decide +kernel⟩
theorem u_Device_speed_speed_6 : ok_u ⟨RX1, "speed", "()I"⟩ yX6_speed RX1 RX10 cX6_speed 1 (some .int) 0 := ⟨kw_876, kw_875, kw_85, kw_975, nw_in kw_981, Or.inl kw_974, by decide +kernel⟩
def fX11_toldOf_44 (S : CS) (t0 : Int64) : Option (Int64 × CS) :=
  some (t0, S)
def fX11_toldOf_49 (S : CS) (t0 : Int32) : Option (Int64 × CS) :=
  some (fX2_ofWhole t0.toInt64, S)
def fX11_toldOf_58 (S : CS) (t0 : Int32) : Option (Int64 × CS) :=
  some (fX2_ofWhole t0.toInt64, S)
def fX11_toldOf_67 (S : CS) (t0 : Int64) : Option (Int64 × CS) :=
  some (t0, S)
def fX11_toldOf_72 (S : CS) (t0 : Int64) : Option (Int64 × CS) :=
  some (fX2_ofWhole t0, S)
def fX11_toldOf_80 (S : CS) (t0 : Int32) : Option (Int64 × CS) :=
  some (fX2_ofWhole t0.toInt64, S)
def fX11_toldOf (S : CS) (v0 : Option Nat) (v1 : Int32) : Option (Int64 × CS) :=
  if v1 = 0 then (if isKx S v0 [0] = true then (Option.bind (fX0_at S v0) (fun c41 => fX11_toldOf_44 c41.2 c41.1)) else if isKx S v0 [3] = true then (Option.bind (fX5_at S v0) (fun c41 => fX11_toldOf_44 c41.2 c41.1)) else if isKx S v0 [4] = true then (Option.bind (fX0_at S v0) (fun c41 => fX11_toldOf_44 c41.2 c41.1)) else if isKx S v0 [6] = true then (Option.bind (fX0_at S v0) (fun c41 => fX11_toldOf_44 c41.2 c41.1)) else none) else if v1 = 1 then (if isKx S v0 [0] = true then (Option.bind (fX0_span S v0) (fun c46 => fX11_toldOf_49 c46.2 c46.1)) else if isKx S v0 [3] = true then (Option.bind (fX5_span S v0) (fun c46 => fX11_toldOf_49 c46.2 c46.1)) else if isKx S v0 [4] = true then (Option.bind (fX6_span S v0) (fun c46 => fX11_toldOf_49 c46.2 c46.1)) else if isKx S v0 [6] = true then (Option.bind (fX10_span S v0) (fun c46 => fX11_toldOf_49 c46.2 c46.1)) else none) else if v1 = 2 then (if isKx S v0 [0] = true then (Option.bind (fX0_rank S v0) (fun c55 => fX11_toldOf_58 c55.2 c55.1)) else if isKx S v0 [3] = true then (Option.bind (fX5_rank S v0) (fun c55 => fX11_toldOf_58 c55.2 c55.1)) else if isKx S v0 [4] = true then (Option.bind (fX6_rank S v0) (fun c55 => fX11_toldOf_58 c55.2 c55.1)) else if isKx S v0 [6] = true then (Option.bind (fX10_rank S v0) (fun c55 => fX11_toldOf_58 c55.2 c55.1)) else none) else if v1 = 3 then (if isKx S v0 [0] = true then (Option.bind (fX0_travelled S v0) (fun c64 => fX11_toldOf_67 c64.2 c64.1)) else if isKx S v0 [3] = true then (Option.bind (fX5_travelled S v0) (fun c64 => fX11_toldOf_67 c64.2 c64.1)) else if isKx S v0 [4] = true then (Option.bind (fX0_travelled S v0) (fun c64 => fX11_toldOf_67 c64.2 c64.1)) else if isKx S v0 [6] = true then (Option.bind (fX0_travelled S v0) (fun c64 => fX11_toldOf_67 c64.2 c64.1)) else none) else if v1 = 4 then (if isKx S v0 [0] = true then (Option.bind (fX0_moves S v0) (fun c69 => fX11_toldOf_72 c69.2 c69.1)) else if isKx S v0 [3] = true then (Option.bind (fX5_moves S v0) (fun c69 => fX11_toldOf_72 c69.2 c69.1)) else if isKx S v0 [4] = true then (Option.bind (fX0_moves S v0) (fun c69 => fX11_toldOf_72 c69.2 c69.1)) else if isKx S v0 [6] = true then (Option.bind (fX0_moves S v0) (fun c69 => fX11_toldOf_72 c69.2 c69.1)) else none) else if v1 = 5 then (if isKx S v0 [0] = true then (Option.bind (fX0_speed S v0) (fun c77 => fX11_toldOf_80 c77.2 c77.1)) else if isKx S v0 [3] = true then (Option.bind (fX5_speed S v0) (fun c77 => fX11_toldOf_80 c77.2 c77.1)) else if isKx S v0 [4] = true then (Option.bind (fX6_speed S v0) (fun c77 => fX11_toldOf_80 c77.2 c77.1)) else if isKx S v0 [6] = true then (Option.bind (fX6_speed S v0) (fun c77 => fX11_toldOf_80 c77.2 c77.1)) else none) else some (0, S)
theorem oX11_toldOf : ok_c yX11_toldOf cX11_toldOf 2 (some .long) 2 (.static yX11_toldOf) := ⟨kw_900, ⟨kw_899, rfl⟩, kw_71, by decide +kernel⟩
set_option maxRecDepth 100000 in
set_option maxHeartbeats 1000000 in
theorem tX11_toldOf_44 {p : Program} {l : Launch} {e : Env} {s : State} {m : MethodId} {args : Array Value} {below : List Frame} {meth : Method} {c : Code} {g : CG} {S0 : CS} (C : CC p s m args meth c yX11_toldOf cX11_toldOf 2 (some .long)) (K : cK g s) (G : cSep g)  (S : CS) (t0 : Int64) {w : Int64 × CS} (hv : fX11_toldOf_44 S t0 = some w) : CJ p l e s m args below meth c 2 6 0 0 g S0 (some (.long w.1)) w.2 44 [] [.long t0] S 0 0 := by
  unfold fX11_toldOf_44 at hv
  exact jc_lret C K dX11_toldOf_44 (Option.some.inj hv) ⟨Nat.le_refl _, Nat.le_refl _⟩
set_option maxRecDepth 100000 in
set_option maxHeartbeats 1000000 in
theorem tX11_toldOf_49 {p : Program} {l : Launch} {e : Env} {s : State} {m : MethodId} {args : Array Value} {below : List Frame} {meth : Method} {c : Code} {g : CG} {S0 : CS} (C : CC p s m args meth c yX11_toldOf cX11_toldOf 2 (some .long)) (K : cK g s) (G : cSep g)  (S : CS) (t0 : Int32) {w : Int64 × CS} (hv : fX11_toldOf_49 S t0 = some w) : CJ p l e s m args below meth c 2 6 0 0 g S0 (some (.long w.1)) w.2 49 [] [.int t0] S 0 0 := by
  unfold fX11_toldOf_49 at hv
  refine jr_i2l C dX11_toldOf_49 ?_
  refine jr_pcall (rest := []) C (pX2_ofWhole l t0.toInt64) oX2_ofWhole kw_268 rfl ⟨Nat.le_of_ble_eq_true rfl, Nat.le_of_ble_eq_true rfl⟩ rfl (Nat.le_of_ble_eq_true rfl) ⟨Nat.zero_le _, Nat.zero_le _⟩ dX11_toldOf_50 ?_
  exact jc_lret C K dX11_toldOf_53 (Option.some.inj hv) ⟨Nat.le_refl _, Nat.le_refl _⟩
set_option maxRecDepth 100000 in
set_option maxHeartbeats 1000000 in
theorem tX11_toldOf_58 {p : Program} {l : Launch} {e : Env} {s : State} {m : MethodId} {args : Array Value} {below : List Frame} {meth : Method} {c : Code} {g : CG} {S0 : CS} (C : CC p s m args meth c yX11_toldOf cX11_toldOf 2 (some .long)) (K : cK g s) (G : cSep g)  (S : CS) (t0 : Int32) {w : Int64 × CS} (hv : fX11_toldOf_58 S t0 = some w) : CJ p l e s m args below meth c 2 6 0 0 g S0 (some (.long w.1)) w.2 58 [] [.int t0] S 0 0 := by
  unfold fX11_toldOf_58 at hv
  refine jr_i2l C dX11_toldOf_58 ?_
  refine jr_pcall (rest := []) C (pX2_ofWhole l t0.toInt64) oX2_ofWhole kw_268 rfl ⟨Nat.le_of_ble_eq_true rfl, Nat.le_of_ble_eq_true rfl⟩ rfl (Nat.le_of_ble_eq_true rfl) ⟨Nat.zero_le _, Nat.zero_le _⟩ dX11_toldOf_59 ?_
  exact jc_lret C K dX11_toldOf_62 (Option.some.inj hv) ⟨Nat.le_refl _, Nat.le_refl _⟩
set_option maxRecDepth 100000 in
set_option maxHeartbeats 1000000 in
theorem tX11_toldOf_67 {p : Program} {l : Launch} {e : Env} {s : State} {m : MethodId} {args : Array Value} {below : List Frame} {meth : Method} {c : Code} {g : CG} {S0 : CS} (C : CC p s m args meth c yX11_toldOf cX11_toldOf 2 (some .long)) (K : cK g s) (G : cSep g)  (S : CS) (t0 : Int64) {w : Int64 × CS} (hv : fX11_toldOf_67 S t0 = some w) : CJ p l e s m args below meth c 2 6 0 0 g S0 (some (.long w.1)) w.2 67 [] [.long t0] S 0 0 := by
  unfold fX11_toldOf_67 at hv
  exact jc_lret C K dX11_toldOf_67 (Option.some.inj hv) ⟨Nat.le_refl _, Nat.le_refl _⟩
set_option maxRecDepth 100000 in
set_option maxHeartbeats 1000000 in
theorem tX11_toldOf_72 {p : Program} {l : Launch} {e : Env} {s : State} {m : MethodId} {args : Array Value} {below : List Frame} {meth : Method} {c : Code} {g : CG} {S0 : CS} (C : CC p s m args meth c yX11_toldOf cX11_toldOf 2 (some .long)) (K : cK g s) (G : cSep g)  (S : CS) (t0 : Int64) {w : Int64 × CS} (hv : fX11_toldOf_72 S t0 = some w) : CJ p l e s m args below meth c 2 6 0 0 g S0 (some (.long w.1)) w.2 72 [] [.long t0] S 0 0 := by
  unfold fX11_toldOf_72 at hv
  refine jr_pcall (rest := []) C (pX2_ofWhole l t0) oX2_ofWhole kw_268 rfl ⟨Nat.le_of_ble_eq_true rfl, Nat.le_of_ble_eq_true rfl⟩ rfl (Nat.le_of_ble_eq_true rfl) ⟨Nat.zero_le _, Nat.zero_le _⟩ dX11_toldOf_72 ?_
  exact jc_lret C K dX11_toldOf_75 (Option.some.inj hv) ⟨Nat.le_refl _, Nat.le_refl _⟩
set_option maxRecDepth 100000 in
set_option maxHeartbeats 1000000 in
theorem tX11_toldOf_80 {p : Program} {l : Launch} {e : Env} {s : State} {m : MethodId} {args : Array Value} {below : List Frame} {meth : Method} {c : Code} {g : CG} {S0 : CS} (C : CC p s m args meth c yX11_toldOf cX11_toldOf 2 (some .long)) (K : cK g s) (G : cSep g)  (S : CS) (t0 : Int32) {w : Int64 × CS} (hv : fX11_toldOf_80 S t0 = some w) : CJ p l e s m args below meth c 2 6 0 0 g S0 (some (.long w.1)) w.2 80 [] [.int t0] S 0 0 := by
  unfold fX11_toldOf_80 at hv
  refine jr_i2l C dX11_toldOf_80 ?_
  refine jr_pcall (rest := []) C (pX2_ofWhole l t0.toInt64) oX2_ofWhole kw_268 rfl ⟨Nat.le_of_ble_eq_true rfl, Nat.le_of_ble_eq_true rfl⟩ rfl (Nat.le_of_ble_eq_true rfl) ⟨Nat.zero_le _, Nat.zero_le _⟩ dX11_toldOf_81 ?_
  exact jc_lret C K dX11_toldOf_84 (Option.some.inj hv) ⟨Nat.le_refl _, Nat.le_refl _⟩
set_option maxRecDepth 100000 in
set_option maxHeartbeats 1000000 in
theorem tX11_toldOf_0 {p : Program} {l : Launch} {e : Env} {s : State} {m : MethodId} {args : Array Value} {below : List Frame} {meth : Method} {c : Code} {g : CG} {S0 : CS} (C : CC p s m args meth c yX11_toldOf cX11_toldOf 2 (some .long)) (K : cK g s) (G : cSep g)  (S : CS) (v0 : Option Nat) (v1 : Int32) {w : Int64 × CS} (hv : fX11_toldOf S v0 v1 = some w) : CJ p l e s m args below meth c 2 6 0 0 g S0 (some (.long w.1)) w.2 0 [(0, va_rf v0), (1, .int v1)] [] S 0 0 := by
  unfold fX11_toldOf at hv
  refine jr_iload_n C dX11_toldOf_0 rfl 1 rfl ?_
  by_cases q1_0 : v1 = 0
  · have hv := (if_pos q1_0).symm.trans hv
    refine jr_tableIn (off := 39) (tgt := 40) C dX11_toldOf_1 (by rw [q1_0]; decide) (by rw [q1_0]; decide) (by rw [q1_0]; rfl) rfl ?_
    refine jr_naload_n C dX11_toldOf_40 rfl 0 rfl ?_
    by_cases z41_0 : isKx S v0 [0] = true
    case pos =>
      have hv := (if_pos z41_0).symm.trans hv
      obtain ⟨c41, hc41, hv⟩ := Option.bind_eq_some_iff.mp hv
      refine jc_callU (ci := 0) (rest := []) C K (pX0_at l G S v0  hc41) z41_0 rfl u_Device_at_at_0 kw_901 rfl ⟨Nat.le_of_ble_eq_true rfl, Nat.le_of_ble_eq_true rfl⟩ rfl (Nat.le_of_ble_eq_true rfl) ⟨Nat.le_refl _, Nat.le_refl _⟩ dX11_toldOf_41 ?_
      exact jr_sub [] rfl (tX11_toldOf_44 C K G  c41.2 c41.1 hv)
    have hv := (if_neg z41_0).symm.trans hv
    by_cases z41_3 : isKx S v0 [3] = true
    case pos =>
      have hv := (if_pos z41_3).symm.trans hv
      obtain ⟨c41, hc41, hv⟩ := Option.bind_eq_some_iff.mp hv
      refine jc_callU (ci := 3) (rest := []) C K (pX5_at l G S v0  hc41) z41_3 rfl u_Device_at_at_3 kw_901 rfl ⟨Nat.le_of_ble_eq_true rfl, Nat.le_of_ble_eq_true rfl⟩ rfl (Nat.le_of_ble_eq_true rfl) ⟨Nat.le_refl _, Nat.le_refl _⟩ dX11_toldOf_41 ?_
      exact jr_sub [] rfl (tX11_toldOf_44 C K G  c41.2 c41.1 hv)
    have hv := (if_neg z41_3).symm.trans hv
    by_cases z41_4 : isKx S v0 [4] = true
    case pos =>
      have hv := (if_pos z41_4).symm.trans hv
      obtain ⟨c41, hc41, hv⟩ := Option.bind_eq_some_iff.mp hv
      refine jc_callU (ci := 4) (rest := []) C K (pX0_at l G S v0  hc41) z41_4 rfl u_Device_at_at_4 kw_901 rfl ⟨Nat.le_of_ble_eq_true rfl, Nat.le_of_ble_eq_true rfl⟩ rfl (Nat.le_of_ble_eq_true rfl) ⟨Nat.le_refl _, Nat.le_refl _⟩ dX11_toldOf_41 ?_
      exact jr_sub [] rfl (tX11_toldOf_44 C K G  c41.2 c41.1 hv)
    have hv := (if_neg z41_4).symm.trans hv
    by_cases z41_6 : isKx S v0 [6] = true
    case pos =>
      have hv := (if_pos z41_6).symm.trans hv
      obtain ⟨c41, hc41, hv⟩ := Option.bind_eq_some_iff.mp hv
      refine jc_callU (ci := 6) (rest := []) C K (pX0_at l G S v0  hc41) z41_6 rfl u_Device_at_at_6 kw_901 rfl ⟨Nat.le_of_ble_eq_true rfl, Nat.le_of_ble_eq_true rfl⟩ rfl (Nat.le_of_ble_eq_true rfl) ⟨Nat.le_refl _, Nat.le_refl _⟩ dX11_toldOf_41 ?_
      exact jr_sub [] rfl (tX11_toldOf_44 C K G  c41.2 c41.1 hv)
    have hv := (if_neg z41_6).symm.trans hv
    exact op_none hv
  have hv := (if_neg q1_0).symm.trans hv
  by_cases q1_1 : v1 = 1
  · have hv := (if_pos q1_1).symm.trans hv
    refine jr_tableIn (off := 44) (tgt := 45) C dX11_toldOf_1 (by rw [q1_1]; decide) (by rw [q1_1]; decide) (by rw [q1_1]; rfl) rfl ?_
    refine jr_naload_n C dX11_toldOf_45 rfl 0 rfl ?_
    by_cases z46_0 : isKx S v0 [0] = true
    case pos =>
      have hv := (if_pos z46_0).symm.trans hv
      obtain ⟨c46, hc46, hv⟩ := Option.bind_eq_some_iff.mp hv
      refine jc_callU (ci := 0) (rest := []) C K (pX0_span l G S v0  hc46) z46_0 rfl u_Device_span_span_0 kw_922 rfl ⟨Nat.le_of_ble_eq_true rfl, Nat.le_of_ble_eq_true rfl⟩ rfl (Nat.le_of_ble_eq_true rfl) ⟨Nat.le_refl _, Nat.le_refl _⟩ dX11_toldOf_46 ?_
      exact jr_sub [] rfl (tX11_toldOf_49 C K G  c46.2 c46.1 hv)
    have hv := (if_neg z46_0).symm.trans hv
    by_cases z46_3 : isKx S v0 [3] = true
    case pos =>
      have hv := (if_pos z46_3).symm.trans hv
      obtain ⟨c46, hc46, hv⟩ := Option.bind_eq_some_iff.mp hv
      refine jc_callU (ci := 3) (rest := []) C K (pX5_span l G S v0  hc46) z46_3 rfl u_Device_span_span_3 kw_922 rfl ⟨Nat.le_of_ble_eq_true rfl, Nat.le_of_ble_eq_true rfl⟩ rfl (Nat.le_of_ble_eq_true rfl) ⟨Nat.le_refl _, Nat.le_refl _⟩ dX11_toldOf_46 ?_
      exact jr_sub [] rfl (tX11_toldOf_49 C K G  c46.2 c46.1 hv)
    have hv := (if_neg z46_3).symm.trans hv
    by_cases z46_4 : isKx S v0 [4] = true
    case pos =>
      have hv := (if_pos z46_4).symm.trans hv
      obtain ⟨c46, hc46, hv⟩ := Option.bind_eq_some_iff.mp hv
      refine jc_callU (ci := 4) (rest := []) C K (pX6_span l G S v0  hc46) z46_4 rfl u_Device_span_span_4 kw_922 rfl ⟨Nat.le_of_ble_eq_true rfl, Nat.le_of_ble_eq_true rfl⟩ rfl (Nat.le_of_ble_eq_true rfl) ⟨Nat.le_refl _, Nat.le_refl _⟩ dX11_toldOf_46 ?_
      exact jr_sub [] rfl (tX11_toldOf_49 C K G  c46.2 c46.1 hv)
    have hv := (if_neg z46_4).symm.trans hv
    by_cases z46_6 : isKx S v0 [6] = true
    case pos =>
      have hv := (if_pos z46_6).symm.trans hv
      obtain ⟨c46, hc46, hv⟩ := Option.bind_eq_some_iff.mp hv
      refine jc_callU (ci := 6) (rest := []) C K (pX10_span l G S v0  hc46) z46_6 rfl u_Device_span_span_6 kw_922 rfl ⟨Nat.le_of_ble_eq_true rfl, Nat.le_of_ble_eq_true rfl⟩ rfl (Nat.le_of_ble_eq_true rfl) ⟨Nat.le_refl _, Nat.le_refl _⟩ dX11_toldOf_46 ?_
      exact jr_sub [] rfl (tX11_toldOf_49 C K G  c46.2 c46.1 hv)
    have hv := (if_neg z46_6).symm.trans hv
    exact op_none hv
  have hv := (if_neg q1_1).symm.trans hv
  by_cases q1_2 : v1 = 2
  · have hv := (if_pos q1_2).symm.trans hv
    refine jr_tableIn (off := 53) (tgt := 54) C dX11_toldOf_1 (by rw [q1_2]; decide) (by rw [q1_2]; decide) (by rw [q1_2]; rfl) rfl ?_
    refine jr_naload_n C dX11_toldOf_54 rfl 0 rfl ?_
    by_cases z55_0 : isKx S v0 [0] = true
    case pos =>
      have hv := (if_pos z55_0).symm.trans hv
      obtain ⟨c55, hc55, hv⟩ := Option.bind_eq_some_iff.mp hv
      refine jc_callU (ci := 0) (rest := []) C K (pX0_rank l G S v0  hc55) z55_0 rfl u_Device_rank_rank_0 kw_931 rfl ⟨Nat.le_of_ble_eq_true rfl, Nat.le_of_ble_eq_true rfl⟩ rfl (Nat.le_of_ble_eq_true rfl) ⟨Nat.le_refl _, Nat.le_refl _⟩ dX11_toldOf_55 ?_
      exact jr_sub [] rfl (tX11_toldOf_58 C K G  c55.2 c55.1 hv)
    have hv := (if_neg z55_0).symm.trans hv
    by_cases z55_3 : isKx S v0 [3] = true
    case pos =>
      have hv := (if_pos z55_3).symm.trans hv
      obtain ⟨c55, hc55, hv⟩ := Option.bind_eq_some_iff.mp hv
      refine jc_callU (ci := 3) (rest := []) C K (pX5_rank l G S v0  hc55) z55_3 rfl u_Device_rank_rank_3 kw_931 rfl ⟨Nat.le_of_ble_eq_true rfl, Nat.le_of_ble_eq_true rfl⟩ rfl (Nat.le_of_ble_eq_true rfl) ⟨Nat.le_refl _, Nat.le_refl _⟩ dX11_toldOf_55 ?_
      exact jr_sub [] rfl (tX11_toldOf_58 C K G  c55.2 c55.1 hv)
    have hv := (if_neg z55_3).symm.trans hv
    by_cases z55_4 : isKx S v0 [4] = true
    case pos =>
      have hv := (if_pos z55_4).symm.trans hv
      obtain ⟨c55, hc55, hv⟩ := Option.bind_eq_some_iff.mp hv
      refine jc_callU (ci := 4) (rest := []) C K (pX6_rank l G S v0  hc55) z55_4 rfl u_Device_rank_rank_4 kw_931 rfl ⟨Nat.le_of_ble_eq_true rfl, Nat.le_of_ble_eq_true rfl⟩ rfl (Nat.le_of_ble_eq_true rfl) ⟨Nat.le_refl _, Nat.le_refl _⟩ dX11_toldOf_55 ?_
      exact jr_sub [] rfl (tX11_toldOf_58 C K G  c55.2 c55.1 hv)
    have hv := (if_neg z55_4).symm.trans hv
    by_cases z55_6 : isKx S v0 [6] = true
    case pos =>
      have hv := (if_pos z55_6).symm.trans hv
      obtain ⟨c55, hc55, hv⟩ := Option.bind_eq_some_iff.mp hv
      refine jc_callU (ci := 6) (rest := []) C K (pX10_rank l G S v0  hc55) z55_6 rfl u_Device_rank_rank_6 kw_931 rfl ⟨Nat.le_of_ble_eq_true rfl, Nat.le_of_ble_eq_true rfl⟩ rfl (Nat.le_of_ble_eq_true rfl) ⟨Nat.le_refl _, Nat.le_refl _⟩ dX11_toldOf_55 ?_
      exact jr_sub [] rfl (tX11_toldOf_58 C K G  c55.2 c55.1 hv)
    have hv := (if_neg z55_6).symm.trans hv
    exact op_none hv
  have hv := (if_neg q1_2).symm.trans hv
  by_cases q1_3 : v1 = 3
  · have hv := (if_pos q1_3).symm.trans hv
    refine jr_tableIn (off := 62) (tgt := 63) C dX11_toldOf_1 (by rw [q1_3]; decide) (by rw [q1_3]; decide) (by rw [q1_3]; rfl) rfl ?_
    refine jr_naload_n C dX11_toldOf_63 rfl 0 rfl ?_
    by_cases z64_0 : isKx S v0 [0] = true
    case pos =>
      have hv := (if_pos z64_0).symm.trans hv
      obtain ⟨c64, hc64, hv⟩ := Option.bind_eq_some_iff.mp hv
      refine jc_callU (ci := 0) (rest := []) C K (pX0_travelled l G S v0  hc64) z64_0 rfl u_Device_travelled_travelled_0 kw_948 rfl ⟨Nat.le_of_ble_eq_true rfl, Nat.le_of_ble_eq_true rfl⟩ rfl (Nat.le_of_ble_eq_true rfl) ⟨Nat.le_refl _, Nat.le_refl _⟩ dX11_toldOf_64 ?_
      exact jr_sub [] rfl (tX11_toldOf_67 C K G  c64.2 c64.1 hv)
    have hv := (if_neg z64_0).symm.trans hv
    by_cases z64_3 : isKx S v0 [3] = true
    case pos =>
      have hv := (if_pos z64_3).symm.trans hv
      obtain ⟨c64, hc64, hv⟩ := Option.bind_eq_some_iff.mp hv
      refine jc_callU (ci := 3) (rest := []) C K (pX5_travelled l G S v0  hc64) z64_3 rfl u_Device_travelled_travelled_3 kw_948 rfl ⟨Nat.le_of_ble_eq_true rfl, Nat.le_of_ble_eq_true rfl⟩ rfl (Nat.le_of_ble_eq_true rfl) ⟨Nat.le_refl _, Nat.le_refl _⟩ dX11_toldOf_64 ?_
      exact jr_sub [] rfl (tX11_toldOf_67 C K G  c64.2 c64.1 hv)
    have hv := (if_neg z64_3).symm.trans hv
    by_cases z64_4 : isKx S v0 [4] = true
    case pos =>
      have hv := (if_pos z64_4).symm.trans hv
      obtain ⟨c64, hc64, hv⟩ := Option.bind_eq_some_iff.mp hv
      refine jc_callU (ci := 4) (rest := []) C K (pX0_travelled l G S v0  hc64) z64_4 rfl u_Device_travelled_travelled_4 kw_948 rfl ⟨Nat.le_of_ble_eq_true rfl, Nat.le_of_ble_eq_true rfl⟩ rfl (Nat.le_of_ble_eq_true rfl) ⟨Nat.le_refl _, Nat.le_refl _⟩ dX11_toldOf_64 ?_
      exact jr_sub [] rfl (tX11_toldOf_67 C K G  c64.2 c64.1 hv)
    have hv := (if_neg z64_4).symm.trans hv
    by_cases z64_6 : isKx S v0 [6] = true
    case pos =>
      have hv := (if_pos z64_6).symm.trans hv
      obtain ⟨c64, hc64, hv⟩ := Option.bind_eq_some_iff.mp hv
      refine jc_callU (ci := 6) (rest := []) C K (pX0_travelled l G S v0  hc64) z64_6 rfl u_Device_travelled_travelled_6 kw_948 rfl ⟨Nat.le_of_ble_eq_true rfl, Nat.le_of_ble_eq_true rfl⟩ rfl (Nat.le_of_ble_eq_true rfl) ⟨Nat.le_refl _, Nat.le_refl _⟩ dX11_toldOf_64 ?_
      exact jr_sub [] rfl (tX11_toldOf_67 C K G  c64.2 c64.1 hv)
    have hv := (if_neg z64_6).symm.trans hv
    exact op_none hv
  have hv := (if_neg q1_3).symm.trans hv
  by_cases q1_4 : v1 = 4
  · have hv := (if_pos q1_4).symm.trans hv
    refine jr_tableIn (off := 67) (tgt := 68) C dX11_toldOf_1 (by rw [q1_4]; decide) (by rw [q1_4]; decide) (by rw [q1_4]; rfl) rfl ?_
    refine jr_naload_n C dX11_toldOf_68 rfl 0 rfl ?_
    by_cases z69_0 : isKx S v0 [0] = true
    case pos =>
      have hv := (if_pos z69_0).symm.trans hv
      obtain ⟨c69, hc69, hv⟩ := Option.bind_eq_some_iff.mp hv
      refine jc_callU (ci := 0) (rest := []) C K (pX0_moves l G S v0  hc69) z69_0 rfl u_Device_moves_moves_0 kw_962 rfl ⟨Nat.le_of_ble_eq_true rfl, Nat.le_of_ble_eq_true rfl⟩ rfl (Nat.le_of_ble_eq_true rfl) ⟨Nat.le_refl _, Nat.le_refl _⟩ dX11_toldOf_69 ?_
      exact jr_sub [] rfl (tX11_toldOf_72 C K G  c69.2 c69.1 hv)
    have hv := (if_neg z69_0).symm.trans hv
    by_cases z69_3 : isKx S v0 [3] = true
    case pos =>
      have hv := (if_pos z69_3).symm.trans hv
      obtain ⟨c69, hc69, hv⟩ := Option.bind_eq_some_iff.mp hv
      refine jc_callU (ci := 3) (rest := []) C K (pX5_moves l G S v0  hc69) z69_3 rfl u_Device_moves_moves_3 kw_962 rfl ⟨Nat.le_of_ble_eq_true rfl, Nat.le_of_ble_eq_true rfl⟩ rfl (Nat.le_of_ble_eq_true rfl) ⟨Nat.le_refl _, Nat.le_refl _⟩ dX11_toldOf_69 ?_
      exact jr_sub [] rfl (tX11_toldOf_72 C K G  c69.2 c69.1 hv)
    have hv := (if_neg z69_3).symm.trans hv
    by_cases z69_4 : isKx S v0 [4] = true
    case pos =>
      have hv := (if_pos z69_4).symm.trans hv
      obtain ⟨c69, hc69, hv⟩ := Option.bind_eq_some_iff.mp hv
      refine jc_callU (ci := 4) (rest := []) C K (pX0_moves l G S v0  hc69) z69_4 rfl u_Device_moves_moves_4 kw_962 rfl ⟨Nat.le_of_ble_eq_true rfl, Nat.le_of_ble_eq_true rfl⟩ rfl (Nat.le_of_ble_eq_true rfl) ⟨Nat.le_refl _, Nat.le_refl _⟩ dX11_toldOf_69 ?_
      exact jr_sub [] rfl (tX11_toldOf_72 C K G  c69.2 c69.1 hv)
    have hv := (if_neg z69_4).symm.trans hv
    by_cases z69_6 : isKx S v0 [6] = true
    case pos =>
      have hv := (if_pos z69_6).symm.trans hv
      obtain ⟨c69, hc69, hv⟩ := Option.bind_eq_some_iff.mp hv
      refine jc_callU (ci := 6) (rest := []) C K (pX0_moves l G S v0  hc69) z69_6 rfl u_Device_moves_moves_6 kw_962 rfl ⟨Nat.le_of_ble_eq_true rfl, Nat.le_of_ble_eq_true rfl⟩ rfl (Nat.le_of_ble_eq_true rfl) ⟨Nat.le_refl _, Nat.le_refl _⟩ dX11_toldOf_69 ?_
      exact jr_sub [] rfl (tX11_toldOf_72 C K G  c69.2 c69.1 hv)
    have hv := (if_neg z69_6).symm.trans hv
    exact op_none hv
  have hv := (if_neg q1_4).symm.trans hv
  by_cases q1_5 : v1 = 5
  · have hv := (if_pos q1_5).symm.trans hv
    refine jr_tableIn (off := 75) (tgt := 76) C dX11_toldOf_1 (by rw [q1_5]; decide) (by rw [q1_5]; decide) (by rw [q1_5]; rfl) rfl ?_
    refine jr_naload_n C dX11_toldOf_76 rfl 0 rfl ?_
    by_cases z77_0 : isKx S v0 [0] = true
    case pos =>
      have hv := (if_pos z77_0).symm.trans hv
      obtain ⟨c77, hc77, hv⟩ := Option.bind_eq_some_iff.mp hv
      refine jc_callU (ci := 0) (rest := []) C K (pX0_speed l G S v0  hc77) z77_0 rfl u_Device_speed_speed_0 kw_973 rfl ⟨Nat.le_of_ble_eq_true rfl, Nat.le_of_ble_eq_true rfl⟩ rfl (Nat.le_of_ble_eq_true rfl) ⟨Nat.le_refl _, Nat.le_refl _⟩ dX11_toldOf_77 ?_
      exact jr_sub [] rfl (tX11_toldOf_80 C K G  c77.2 c77.1 hv)
    have hv := (if_neg z77_0).symm.trans hv
    by_cases z77_3 : isKx S v0 [3] = true
    case pos =>
      have hv := (if_pos z77_3).symm.trans hv
      obtain ⟨c77, hc77, hv⟩ := Option.bind_eq_some_iff.mp hv
      refine jc_callU (ci := 3) (rest := []) C K (pX5_speed l G S v0  hc77) z77_3 rfl u_Device_speed_speed_3 kw_973 rfl ⟨Nat.le_of_ble_eq_true rfl, Nat.le_of_ble_eq_true rfl⟩ rfl (Nat.le_of_ble_eq_true rfl) ⟨Nat.le_refl _, Nat.le_refl _⟩ dX11_toldOf_77 ?_
      exact jr_sub [] rfl (tX11_toldOf_80 C K G  c77.2 c77.1 hv)
    have hv := (if_neg z77_3).symm.trans hv
    by_cases z77_4 : isKx S v0 [4] = true
    case pos =>
      have hv := (if_pos z77_4).symm.trans hv
      obtain ⟨c77, hc77, hv⟩ := Option.bind_eq_some_iff.mp hv
      refine jc_callU (ci := 4) (rest := []) C K (pX6_speed l G S v0  hc77) z77_4 rfl u_Device_speed_speed_4 kw_973 rfl ⟨Nat.le_of_ble_eq_true rfl, Nat.le_of_ble_eq_true rfl⟩ rfl (Nat.le_of_ble_eq_true rfl) ⟨Nat.le_refl _, Nat.le_refl _⟩ dX11_toldOf_77 ?_
      exact jr_sub [] rfl (tX11_toldOf_80 C K G  c77.2 c77.1 hv)
    have hv := (if_neg z77_4).symm.trans hv
    by_cases z77_6 : isKx S v0 [6] = true
    case pos =>
      have hv := (if_pos z77_6).symm.trans hv
      obtain ⟨c77, hc77, hv⟩ := Option.bind_eq_some_iff.mp hv
      refine jc_callU (ci := 6) (rest := []) C K (pX6_speed l G S v0  hc77) z77_6 rfl u_Device_speed_speed_6 kw_973 rfl ⟨Nat.le_of_ble_eq_true rfl, Nat.le_of_ble_eq_true rfl⟩ rfl (Nat.le_of_ble_eq_true rfl) ⟨Nat.le_refl _, Nat.le_refl _⟩ dX11_toldOf_77 ?_
      exact jr_sub [] rfl (tX11_toldOf_80 C K G  c77.2 c77.1 hv)
    have hv := (if_neg z77_6).symm.trans hv
    exact op_none hv
  have hv := (if_neg q1_5).symm.trans hv
  refine jr_tableOut (tgt := 85) C dX11_toldOf_1 (by have := sw_ne (a := 0) q1_0 (by decide); have := sw_ne (a := 1) q1_1 (by decide); have := sw_ne (a := 2) q1_2 (by decide); have := sw_ne (a := 3) q1_3 (by decide); have := sw_ne (a := 4) q1_4 (by decide); have := sw_ne (a := 5) q1_5 (by decide); omega) rfl ?_
  refine jr_lconst (v := 0) C dX11_toldOf_85 (by decide) ?_
  exact jc_lret C K dX11_toldOf_86 (Option.some.inj hv) ⟨Nat.le_refl _, Nat.le_refl _⟩
theorem pX11_toldOf (l : Launch) {g : CG} (G : cSep g)   (S : CS) (v0 : Option Nat) (v1 : Int32) {w : Int64 × CS} (hw : fX11_toldOf S v0 v1 = some w)  : cC l yX11_toldOf cX11_toldOf 2 (some .long) 6 0 0 g [va_rf v0, .int v1] S (some (.long w.1)) w.2 := cC_of (lv := [(0, va_rf v0), (1, .int v1)]) (by decide +kernel) (by simp [lg_sl, cat_rf, cat_i, cat_l, cat_r]) (by simp [lv_args, cat_rf, cat_i, cat_l, cat_r]) (fun C K => tX11_toldOf_0 C K G  S v0 v1 hw)
/-! RobotCell.tell(ILRobotCell$Thing;I)I -/
def fX11_tell (S : CS) (v1 : Int32) (v2 : Option Nat) (v3 : Int32) : Option (Int32 × CS) :=
  onul v2 (some (1, S)) (fun _ => Option.bind (cInst S v2 [0, 3, 4, 6] [1, 2, 5]) (fun c7 => if c7 = 0 then some (2, S) else (if cCast S v2 [0, 3, 4, 6] = true then (Option.bind (fX11_toldOf S v2 v3) (fun c24 => Option.bind (fX11_giveMeasure c24.2 v1 c24.1) (fun c27 => some (c27.1, c27.2)))) else none)))
theorem oX11_tell : ok_c yX11_tell cX11_tell 5 (some .int) 3 (.instanceMethod yX11_tell) := ⟨kw_897, ⟨kw_896, rfl⟩, kw_71, by decide +kernel⟩
set_option maxRecDepth 100000 in
set_option maxHeartbeats 1000000 in
theorem tX11_tell_0 {p : Program} {l : Launch} {e : Env} {s : State} {m : MethodId} {args : Array Value} {below : List Frame} {meth : Method} {c : Code} {g : CG} {S0 : CS} (C : CC p s m args meth c yX11_tell cX11_tell 5 (some .int)) (K : cK g s) (G : cSep g)  (S : CS) (v1 : Int32) (v2 : Option Nat) (v3 : Int32) {w : Int32 × CS} (hv : fX11_tell S v1 v2 v3 = some w) : CJ p l e s m args below meth c 5 7 0 0 g S0 (some (.int w.1)) w.2 0 [(0, .ref (co g)), (1, .int v1), (2, va_rf v2), (3, .int v3)] [] S 0 0 := by
  unfold fX11_tell at hv
  refine jr_naload_n C dX11_tell_0 rfl 2 rfl ?_
  refine jr_ifnonnull (tgt := 6) C dX11_tell_1 rfl (fun a1 q1 => ?_) (fun q1 => ?_)
  · have hv := (onul_s q1).symm.trans hv
    refine jr_naload_n C dX11_tell_6 rfl 2 rfl ?_
    obtain ⟨c7, hc7, hv⟩ := Option.bind_eq_some_iff.mp hv
    refine jc_inst C K hc7 y_Device n_Device kw_808 dX11_tell_7 ?_
    refine jr_if_eq (tgt := 33) C dX11_tell_10 rfl (fun q10 => ?_) (fun q10 => ?_)
    · have hv := (if_pos q10).symm.trans hv
      refine jr_iconst (v := 2) C dX11_tell_33 (by decide) ?_
      exact jc_iret C K dX11_tell_34 (Option.some.inj hv) ⟨Nat.le_refl _, Nat.le_refl _⟩
    · have hv := (if_neg q10).symm.trans hv
      refine jr_naload_n C dX11_tell_13 rfl 2 rfl ?_
      by_cases z14 : cCast S v2 [0, 3, 4, 6] = true
      case neg => exact op_none ((if_neg z14).symm.trans hv)
      have hv := (if_pos z14).symm.trans hv
      refine jc_cast C K z14 y_Device kw_808 dX11_tell_14 ?_
      refine jr_nastore (i := 4) (lv' := [(4, va_rf v2), (0, .ref (co g)), (1, .int v1), (2, va_rf v2), (3, .int v3)]) C dX11_tell_17 (by decide) rfl ?_
      refine jr_aload_n C dX11_tell_19 rfl 1 rfl ?_
      refine jr_iload_n C dX11_tell_20 rfl 2 rfl ?_
      refine jr_naload C dX11_tell_21 0 rfl ?_
      refine jr_iload_n C dX11_tell_23 rfl 4 rfl ?_
      obtain ⟨c24, hc24, hv⟩ := Option.bind_eq_some_iff.mp hv
      refine jc_callS (rest := [.int v1, .ref (co g)]) C K (pX11_toldOf l G S v2 v3 hc24) oX11_toldOf kw_898 rfl ⟨Nat.le_of_ble_eq_true rfl, Nat.le_of_ble_eq_true rfl⟩ rfl (Nat.le_of_ble_eq_true rfl) ⟨Nat.le_refl _, Nat.le_refl _⟩ dX11_tell_24 ?_
      obtain ⟨c27, hc27, hv⟩ := Option.bind_eq_some_iff.mp hv
      refine jc_callO (rest := []) C K (pX11_giveMeasure l G c24.2 v1 c24.1 hc27) oX11_giveMeasure kw_15 kw_318 rfl ⟨Nat.le_of_ble_eq_true rfl, Nat.le_of_ble_eq_true rfl⟩ rfl (Nat.le_of_ble_eq_true rfl) ⟨Nat.le_refl _, Nat.le_refl _⟩ dX11_tell_27 ?_
      refine jr_goto (tgt := 34) C dX11_tell_30 rfl ?_
      exact jc_iret C K dX11_tell_34 (Option.some.inj hv) ⟨Nat.le_refl _, Nat.le_refl _⟩
  · have hv := (onul_n q1).symm.trans hv
    refine jr_iconst (v := 1) C dX11_tell_4 (by decide) ?_
    exact jc_iret C K dX11_tell_5 (Option.some.inj hv) ⟨Nat.le_refl _, Nat.le_refl _⟩
theorem pX11_tell (l : Launch) {g : CG} (G : cSep g)   (S : CS) (v1 : Int32) (v2 : Option Nat) (v3 : Int32) {w : Int32 × CS} (hw : fX11_tell S v1 v2 v3 = some w)  : cC l yX11_tell cX11_tell 5 (some .int) 7 0 0 g [.ref (co g), .int v1, va_rf v2, .int v3] S (some (.int w.1)) w.2 := cC_of (lv := [(0, .ref (co g)), (1, .int v1), (2, va_rf v2), (3, .int v3)]) (by decide +kernel) (by simp [lg_sl, cat_rf, cat_i, cat_l, cat_r]) (by simp [lv_args, cat_rf, cat_i, cat_l, cat_r]) (fun C K => tX11_tell_0 C K G  S v1 v2 v3 hw)
/-! RobotCell.rest(LRobotCell$Thing;)I -/
theorem u_X0_comeToRest_comeToRest_4 : ok_u yX0_comeToRest yX6_comeToRest RX0 RX6 cX6_comeToRest 1 none 0 := ⟨kw_991, kw_990, kw_85, kw_988, nw_in kw_989, Or.inr ⟨kw_986, _, _, _, kw_1015⟩, by decide +kernel⟩
theorem u_X0_comeToRest_comeToRest_6 : ok_u yX0_comeToRest yX10_comeToRest RX0 RX10 cX10_comeToRest 1 none 0 := ⟨kw_1002, kw_1001, kw_86, kw_988, nw_in kw_1000, Or.inr ⟨kw_986, _, _, _, kw_1015⟩, by decide +kernel⟩
def fX11_rest_27 (S : CS) : Option (Int32 × CS) :=
  some (0, S)
def fX11_rest (S : CS) (v0 : Option Nat) : Option (Int32 × CS) :=
  onul v0 (some (1, S)) (fun _ => Option.bind (cInst S v0 [0, 4, 6] [1, 2, 3, 5]) (fun c7 => if c7 = 0 then some (2, S) else (if cCast S v0 [0, 4, 6] = true then (if isKx S v0 [0] = true then (Option.bind (fX0_comeToRest S v0) (fun c24 => fX11_rest_27 c24)) else if isKx S v0 [4] = true then (Option.bind (fX6_comeToRest S v0) (fun c24 => fX11_rest_27 c24)) else if isKx S v0 [6] = true then (Option.bind (fX10_comeToRest S v0) (fun c24 => fX11_rest_27 c24)) else none) else none)))
theorem oX11_rest : ok_c yX11_rest cX11_rest 2 (some .int) 1 (.static yX11_rest) := ⟨kw_984, ⟨kw_983, rfl⟩, kw_71, by decide +kernel⟩
set_option maxRecDepth 100000 in
set_option maxHeartbeats 1000000 in
theorem tX11_rest_27 {p : Program} {l : Launch} {e : Env} {s : State} {m : MethodId} {args : Array Value} {below : List Frame} {meth : Method} {c : Code} {g : CG} {S0 : CS} (C : CC p s m args meth c yX11_rest cX11_rest 2 (some .int)) (K : cK g s) (G : cSep g)  (S : CS) {w : Int32 × CS} (hv : fX11_rest_27 S = some w) : CJ p l e s m args below meth c 2 3 0 0 g S0 (some (.int w.1)) w.2 27 [] [] S 0 0 := by
  unfold fX11_rest_27 at hv
  refine jr_iconst (v := 0) C dX11_rest_27 (by decide) ?_
  exact jc_iret C K dX11_rest_28 (Option.some.inj hv) ⟨Nat.le_refl _, Nat.le_refl _⟩
set_option maxRecDepth 100000 in
set_option maxHeartbeats 1000000 in
theorem tX11_rest_0 {p : Program} {l : Launch} {e : Env} {s : State} {m : MethodId} {args : Array Value} {below : List Frame} {meth : Method} {c : Code} {g : CG} {S0 : CS} (C : CC p s m args meth c yX11_rest cX11_rest 2 (some .int)) (K : cK g s) (G : cSep g)  (S : CS) (v0 : Option Nat) {w : Int32 × CS} (hv : fX11_rest S v0 = some w) : CJ p l e s m args below meth c 2 3 0 0 g S0 (some (.int w.1)) w.2 0 [(0, va_rf v0)] [] S 0 0 := by
  unfold fX11_rest at hv
  refine jr_naload_n C dX11_rest_0 rfl 0 rfl ?_
  refine jr_ifnonnull (tgt := 6) C dX11_rest_1 rfl (fun a1 q1 => ?_) (fun q1 => ?_)
  · have hv := (onul_s q1).symm.trans hv
    refine jr_naload_n C dX11_rest_6 rfl 0 rfl ?_
    obtain ⟨c7, hc7, hv⟩ := Option.bind_eq_some_iff.mp hv
    refine jc_inst C K hc7 y_Axis n_Axis kw_752 dX11_rest_7 ?_
    refine jr_if_eq (tgt := 21) C dX11_rest_10 rfl (fun q10 => ?_) (fun q10 => ?_)
    · have hv := (if_pos q10).symm.trans hv
      refine jr_iconst (v := 2) C dX11_rest_21 (by decide) ?_
      exact jc_iret C K dX11_rest_22 (Option.some.inj hv) ⟨Nat.le_refl _, Nat.le_refl _⟩
    · have hv := (if_neg q10).symm.trans hv
      refine jr_naload_n C dX11_rest_13 rfl 0 rfl ?_
      by_cases z14 : cCast S v0 [0, 4, 6] = true
      case neg => exact op_none ((if_neg z14).symm.trans hv)
      have hv := (if_pos z14).symm.trans hv
      refine jc_cast C K z14 y_Axis kw_752 dX11_rest_14 ?_
      refine jr_nastore_n (i := 1) (lv' := [(1, va_rf v0), (0, va_rf v0)]) C dX11_rest_17 rfl (by decide) (by simp [cat_rf, cat_i, cat_l, cat_r]) ?_
      refine jr_goto (tgt := 23) C dX11_rest_18 rfl ?_
      refine jr_naload_n C dX11_rest_23 rfl 0 rfl ?_
      by_cases z24_0 : isKx S v0 [0] = true
      case pos =>
        have hv := (if_pos z24_0).symm.trans hv
        obtain ⟨c24, hc24, hv⟩ := Option.bind_eq_some_iff.mp hv
        refine jc_callT (ci := 0) (rest := []) C K (pX0_comeToRest l G S v0  hc24) z24_0 rfl oX0_comeToRest kw_987 kw_985 rfl ⟨Nat.le_of_ble_eq_true rfl, Nat.le_of_ble_eq_true rfl⟩ rfl (Nat.le_of_ble_eq_true rfl) ⟨Nat.le_refl _, Nat.le_refl _⟩ dX11_rest_24 ?_
        exact jr_sub [] rfl (tX11_rest_27 C K G  c24 hv)
      have hv := (if_neg z24_0).symm.trans hv
      by_cases z24_4 : isKx S v0 [4] = true
      case pos =>
        have hv := (if_pos z24_4).symm.trans hv
        obtain ⟨c24, hc24, hv⟩ := Option.bind_eq_some_iff.mp hv
        refine jc_callU (ci := 4) (rest := []) C K (pX6_comeToRest l G S v0  hc24) z24_4 rfl u_X0_comeToRest_comeToRest_4 kw_985 rfl ⟨Nat.le_of_ble_eq_true rfl, Nat.le_of_ble_eq_true rfl⟩ rfl (Nat.le_of_ble_eq_true rfl) ⟨Nat.le_refl _, Nat.le_refl _⟩ dX11_rest_24 ?_
        exact jr_sub [] rfl (tX11_rest_27 C K G  c24 hv)
      have hv := (if_neg z24_4).symm.trans hv
      by_cases z24_6 : isKx S v0 [6] = true
      case pos =>
        have hv := (if_pos z24_6).symm.trans hv
        obtain ⟨c24, hc24, hv⟩ := Option.bind_eq_some_iff.mp hv
        refine jc_callU (ci := 6) (rest := []) C K (pX10_comeToRest l G S v0  hc24) z24_6 rfl u_X0_comeToRest_comeToRest_6 kw_985 rfl ⟨Nat.le_of_ble_eq_true rfl, Nat.le_of_ble_eq_true rfl⟩ rfl (Nat.le_of_ble_eq_true rfl) ⟨Nat.le_refl _, Nat.le_refl _⟩ dX11_rest_24 ?_
        exact jr_sub [] rfl (tX11_rest_27 C K G  c24 hv)
      have hv := (if_neg z24_6).symm.trans hv
      exact op_none hv
  · have hv := (onul_n q1).symm.trans hv
    refine jr_iconst (v := 1) C dX11_rest_4 (by decide) ?_
    exact jc_iret C K dX11_rest_5 (Option.some.inj hv) ⟨Nat.le_refl _, Nat.le_refl _⟩
theorem pX11_rest (l : Launch) {g : CG} (G : cSep g)   (S : CS) (v0 : Option Nat) {w : Int32 × CS} (hw : fX11_rest S v0 = some w)  : cC l yX11_rest cX11_rest 2 (some .int) 3 0 0 g [va_rf v0] S (some (.int w.1)) w.2 := cC_of (lv := [(0, va_rf v0)]) (by decide +kernel) (by simp [lg_sl, cat_rf, cat_i, cat_l, cat_r]) (by simp [lv_args, cat_rf, cat_i, cat_l, cat_r]) (fun C K => tX11_rest_0 C K G  S v0 hw)
/-! RobotCell.sense(LRobotCell$Thing;J)I -/
def fX11_sense (S : CS) (v0 : Option Nat) (v1 : Int64) : Option (Int32 × CS) :=
  onul v0 (some (1, S)) (fun _ => Option.bind (cInst S v0 [3] [0, 1, 2, 4, 5, 6]) (fun c7 => if c7 = 0 then some (2, S) else (if cCast S v0 [3] = true then (if isKx S v0 [3] = true then (Option.bind (fX5_keep S v0 v1) (fun c25 => some (0, c25))) else none) else none)))
theorem oX11_sense : ok_c yX11_sense cX11_sense 4 (some .int) 2 (.static yX11_sense) := ⟨kw_1019, ⟨kw_1018, rfl⟩, kw_71, by decide +kernel⟩
set_option maxRecDepth 100000 in
set_option maxHeartbeats 1000000 in
theorem tX11_sense_0 {p : Program} {l : Launch} {e : Env} {s : State} {m : MethodId} {args : Array Value} {below : List Frame} {meth : Method} {c : Code} {g : CG} {S0 : CS} (C : CC p s m args meth c yX11_sense cX11_sense 4 (some .int)) (K : cK g s) (G : cSep g)  (S : CS) (v0 : Option Nat) (v1 : Int64) {w : Int32 × CS} (hv : fX11_sense S v0 v1 = some w) : CJ p l e s m args below meth c 4 5 0 0 g S0 (some (.int w.1)) w.2 0 [(0, va_rf v0), (1, .long v1)] [] S 0 0 := by
  unfold fX11_sense at hv
  refine jr_naload_n C dX11_sense_0 rfl 0 rfl ?_
  refine jr_ifnonnull (tgt := 6) C dX11_sense_1 rfl (fun a1 q1 => ?_) (fun q1 => ?_)
  · have hv := (onul_s q1).symm.trans hv
    refine jr_naload_n C dX11_sense_6 rfl 0 rfl ?_
    obtain ⟨c7, hc7, hv⟩ := Option.bind_eq_some_iff.mp hv
    refine jc_inst C K hc7 y_Probe n_Probe kw_791 dX11_sense_7 ?_
    refine jr_if_eq (tgt := 21) C dX11_sense_10 rfl (fun q10 => ?_) (fun q10 => ?_)
    · have hv := (if_pos q10).symm.trans hv
      refine jr_iconst (v := 2) C dX11_sense_21 (by decide) ?_
      exact jc_iret C K dX11_sense_22 (Option.some.inj hv) ⟨Nat.le_refl _, Nat.le_refl _⟩
    · have hv := (if_neg q10).symm.trans hv
      refine jr_naload_n C dX11_sense_13 rfl 0 rfl ?_
      by_cases z14 : cCast S v0 [3] = true
      case neg => exact op_none ((if_neg z14).symm.trans hv)
      have hv := (if_pos z14).symm.trans hv
      refine jc_cast C K z14 y_Probe kw_791 dX11_sense_14 ?_
      refine jr_nastore_n (i := 3) (lv' := [(3, va_rf v0), (0, va_rf v0), (1, .long v1)]) C dX11_sense_17 rfl (by decide) rfl ?_
      refine jr_goto (tgt := 23) C dX11_sense_18 rfl ?_
      refine jr_naload_n C dX11_sense_23 rfl 0 rfl ?_
      refine jr_lload_n C dX11_sense_24 rfl 2 rfl ?_
      by_cases z25_3 : isKx S v0 [3] = true
      case pos =>
        have hv := (if_pos z25_3).symm.trans hv
        obtain ⟨c25, hc25, hv⟩ := Option.bind_eq_some_iff.mp hv
        refine jc_callT (ci := 3) (rest := []) C K (pX5_keep l G S v0 v1 hc25) z25_3 rfl oX5_keep kw_1022 kw_1020 rfl ⟨Nat.le_of_ble_eq_true rfl, Nat.le_of_ble_eq_true rfl⟩ rfl (Nat.le_of_ble_eq_true rfl) ⟨Nat.le_refl _, Nat.le_refl _⟩ dX11_sense_25 ?_
        refine jr_iconst (v := 0) C dX11_sense_28 (by decide) ?_
        exact jc_iret C K dX11_sense_29 (Option.some.inj hv) ⟨Nat.le_refl _, Nat.le_refl _⟩
      have hv := (if_neg z25_3).symm.trans hv
      exact op_none hv
  · have hv := (onul_n q1).symm.trans hv
    refine jr_iconst (v := 1) C dX11_sense_4 (by decide) ?_
    exact jc_iret C K dX11_sense_5 (Option.some.inj hv) ⟨Nat.le_refl _, Nat.le_refl _⟩
theorem pX11_sense (l : Launch) {g : CG} (G : cSep g)   (S : CS) (v0 : Option Nat) (v1 : Int64) {w : Int32 × CS} (hw : fX11_sense S v0 v1 = some w)  : cC l yX11_sense cX11_sense 4 (some .int) 5 0 0 g [va_rf v0, .long v1] S (some (.int w.1)) w.2 := cC_of (lv := [(0, va_rf v0), (1, .long v1)]) (by decide +kernel) (by simp [lg_sl, cat_rf, cat_i, cat_l, cat_r]) (by simp [lv_args, cat_rf, cat_i, cat_l, cat_r]) (fun C K => tX11_sense_0 C K G  S v0 v1 hw)
/-! RobotCell.order(IIII)I -/
def fX11_order_63 (S : CS) : Option (Int32 × CS) :=
  some (gI S.1 4, S)
def fX11_order_53 (S : CS) : Option (Int32 × CS) :=
  fX11_order_63 (cpI S 4 ((gI S.1 4) + 1))
def fX11_order_42 (S : CS) (v4 : Int32) : Option (Int32 × CS) :=
  if inb (gI S.1 4) (clA 3) = true then fX11_order_53 (cpA S 3 (ix (gI S.1 4)) v4) else none
def fX11_order_32 (S : CS) (v3 : Int32) (v4 : Int32) : Option (Int32 × CS) :=
  if inb (gI S.1 4) (clA 2) = true then fX11_order_42 (cpA S 2 (ix (gI S.1 4)) v3) v4 else none
def fX11_order_22 (S : CS) (v2 : Int32) (v3 : Int32) (v4 : Int32) : Option (Int32 × CS) :=
  if inb (gI S.1 4) (clA 1) = true then fX11_order_32 (cpA S 1 (ix (gI S.1 4)) v2) v3 v4 else none
def fX11_order (S : CS) (v1 : Int32) (v2 : Int32) (v3 : Int32) (v4 : Int32) : Option (Int32 × CS) :=
  if (gI S.1 4) < 400 then (if inb (gI S.1 4) (clA 0) = true then fX11_order_22 (cpA S 0 (ix (gI S.1 4)) v1) v2 v3 v4 else none) else some ((-1), S)
theorem oX11_order : ok_c yX11_order cX11_order 5 (some .int) 4 (.instanceMethod yX11_order) := ⟨kw_174, ⟨kw_172, rfl⟩, kw_71, by decide +kernel⟩
set_option maxRecDepth 100000 in
set_option maxHeartbeats 1000000 in
theorem tX11_order_63 {p : Program} {l : Launch} {e : Env} {s : State} {m : MethodId} {args : Array Value} {below : List Frame} {meth : Method} {c : Code} {g : CG} {S0 : CS} (C : CC p s m args meth c yX11_order cX11_order 5 (some .int)) (K : cK g s) (G : cSep g)  (S : CS) {w : Int32 × CS} (hv : fX11_order_63 S = some w) : CJ p l e s m args below meth c 5 0 0 0 g S0 (some (.int w.1)) w.2 63 [(0, .ref (co g))] [] S 0 0 := by
  unfold fX11_order_63 at hv
  refine jr_aload_n C dX11_order_63 rfl 0 rfl ?_
  refine jc_getI C K 4 (by decide) rfl kw_126 rfl dX11_order_64 ?_
  exact jc_iret C K dX11_order_67 (Option.some.inj hv) ⟨Nat.le_refl _, Nat.le_refl _⟩
set_option maxRecDepth 100000 in
set_option maxHeartbeats 1000000 in
theorem tX11_order_53 {p : Program} {l : Launch} {e : Env} {s : State} {m : MethodId} {args : Array Value} {below : List Frame} {meth : Method} {c : Code} {g : CG} {S0 : CS} (C : CC p s m args meth c yX11_order cX11_order 5 (some .int)) (K : cK g s) (G : cSep g)  (S : CS) {w : Int32 × CS} (hv : fX11_order_53 S = some w) : CJ p l e s m args below meth c 5 0 0 0 g S0 (some (.int w.1)) w.2 53 [(0, .ref (co g))] [] S 0 0 := by
  unfold fX11_order_53 at hv
  refine jr_aload_n C dX11_order_53 rfl 0 rfl ?_
  refine jr_dup C dX11_order_54 rfl ?_
  refine jc_getI C K 4 (by decide) rfl kw_126 rfl dX11_order_55 ?_
  refine jr_iconst (v := 1) C dX11_order_58 (by decide) ?_
  refine jr_iadd C dX11_order_59 ?_
  refine jc_putI C K G 4 (by decide) rfl kw_126 rfl rfl (by decide +kernel) dX11_order_60 ?_
  exact tX11_order_63 C K G  (cpI S 4 ((gI S.1 4) + 1)) hv
set_option maxRecDepth 100000 in
set_option maxHeartbeats 1000000 in
theorem tX11_order_42 {p : Program} {l : Launch} {e : Env} {s : State} {m : MethodId} {args : Array Value} {below : List Frame} {meth : Method} {c : Code} {g : CG} {S0 : CS} (C : CC p s m args meth c yX11_order cX11_order 5 (some .int)) (K : cK g s) (G : cSep g)  (S : CS) (v4 : Int32) {w : Int32 × CS} (hv : fX11_order_42 S v4 = some w) : CJ p l e s m args below meth c 5 0 0 0 g S0 (some (.int w.1)) w.2 42 [(0, .ref (co g)), (4, .int v4)] [] S 0 0 := by
  unfold fX11_order_42 at hv
  refine jr_aload_n C dX11_order_42 rfl 0 rfl ?_
  refine jc_getR C K 3 (by decide) (by decide) kw_125 rfl dX11_order_43 ?_
  refine jr_aload_n C dX11_order_46 rfl 0 rfl ?_
  refine jc_getI C K 4 (by decide) rfl kw_126 rfl dX11_order_47 ?_
  refine jr_iload C dX11_order_50 1 rfl ?_
  by_cases z52 : inb (gI S.1 4) (clA 3) = true
  case neg => exact op_none ((if_neg z52).symm.trans hv)
  have hv := (if_pos z52).symm.trans hv
  refine jc_iast C K G z52 dX11_order_52 ?_
  exact jr_sub [0] rfl (tX11_order_53 C K G  (cpA S 3 (ix (gI S.1 4)) v4) hv)
set_option maxRecDepth 100000 in
set_option maxHeartbeats 1000000 in
theorem tX11_order_32 {p : Program} {l : Launch} {e : Env} {s : State} {m : MethodId} {args : Array Value} {below : List Frame} {meth : Method} {c : Code} {g : CG} {S0 : CS} (C : CC p s m args meth c yX11_order cX11_order 5 (some .int)) (K : cK g s) (G : cSep g)  (S : CS) (v3 : Int32) (v4 : Int32) {w : Int32 × CS} (hv : fX11_order_32 S v3 v4 = some w) : CJ p l e s m args below meth c 5 0 0 0 g S0 (some (.int w.1)) w.2 32 [(0, .ref (co g)), (3, .int v3), (4, .int v4)] [] S 0 0 := by
  unfold fX11_order_32 at hv
  refine jr_aload_n C dX11_order_32 rfl 0 rfl ?_
  refine jc_getR C K 2 (by decide) (by decide) kw_124 rfl dX11_order_33 ?_
  refine jr_aload_n C dX11_order_36 rfl 0 rfl ?_
  refine jc_getI C K 4 (by decide) rfl kw_126 rfl dX11_order_37 ?_
  refine jr_iload_n C dX11_order_40 rfl 1 rfl ?_
  by_cases z41 : inb (gI S.1 4) (clA 2) = true
  case neg => exact op_none ((if_neg z41).symm.trans hv)
  have hv := (if_pos z41).symm.trans hv
  refine jc_iast C K G z41 dX11_order_41 ?_
  exact jr_sub [0, 2] rfl (tX11_order_42 C K G  (cpA S 2 (ix (gI S.1 4)) v3) v4 hv)
set_option maxRecDepth 100000 in
set_option maxHeartbeats 1000000 in
theorem tX11_order_22 {p : Program} {l : Launch} {e : Env} {s : State} {m : MethodId} {args : Array Value} {below : List Frame} {meth : Method} {c : Code} {g : CG} {S0 : CS} (C : CC p s m args meth c yX11_order cX11_order 5 (some .int)) (K : cK g s) (G : cSep g)  (S : CS) (v2 : Int32) (v3 : Int32) (v4 : Int32) {w : Int32 × CS} (hv : fX11_order_22 S v2 v3 v4 = some w) : CJ p l e s m args below meth c 5 0 0 0 g S0 (some (.int w.1)) w.2 22 [(0, .ref (co g)), (2, .int v2), (3, .int v3), (4, .int v4)] [] S 0 0 := by
  unfold fX11_order_22 at hv
  refine jr_aload_n C dX11_order_22 rfl 0 rfl ?_
  refine jc_getR C K 1 (by decide) (by decide) kw_123 rfl dX11_order_23 ?_
  refine jr_aload_n C dX11_order_26 rfl 0 rfl ?_
  refine jc_getI C K 4 (by decide) rfl kw_126 rfl dX11_order_27 ?_
  refine jr_iload_n C dX11_order_30 rfl 1 rfl ?_
  by_cases z31 : inb (gI S.1 4) (clA 1) = true
  case neg => exact op_none ((if_neg z31).symm.trans hv)
  have hv := (if_pos z31).symm.trans hv
  refine jc_iast C K G z31 dX11_order_31 ?_
  exact jr_sub [0, 2, 3] rfl (tX11_order_32 C K G  (cpA S 1 (ix (gI S.1 4)) v2) v3 v4 hv)
set_option maxRecDepth 100000 in
set_option maxHeartbeats 1000000 in
theorem tX11_order_0 {p : Program} {l : Launch} {e : Env} {s : State} {m : MethodId} {args : Array Value} {below : List Frame} {meth : Method} {c : Code} {g : CG} {S0 : CS} (C : CC p s m args meth c yX11_order cX11_order 5 (some .int)) (K : cK g s) (G : cSep g)  (S : CS) (v1 : Int32) (v2 : Int32) (v3 : Int32) (v4 : Int32) {w : Int32 × CS} (hv : fX11_order S v1 v2 v3 v4 = some w) : CJ p l e s m args below meth c 5 0 0 0 g S0 (some (.int w.1)) w.2 0 [(0, .ref (co g)), (1, .int v1), (2, .int v2), (3, .int v3), (4, .int v4)] [] S 0 0 := by
  unfold fX11_order at hv
  refine jr_aload_n C dX11_order_0 rfl 0 rfl ?_
  refine jc_getI C K 4 (by decide) rfl kw_126 rfl dX11_order_1 ?_
  refine jr_sipush (v := 400) C dX11_order_4 (by decide) ?_
  refine jr_icmp_lt (tgt := 12) C dX11_order_7 rfl (fun q7 => ?_) (fun q7 => ?_)
  · have hv := (if_pos q7).symm.trans hv
    refine jr_aload_n C dX11_order_12 rfl 0 rfl ?_
    refine jc_getR C K 0 (by decide) (by decide) kw_122 rfl dX11_order_13 ?_
    refine jr_aload_n C dX11_order_16 rfl 0 rfl ?_
    refine jc_getI C K 4 (by decide) rfl kw_126 rfl dX11_order_17 ?_
    refine jr_iload_n C dX11_order_20 rfl 1 rfl ?_
    by_cases z21 : inb (gI S.1 4) (clA 0) = true
    case neg => exact op_none ((if_neg z21).symm.trans hv)
    have hv := (if_pos z21).symm.trans hv
    refine jc_iast C K G z21 dX11_order_21 ?_
    exact jr_sub [0, 2, 3, 4] rfl (tX11_order_22 C K G  (cpA S 0 (ix (gI S.1 4)) v1) v2 v3 v4 hv)
  · have hv := (if_neg q7).symm.trans hv
    refine jr_iconst (v := (-1)) C dX11_order_10 (by decide) ?_
    exact jc_iret C K dX11_order_11 (Option.some.inj hv) ⟨Nat.le_refl _, Nat.le_refl _⟩
theorem pX11_order (l : Launch) {g : CG} (G : cSep g)   (S : CS) (v1 : Int32) (v2 : Int32) (v3 : Int32) (v4 : Int32) {w : Int32 × CS} (hw : fX11_order S v1 v2 v3 v4 = some w)  : cC l yX11_order cX11_order 5 (some .int) 0 0 0 g [.ref (co g), .int v1, .int v2, .int v3, .int v4] S (some (.int w.1)) w.2 := cC_of (lv := [(0, .ref (co g)), (1, .int v1), (2, .int v2), (3, .int v3), (4, .int v4)]) (by decide +kernel) (Nat.le_of_ble_eq_true rfl) rfl (fun C K => tX11_order_0 C K G  S v1 v2 v3 v4 hw)
/-! RobotCell.clear()V -/
def fX11_clear_5 (S : CS) : Option (CS) :=
  some S
def fX11_clear (S : CS) : Option (CS) :=
  fX11_clear_5 (cpI S 4 0)
theorem oX11_clear : ok_c yX11_clear cX11_clear 1 none 0 (.instanceMethod yX11_clear) := ⟨kw_178, ⟨kw_176, rfl⟩, kw_71, by decide +kernel⟩
set_option maxRecDepth 100000 in
set_option maxHeartbeats 1000000 in
theorem tX11_clear_5 {p : Program} {l : Launch} {e : Env} {s : State} {m : MethodId} {args : Array Value} {below : List Frame} {meth : Method} {c : Code} {g : CG} {S0 : CS} (C : CC p s m args meth c yX11_clear cX11_clear 1 none) (K : cK g s) (G : cSep g)  (S : CS) {w : CS} (hv : fX11_clear_5 S = some w) : CJ p l e s m args below meth c 1 0 0 0 g S0 none w 5 [] [] S 0 0 := by
  unfold fX11_clear_5 at hv
  exact jc_vret C K dX11_clear_5 (Option.some.inj hv) ⟨Nat.le_refl _, Nat.le_refl _⟩
set_option maxRecDepth 100000 in
set_option maxHeartbeats 1000000 in
theorem tX11_clear_0 {p : Program} {l : Launch} {e : Env} {s : State} {m : MethodId} {args : Array Value} {below : List Frame} {meth : Method} {c : Code} {g : CG} {S0 : CS} (C : CC p s m args meth c yX11_clear cX11_clear 1 none) (K : cK g s) (G : cSep g)  (S : CS) {w : CS} (hv : fX11_clear S = some w) : CJ p l e s m args below meth c 1 0 0 0 g S0 none w 0 [(0, .ref (co g))] [] S 0 0 := by
  unfold fX11_clear at hv
  refine jr_aload_n C dX11_clear_0 rfl 0 rfl ?_
  refine jr_iconst (v := 0) C dX11_clear_1 (by decide) ?_
  refine jc_putI C K G 4 (by decide) rfl kw_126 rfl rfl (by decide +kernel) dX11_clear_2 ?_
  exact jr_sub [] rfl (tX11_clear_5 C K G  (cpI S 4 0) hv)
theorem pX11_clear (l : Launch) {g : CG} (G : cSep g)   (S : CS)  {w : CS} (hw : fX11_clear S = some w)  : cC l yX11_clear cX11_clear 1 none 0 0 0 g [.ref (co g)] S none w := cC_of (lv := [(0, .ref (co g))]) (by decide +kernel) (Nat.le_of_ble_eq_true rfl) rfl (fun C K => tX11_clear_0 C K G  S hw)
/-! RobotCell.number(III)V -/
def fX11_number (S : CS) (v1 : Int32) (v2 : Int32) (v3 : Int32) : Option (CS) :=
  Option.bind (fX7_setNumber S v1 (fX11_wide v2 v3)) (fun c10 => some c10)
theorem oX11_number : ok_c yX11_number cX11_number 4 none 3 (.instanceMethod yX11_number) := ⟨kw_182, ⟨kw_180, rfl⟩, kw_71, by decide +kernel⟩
set_option maxRecDepth 100000 in
set_option maxHeartbeats 1000000 in
theorem tX11_number_0 {p : Program} {l : Launch} {e : Env} {s : State} {m : MethodId} {args : Array Value} {below : List Frame} {meth : Method} {c : Code} {g : CG} {S0 : CS} (C : CC p s m args meth c yX11_number cX11_number 4 none) (K : cK g s) (G : cSep g)  (S : CS) (v1 : Int32) (v2 : Int32) (v3 : Int32) {w : CS} (hv : fX11_number S v1 v2 v3 = some w) : CJ p l e s m args below meth c 4 1 0 0 g S0 none w 0 [(0, .ref (co g)), (1, .int v1), (2, .int v2), (3, .int v3)] [] S 0 0 := by
  unfold fX11_number at hv
  refine jr_aload_n C dX11_number_0 rfl 0 rfl ?_
  refine jc_getR C K 5 (by decide) (by decide) kw_127 rfl dX11_number_1 ?_
  refine jr_iload_n C dX11_number_4 rfl 1 rfl ?_
  refine jr_iload_n C dX11_number_5 rfl 2 rfl ?_
  refine jr_iload_n C dX11_number_6 rfl 3 rfl ?_
  refine jr_pcall (rest := [.int v1, .ref (cad g 5)]) C (pX11_wide l v2 v3) oX11_wide kw_183 rfl ⟨Nat.le_of_ble_eq_true rfl, Nat.le_of_ble_eq_true rfl⟩ rfl (Nat.le_of_ble_eq_true rfl) ⟨Nat.zero_le _, Nat.zero_le _⟩ dX11_number_7 ?_
  obtain ⟨c10, hc10, hv⟩ := Option.bind_eq_some_iff.mp hv
  refine jc_callR (rest := []) C K (pX7_setNumber l G S v1 (fX11_wide v2 v3) hc10) oX7_setNumber kw_189 kw_187 rfl ⟨Nat.le_of_ble_eq_true rfl, Nat.le_of_ble_eq_true rfl⟩ rfl (Nat.le_of_ble_eq_true rfl) ⟨Nat.le_refl _, Nat.le_refl _⟩ dX11_number_10 ?_
  exact jc_vret C K dX11_number_13 (Option.some.inj hv) ⟨Nat.le_refl _, Nat.le_refl _⟩
theorem pX11_number (l : Launch) {g : CG} (G : cSep g)   (S : CS) (v1 : Int32) (v2 : Int32) (v3 : Int32) {w : CS} (hw : fX11_number S v1 v2 v3 = some w)  : cC l yX11_number cX11_number 4 none 1 0 0 g [.ref (co g), .int v1, .int v2, .int v3] S none w := cC_of (lv := [(0, .ref (co g)), (1, .int v1), (2, .int v2), (3, .int v3)]) (by decide +kernel) (Nat.le_of_ble_eq_true rfl) rfl (fun C K => tX11_number_0 C K G  S v1 v2 v3 hw)
/-! RobotCell.fault(I)I -/
def fX11_fault (S : CS) (v1 : Int32) : Option (Int32 × CS) :=
  if (gI S.1 15) = (-1) then some ((-1), S) else (if v1 = 0 then (if (fX11_isFault (gI S.1 15)) = 0 then some ((-1), S) else some (gI S.1 12, S)) else (if v1 = 1 then some (gI S.1 11, S) else some ((-1), S)))
theorem oX11_fault : ok_c yX11_fault cX11_fault 2 (some .int) 1 (.instanceMethod yX11_fault) := ⟨kw_1029, ⟨kw_1027, rfl⟩, kw_71, by decide +kernel⟩
set_option maxRecDepth 100000 in
set_option maxHeartbeats 1000000 in
theorem tX11_fault_0 {p : Program} {l : Launch} {e : Env} {s : State} {m : MethodId} {args : Array Value} {below : List Frame} {meth : Method} {c : Code} {g : CG} {S0 : CS} (C : CC p s m args meth c yX11_fault cX11_fault 2 (some .int)) (K : cK g s) (G : cSep g)  (S : CS) (v1 : Int32) {w : Int32 × CS} (hv : fX11_fault S v1 = some w) : CJ p l e s m args below meth c 2 1 0 0 g S0 (some (.int w.1)) w.2 0 [(0, .ref (co g)), (1, .int v1)] [] S 0 0 := by
  unfold fX11_fault at hv
  refine jr_aload_n C dX11_fault_0 rfl 0 rfl ?_
  refine jc_getI C K 15 (by decide) rfl kw_137 rfl dX11_fault_1 ?_
  refine jr_iconst (v := (-1)) C dX11_fault_4 (by decide) ?_
  refine jr_icmp_ne (tgt := 10) C dX11_fault_5 rfl (fun q5 => ?_) (fun q5 => ?_)
  · have hv := (if_neg q5).symm.trans hv
    refine jr_iload_n C dX11_fault_10 rfl 1 rfl ?_
    refine jr_if_ne (tgt := 33) C dX11_fault_11 rfl (fun q11 => ?_) (fun q11 => ?_)
    · have hv := (if_neg q11).symm.trans hv
      refine jr_iload_n C dX11_fault_33 rfl 1 rfl ?_
      refine jr_iconst (v := 1) C dX11_fault_34 (by decide) ?_
      refine jr_icmp_ne (tgt := 45) C dX11_fault_35 rfl (fun q35 => ?_) (fun q35 => ?_)
      · have hv := (if_neg q35).symm.trans hv
        refine jr_iconst (v := (-1)) C dX11_fault_45 (by decide) ?_
        exact jc_iret C K dX11_fault_46 (Option.some.inj hv) ⟨Nat.le_refl _, Nat.le_refl _⟩
      · have hv := (if_pos q35).symm.trans hv
        refine jr_aload_n C dX11_fault_38 rfl 0 rfl ?_
        refine jc_getI C K 11 (by decide) rfl kw_133 rfl dX11_fault_39 ?_
        refine jr_goto (tgt := 46) C dX11_fault_42 rfl ?_
        exact jc_iret C K dX11_fault_46 (Option.some.inj hv) ⟨Nat.le_refl _, Nat.le_refl _⟩
    · have hv := (if_pos q11).symm.trans hv
      refine jr_aload_n C dX11_fault_14 rfl 0 rfl ?_
      refine jc_getI C K 15 (by decide) rfl kw_137 rfl dX11_fault_15 ?_
      refine jr_pcall (rest := []) C (pX11_isFault l (gI S.1 15)) oX11_isFault kw_227 rfl ⟨Nat.le_of_ble_eq_true rfl, Nat.le_of_ble_eq_true rfl⟩ rfl (Nat.le_of_ble_eq_true rfl) ⟨Nat.zero_le _, Nat.zero_le _⟩ dX11_fault_18 ?_
      refine jr_if_eq (tgt := 31) C dX11_fault_21 rfl (fun q21 => ?_) (fun q21 => ?_)
      · have hv := (if_pos q21).symm.trans hv
        refine jr_iconst (v := (-1)) C dX11_fault_31 (by decide) ?_
        exact jc_iret C K dX11_fault_32 (Option.some.inj hv) ⟨Nat.le_refl _, Nat.le_refl _⟩
      · have hv := (if_neg q21).symm.trans hv
        refine jr_aload_n C dX11_fault_24 rfl 0 rfl ?_
        refine jc_getI C K 12 (by decide) rfl kw_134 rfl dX11_fault_25 ?_
        refine jr_goto (tgt := 32) C dX11_fault_28 rfl ?_
        exact jc_iret C K dX11_fault_32 (Option.some.inj hv) ⟨Nat.le_refl _, Nat.le_refl _⟩
  · have hv := (if_pos q5).symm.trans hv
    refine jr_iconst (v := (-1)) C dX11_fault_8 (by decide) ?_
    exact jc_iret C K dX11_fault_9 (Option.some.inj hv) ⟨Nat.le_refl _, Nat.le_refl _⟩
theorem pX11_fault (l : Launch) {g : CG} (G : cSep g)   (S : CS) (v1 : Int32) {w : Int32 × CS} (hw : fX11_fault S v1 = some w)  : cC l yX11_fault cX11_fault 2 (some .int) 1 0 0 g [.ref (co g), .int v1] S (some (.int w.1)) w.2 := cC_of (lv := [(0, .ref (co g)), (1, .int v1)]) (by decide +kernel) (Nat.le_of_ble_eq_true rfl) rfl (fun C K => tX11_fault_0 C K G  S v1 hw)
/-! RobotCell.told(I)J -/
def fX11_told (S : CS) (v1 : Int32) : Option (Int64 × CS) :=
  Option.bind (fX7_numberAt S v1) (fun c5 => some (c5.1, c5.2))
theorem oX11_told : ok_c yX11_told cX11_told 2 (some .long) 1 (.instanceMethod yX11_told) := ⟨kw_1033, ⟨kw_1031, rfl⟩, kw_71, by decide +kernel⟩
set_option maxRecDepth 100000 in
set_option maxHeartbeats 1000000 in
theorem tX11_told_0 {p : Program} {l : Launch} {e : Env} {s : State} {m : MethodId} {args : Array Value} {below : List Frame} {meth : Method} {c : Code} {g : CG} {S0 : CS} (C : CC p s m args meth c yX11_told cX11_told 2 (some .long)) (K : cK g s) (G : cSep g)  (S : CS) (v1 : Int32) {w : Int64 × CS} (hv : fX11_told S v1 = some w) : CJ p l e s m args below meth c 2 1 0 0 g S0 (some (.long w.1)) w.2 0 [(0, .ref (co g)), (1, .int v1)] [] S 0 0 := by
  unfold fX11_told at hv
  refine jr_aload_n C dX11_told_0 rfl 0 rfl ?_
  refine jc_getR C K 5 (by decide) (by decide) kw_127 rfl dX11_told_1 ?_
  refine jr_iload_n C dX11_told_4 rfl 1 rfl ?_
  obtain ⟨c5, hc5, hv⟩ := Option.bind_eq_some_iff.mp hv
  refine jc_callR (rest := []) C K (pX7_numberAt l G S v1 hc5) oX7_numberAt kw_209 kw_207 rfl ⟨Nat.le_of_ble_eq_true rfl, Nat.le_of_ble_eq_true rfl⟩ rfl (Nat.le_of_ble_eq_true rfl) ⟨Nat.le_refl _, Nat.le_refl _⟩ dX11_told_5 ?_
  exact jc_lret C K dX11_told_8 (Option.some.inj hv) ⟨Nat.le_refl _, Nat.le_refl _⟩
theorem pX11_told (l : Launch) {g : CG} (G : cSep g)   (S : CS) (v1 : Int32) {w : Int64 × CS} (hw : fX11_told S v1 = some w)  : cC l yX11_told cX11_told 2 (some .long) 1 0 0 g [.ref (co g), .int v1] S (some (.long w.1)) w.2 := cC_of (lv := [(0, .ref (co g)), (1, .int v1)]) (by decide +kernel) (Nat.le_of_ble_eq_true rfl) rfl (fun C K => tX11_told_0 C K G  S v1 hw)
/-! RobotCell.bits(I)J -/
def fX11_bits (S : CS) (v1 : Int32) : Option (Int64 × CS) :=
  Option.bind (fX7_measureAt S v1) (fun c5 => some (c5.1, c5.2))
theorem oX11_bits : ok_c yX11_bits cX11_bits 2 (some .long) 1 (.instanceMethod yX11_bits) := ⟨kw_1037, ⟨kw_1035, rfl⟩, kw_71, by decide +kernel⟩
set_option maxRecDepth 100000 in
set_option maxHeartbeats 1000000 in
theorem tX11_bits_0 {p : Program} {l : Launch} {e : Env} {s : State} {m : MethodId} {args : Array Value} {below : List Frame} {meth : Method} {c : Code} {g : CG} {S0 : CS} (C : CC p s m args meth c yX11_bits cX11_bits 2 (some .long)) (K : cK g s) (G : cSep g)  (S : CS) (v1 : Int32) {w : Int64 × CS} (hv : fX11_bits S v1 = some w) : CJ p l e s m args below meth c 2 1 0 0 g S0 (some (.long w.1)) w.2 0 [(0, .ref (co g)), (1, .int v1)] [] S 0 0 := by
  unfold fX11_bits at hv
  refine jr_aload_n C dX11_bits_0 rfl 0 rfl ?_
  refine jc_getR C K 5 (by decide) (by decide) kw_127 rfl dX11_bits_1 ?_
  refine jr_iload_n C dX11_bits_4 rfl 1 rfl ?_
  obtain ⟨c5, hc5, hv⟩ := Option.bind_eq_some_iff.mp hv
  refine jc_callR (rest := []) C K (pX7_measureAt l G S v1 hc5) oX7_measureAt kw_262 kw_260 rfl ⟨Nat.le_of_ble_eq_true rfl, Nat.le_of_ble_eq_true rfl⟩ rfl (Nat.le_of_ble_eq_true rfl) ⟨Nat.le_refl _, Nat.le_refl _⟩ dX11_bits_5 ?_
  exact jc_lret C K dX11_bits_8 (Option.some.inj hv) ⟨Nat.le_refl _, Nat.le_refl _⟩
theorem pX11_bits (l : Launch) {g : CG} (G : cSep g)   (S : CS) (v1 : Int32) {w : Int64 × CS} (hw : fX11_bits S v1 = some w)  : cC l yX11_bits cX11_bits 2 (some .long) 1 0 0 g [.ref (co g), .int v1] S (some (.long w.1)) w.2 := cC_of (lv := [(0, .ref (co g)), (1, .int v1)]) (by decide +kernel) (Nat.le_of_ble_eq_true rfl) rfl (fun C K => tX11_bits_0 C K G  S v1 hw)
/-! RobotCell.slot(II)I -/
theorem u_Thing_kind_kind_0 : ok_u ⟨RX9, "kind", "()I"⟩ yX0_kind RX9 RX0 cX0_kind 1 (some .int) 0 := ⟨kw_610, kw_609, kw_84, kw_607, nw_in kw_608, Or.inl kw_606, by decide +kernel⟩
theorem u_Thing_kind_kind_1 : ok_u ⟨RX9, "kind", "()I"⟩ yX3_kind RX9 RX3 cX3_kind 1 (some .int) 0 := ⟨kw_613, kw_612, kw_82, kw_607, nw_in kw_611, Or.inl kw_606, by decide +kernel⟩
theorem u_Thing_kind_kind_2 : ok_u ⟨RX9, "kind", "()I"⟩ yX4_kind RX9 RX4 cX4_kind 1 (some .int) 0 := ⟨kw_616, kw_615, kw_81, kw_607, nw_in kw_614, Or.inl kw_606, by decide +kernel⟩
theorem u_Thing_kind_kind_3 : ok_u ⟨RX9, "kind", "()I"⟩ yX5_kind RX9 RX5 cX5_kind 1 (some .int) 0 := ⟨kw_619, kw_618, kw_87, kw_607, nw_in kw_617, Or.inl kw_606, by decide +kernel⟩
theorem u_Thing_kind_kind_4 : ok_u ⟨RX9, "kind", "()I"⟩ yX6_kind RX9 RX6 cX6_kind 1 (some .int) 0 := ⟨kw_622, kw_621, kw_85, kw_607, nw_in kw_620, Or.inl kw_606, by decide +kernel⟩
theorem u_Thing_kind_kind_5 : ok_u ⟨RX9, "kind", "()I"⟩ yX8_kind RX9 RX8 cX8_kind 1 (some .int) 0 := ⟨kw_603, kw_601, kw_79, kw_607, nw_in kw_623, Or.inl kw_606, by decide +kernel⟩
theorem u_Thing_kind_kind_6 : ok_u ⟨RX9, "kind", "()I"⟩ yX10_kind RX9 RX10 cX10_kind 1 (some .int) 0 := ⟨kw_626, kw_625, kw_86, kw_607, nw_in kw_624, Or.inl kw_606, by decide +kernel⟩
def fX11_slot_48 (S : CS) (t0 : Int32) : Option (Int32 × CS) :=
  some (t0, S)
def fX11_slot_9 (S : CS) (v2 : Int32) (v3 : Option Nat) : Option (Int32 × CS) :=
  onul v3 (some ((-1), S)) (fun _ => if v2 = 0 then (if isKx S v3 [0] = true then (Option.bind (fX0_kind S v3) (fun c45 => fX11_slot_48 c45.2 c45.1)) else if isKx S v3 [1] = true then (Option.bind (fX3_kind S v3) (fun c45 => fX11_slot_48 c45.2 c45.1)) else if isKx S v3 [2] = true then (Option.bind (fX4_kind S v3) (fun c45 => fX11_slot_48 c45.2 c45.1)) else if isKx S v3 [3] = true then (Option.bind (fX5_kind S v3) (fun c45 => fX11_slot_48 c45.2 c45.1)) else if isKx S v3 [4] = true then (Option.bind (fX6_kind S v3) (fun c45 => fX11_slot_48 c45.2 c45.1)) else if isKx S v3 [5] = true then (Option.bind (fX8_kind S v3) (fun c45 => fX11_slot_48 c45.2 c45.1)) else if isKx S v3 [6] = true then (Option.bind (fX10_kind S v3) (fun c45 => fX11_slot_48 c45.2 c45.1)) else none) else if v2 = 1 then (Option.bind (cInst S v3 [5] [0, 1, 2, 3, 4, 6]) (fun c50 => if c50 = 0 then some ((-1), S) else (if cCast S v3 [5] = true then (if isKx S v3 [5] = true then (Option.bind (fX8_length S v3) (fun c64 => some (c64.1, c64.2))) else none) else none))) else if v2 = 2 then (Option.bind (fX7_firstWith S v3) (fun c77 => some (c77.1, c77.2))) else some ((-1), S))
def fX11_slot (S : CS) (v1 : Int32) (v2 : Int32) : Option (Int32 × CS) :=
  Option.bind (fX7_thingAt S v1) (fun c5 => fX11_slot_9 c5.2 v2 c5.1)
theorem oX11_slot : ok_c yX11_slot cX11_slot 5 (some .int) 2 (.instanceMethod yX11_slot) := ⟨kw_1041, ⟨kw_1039, rfl⟩, kw_71, by decide +kernel⟩
set_option maxRecDepth 100000 in
set_option maxHeartbeats 1000000 in
theorem tX11_slot_48 {p : Program} {l : Launch} {e : Env} {s : State} {m : MethodId} {args : Array Value} {below : List Frame} {meth : Method} {c : Code} {g : CG} {S0 : CS} (C : CC p s m args meth c yX11_slot cX11_slot 5 (some .int)) (K : cK g s) (G : cSep g)  (S : CS) (t0 : Int32) {w : Int32 × CS} (hv : fX11_slot_48 S t0 = some w) : CJ p l e s m args below meth c 5 1 0 0 g S0 (some (.int w.1)) w.2 48 [] [.int t0] S 0 0 := by
  unfold fX11_slot_48 at hv
  exact jc_iret C K dX11_slot_48 (Option.some.inj hv) ⟨Nat.le_refl _, Nat.le_refl _⟩
set_option maxRecDepth 100000 in
set_option maxHeartbeats 1000000 in
theorem tX11_slot_9 {p : Program} {l : Launch} {e : Env} {s : State} {m : MethodId} {args : Array Value} {below : List Frame} {meth : Method} {c : Code} {g : CG} {S0 : CS} (C : CC p s m args meth c yX11_slot cX11_slot 5 (some .int)) (K : cK g s) (G : cSep g)  (S : CS) (v2 : Int32) (v3 : Option Nat) {w : Int32 × CS} (hv : fX11_slot_9 S v2 v3 = some w) : CJ p l e s m args below meth c 5 1 0 0 g S0 (some (.int w.1)) w.2 9 [(0, .ref (co g)), (2, .int v2), (3, va_rf v3)] [] S 0 0 := by
  unfold fX11_slot_9 at hv
  refine jr_naload_n C dX11_slot_9 rfl 2 rfl ?_
  refine jr_ifnonnull (tgt := 15) C dX11_slot_10 rfl (fun a10 q10 => ?_) (fun q10 => ?_)
  · have hv := (onul_s q10).symm.trans hv
    refine jr_iload_n C dX11_slot_15 rfl 1 rfl ?_
    by_cases q16_0 : v2 = 0
    · have hv := (if_pos q16_0).symm.trans hv
      refine jr_tableIn (off := 28) (tgt := 44) C dX11_slot_16 (by rw [q16_0]; decide) (by rw [q16_0]; decide) (by rw [q16_0]; rfl) rfl ?_
      refine jr_naload_n C dX11_slot_44 rfl 2 rfl ?_
      by_cases z45_0 : isKx S v3 [0] = true
      case pos =>
        have hv := (if_pos z45_0).symm.trans hv
        obtain ⟨c45, hc45, hv⟩ := Option.bind_eq_some_iff.mp hv
        refine jc_callU (ci := 0) (rest := []) C K (pX0_kind l G S v3  hc45) z45_0 rfl u_Thing_kind_kind_0 kw_605 rfl ⟨Nat.le_of_ble_eq_true rfl, Nat.le_of_ble_eq_true rfl⟩ rfl (Nat.le_of_ble_eq_true rfl) ⟨Nat.le_refl _, Nat.le_refl _⟩ dX11_slot_45 ?_
        exact jr_sub [] rfl (tX11_slot_48 C K G  c45.2 c45.1 hv)
      have hv := (if_neg z45_0).symm.trans hv
      by_cases z45_1 : isKx S v3 [1] = true
      case pos =>
        have hv := (if_pos z45_1).symm.trans hv
        obtain ⟨c45, hc45, hv⟩ := Option.bind_eq_some_iff.mp hv
        refine jc_callU (ci := 1) (rest := []) C K (pX3_kind l G S v3  hc45) z45_1 rfl u_Thing_kind_kind_1 kw_605 rfl ⟨Nat.le_of_ble_eq_true rfl, Nat.le_of_ble_eq_true rfl⟩ rfl (Nat.le_of_ble_eq_true rfl) ⟨Nat.le_refl _, Nat.le_refl _⟩ dX11_slot_45 ?_
        exact jr_sub [] rfl (tX11_slot_48 C K G  c45.2 c45.1 hv)
      have hv := (if_neg z45_1).symm.trans hv
      by_cases z45_2 : isKx S v3 [2] = true
      case pos =>
        have hv := (if_pos z45_2).symm.trans hv
        obtain ⟨c45, hc45, hv⟩ := Option.bind_eq_some_iff.mp hv
        refine jc_callU (ci := 2) (rest := []) C K (pX4_kind l G S v3  hc45) z45_2 rfl u_Thing_kind_kind_2 kw_605 rfl ⟨Nat.le_of_ble_eq_true rfl, Nat.le_of_ble_eq_true rfl⟩ rfl (Nat.le_of_ble_eq_true rfl) ⟨Nat.le_refl _, Nat.le_refl _⟩ dX11_slot_45 ?_
        exact jr_sub [] rfl (tX11_slot_48 C K G  c45.2 c45.1 hv)
      have hv := (if_neg z45_2).symm.trans hv
      by_cases z45_3 : isKx S v3 [3] = true
      case pos =>
        have hv := (if_pos z45_3).symm.trans hv
        obtain ⟨c45, hc45, hv⟩ := Option.bind_eq_some_iff.mp hv
        refine jc_callU (ci := 3) (rest := []) C K (pX5_kind l G S v3  hc45) z45_3 rfl u_Thing_kind_kind_3 kw_605 rfl ⟨Nat.le_of_ble_eq_true rfl, Nat.le_of_ble_eq_true rfl⟩ rfl (Nat.le_of_ble_eq_true rfl) ⟨Nat.le_refl _, Nat.le_refl _⟩ dX11_slot_45 ?_
        exact jr_sub [] rfl (tX11_slot_48 C K G  c45.2 c45.1 hv)
      have hv := (if_neg z45_3).symm.trans hv
      by_cases z45_4 : isKx S v3 [4] = true
      case pos =>
        have hv := (if_pos z45_4).symm.trans hv
        obtain ⟨c45, hc45, hv⟩ := Option.bind_eq_some_iff.mp hv
        refine jc_callU (ci := 4) (rest := []) C K (pX6_kind l G S v3  hc45) z45_4 rfl u_Thing_kind_kind_4 kw_605 rfl ⟨Nat.le_of_ble_eq_true rfl, Nat.le_of_ble_eq_true rfl⟩ rfl (Nat.le_of_ble_eq_true rfl) ⟨Nat.le_refl _, Nat.le_refl _⟩ dX11_slot_45 ?_
        exact jr_sub [] rfl (tX11_slot_48 C K G  c45.2 c45.1 hv)
      have hv := (if_neg z45_4).symm.trans hv
      by_cases z45_5 : isKx S v3 [5] = true
      case pos =>
        have hv := (if_pos z45_5).symm.trans hv
        obtain ⟨c45, hc45, hv⟩ := Option.bind_eq_some_iff.mp hv
        refine jc_callU (ci := 5) (rest := []) C K (pX8_kind l G S v3  hc45) z45_5 rfl u_Thing_kind_kind_5 kw_605 rfl ⟨Nat.le_of_ble_eq_true rfl, Nat.le_of_ble_eq_true rfl⟩ rfl (Nat.le_of_ble_eq_true rfl) ⟨Nat.le_refl _, Nat.le_refl _⟩ dX11_slot_45 ?_
        exact jr_sub [] rfl (tX11_slot_48 C K G  c45.2 c45.1 hv)
      have hv := (if_neg z45_5).symm.trans hv
      by_cases z45_6 : isKx S v3 [6] = true
      case pos =>
        have hv := (if_pos z45_6).symm.trans hv
        obtain ⟨c45, hc45, hv⟩ := Option.bind_eq_some_iff.mp hv
        refine jc_callU (ci := 6) (rest := []) C K (pX10_kind l G S v3  hc45) z45_6 rfl u_Thing_kind_kind_6 kw_605 rfl ⟨Nat.le_of_ble_eq_true rfl, Nat.le_of_ble_eq_true rfl⟩ rfl (Nat.le_of_ble_eq_true rfl) ⟨Nat.le_refl _, Nat.le_refl _⟩ dX11_slot_45 ?_
        exact jr_sub [] rfl (tX11_slot_48 C K G  c45.2 c45.1 hv)
      have hv := (if_neg z45_6).symm.trans hv
      exact op_none hv
    have hv := (if_neg q16_0).symm.trans hv
    by_cases q16_1 : v2 = 1
    · have hv := (if_pos q16_1).symm.trans hv
      refine jr_tableIn (off := 33) (tgt := 49) C dX11_slot_16 (by rw [q16_1]; decide) (by rw [q16_1]; decide) (by rw [q16_1]; rfl) rfl ?_
      refine jr_naload_n C dX11_slot_49 rfl 2 rfl ?_
      obtain ⟨c50, hc50, hv⟩ := Option.bind_eq_some_iff.mp hv
      refine jc_inst C K hc50 y_Row n_Row kw_508 dX11_slot_50 ?_
      refine jr_if_eq (tgt := 70) C dX11_slot_53 rfl (fun q53 => ?_) (fun q53 => ?_)
      · have hv := (if_pos q53).symm.trans hv
        refine jr_iconst (v := (-1)) C dX11_slot_70 (by decide) ?_
        exact jc_iret C K dX11_slot_71 (Option.some.inj hv) ⟨Nat.le_refl _, Nat.le_refl _⟩
      · have hv := (if_neg q53).symm.trans hv
        refine jr_naload_n C dX11_slot_56 rfl 2 rfl ?_
        by_cases z57 : cCast S v3 [5] = true
        case neg => exact op_none ((if_neg z57).symm.trans hv)
        have hv := (if_pos z57).symm.trans hv
        refine jc_cast C K z57 y_Row kw_508 dX11_slot_57 ?_
        refine jr_nastore (i := 4) (lv' := [(4, va_rf v3), (0, .ref (co g)), (2, .int v2), (3, va_rf v3)]) C dX11_slot_60 (by decide) (by simp [cat_rf, cat_i, cat_l, cat_r]) ?_
        refine jr_naload C dX11_slot_62 0 rfl ?_
        by_cases z64_5 : isKx S v3 [5] = true
        case pos =>
          have hv := (if_pos z64_5).symm.trans hv
          obtain ⟨c64, hc64, hv⟩ := Option.bind_eq_some_iff.mp hv
          refine jc_callT (ci := 5) (rest := []) C K (pX8_length l G S v3  hc64) z64_5 rfl oX8_length kw_564 kw_562 rfl ⟨Nat.le_of_ble_eq_true rfl, Nat.le_of_ble_eq_true rfl⟩ rfl (Nat.le_of_ble_eq_true rfl) ⟨Nat.le_refl _, Nat.le_refl _⟩ dX11_slot_64 ?_
          refine jr_goto (tgt := 71) C dX11_slot_67 rfl ?_
          exact jc_iret C K dX11_slot_71 (Option.some.inj hv) ⟨Nat.le_refl _, Nat.le_refl _⟩
        have hv := (if_neg z64_5).symm.trans hv
        exact op_none hv
    have hv := (if_neg q16_1).symm.trans hv
    by_cases q16_2 : v2 = 2
    · have hv := (if_pos q16_2).symm.trans hv
      refine jr_tableIn (off := 56) (tgt := 72) C dX11_slot_16 (by rw [q16_2]; decide) (by rw [q16_2]; decide) (by rw [q16_2]; rfl) rfl ?_
      refine jr_aload_n C dX11_slot_72 rfl 0 rfl ?_
      refine jc_getR C K 5 (by decide) (by decide) kw_127 rfl dX11_slot_73 ?_
      refine jr_naload_n C dX11_slot_76 rfl 2 rfl ?_
      obtain ⟨c77, hc77, hv⟩ := Option.bind_eq_some_iff.mp hv
      refine jc_callR (rest := []) C K (pX7_firstWith l G S v3 hc77) oX7_firstWith kw_1044 kw_1042 rfl ⟨Nat.le_of_ble_eq_true rfl, Nat.le_of_ble_eq_true rfl⟩ rfl (Nat.le_of_ble_eq_true rfl) ⟨Nat.le_refl _, Nat.le_refl _⟩ dX11_slot_77 ?_
      exact jc_iret C K dX11_slot_80 (Option.some.inj hv) ⟨Nat.le_refl _, Nat.le_refl _⟩
    have hv := (if_neg q16_2).symm.trans hv
    refine jr_tableOut (tgt := 81) C dX11_slot_16 (by have := sw_ne (a := 0) q16_0 (by decide); have := sw_ne (a := 1) q16_1 (by decide); have := sw_ne (a := 2) q16_2 (by decide); omega) rfl ?_
    refine jr_iconst (v := (-1)) C dX11_slot_81 (by decide) ?_
    exact jc_iret C K dX11_slot_82 (Option.some.inj hv) ⟨Nat.le_refl _, Nat.le_refl _⟩
  · have hv := (onul_n q10).symm.trans hv
    refine jr_iconst (v := (-1)) C dX11_slot_13 (by decide) ?_
    exact jc_iret C K dX11_slot_14 (Option.some.inj hv) ⟨Nat.le_refl _, Nat.le_refl _⟩
set_option maxRecDepth 100000 in
set_option maxHeartbeats 1000000 in
theorem tX11_slot_0 {p : Program} {l : Launch} {e : Env} {s : State} {m : MethodId} {args : Array Value} {below : List Frame} {meth : Method} {c : Code} {g : CG} {S0 : CS} (C : CC p s m args meth c yX11_slot cX11_slot 5 (some .int)) (K : cK g s) (G : cSep g)  (S : CS) (v1 : Int32) (v2 : Int32) {w : Int32 × CS} (hv : fX11_slot S v1 v2 = some w) : CJ p l e s m args below meth c 5 1 0 0 g S0 (some (.int w.1)) w.2 0 [(0, .ref (co g)), (1, .int v1), (2, .int v2)] [] S 0 0 := by
  unfold fX11_slot at hv
  refine jr_aload_n C dX11_slot_0 rfl 0 rfl ?_
  refine jc_getR C K 5 (by decide) (by decide) kw_127 rfl dX11_slot_1 ?_
  refine jr_iload_n C dX11_slot_4 rfl 1 rfl ?_
  obtain ⟨c5, hc5, hv⟩ := Option.bind_eq_some_iff.mp hv
  refine jc_callR (rest := []) C K (pX7_thingAt l G S v1 hc5) oX7_thingAt kw_497 kw_495 rfl ⟨Nat.le_of_ble_eq_true rfl, Nat.le_of_ble_eq_true rfl⟩ rfl (Nat.le_of_ble_eq_true rfl) ⟨Nat.le_refl _, Nat.le_refl _⟩ dX11_slot_5 ?_
  refine jr_nastore_n (i := 3) (lv' := [(3, va_rf c5.1), (0, .ref (co g)), (1, .int v1), (2, .int v2)]) C dX11_slot_8 rfl (by decide) rfl ?_
  exact jr_sub [1, 3, 0] rfl (tX11_slot_9 C K G  c5.2 v2 c5.1 hv)
theorem pX11_slot (l : Launch) {g : CG} (G : cSep g)   (S : CS) (v1 : Int32) (v2 : Int32) {w : Int32 × CS} (hw : fX11_slot S v1 v2 = some w)  : cC l yX11_slot cX11_slot 5 (some .int) 1 0 0 g [.ref (co g), .int v1, .int v2] S (some (.int w.1)) w.2 := cC_of (lv := [(0, .ref (co g)), (1, .int v1), (2, .int v2)]) (by decide +kernel) (Nat.le_of_ble_eq_true rfl) rfl (fun C K => tX11_slot_0 C K G  S v1 v2 hw)
/-! RobotCell.logged(I)J -/
def fX11_logged_28 (S : CS) : Option (Int64 × CS) :=
  some (0, S)
def fX11_logged (S : CS) (v1 : Int32) : Option (Int64 × CS) :=
  if v1 < 0 then fX11_logged_28 S else (if (gI S.1 7) ≤ v1 then fX11_logged_28 S else (if 200 ≤ v1 then fX11_logged_28 S else (if inb v1 (clB 6) = true then some (gB S.1 6 (ix v1), S) else none)))
theorem oX11_logged : ok_c yX11_logged cX11_logged 2 (some .long) 1 (.instanceMethod yX11_logged) := ⟨kw_1049, ⟨kw_1047, rfl⟩, kw_71, by decide +kernel⟩
set_option maxRecDepth 100000 in
set_option maxHeartbeats 1000000 in
theorem tX11_logged_28 {p : Program} {l : Launch} {e : Env} {s : State} {m : MethodId} {args : Array Value} {below : List Frame} {meth : Method} {c : Code} {g : CG} {S0 : CS} (C : CC p s m args meth c yX11_logged cX11_logged 2 (some .long)) (K : cK g s) (G : cSep g)  (S : CS) {w : Int64 × CS} (hv : fX11_logged_28 S = some w) : CJ p l e s m args below meth c 2 0 0 0 g S0 (some (.long w.1)) w.2 28 [] [] S 0 0 := by
  unfold fX11_logged_28 at hv
  refine jr_lconst (v := 0) C dX11_logged_28 (by decide) ?_
  exact jc_lret C K dX11_logged_29 (Option.some.inj hv) ⟨Nat.le_refl _, Nat.le_refl _⟩
set_option maxRecDepth 100000 in
set_option maxHeartbeats 1000000 in
theorem tX11_logged_0 {p : Program} {l : Launch} {e : Env} {s : State} {m : MethodId} {args : Array Value} {below : List Frame} {meth : Method} {c : Code} {g : CG} {S0 : CS} (C : CC p s m args meth c yX11_logged cX11_logged 2 (some .long)) (K : cK g s) (G : cSep g)  (S : CS) (v1 : Int32) {w : Int64 × CS} (hv : fX11_logged S v1 = some w) : CJ p l e s m args below meth c 2 0 0 0 g S0 (some (.long w.1)) w.2 0 [(0, .ref (co g)), (1, .int v1)] [] S 0 0 := by
  unfold fX11_logged at hv
  refine jr_iload_n C dX11_logged_0 rfl 1 rfl ?_
  refine jr_if_lt (tgt := 28) C dX11_logged_1 rfl (fun q1 => ?_) (fun q1 => ?_)
  · have hv := (if_pos q1).symm.trans hv
    exact jr_sub [] rfl (tX11_logged_28 C K G  S hv)
  · have hv := (if_neg q1).symm.trans hv
    refine jr_iload_n C dX11_logged_4 rfl 1 rfl ?_
    refine jr_aload_n C dX11_logged_5 rfl 0 rfl ?_
    refine jc_getI C K 7 (by decide) rfl kw_129 rfl dX11_logged_6 ?_
    refine jr_icmp_ge (tgt := 28) C dX11_logged_9 rfl (fun q9 => ?_) (fun q9 => ?_)
    · have hv := (if_pos q9).symm.trans hv
      exact jr_sub [] rfl (tX11_logged_28 C K G  S hv)
    · have hv := (if_neg q9).symm.trans hv
      refine jr_iload_n C dX11_logged_12 rfl 1 rfl ?_
      refine jr_sipush (v := 200) C dX11_logged_13 (by decide) ?_
      refine jr_icmp_ge (tgt := 28) C dX11_logged_16 rfl (fun q16 => ?_) (fun q16 => ?_)
      · have hv := (if_pos q16).symm.trans hv
        exact jr_sub [] rfl (tX11_logged_28 C K G  S hv)
      · have hv := (if_neg q16).symm.trans hv
        refine jr_aload_n C dX11_logged_19 rfl 0 rfl ?_
        refine jc_getR C K 6 (by decide) (by decide) kw_128 rfl dX11_logged_20 ?_
        refine jr_iload_n C dX11_logged_23 rfl 1 rfl ?_
        by_cases z24 : inb v1 (clB 6) = true
        case neg => exact op_none ((if_neg z24).symm.trans hv)
        have hv := (if_pos z24).symm.trans hv
        refine jc_lald C K z24 dX11_logged_24 ?_
        refine jr_goto (tgt := 29) C dX11_logged_25 rfl ?_
        exact jc_lret C K dX11_logged_29 (Option.some.inj hv) ⟨Nat.le_refl _, Nat.le_refl _⟩
theorem pX11_logged (l : Launch) {g : CG} (G : cSep g)   (S : CS) (v1 : Int32) {w : Int64 × CS} (hw : fX11_logged S v1 = some w)  : cC l yX11_logged cX11_logged 2 (some .long) 0 0 0 g [.ref (co g), .int v1] S (some (.long w.1)) w.2 := cC_of (lv := [(0, .ref (co g)), (1, .int v1)]) (by decide +kernel) (Nat.le_of_ble_eq_true rfl) rfl (fun C K => tX11_logged_0 C K G  S v1 hw)
/-! RobotCell.logs()I -/
def fX11_logs (S : CS) : Option (Int32 × CS) :=
  some (gI S.1 7, S)
theorem oX11_logs : ok_c yX11_logs cX11_logs 1 (some .int) 0 (.instanceMethod yX11_logs) := ⟨kw_1053, ⟨kw_1051, rfl⟩, kw_71, by decide +kernel⟩
set_option maxRecDepth 100000 in
set_option maxHeartbeats 1000000 in
theorem tX11_logs_0 {p : Program} {l : Launch} {e : Env} {s : State} {m : MethodId} {args : Array Value} {below : List Frame} {meth : Method} {c : Code} {g : CG} {S0 : CS} (C : CC p s m args meth c yX11_logs cX11_logs 1 (some .int)) (K : cK g s) (G : cSep g)  (S : CS) {w : Int32 × CS} (hv : fX11_logs S = some w) : CJ p l e s m args below meth c 1 0 0 0 g S0 (some (.int w.1)) w.2 0 [(0, .ref (co g))] [] S 0 0 := by
  unfold fX11_logs at hv
  refine jr_aload_n C dX11_logs_0 rfl 0 rfl ?_
  refine jc_getI C K 7 (by decide) rfl kw_129 rfl dX11_logs_1 ?_
  exact jc_iret C K dX11_logs_4 (Option.some.inj hv) ⟨Nat.le_refl _, Nat.le_refl _⟩
theorem pX11_logs (l : Launch) {g : CG} (G : cSep g)   (S : CS)  {w : Int32 × CS} (hw : fX11_logs S = some w)  : cC l yX11_logs cX11_logs 1 (some .int) 0 0 0 g [.ref (co g)] S (some (.int w.1)) w.2 := cC_of (lv := [(0, .ref (co g))]) (by decide +kernel) (Nat.le_of_ble_eq_true rfl) rfl (fun C K => tX11_logs_0 C K G  S hw)
/-! RobotCell.reset()V -/
def fX11_reset_32 (S : CS) : Option (CS) :=
  some S
def fX11_reset_27 (S : CS) : Option (CS) :=
  fX11_reset_32 (cpI S 15 (-1))
def fX11_reset_22 (S : CS) : Option (CS) :=
  fX11_reset_27 (cpI S 12 (-1))
def fX11_reset_17 (S : CS) : Option (CS) :=
  fX11_reset_22 (cpI S 11 0)
def fX11_reset_5 (S : CS) : Option (CS) :=
  Option.bind (fX7_empty S) (fun c9 => fX11_reset_17 (cpI c9 7 0))
def fX11_reset (S : CS) : Option (CS) :=
  fX11_reset_5 (cpI S 4 0)
theorem oX11_reset : ok_c yX11_reset cX11_reset 1 none 0 (.instanceMethod yX11_reset) := ⟨kw_1057, ⟨kw_1055, rfl⟩, kw_71, by decide +kernel⟩
set_option maxRecDepth 100000 in
set_option maxHeartbeats 1000000 in
theorem tX11_reset_32 {p : Program} {l : Launch} {e : Env} {s : State} {m : MethodId} {args : Array Value} {below : List Frame} {meth : Method} {c : Code} {g : CG} {S0 : CS} (C : CC p s m args meth c yX11_reset cX11_reset 1 none) (K : cK g s) (G : cSep g)  (S : CS) {w : CS} (hv : fX11_reset_32 S = some w) : CJ p l e s m args below meth c 1 2 0 0 g S0 none w 32 [] [] S 0 0 := by
  unfold fX11_reset_32 at hv
  exact jc_vret C K dX11_reset_32 (Option.some.inj hv) ⟨Nat.le_refl _, Nat.le_refl _⟩
set_option maxRecDepth 100000 in
set_option maxHeartbeats 1000000 in
theorem tX11_reset_27 {p : Program} {l : Launch} {e : Env} {s : State} {m : MethodId} {args : Array Value} {below : List Frame} {meth : Method} {c : Code} {g : CG} {S0 : CS} (C : CC p s m args meth c yX11_reset cX11_reset 1 none) (K : cK g s) (G : cSep g)  (S : CS) {w : CS} (hv : fX11_reset_27 S = some w) : CJ p l e s m args below meth c 1 2 0 0 g S0 none w 27 [(0, .ref (co g))] [] S 0 0 := by
  unfold fX11_reset_27 at hv
  refine jr_aload_n C dX11_reset_27 rfl 0 rfl ?_
  refine jr_iconst (v := (-1)) C dX11_reset_28 (by decide) ?_
  refine jc_putI C K G 15 (by decide) rfl kw_137 rfl rfl (by decide +kernel) dX11_reset_29 ?_
  exact jr_sub [] rfl (tX11_reset_32 C K G  (cpI S 15 (-1)) hv)
set_option maxRecDepth 100000 in
set_option maxHeartbeats 1000000 in
theorem tX11_reset_22 {p : Program} {l : Launch} {e : Env} {s : State} {m : MethodId} {args : Array Value} {below : List Frame} {meth : Method} {c : Code} {g : CG} {S0 : CS} (C : CC p s m args meth c yX11_reset cX11_reset 1 none) (K : cK g s) (G : cSep g)  (S : CS) {w : CS} (hv : fX11_reset_22 S = some w) : CJ p l e s m args below meth c 1 2 0 0 g S0 none w 22 [(0, .ref (co g))] [] S 0 0 := by
  unfold fX11_reset_22 at hv
  refine jr_aload_n C dX11_reset_22 rfl 0 rfl ?_
  refine jr_iconst (v := (-1)) C dX11_reset_23 (by decide) ?_
  refine jc_putI C K G 12 (by decide) rfl kw_134 rfl rfl (by decide +kernel) dX11_reset_24 ?_
  exact tX11_reset_27 C K G  (cpI S 12 (-1)) hv
set_option maxRecDepth 100000 in
set_option maxHeartbeats 1000000 in
theorem tX11_reset_17 {p : Program} {l : Launch} {e : Env} {s : State} {m : MethodId} {args : Array Value} {below : List Frame} {meth : Method} {c : Code} {g : CG} {S0 : CS} (C : CC p s m args meth c yX11_reset cX11_reset 1 none) (K : cK g s) (G : cSep g)  (S : CS) {w : CS} (hv : fX11_reset_17 S = some w) : CJ p l e s m args below meth c 1 2 0 0 g S0 none w 17 [(0, .ref (co g))] [] S 0 0 := by
  unfold fX11_reset_17 at hv
  refine jr_aload_n C dX11_reset_17 rfl 0 rfl ?_
  refine jr_iconst (v := 0) C dX11_reset_18 (by decide) ?_
  refine jc_putI C K G 11 (by decide) rfl kw_133 rfl rfl (by decide +kernel) dX11_reset_19 ?_
  exact tX11_reset_22 C K G  (cpI S 11 0) hv
set_option maxRecDepth 100000 in
set_option maxHeartbeats 1000000 in
theorem tX11_reset_5 {p : Program} {l : Launch} {e : Env} {s : State} {m : MethodId} {args : Array Value} {below : List Frame} {meth : Method} {c : Code} {g : CG} {S0 : CS} (C : CC p s m args meth c yX11_reset cX11_reset 1 none) (K : cK g s) (G : cSep g)  (S : CS) {w : CS} (hv : fX11_reset_5 S = some w) : CJ p l e s m args below meth c 1 2 0 0 g S0 none w 5 [(0, .ref (co g))] [] S 0 0 := by
  unfold fX11_reset_5 at hv
  refine jr_aload_n C dX11_reset_5 rfl 0 rfl ?_
  refine jc_getR C K 5 (by decide) (by decide) kw_127 rfl dX11_reset_6 ?_
  obtain ⟨c9, hc9, hv⟩ := Option.bind_eq_some_iff.mp hv
  refine jc_callR (rest := []) C K (pX7_empty l G S hc9) oX7_empty kw_1060 kw_1058 rfl ⟨Nat.le_of_ble_eq_true rfl, Nat.le_of_ble_eq_true rfl⟩ rfl (Nat.le_of_ble_eq_true rfl) ⟨Nat.le_refl _, Nat.le_refl _⟩ dX11_reset_9 ?_
  refine jr_aload_n C dX11_reset_12 rfl 0 rfl ?_
  refine jr_iconst (v := 0) C dX11_reset_13 (by decide) ?_
  refine jc_putI C K G 7 (by decide) rfl kw_129 rfl rfl (by decide +kernel) dX11_reset_14 ?_
  exact tX11_reset_17 C K G  (cpI c9 7 0) hv
set_option maxRecDepth 100000 in
set_option maxHeartbeats 1000000 in
theorem tX11_reset_0 {p : Program} {l : Launch} {e : Env} {s : State} {m : MethodId} {args : Array Value} {below : List Frame} {meth : Method} {c : Code} {g : CG} {S0 : CS} (C : CC p s m args meth c yX11_reset cX11_reset 1 none) (K : cK g s) (G : cSep g)  (S : CS) {w : CS} (hv : fX11_reset S = some w) : CJ p l e s m args below meth c 1 2 0 0 g S0 none w 0 [(0, .ref (co g))] [] S 0 0 := by
  unfold fX11_reset at hv
  refine jr_aload_n C dX11_reset_0 rfl 0 rfl ?_
  refine jr_iconst (v := 0) C dX11_reset_1 (by decide) ?_
  refine jc_putI C K G 4 (by decide) rfl kw_126 rfl rfl (by decide +kernel) dX11_reset_2 ?_
  exact tX11_reset_5 C K G  (cpI S 4 0) hv
theorem pX11_reset (l : Launch) {g : CG} (G : cSep g)   (S : CS)  {w : CS} (hw : fX11_reset S = some w)  : cC l yX11_reset cX11_reset 1 none 2 0 0 g [.ref (co g)] S none w := cC_of (lv := [(0, .ref (co g))]) (by decide +kernel) (Nat.le_of_ble_eq_true rfl) rfl (fun C K => tX11_reset_0 C K G  S hw)
