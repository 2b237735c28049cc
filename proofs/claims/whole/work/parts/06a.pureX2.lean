/-! java/lang/Integer.numberOfLeadingZeros(I)I -/
def fJ6_numberOfLeadingZeros_0f7a4_73 (v0 : Int32) (v1 : Int32) : Int32 :=
  v1 - (((v0).toUInt32 >>> ((1 : Int32).toUInt32 &&& Int32.toUInt32 31)).toInt32)
def fJ6_numberOfLeadingZeros_0f7a4_69 (v0 : Int32) (v1 : Int32) : Int32 :=
  fJ6_numberOfLeadingZeros_0f7a4_73 (((v0).toUInt32 >>> ((2 : Int32).toUInt32 &&& Int32.toUInt32 31)).toInt32) v1
def fJ6_numberOfLeadingZeros_0f7a4_61 (v0 : Int32) (v1 : Int32) : Int32 :=
  if v0 < 4 then fJ6_numberOfLeadingZeros_0f7a4_73 v0 v1 else fJ6_numberOfLeadingZeros_0f7a4_69 v0 (v1 + (-2))
def fJ6_numberOfLeadingZeros_0f7a4_57 (v0 : Int32) (v1 : Int32) : Int32 :=
  fJ6_numberOfLeadingZeros_0f7a4_61 (((v0).toUInt32 >>> ((4 : Int32).toUInt32 &&& Int32.toUInt32 31)).toInt32) v1
def fJ6_numberOfLeadingZeros_0f7a4_48 (v0 : Int32) (v1 : Int32) : Int32 :=
  if v0 < 16 then fJ6_numberOfLeadingZeros_0f7a4_61 v0 v1 else fJ6_numberOfLeadingZeros_0f7a4_57 v0 (v1 + (-4))
def fJ6_numberOfLeadingZeros_0f7a4_43 (v0 : Int32) (v1 : Int32) : Int32 :=
  fJ6_numberOfLeadingZeros_0f7a4_48 (((v0).toUInt32 >>> ((8 : Int32).toUInt32 &&& Int32.toUInt32 31)).toInt32) v1
def fJ6_numberOfLeadingZeros_0f7a4_33 (v0 : Int32) (v1 : Int32) : Int32 :=
  if v0 < 256 then fJ6_numberOfLeadingZeros_0f7a4_48 v0 v1 else fJ6_numberOfLeadingZeros_0f7a4_43 v0 (v1 + (-8))
def fJ6_numberOfLeadingZeros_0f7a4_28 (v0 : Int32) (v1 : Int32) : Int32 :=
  fJ6_numberOfLeadingZeros_0f7a4_33 (((v0).toUInt32 >>> ((16 : Int32).toUInt32 &&& Int32.toUInt32 31)).toInt32) v1
def fJ6_numberOfLeadingZeros_0f7a4 (v0 : Int32) : Int32 :=
  if 0 < v0 then (if v0 < 65536 then fJ6_numberOfLeadingZeros_0f7a4_33 v0 31 else fJ6_numberOfLeadingZeros_0f7a4_28 v0 (31 + (-16))) else (if v0 = 0 then 32 else 0)
theorem oJ6_numberOfLeadingZeros_0f7a4 : ok_s yJ6_numberOfLeadingZeros_0f7a4 cJ6_numberOfLeadingZeros_0f7a4 2 (some .int) 1 := ⟨kw_284, kw_283, kw_76, by decide +kernel⟩
set_option maxRecDepth 100000 in
theorem tJ6_numberOfLeadingZeros_0f7a4_73 {p : Program} {l : Launch} {e : Env} {s : State} {m : MethodId} {args : Array Value} {below : List Frame} {meth : Method} {c : Code} (C : CC p s m args meth c yJ6_numberOfLeadingZeros_0f7a4 cJ6_numberOfLeadingZeros_0f7a4 2 (some .int))  (v0 : Int32) (v1 : Int32) {w : Int32} (hv : fJ6_numberOfLeadingZeros_0f7a4_73 v0 v1 = w) : PJ p l e s m args below meth c 2 0 (.int w) 73 [(0, .int v0), (1, .int v1)] [] := by
  unfold fJ6_numberOfLeadingZeros_0f7a4_73 at hv
  refine jr_iload_n C dJ6_numberOfLeadingZeros_0f7a4_73 rfl 1 rfl ?_
  refine jr_iload_n C dJ6_numberOfLeadingZeros_0f7a4_74 rfl 0 rfl ?_
  refine jr_iconst (v := 1) C dJ6_numberOfLeadingZeros_0f7a4_75 (by decide) ?_
  refine jr_iushr C dJ6_numberOfLeadingZeros_0f7a4_76 ?_
  refine jr_isub C dJ6_numberOfLeadingZeros_0f7a4_77 ?_
  exact jp_iret C dJ6_numberOfLeadingZeros_0f7a4_78 (congrArg Value.int hv).symm
set_option maxRecDepth 100000 in
theorem tJ6_numberOfLeadingZeros_0f7a4_69 {p : Program} {l : Launch} {e : Env} {s : State} {m : MethodId} {args : Array Value} {below : List Frame} {meth : Method} {c : Code} (C : CC p s m args meth c yJ6_numberOfLeadingZeros_0f7a4 cJ6_numberOfLeadingZeros_0f7a4 2 (some .int))  (v0 : Int32) (v1 : Int32) {w : Int32} (hv : fJ6_numberOfLeadingZeros_0f7a4_69 v0 v1 = w) : PJ p l e s m args below meth c 2 0 (.int w) 69 [(0, .int v0), (1, .int v1)] [] := by
  unfold fJ6_numberOfLeadingZeros_0f7a4_69 at hv
  refine jr_iload_n C dJ6_numberOfLeadingZeros_0f7a4_69 rfl 0 rfl ?_
  refine jr_iconst (v := 2) C dJ6_numberOfLeadingZeros_0f7a4_70 (by decide) ?_
  refine jr_iushr C dJ6_numberOfLeadingZeros_0f7a4_71 ?_
  refine jr_istore_n (lv' := [(0, .int (((v0).toUInt32 >>> ((2 : Int32).toUInt32 &&& Int32.toUInt32 31)).toInt32)), (1, .int v1)]) C dJ6_numberOfLeadingZeros_0f7a4_72 rfl (by decide) rfl ?_
  exact tJ6_numberOfLeadingZeros_0f7a4_73 C  (((v0).toUInt32 >>> ((2 : Int32).toUInt32 &&& Int32.toUInt32 31)).toInt32) v1 hv
set_option maxRecDepth 100000 in
theorem tJ6_numberOfLeadingZeros_0f7a4_61 {p : Program} {l : Launch} {e : Env} {s : State} {m : MethodId} {args : Array Value} {below : List Frame} {meth : Method} {c : Code} (C : CC p s m args meth c yJ6_numberOfLeadingZeros_0f7a4 cJ6_numberOfLeadingZeros_0f7a4 2 (some .int))  (v0 : Int32) (v1 : Int32) {w : Int32} (hv : fJ6_numberOfLeadingZeros_0f7a4_61 v0 v1 = w) : PJ p l e s m args below meth c 2 0 (.int w) 61 [(0, .int v0), (1, .int v1)] [] := by
  unfold fJ6_numberOfLeadingZeros_0f7a4_61 at hv
  refine jr_iload_n C dJ6_numberOfLeadingZeros_0f7a4_61 rfl 0 rfl ?_
  refine jr_iconst (v := 4) C dJ6_numberOfLeadingZeros_0f7a4_62 (by decide) ?_
  refine jr_icmp_lt (tgt := 73) C dJ6_numberOfLeadingZeros_0f7a4_63 rfl (fun q63 => ?_) (fun q63 => ?_)
  · have hv := (if_pos q63).symm.trans hv
    exact tJ6_numberOfLeadingZeros_0f7a4_73 C  v0 v1 hv
  · have hv := (if_neg q63).symm.trans hv
    refine jr_iinc (v := (v1 + (-2))) (lv' := [(1, .int (v1 + (-2))), (0, .int v0)]) C dJ6_numberOfLeadingZeros_0f7a4_66 1 rfl rfl (by decide) rfl ?_
    exact jr_sub [1, 0] rfl (tJ6_numberOfLeadingZeros_0f7a4_69 C  v0 (v1 + (-2)) hv)
set_option maxRecDepth 100000 in
theorem tJ6_numberOfLeadingZeros_0f7a4_57 {p : Program} {l : Launch} {e : Env} {s : State} {m : MethodId} {args : Array Value} {below : List Frame} {meth : Method} {c : Code} (C : CC p s m args meth c yJ6_numberOfLeadingZeros_0f7a4 cJ6_numberOfLeadingZeros_0f7a4 2 (some .int))  (v0 : Int32) (v1 : Int32) {w : Int32} (hv : fJ6_numberOfLeadingZeros_0f7a4_57 v0 v1 = w) : PJ p l e s m args below meth c 2 0 (.int w) 57 [(0, .int v0), (1, .int v1)] [] := by
  unfold fJ6_numberOfLeadingZeros_0f7a4_57 at hv
  refine jr_iload_n C dJ6_numberOfLeadingZeros_0f7a4_57 rfl 0 rfl ?_
  refine jr_iconst (v := 4) C dJ6_numberOfLeadingZeros_0f7a4_58 (by decide) ?_
  refine jr_iushr C dJ6_numberOfLeadingZeros_0f7a4_59 ?_
  refine jr_istore_n (lv' := [(0, .int (((v0).toUInt32 >>> ((4 : Int32).toUInt32 &&& Int32.toUInt32 31)).toInt32)), (1, .int v1)]) C dJ6_numberOfLeadingZeros_0f7a4_60 rfl (by decide) rfl ?_
  exact tJ6_numberOfLeadingZeros_0f7a4_61 C  (((v0).toUInt32 >>> ((4 : Int32).toUInt32 &&& Int32.toUInt32 31)).toInt32) v1 hv
set_option maxRecDepth 100000 in
theorem tJ6_numberOfLeadingZeros_0f7a4_48 {p : Program} {l : Launch} {e : Env} {s : State} {m : MethodId} {args : Array Value} {below : List Frame} {meth : Method} {c : Code} (C : CC p s m args meth c yJ6_numberOfLeadingZeros_0f7a4 cJ6_numberOfLeadingZeros_0f7a4 2 (some .int))  (v0 : Int32) (v1 : Int32) {w : Int32} (hv : fJ6_numberOfLeadingZeros_0f7a4_48 v0 v1 = w) : PJ p l e s m args below meth c 2 0 (.int w) 48 [(0, .int v0), (1, .int v1)] [] := by
  unfold fJ6_numberOfLeadingZeros_0f7a4_48 at hv
  refine jr_iload_n C dJ6_numberOfLeadingZeros_0f7a4_48 rfl 0 rfl ?_
  refine jr_bipush (v := 16) C dJ6_numberOfLeadingZeros_0f7a4_49 (by decide) ?_
  refine jr_icmp_lt (tgt := 61) C dJ6_numberOfLeadingZeros_0f7a4_51 rfl (fun q51 => ?_) (fun q51 => ?_)
  · have hv := (if_pos q51).symm.trans hv
    exact tJ6_numberOfLeadingZeros_0f7a4_61 C  v0 v1 hv
  · have hv := (if_neg q51).symm.trans hv
    refine jr_iinc (v := (v1 + (-4))) (lv' := [(1, .int (v1 + (-4))), (0, .int v0)]) C dJ6_numberOfLeadingZeros_0f7a4_54 1 rfl rfl (by decide) rfl ?_
    exact jr_sub [1, 0] rfl (tJ6_numberOfLeadingZeros_0f7a4_57 C  v0 (v1 + (-4)) hv)
set_option maxRecDepth 100000 in
theorem tJ6_numberOfLeadingZeros_0f7a4_43 {p : Program} {l : Launch} {e : Env} {s : State} {m : MethodId} {args : Array Value} {below : List Frame} {meth : Method} {c : Code} (C : CC p s m args meth c yJ6_numberOfLeadingZeros_0f7a4 cJ6_numberOfLeadingZeros_0f7a4 2 (some .int))  (v0 : Int32) (v1 : Int32) {w : Int32} (hv : fJ6_numberOfLeadingZeros_0f7a4_43 v0 v1 = w) : PJ p l e s m args below meth c 2 0 (.int w) 43 [(0, .int v0), (1, .int v1)] [] := by
  unfold fJ6_numberOfLeadingZeros_0f7a4_43 at hv
  refine jr_iload_n C dJ6_numberOfLeadingZeros_0f7a4_43 rfl 0 rfl ?_
  refine jr_bipush (v := 8) C dJ6_numberOfLeadingZeros_0f7a4_44 (by decide) ?_
  refine jr_iushr C dJ6_numberOfLeadingZeros_0f7a4_46 ?_
  refine jr_istore_n (lv' := [(0, .int (((v0).toUInt32 >>> ((8 : Int32).toUInt32 &&& Int32.toUInt32 31)).toInt32)), (1, .int v1)]) C dJ6_numberOfLeadingZeros_0f7a4_47 rfl (by decide) rfl ?_
  exact tJ6_numberOfLeadingZeros_0f7a4_48 C  (((v0).toUInt32 >>> ((8 : Int32).toUInt32 &&& Int32.toUInt32 31)).toInt32) v1 hv
set_option maxRecDepth 100000 in
theorem tJ6_numberOfLeadingZeros_0f7a4_33 {p : Program} {l : Launch} {e : Env} {s : State} {m : MethodId} {args : Array Value} {below : List Frame} {meth : Method} {c : Code} (C : CC p s m args meth c yJ6_numberOfLeadingZeros_0f7a4 cJ6_numberOfLeadingZeros_0f7a4 2 (some .int))  (v0 : Int32) (v1 : Int32) {w : Int32} (hv : fJ6_numberOfLeadingZeros_0f7a4_33 v0 v1 = w) : PJ p l e s m args below meth c 2 0 (.int w) 33 [(0, .int v0), (1, .int v1)] [] := by
  unfold fJ6_numberOfLeadingZeros_0f7a4_33 at hv
  refine jr_iload_n C dJ6_numberOfLeadingZeros_0f7a4_33 rfl 0 rfl ?_
  refine jr_sipush (v := 256) C dJ6_numberOfLeadingZeros_0f7a4_34 (by decide) ?_
  refine jr_icmp_lt (tgt := 48) C dJ6_numberOfLeadingZeros_0f7a4_37 rfl (fun q37 => ?_) (fun q37 => ?_)
  · have hv := (if_pos q37).symm.trans hv
    exact tJ6_numberOfLeadingZeros_0f7a4_48 C  v0 v1 hv
  · have hv := (if_neg q37).symm.trans hv
    refine jr_iinc (v := (v1 + (-8))) (lv' := [(1, .int (v1 + (-8))), (0, .int v0)]) C dJ6_numberOfLeadingZeros_0f7a4_40 1 rfl rfl (by decide) rfl ?_
    exact jr_sub [1, 0] rfl (tJ6_numberOfLeadingZeros_0f7a4_43 C  v0 (v1 + (-8)) hv)
set_option maxRecDepth 100000 in
theorem tJ6_numberOfLeadingZeros_0f7a4_28 {p : Program} {l : Launch} {e : Env} {s : State} {m : MethodId} {args : Array Value} {below : List Frame} {meth : Method} {c : Code} (C : CC p s m args meth c yJ6_numberOfLeadingZeros_0f7a4 cJ6_numberOfLeadingZeros_0f7a4 2 (some .int))  (v0 : Int32) (v1 : Int32) {w : Int32} (hv : fJ6_numberOfLeadingZeros_0f7a4_28 v0 v1 = w) : PJ p l e s m args below meth c 2 0 (.int w) 28 [(0, .int v0), (1, .int v1)] [] := by
  unfold fJ6_numberOfLeadingZeros_0f7a4_28 at hv
  refine jr_iload_n C dJ6_numberOfLeadingZeros_0f7a4_28 rfl 0 rfl ?_
  refine jr_bipush (v := 16) C dJ6_numberOfLeadingZeros_0f7a4_29 (by decide) ?_
  refine jr_iushr C dJ6_numberOfLeadingZeros_0f7a4_31 ?_
  refine jr_istore_n (lv' := [(0, .int (((v0).toUInt32 >>> ((16 : Int32).toUInt32 &&& Int32.toUInt32 31)).toInt32)), (1, .int v1)]) C dJ6_numberOfLeadingZeros_0f7a4_32 rfl (by decide) rfl ?_
  exact tJ6_numberOfLeadingZeros_0f7a4_33 C  (((v0).toUInt32 >>> ((16 : Int32).toUInt32 &&& Int32.toUInt32 31)).toInt32) v1 hv
set_option maxRecDepth 100000 in
theorem tJ6_numberOfLeadingZeros_0f7a4_0 {p : Program} {l : Launch} {e : Env} {s : State} {m : MethodId} {args : Array Value} {below : List Frame} {meth : Method} {c : Code} (C : CC p s m args meth c yJ6_numberOfLeadingZeros_0f7a4 cJ6_numberOfLeadingZeros_0f7a4 2 (some .int))  (v0 : Int32) {w : Int32} (hv : fJ6_numberOfLeadingZeros_0f7a4 v0 = w) : PJ p l e s m args below meth c 2 0 (.int w) 0 [(0, .int v0)] [] := by
  unfold fJ6_numberOfLeadingZeros_0f7a4 at hv
  refine jr_iload_n C dJ6_numberOfLeadingZeros_0f7a4_0 rfl 0 rfl ?_
  refine jr_if_gt (tgt := 15) C dJ6_numberOfLeadingZeros_0f7a4_1 rfl (fun q1 => ?_) (fun q1 => ?_)
  · have hv := (if_pos q1).symm.trans hv
    refine jr_bipush (v := 31) C dJ6_numberOfLeadingZeros_0f7a4_15 (by decide) ?_
    refine jr_istore_n (lv' := [(1, .int 31), (0, .int v0)]) C dJ6_numberOfLeadingZeros_0f7a4_17 rfl (by decide) rfl ?_
    refine jr_iload_n C dJ6_numberOfLeadingZeros_0f7a4_18 rfl 1 rfl ?_
    refine jr_ldcw C kw_285 dJ6_numberOfLeadingZeros_0f7a4_19 ?_
    refine jr_icmp_lt (tgt := 33) C dJ6_numberOfLeadingZeros_0f7a4_22 rfl (fun q22 => ?_) (fun q22 => ?_)
    · have hv := (if_pos q22).symm.trans hv
      exact jr_sub [1, 0] rfl (tJ6_numberOfLeadingZeros_0f7a4_33 C  v0 31 hv)
    · have hv := (if_neg q22).symm.trans hv
      refine jr_iinc (v := (31 + (-16))) (lv' := [(1, .int (31 + (-16))), (0, .int v0)]) C dJ6_numberOfLeadingZeros_0f7a4_25 0 rfl rfl (by decide) rfl ?_
      exact jr_sub [1, 0] rfl (tJ6_numberOfLeadingZeros_0f7a4_28 C  v0 (31 + (-16)) hv)
  · have hv := (if_neg q1).symm.trans hv
    refine jr_iload_n C dJ6_numberOfLeadingZeros_0f7a4_4 rfl 0 rfl ?_
    refine jr_if_ne (tgt := 13) C dJ6_numberOfLeadingZeros_0f7a4_5 rfl (fun q5 => ?_) (fun q5 => ?_)
    · have hv := (if_neg q5).symm.trans hv
      refine jr_iconst (v := 0) C dJ6_numberOfLeadingZeros_0f7a4_13 (by decide) ?_
      exact jp_iret C dJ6_numberOfLeadingZeros_0f7a4_14 (congrArg Value.int hv).symm
    · have hv := (if_pos q5).symm.trans hv
      refine jr_bipush (v := 32) C dJ6_numberOfLeadingZeros_0f7a4_8 (by decide) ?_
      refine jr_goto (tgt := 14) C dJ6_numberOfLeadingZeros_0f7a4_10 rfl ?_
      exact jp_iret C dJ6_numberOfLeadingZeros_0f7a4_14 (congrArg Value.int hv).symm
theorem pJ6_numberOfLeadingZeros_0f7a4 (l : Launch) (v0 : Int32) : pu l yJ6_numberOfLeadingZeros_0f7a4 cJ6_numberOfLeadingZeros_0f7a4 2 (some .int) 0 [.int v0] (.int (fJ6_numberOfLeadingZeros_0f7a4 v0)) := pu_of (by decide +kernel) (Nat.le_of_ble_eq_true rfl) rfl (fun C => tJ6_numberOfLeadingZeros_0f7a4_0 C v0 rfl)
/-! java/lang/Long.numberOfLeadingZeros(J)I -/
def fJ13_numberOfLeadingZeros_95d88_6 (v0 : Int64) (v2 : Int32) : Int32 :=
  if v2 = 0 then 32 + (fJ6_numberOfLeadingZeros_0f7a4 v0.toInt32) else fJ6_numberOfLeadingZeros_0f7a4 v2
def fJ13_numberOfLeadingZeros_95d88 (v0 : Int64) : Int32 :=
  fJ13_numberOfLeadingZeros_95d88_6 v0 ((((v0 : Int64).toUInt64 >>> ((32 : Int32).toInt64.toUInt64 &&& Int64.toUInt64 63)).toInt64).toInt32)
theorem oJ13_numberOfLeadingZeros_95d88 : ok_s yJ13_numberOfLeadingZeros_95d88 cJ13_numberOfLeadingZeros_95d88 3 (some .int) 1 := ⟨kw_281, kw_280, kw_75, by decide +kernel⟩
set_option maxRecDepth 100000 in
theorem tJ13_numberOfLeadingZeros_95d88_6 {p : Program} {l : Launch} {e : Env} {s : State} {m : MethodId} {args : Array Value} {below : List Frame} {meth : Method} {c : Code} (C : CC p s m args meth c yJ13_numberOfLeadingZeros_95d88 cJ13_numberOfLeadingZeros_95d88 3 (some .int))  (v0 : Int64) (v2 : Int32) {w : Int32} (hv : fJ13_numberOfLeadingZeros_95d88_6 v0 v2 = w) : PJ p l e s m args below meth c 3 1 (.int w) 6 [(0, .long v0), (2, .int v2)] [] := by
  unfold fJ13_numberOfLeadingZeros_95d88_6 at hv
  refine jr_iload_n C dJ13_numberOfLeadingZeros_95d88_6 rfl 1 rfl ?_
  refine jr_if_ne (tgt := 21) C dJ13_numberOfLeadingZeros_95d88_7 rfl (fun q7 => ?_) (fun q7 => ?_)
  · have hv := (if_neg q7).symm.trans hv
    refine jr_iload_n C dJ13_numberOfLeadingZeros_95d88_21 rfl 1 rfl ?_
    refine jr_pcall (rest := []) C (pJ6_numberOfLeadingZeros_0f7a4 l v2) oJ6_numberOfLeadingZeros_0f7a4 kw_282 rfl ⟨Nat.le_of_ble_eq_true rfl, Nat.le_of_ble_eq_true rfl⟩ rfl (Nat.le_of_ble_eq_true rfl) ⟨Nat.zero_le _, Nat.zero_le _⟩ dJ13_numberOfLeadingZeros_95d88_22 ?_
    exact jp_iret C dJ13_numberOfLeadingZeros_95d88_25 (congrArg Value.int hv).symm
  · have hv := (if_pos q7).symm.trans hv
    refine jr_bipush (v := 32) C dJ13_numberOfLeadingZeros_95d88_10 (by decide) ?_
    refine jr_lload_n C dJ13_numberOfLeadingZeros_95d88_12 rfl 0 rfl ?_
    refine jr_l2i C dJ13_numberOfLeadingZeros_95d88_13 ?_
    refine jr_pcall (rest := [.int 32]) C (pJ6_numberOfLeadingZeros_0f7a4 l v0.toInt32) oJ6_numberOfLeadingZeros_0f7a4 kw_282 rfl ⟨Nat.le_of_ble_eq_true rfl, Nat.le_of_ble_eq_true rfl⟩ rfl (Nat.le_of_ble_eq_true rfl) ⟨Nat.zero_le _, Nat.zero_le _⟩ dJ13_numberOfLeadingZeros_95d88_14 ?_
    refine jr_iadd C dJ13_numberOfLeadingZeros_95d88_17 ?_
    refine jr_goto (tgt := 25) C dJ13_numberOfLeadingZeros_95d88_18 rfl ?_
    exact jp_iret C dJ13_numberOfLeadingZeros_95d88_25 (congrArg Value.int hv).symm
set_option maxRecDepth 100000 in
theorem tJ13_numberOfLeadingZeros_95d88_0 {p : Program} {l : Launch} {e : Env} {s : State} {m : MethodId} {args : Array Value} {below : List Frame} {meth : Method} {c : Code} (C : CC p s m args meth c yJ13_numberOfLeadingZeros_95d88 cJ13_numberOfLeadingZeros_95d88 3 (some .int))  (v0 : Int64) {w : Int32} (hv : fJ13_numberOfLeadingZeros_95d88 v0 = w) : PJ p l e s m args below meth c 3 1 (.int w) 0 [(0, .long v0)] [] := by
  unfold fJ13_numberOfLeadingZeros_95d88 at hv
  refine jr_lload_n C dJ13_numberOfLeadingZeros_95d88_0 rfl 0 rfl ?_
  refine jr_bipush (v := 32) C dJ13_numberOfLeadingZeros_95d88_1 (by decide) ?_
  refine jr_lushr C dJ13_numberOfLeadingZeros_95d88_3 ?_
  refine jr_l2i C dJ13_numberOfLeadingZeros_95d88_4 ?_
  refine jr_istore_n (lv' := [(2, .int ((((v0 : Int64).toUInt64 >>> ((32 : Int32).toInt64.toUInt64 &&& Int64.toUInt64 63)).toInt64).toInt32)), (0, .long v0)]) C dJ13_numberOfLeadingZeros_95d88_5 rfl (by decide) rfl ?_
  exact jr_sub [1, 0] rfl (tJ13_numberOfLeadingZeros_95d88_6 C  v0 ((((v0 : Int64).toUInt64 >>> ((32 : Int32).toInt64.toUInt64 &&& Int64.toUInt64 63)).toInt64).toInt32) hv)
theorem pJ13_numberOfLeadingZeros_95d88 (l : Launch) (v0 : Int64) : pu l yJ13_numberOfLeadingZeros_95d88 cJ13_numberOfLeadingZeros_95d88 3 (some .int) 1 [.long v0] (.int (fJ13_numberOfLeadingZeros_95d88 v0)) := pu_of (by decide +kernel) (Nat.le_of_ble_eq_true rfl) rfl (fun C => tJ13_numberOfLeadingZeros_95d88_0 C v0 rfl)
/-! RobotCell$Fraction.isLost(J)Z -/
def fX2_isLost (v0 : Int64) : Int32 :=
  if (v0 &&& 9223372036854775807) ≤ 9218868437227405312 then 0 else 1
theorem oX2_isLost : ok_s yX2_isLost cX2_isLost 2 (some .boolean) 1 := ⟨kw_294, kw_293, kw_74, by decide +kernel⟩
set_option maxRecDepth 100000 in
theorem tX2_isLost_0 {p : Program} {l : Launch} {e : Env} {s : State} {m : MethodId} {args : Array Value} {below : List Frame} {meth : Method} {c : Code} (C : CC p s m args meth c yX2_isLost cX2_isLost 2 (some .boolean))  (v0 : Int64) {w : Int32} (hv : fX2_isLost v0 = w) : PJ p l e s m args below meth c 2 0 (.int w) 0 [(0, .long v0)] [] := by
  unfold fX2_isLost at hv
  refine jr_lload_n C dX2_isLost_0 rfl 0 rfl ?_
  refine jr_ldc2 C kw_295 dX2_isLost_1 ?_
  refine jr_land C dX2_isLost_4 ?_
  refine jr_ldc2 C kw_296 dX2_isLost_5 ?_
  refine jr_lcmp_le (tgt := 16) C dX2_isLost_8 dX2_isLost_9 rfl (fun q8 => ?_) (fun q8 => ?_)
  · have hv := (if_pos q8).symm.trans hv
    refine jr_iconst (v := 0) C dX2_isLost_16 (by decide) ?_
    exact jp_zret C dX2_isLost_17 rfl (congrArg Value.int hv).symm
  · have hv := (if_neg q8).symm.trans hv
    refine jr_iconst (v := 1) C dX2_isLost_12 (by decide) ?_
    refine jr_goto (tgt := 17) C dX2_isLost_13 rfl ?_
    exact jp_zret C dX2_isLost_17 rfl (congrArg Value.int hv).symm
theorem pX2_isLost (l : Launch) (v0 : Int64) : pu l yX2_isLost cX2_isLost 2 (some .boolean) 0 [.long v0] (.int (fX2_isLost v0)) := pu_of (by decide +kernel) (Nat.le_of_ble_eq_true rfl) rfl (fun C => tX2_isLost_0 C v0 rfl)
/-! RobotCell$Fraction.isInfinite(J)Z -/
def fX2_isInfinite (v0 : Int64) : Int32 :=
  if (v0 &&& 9223372036854775807) = 9218868437227405312 then 1 else 0
theorem oX2_isInfinite : ok_s yX2_isInfinite cX2_isInfinite 2 (some .boolean) 1 := ⟨kw_303, kw_302, kw_74, by decide +kernel⟩
set_option maxRecDepth 100000 in
theorem tX2_isInfinite_0 {p : Program} {l : Launch} {e : Env} {s : State} {m : MethodId} {args : Array Value} {below : List Frame} {meth : Method} {c : Code} (C : CC p s m args meth c yX2_isInfinite cX2_isInfinite 2 (some .boolean))  (v0 : Int64) {w : Int32} (hv : fX2_isInfinite v0 = w) : PJ p l e s m args below meth c 2 0 (.int w) 0 [(0, .long v0)] [] := by
  unfold fX2_isInfinite at hv
  refine jr_lload_n C dX2_isInfinite_0 rfl 0 rfl ?_
  refine jr_ldc2 C kw_295 dX2_isInfinite_1 ?_
  refine jr_land C dX2_isInfinite_4 ?_
  refine jr_ldc2 C kw_296 dX2_isInfinite_5 ?_
  refine jr_lcmp_ne (tgt := 16) C dX2_isInfinite_8 dX2_isInfinite_9 rfl (fun q8 => ?_) (fun q8 => ?_)
  · have hv := (if_neg q8).symm.trans hv
    refine jr_iconst (v := 0) C dX2_isInfinite_16 (by decide) ?_
    exact jp_zret C dX2_isInfinite_17 rfl (congrArg Value.int hv).symm
  · have hv := (if_pos q8).symm.trans hv
    refine jr_iconst (v := 1) C dX2_isInfinite_12 (by decide) ?_
    refine jr_goto (tgt := 17) C dX2_isInfinite_13 rfl ?_
    exact jp_zret C dX2_isInfinite_17 rfl (congrArg Value.int hv).symm
theorem pX2_isInfinite (l : Launch) (v0 : Int64) : pu l yX2_isInfinite cX2_isInfinite 2 (some .boolean) 0 [.long v0] (.int (fX2_isInfinite v0)) := pu_of (by decide +kernel) (Nat.le_of_ble_eq_true rfl) rfl (fun C => tX2_isInfinite_0 C v0 rfl)
/-! RobotCell$Fraction.isZero(J)Z -/
def fX2_isZero (v0 : Int64) : Int32 :=
  if (v0 &&& 9223372036854775807) = 0 then 1 else 0
theorem oX2_isZero : ok_s yX2_isZero cX2_isZero 2 (some .boolean) 1 := ⟨kw_306, kw_305, kw_74, by decide +kernel⟩
set_option maxRecDepth 100000 in
theorem tX2_isZero_0 {p : Program} {l : Launch} {e : Env} {s : State} {m : MethodId} {args : Array Value} {below : List Frame} {meth : Method} {c : Code} (C : CC p s m args meth c yX2_isZero cX2_isZero 2 (some .boolean))  (v0 : Int64) {w : Int32} (hv : fX2_isZero v0 = w) : PJ p l e s m args below meth c 2 0 (.int w) 0 [(0, .long v0)] [] := by
  unfold fX2_isZero at hv
  refine jr_lload_n C dX2_isZero_0 rfl 0 rfl ?_
  refine jr_ldc2 C kw_295 dX2_isZero_1 ?_
  refine jr_land C dX2_isZero_4 ?_
  refine jr_lconst (v := 0) C dX2_isZero_5 (by decide) ?_
  refine jr_lcmp_ne (tgt := 14) C dX2_isZero_6 dX2_isZero_7 rfl (fun q6 => ?_) (fun q6 => ?_)
  · have hv := (if_neg q6).symm.trans hv
    refine jr_iconst (v := 0) C dX2_isZero_14 (by decide) ?_
    exact jp_zret C dX2_isZero_15 rfl (congrArg Value.int hv).symm
  · have hv := (if_pos q6).symm.trans hv
    refine jr_iconst (v := 1) C dX2_isZero_10 (by decide) ?_
    refine jr_goto (tgt := 15) C dX2_isZero_11 rfl ?_
    exact jp_zret C dX2_isZero_15 rfl (congrArg Value.int hv).symm
theorem pX2_isZero (l : Launch) (v0 : Int64) : pu l yX2_isZero cX2_isZero 2 (some .boolean) 0 [.long v0] (.int (fX2_isZero v0)) := pu_of (by decide +kernel) (Nat.le_of_ble_eq_true rfl) rfl (fun C => tX2_isZero_0 C v0 rfl)
/-! RobotCell$Fraction.magnitude(J)J -/
def fX2_magnitude (v0 : Int64) : Int64 :=
  v0 &&& 9223372036854775807
theorem oX2_magnitude : ok_s yX2_magnitude cX2_magnitude 2 (some .long) 1 := ⟨kw_331, kw_330, kw_74, by decide +kernel⟩
set_option maxRecDepth 100000 in
theorem tX2_magnitude_0 {p : Program} {l : Launch} {e : Env} {s : State} {m : MethodId} {args : Array Value} {below : List Frame} {meth : Method} {c : Code} (C : CC p s m args meth c yX2_magnitude cX2_magnitude 2 (some .long))  (v0 : Int64) {w : Int64} (hv : fX2_magnitude v0 = w) : PJ p l e s m args below meth c 2 0 (.long w) 0 [(0, .long v0)] [] := by
  unfold fX2_magnitude at hv
  refine jr_lload_n C dX2_magnitude_0 rfl 0 rfl ?_
  refine jr_ldc2 C kw_295 dX2_magnitude_1 ?_
  refine jr_land C dX2_magnitude_4 ?_
  exact jp_lret C dX2_magnitude_5 (congrArg Value.long hv).symm
theorem pX2_magnitude (l : Launch) (v0 : Int64) : pu l yX2_magnitude cX2_magnitude 2 (some .long) 0 [.long v0] (.long (fX2_magnitude v0)) := pu_of (by decide +kernel) (Nat.le_of_ble_eq_true rfl) rfl (fun C => tX2_magnitude_0 C v0 rfl)
/-! RobotCell$Fraction.signBit(J)J -/
def fX2_signBit (v0 : Int64) : Int64 :=
  v0 &&& (-9223372036854775808)
theorem oX2_signBit : ok_s yX2_signBit cX2_signBit 2 (some .long) 1 := ⟨kw_300, kw_299, kw_74, by decide +kernel⟩
set_option maxRecDepth 100000 in
theorem tX2_signBit_0 {p : Program} {l : Launch} {e : Env} {s : State} {m : MethodId} {args : Array Value} {below : List Frame} {meth : Method} {c : Code} (C : CC p s m args meth c yX2_signBit cX2_signBit 2 (some .long))  (v0 : Int64) {w : Int64} (hv : fX2_signBit v0 = w) : PJ p l e s m args below meth c 2 0 (.long w) 0 [(0, .long v0)] [] := by
  unfold fX2_signBit at hv
  refine jr_lload_n C dX2_signBit_0 rfl 0 rfl ?_
  refine jr_ldc2 C kw_271 dX2_signBit_1 ?_
  refine jr_land C dX2_signBit_4 ?_
  exact jp_lret C dX2_signBit_5 (congrArg Value.long hv).symm
theorem pX2_signBit (l : Launch) (v0 : Int64) : pu l yX2_signBit cX2_signBit 2 (some .long) 0 [.long v0] (.long (fX2_signBit v0)) := pu_of (by decide +kernel) (Nat.le_of_ble_eq_true rfl) rfl (fun C => tX2_signBit_0 C v0 rfl)
/-! RobotCell$Fraction.exponent(J)I -/
def fX2_exponent (v0 : Int64) : Int32 :=
  (((((v0 &&& 9223372036854775807) : Int64).toUInt64 >>> ((52 : Int32).toInt64.toUInt64 &&& Int64.toUInt64 63)).toInt64).toInt32) - 1023
theorem oX2_exponent : ok_s yX2_exponent cX2_exponent 2 (some .int) 1 := ⟨kw_372, kw_371, kw_74, by decide +kernel⟩
set_option maxRecDepth 100000 in
theorem tX2_exponent_0 {p : Program} {l : Launch} {e : Env} {s : State} {m : MethodId} {args : Array Value} {below : List Frame} {meth : Method} {c : Code} (C : CC p s m args meth c yX2_exponent cX2_exponent 2 (some .int))  (v0 : Int64) {w : Int32} (hv : fX2_exponent v0 = w) : PJ p l e s m args below meth c 2 0 (.int w) 0 [(0, .long v0)] [] := by
  unfold fX2_exponent at hv
  refine jr_lload_n C dX2_exponent_0 rfl 0 rfl ?_
  refine jr_ldc2 C kw_295 dX2_exponent_1 ?_
  refine jr_land C dX2_exponent_4 ?_
  refine jr_bipush (v := 52) C dX2_exponent_5 (by decide) ?_
  refine jr_lushr C dX2_exponent_7 ?_
  refine jr_l2i C dX2_exponent_8 ?_
  refine jr_sipush (v := 1023) C dX2_exponent_9 (by decide) ?_
  refine jr_isub C dX2_exponent_12 ?_
  exact jp_iret C dX2_exponent_13 (congrArg Value.int hv).symm
theorem pX2_exponent (l : Launch) (v0 : Int64) : pu l yX2_exponent cX2_exponent 2 (some .int) 0 [.long v0] (.int (fX2_exponent v0)) := pu_of (by decide +kernel) (Nat.le_of_ble_eq_true rfl) rfl (fun C => tX2_exponent_0 C v0 rfl)
/-! RobotCell$Fraction.significand(J)J -/
def fX2_significand_6 (v0 : Int64) (v2 : Int64) : Int64 :=
  if (v0 &&& 9218868437227405312) = 0 then v2 <<< ((((fJ13_numberOfLeadingZeros_95d88 v2) - 11) : Int32).toInt64 &&& 63) else v2 ||| 4503599627370496
def fX2_significand (v0 : Int64) : Int64 :=
  fX2_significand_6 v0 (v0 &&& 4503599627370495)
theorem oX2_significand : ok_s yX2_significand cX2_significand 4 (some .long) 1 := ⟨kw_309, kw_308, kw_74, by decide +kernel⟩
set_option maxRecDepth 100000 in
theorem tX2_significand_6 {p : Program} {l : Launch} {e : Env} {s : State} {m : MethodId} {args : Array Value} {below : List Frame} {meth : Method} {c : Code} (C : CC p s m args meth c yX2_significand cX2_significand 4 (some .long))  (v0 : Int64) (v2 : Int64) {w : Int64} (hv : fX2_significand_6 v0 v2 = w) : PJ p l e s m args below meth c 4 2 (.long w) 6 [(0, .long v0), (2, .long v2)] [] := by
  unfold fX2_significand_6 at hv
  refine jr_lload_n C dX2_significand_6 rfl 0 rfl ?_
  refine jr_ldc2 C kw_296 dX2_significand_7 ?_
  refine jr_land C dX2_significand_10 ?_
  refine jr_lconst (v := 0) C dX2_significand_11 (by decide) ?_
  refine jr_lcmp_eq (tgt := 24) C dX2_significand_12 dX2_significand_13 rfl (fun q12 => ?_) (fun q12 => ?_)
  · have hv := (if_pos q12).symm.trans hv
    refine jr_lload_n C dX2_significand_24 rfl 1 rfl ?_
    refine jr_lload_n C dX2_significand_25 rfl 1 rfl ?_
    refine jr_pcall (rest := [.long v2]) C (pJ13_numberOfLeadingZeros_95d88 l v2) oJ13_numberOfLeadingZeros_95d88 kw_279 rfl ⟨Nat.le_of_ble_eq_true rfl, Nat.le_of_ble_eq_true rfl⟩ rfl (Nat.le_of_ble_eq_true rfl) ⟨Nat.zero_le _, Nat.zero_le _⟩ dX2_significand_26 ?_
    refine jr_bipush (v := 11) C dX2_significand_29 (by decide) ?_
    refine jr_isub C dX2_significand_31 ?_
    refine jr_lshl C dX2_significand_32 ?_
    exact jp_lret C dX2_significand_33 (congrArg Value.long hv).symm
  · have hv := (if_neg q12).symm.trans hv
    refine jr_lload_n C dX2_significand_16 rfl 1 rfl ?_
    refine jr_ldc2 C kw_311 dX2_significand_17 ?_
    refine jr_lor C dX2_significand_20 ?_
    refine jr_goto (tgt := 33) C dX2_significand_21 rfl ?_
    exact jp_lret C dX2_significand_33 (congrArg Value.long hv).symm
set_option maxRecDepth 100000 in
theorem tX2_significand_0 {p : Program} {l : Launch} {e : Env} {s : State} {m : MethodId} {args : Array Value} {below : List Frame} {meth : Method} {c : Code} (C : CC p s m args meth c yX2_significand cX2_significand 4 (some .long))  (v0 : Int64) {w : Int64} (hv : fX2_significand v0 = w) : PJ p l e s m args below meth c 4 2 (.long w) 0 [(0, .long v0)] [] := by
  unfold fX2_significand at hv
  refine jr_lload_n C dX2_significand_0 rfl 0 rfl ?_
  refine jr_ldc2 C kw_310 dX2_significand_1 ?_
  refine jr_land C dX2_significand_4 ?_
  refine jr_lstore_n (lv' := [(2, .long (v0 &&& 4503599627370495)), (0, .long v0)]) C dX2_significand_5 rfl (by decide) rfl ?_
  exact jr_sub [1, 0] rfl (tX2_significand_6 C  v0 (v0 &&& 4503599627370495) hv)
theorem pX2_significand (l : Launch) (v0 : Int64) : pu l yX2_significand cX2_significand 4 (some .long) 2 [.long v0] (.long (fX2_significand v0)) := pu_of (by decide +kernel) (Nat.le_of_ble_eq_true rfl) rfl (fun C => tX2_significand_0 C v0 rfl)
/-! RobotCell$Fraction.scale(J)I -/
def fX2_scale_14 (v0 : Int64) (v2 : Int32) (v3 : Int32) : Int32 :=
  if v3 = 0 then v2 - ((fJ13_numberOfLeadingZeros_95d88 (v0 &&& 4503599627370495)) - 11) else (v2 + v3) - 1
def fX2_scale (v0 : Int64) : Int32 :=
  fX2_scale_14 v0 (-1074) (((((v0 &&& 9218868437227405312) : Int64).toUInt64 >>> ((52 : Int32).toInt64.toUInt64 &&& Int64.toUInt64 63)).toInt64).toInt32)
theorem oX2_scale : ok_s yX2_scale cX2_scale 4 (some .int) 1 := ⟨kw_317, kw_316, kw_74, by decide +kernel⟩
set_option maxRecDepth 100000 in
theorem tX2_scale_14 {p : Program} {l : Launch} {e : Env} {s : State} {m : MethodId} {args : Array Value} {below : List Frame} {meth : Method} {c : Code} (C : CC p s m args meth c yX2_scale cX2_scale 4 (some .int))  (v0 : Int64) (v2 : Int32) (v3 : Int32) {w : Int32} (hv : fX2_scale_14 v0 v2 v3 = w) : PJ p l e s m args below meth c 4 2 (.int w) 14 [(0, .long v0), (2, .int v2), (3, .int v3)] [] := by
  unfold fX2_scale_14 at hv
  refine jr_iload_n C dX2_scale_14 rfl 2 rfl ?_
  refine jr_if_eq (tgt := 26) C dX2_scale_15 rfl (fun q15 => ?_) (fun q15 => ?_)
  · have hv := (if_pos q15).symm.trans hv
    refine jr_iload_n C dX2_scale_26 rfl 1 rfl ?_
    refine jr_lload_n C dX2_scale_27 rfl 0 rfl ?_
    refine jr_ldc2 C kw_310 dX2_scale_28 ?_
    refine jr_land C dX2_scale_31 ?_
    refine jr_pcall (rest := [.int v2]) C (pJ13_numberOfLeadingZeros_95d88 l (v0 &&& 4503599627370495)) oJ13_numberOfLeadingZeros_95d88 kw_279 rfl ⟨Nat.le_of_ble_eq_true rfl, Nat.le_of_ble_eq_true rfl⟩ rfl (Nat.le_of_ble_eq_true rfl) ⟨Nat.zero_le _, Nat.zero_le _⟩ dX2_scale_32 ?_
    refine jr_bipush (v := 11) C dX2_scale_35 (by decide) ?_
    refine jr_isub C dX2_scale_37 ?_
    refine jr_isub C dX2_scale_38 ?_
    exact jp_iret C dX2_scale_39 (congrArg Value.int hv).symm
  · have hv := (if_neg q15).symm.trans hv
    refine jr_iload_n C dX2_scale_18 rfl 1 rfl ?_
    refine jr_iload_n C dX2_scale_19 rfl 2 rfl ?_
    refine jr_iadd C dX2_scale_20 ?_
    refine jr_iconst (v := 1) C dX2_scale_21 (by decide) ?_
    refine jr_isub C dX2_scale_22 ?_
    refine jr_goto (tgt := 39) C dX2_scale_23 rfl ?_
    exact jp_iret C dX2_scale_39 (congrArg Value.int hv).symm
set_option maxRecDepth 100000 in
theorem tX2_scale_0 {p : Program} {l : Launch} {e : Env} {s : State} {m : MethodId} {args : Array Value} {below : List Frame} {meth : Method} {c : Code} (C : CC p s m args meth c yX2_scale cX2_scale 4 (some .int))  (v0 : Int64) {w : Int32} (hv : fX2_scale v0 = w) : PJ p l e s m args below meth c 4 2 (.int w) 0 [(0, .long v0)] [] := by
  unfold fX2_scale at hv
  refine jr_sipush (v := (-1074)) C dX2_scale_0 (by decide) ?_
  refine jr_istore_n (lv' := [(2, .int (-1074)), (0, .long v0)]) C dX2_scale_3 rfl (by decide) rfl ?_
  refine jr_lload_n C dX2_scale_4 rfl 1 rfl ?_
  refine jr_ldc2 C kw_296 dX2_scale_5 ?_
  refine jr_land C dX2_scale_8 ?_
  refine jr_bipush (v := 52) C dX2_scale_9 (by decide) ?_
  refine jr_lushr C dX2_scale_11 ?_
  refine jr_l2i C dX2_scale_12 ?_
  refine jr_istore_n (lv' := [(3, .int (((((v0 &&& 9218868437227405312) : Int64).toUInt64 >>> ((52 : Int32).toInt64.toUInt64 &&& Int64.toUInt64 63)).toInt64).toInt32)), (2, .int (-1074)), (0, .long v0)]) C dX2_scale_13 rfl (by decide) rfl ?_
  exact jr_sub [2, 1, 0] rfl (tX2_scale_14 C  v0 (-1074) (((((v0 &&& 9218868437227405312) : Int64).toUInt64 >>> ((52 : Int32).toInt64.toUInt64 &&& Int64.toUInt64 63)).toInt64).toInt32) hv)
theorem pX2_scale (l : Launch) (v0 : Int64) : pu l yX2_scale cX2_scale 4 (some .int) 2 [.long v0] (.int (fX2_scale v0)) := pu_of (by decide +kernel) (Nat.le_of_ble_eq_true rfl) rfl (fun C => tX2_scale_0 C v0 rfl)
/-! RobotCell$Fraction.nearest(JIII)J -/
def fX2_nearest_135 (v3 : Int32) (v8 : Int32) (v11 : Int64) : Int64 :=
  (((mxI 0 (v8 - 1)).toInt64) <<< ((v3 : Int32).toInt64 &&& 63)) + v11
def fX2_nearest_129 (v3 : Int32) (v8 : Int32) (v11 : Int64) : Int64 :=
  fX2_nearest_135 v3 v8 (v11 + 1)
def fX2_nearest_104 (v3 : Int32) (v8 : Int32) (v11 : Int64) (v13 : Int64) (v15 : Int64) : Int64 :=
  if v15 < v13 then fX2_nearest_129 v3 v8 v11 else (if v13 = v15 then (if (v11 &&& 1) = 0 then fX2_nearest_135 v3 v8 v11 else fX2_nearest_129 v3 v8 v11) else fX2_nearest_135 v3 v8 v11)
def fX2_nearest_96 (v3 : Int32) (v8 : Int32) (v10 : Int32) (v11 : Int64) (v13 : Int64) : Int64 :=
  fX2_nearest_104 v3 v8 v11 v13 (1 <<< (((v10 - 1) : Int32).toInt64 &&& 63))
def fX2_nearest_86 (v3 : Int32) (v6 : Int64) (v8 : Int32) (v10 : Int32) (v11 : Int64) : Int64 :=
  fX2_nearest_96 v3 v8 v10 v11 (v6 - (v11 <<< ((v10 : Int32).toInt64 &&& 63)))
def fX2_nearest_70 (v3 : Int32) (v6 : Int64) (v8 : Int32) (v10 : Int32) : Int64 :=
  if v10 ≤ 63 then fX2_nearest_86 v3 v6 v8 v10 (((v6 : Int64).toUInt64 >>> ((v10 : Int32).toInt64.toUInt64 &&& Int64.toUInt64 63)).toInt64) else 0
def fX2_nearest_42 (v3 : Int32) (v6 : Int64) (v8 : Int32) (v9 : Int32) : Int64 :=
  if v8 < v9 then fX2_nearest_70 v3 v6 v8 ((62 - v3) + (mxI 0 (1 - v8))) else v9.toInt64 <<< ((v3 : Int32).toInt64 &&& 63)
def fX2_nearest_34 (v3 : Int32) (v4 : Int32) (v6 : Int64) (v8 : Int32) : Int64 :=
  fX2_nearest_42 v3 v6 v8 ((2 * v4) + 1)
def fX2_nearest_22 (v2 : Int32) (v3 : Int32) (v4 : Int32) (v5 : Int32) (v6 : Int64) : Int64 :=
  fX2_nearest_34 v3 v4 v6 (((v2 - v5) + 62) + v4)
def fX2_nearest_16 (v0 : Int64) (v2 : Int32) (v3 : Int32) (v4 : Int32) (v5 : Int32) : Int64 :=
  fX2_nearest_22 v2 v3 v4 v5 (v0 <<< ((v5 : Int32).toInt64 &&& 63))
def fX2_nearest (v0 : Int64) (v2 : Int32) (v3 : Int32) (v4 : Int32) : Int64 :=
  if 0 < v0 then fX2_nearest_16 v0 v2 v3 v4 ((fJ13_numberOfLeadingZeros_95d88 v0) - 1) else 0
theorem oX2_nearest : ok_s yX2_nearest cX2_nearest 17 (some .long) 4 := ⟨kw_278, kw_277, kw_74, by decide +kernel⟩
set_option maxRecDepth 100000 in
theorem tX2_nearest_135 {p : Program} {l : Launch} {e : Env} {s : State} {m : MethodId} {args : Array Value} {below : List Frame} {meth : Method} {c : Code} (C : CC p s m args meth c yX2_nearest cX2_nearest 17 (some .long))  (v3 : Int32) (v8 : Int32) (v11 : Int64) {w : Int64} (hv : fX2_nearest_135 v3 v8 v11 = w) : PJ p l e s m args below meth c 17 2 (.long w) 135 [(3, .int v3), (8, .int v8), (11, .long v11)] [] := by
  unfold fX2_nearest_135 at hv
  refine jr_iconst (v := 0) C dX2_nearest_135 (by decide) ?_
  refine jr_iload C dX2_nearest_136 1 rfl ?_
  refine jr_iconst (v := 1) C dX2_nearest_138 (by decide) ?_
  refine jr_isub C dX2_nearest_139 ?_
  refine jr_mxI C kw_286 (Nat.le_of_ble_eq_true rfl) (Nat.le_of_ble_eq_true rfl) (Nat.zero_le _) (Nat.zero_le _) dX2_nearest_140 ?_
  refine jr_i2l C dX2_nearest_143 ?_
  refine jr_iload_n C dX2_nearest_144 rfl 0 rfl ?_
  refine jr_lshl C dX2_nearest_145 ?_
  refine jr_lload C dX2_nearest_146 2 rfl ?_
  refine jr_ladd C dX2_nearest_148 ?_
  exact jp_lret C dX2_nearest_149 (congrArg Value.long hv).symm
set_option maxRecDepth 100000 in
theorem tX2_nearest_129 {p : Program} {l : Launch} {e : Env} {s : State} {m : MethodId} {args : Array Value} {below : List Frame} {meth : Method} {c : Code} (C : CC p s m args meth c yX2_nearest cX2_nearest 17 (some .long))  (v3 : Int32) (v8 : Int32) (v11 : Int64) {w : Int64} (hv : fX2_nearest_129 v3 v8 v11 = w) : PJ p l e s m args below meth c 17 2 (.long w) 129 [(3, .int v3), (8, .int v8), (11, .long v11)] [] := by
  unfold fX2_nearest_129 at hv
  refine jr_lload C dX2_nearest_129 2 rfl ?_
  refine jr_lconst (v := 1) C dX2_nearest_131 (by decide) ?_
  refine jr_ladd C dX2_nearest_132 ?_
  refine jr_lstore (lv' := [(11, .long (v11 + 1)), (3, .int v3), (8, .int v8)]) C dX2_nearest_133 (by decide) rfl ?_
  exact jr_sub [1, 2, 0] rfl (tX2_nearest_135 C  v3 v8 (v11 + 1) hv)
set_option maxRecDepth 100000 in
theorem tX2_nearest_104 {p : Program} {l : Launch} {e : Env} {s : State} {m : MethodId} {args : Array Value} {below : List Frame} {meth : Method} {c : Code} (C : CC p s m args meth c yX2_nearest cX2_nearest 17 (some .long))  (v3 : Int32) (v8 : Int32) (v11 : Int64) (v13 : Int64) (v15 : Int64) {w : Int64} (hv : fX2_nearest_104 v3 v8 v11 v13 v15 = w) : PJ p l e s m args below meth c 17 2 (.long w) 104 [(3, .int v3), (8, .int v8), (11, .long v11), (13, .long v13), (15, .long v15)] [] := by
  unfold fX2_nearest_104 at hv
  refine jr_lload C dX2_nearest_104 3 rfl ?_
  refine jr_lload C dX2_nearest_106 4 rfl ?_
  refine jr_lcmp_gt (tgt := 129) C dX2_nearest_108 dX2_nearest_109 rfl (fun q108 => ?_) (fun q108 => ?_)
  · have hv := (if_pos q108).symm.trans hv
    exact jr_sub [0, 1, 2] rfl (tX2_nearest_129 C  v3 v8 v11 hv)
  · have hv := (if_neg q108).symm.trans hv
    refine jr_lload C dX2_nearest_112 3 rfl ?_
    refine jr_lload C dX2_nearest_114 4 rfl ?_
    refine jr_lcmp_ne (tgt := 135) C dX2_nearest_116 dX2_nearest_117 rfl (fun q116 => ?_) (fun q116 => ?_)
    · have hv := (if_neg q116).symm.trans hv
      exact jr_sub [0, 1, 2] rfl (tX2_nearest_135 C  v3 v8 v11 hv)
    · have hv := (if_pos q116).symm.trans hv
      refine jr_lload C dX2_nearest_120 2 rfl ?_
      refine jr_lconst (v := 1) C dX2_nearest_122 (by decide) ?_
      refine jr_land C dX2_nearest_123 ?_
      refine jr_lconst (v := 0) C dX2_nearest_124 (by decide) ?_
      refine jr_lcmp_eq (tgt := 135) C dX2_nearest_125 dX2_nearest_126 rfl (fun q125 => ?_) (fun q125 => ?_)
      · have hv := (if_pos q125).symm.trans hv
        exact jr_sub [0, 1, 2] rfl (tX2_nearest_135 C  v3 v8 v11 hv)
      · have hv := (if_neg q125).symm.trans hv
        exact jr_sub [0, 1, 2] rfl (tX2_nearest_129 C  v3 v8 v11 hv)
set_option maxRecDepth 100000 in
theorem tX2_nearest_96 {p : Program} {l : Launch} {e : Env} {s : State} {m : MethodId} {args : Array Value} {below : List Frame} {meth : Method} {c : Code} (C : CC p s m args meth c yX2_nearest cX2_nearest 17 (some .long))  (v3 : Int32) (v8 : Int32) (v10 : Int32) (v11 : Int64) (v13 : Int64) {w : Int64} (hv : fX2_nearest_96 v3 v8 v10 v11 v13 = w) : PJ p l e s m args below meth c 17 2 (.long w) 96 [(3, .int v3), (8, .int v8), (10, .int v10), (11, .long v11), (13, .long v13)] [] := by
  unfold fX2_nearest_96 at hv
  refine jr_lconst (v := 1) C dX2_nearest_96 (by decide) ?_
  refine jr_iload C dX2_nearest_97 2 rfl ?_
  refine jr_iconst (v := 1) C dX2_nearest_99 (by decide) ?_
  refine jr_isub C dX2_nearest_100 ?_
  refine jr_lshl C dX2_nearest_101 ?_
  refine jr_lstore (lv' := [(15, .long (1 <<< (((v10 - 1) : Int32).toInt64 &&& 63))), (3, .int v3), (8, .int v8), (10, .int v10), (11, .long v11), (13, .long v13)]) C dX2_nearest_102 (by decide) rfl ?_
  exact jr_sub [1, 2, 4, 5, 0] rfl (tX2_nearest_104 C  v3 v8 v11 v13 (1 <<< (((v10 - 1) : Int32).toInt64 &&& 63)) hv)
set_option maxRecDepth 100000 in
theorem tX2_nearest_86 {p : Program} {l : Launch} {e : Env} {s : State} {m : MethodId} {args : Array Value} {below : List Frame} {meth : Method} {c : Code} (C : CC p s m args meth c yX2_nearest cX2_nearest 17 (some .long))  (v3 : Int32) (v6 : Int64) (v8 : Int32) (v10 : Int32) (v11 : Int64) {w : Int64} (hv : fX2_nearest_86 v3 v6 v8 v10 v11 = w) : PJ p l e s m args below meth c 17 2 (.long w) 86 [(3, .int v3), (6, .long v6), (8, .int v8), (10, .int v10), (11, .long v11)] [] := by
  unfold fX2_nearest_86 at hv
  refine jr_lload C dX2_nearest_86 1 rfl ?_
  refine jr_lload C dX2_nearest_88 4 rfl ?_
  refine jr_iload C dX2_nearest_90 3 rfl ?_
  refine jr_lshl C dX2_nearest_92 ?_
  refine jr_lsub C dX2_nearest_93 ?_
  refine jr_lstore (lv' := [(13, .long (v6 - (v11 <<< ((v10 : Int32).toInt64 &&& 63)))), (3, .int v3), (6, .long v6), (8, .int v8), (10, .int v10), (11, .long v11)]) C dX2_nearest_94 (by decide) rfl ?_
  exact jr_sub [1, 3, 4, 5, 0] rfl (tX2_nearest_96 C  v3 v8 v10 v11 (v6 - (v11 <<< ((v10 : Int32).toInt64 &&& 63))) hv)
set_option maxRecDepth 100000 in
theorem tX2_nearest_70 {p : Program} {l : Launch} {e : Env} {s : State} {m : MethodId} {args : Array Value} {below : List Frame} {meth : Method} {c : Code} (C : CC p s m args meth c yX2_nearest cX2_nearest 17 (some .long))  (v3 : Int32) (v6 : Int64) (v8 : Int32) (v10 : Int32) {w : Int64} (hv : fX2_nearest_70 v3 v6 v8 v10 = w) : PJ p l e s m args below meth c 17 2 (.long w) 70 [(3, .int v3), (6, .long v6), (8, .int v8), (10, .int v10)] [] := by
  unfold fX2_nearest_70 at hv
  refine jr_iload C dX2_nearest_70 3 rfl ?_
  refine jr_bipush (v := 63) C dX2_nearest_72 (by decide) ?_
  refine jr_icmp_le (tgt := 79) C dX2_nearest_74 rfl (fun q74 => ?_) (fun q74 => ?_)
  · have hv := (if_pos q74).symm.trans hv
    refine jr_lload C dX2_nearest_79 1 rfl ?_
    refine jr_iload C dX2_nearest_81 3 rfl ?_
    refine jr_lushr C dX2_nearest_83 ?_
    refine jr_lstore (lv' := [(11, .long (((v6 : Int64).toUInt64 >>> ((v10 : Int32).toInt64.toUInt64 &&& Int64.toUInt64 63)).toInt64)), (3, .int v3), (6, .long v6), (8, .int v8), (10, .int v10)]) C dX2_nearest_84 (by decide) rfl ?_
    exact jr_sub [1, 2, 3, 4, 0] rfl (tX2_nearest_86 C  v3 v6 v8 v10 (((v6 : Int64).toUInt64 >>> ((v10 : Int32).toInt64.toUInt64 &&& Int64.toUInt64 63)).toInt64) hv)
  · have hv := (if_neg q74).symm.trans hv
    refine jr_lconst (v := 0) C dX2_nearest_77 (by decide) ?_
    exact jp_lret C dX2_nearest_78 (congrArg Value.long hv).symm
set_option maxRecDepth 100000 in
theorem tX2_nearest_42 {p : Program} {l : Launch} {e : Env} {s : State} {m : MethodId} {args : Array Value} {below : List Frame} {meth : Method} {c : Code} (C : CC p s m args meth c yX2_nearest cX2_nearest 17 (some .long))  (v3 : Int32) (v6 : Int64) (v8 : Int32) (v9 : Int32) {w : Int64} (hv : fX2_nearest_42 v3 v6 v8 v9 = w) : PJ p l e s m args below meth c 17 2 (.long w) 42 [(3, .int v3), (6, .long v6), (8, .int v8), (9, .int v9)] [] := by
  unfold fX2_nearest_42 at hv
  refine jr_iload C dX2_nearest_42 2 rfl ?_
  refine jr_iload C dX2_nearest_44 3 rfl ?_
  refine jr_icmp_lt (tgt := 55) C dX2_nearest_46 rfl (fun q46 => ?_) (fun q46 => ?_)
  · have hv := (if_pos q46).symm.trans hv
    refine jr_bipush (v := 62) C dX2_nearest_55 (by decide) ?_
    refine jr_iload_n C dX2_nearest_57 rfl 0 rfl ?_
    refine jr_isub C dX2_nearest_58 ?_
    refine jr_iconst (v := 0) C dX2_nearest_59 (by decide) ?_
    refine jr_iconst (v := 1) C dX2_nearest_60 (by decide) ?_
    refine jr_iload C dX2_nearest_61 2 rfl ?_
    refine jr_isub C dX2_nearest_63 ?_
    refine jr_mxI C kw_286 (Nat.le_of_ble_eq_true rfl) (Nat.le_of_ble_eq_true rfl) (Nat.zero_le _) (Nat.zero_le _) dX2_nearest_64 ?_
    refine jr_iadd C dX2_nearest_67 ?_
    refine jr_istore (lv' := [(10, .int ((62 - v3) + (mxI 0 (1 - v8)))), (3, .int v3), (6, .long v6), (8, .int v8), (9, .int v9)]) C dX2_nearest_68 (by decide) rfl ?_
    exact jr_sub [1, 2, 3, 0] rfl (tX2_nearest_70 C  v3 v6 v8 ((62 - v3) + (mxI 0 (1 - v8))) hv)
  · have hv := (if_neg q46).symm.trans hv
    refine jr_iload C dX2_nearest_49 3 rfl ?_
    refine jr_i2l C dX2_nearest_51 ?_
    refine jr_iload_n C dX2_nearest_52 rfl 0 rfl ?_
    refine jr_lshl C dX2_nearest_53 ?_
    exact jp_lret C dX2_nearest_54 (congrArg Value.long hv).symm
set_option maxRecDepth 100000 in
theorem tX2_nearest_34 {p : Program} {l : Launch} {e : Env} {s : State} {m : MethodId} {args : Array Value} {below : List Frame} {meth : Method} {c : Code} (C : CC p s m args meth c yX2_nearest cX2_nearest 17 (some .long))  (v3 : Int32) (v4 : Int32) (v6 : Int64) (v8 : Int32) {w : Int64} (hv : fX2_nearest_34 v3 v4 v6 v8 = w) : PJ p l e s m args below meth c 17 2 (.long w) 34 [(3, .int v3), (4, .int v4), (6, .long v6), (8, .int v8)] [] := by
  unfold fX2_nearest_34 at hv
  refine jr_iconst (v := 2) C dX2_nearest_34 (by decide) ?_
  refine jr_iload C dX2_nearest_35 1 rfl ?_
  refine jr_imul C dX2_nearest_37 ?_
  refine jr_iconst (v := 1) C dX2_nearest_38 (by decide) ?_
  refine jr_iadd C dX2_nearest_39 ?_
  refine jr_istore (lv' := [(9, .int ((2 * v4) + 1)), (3, .int v3), (4, .int v4), (6, .long v6), (8, .int v8)]) C dX2_nearest_40 (by decide) rfl ?_
  exact jr_sub [1, 3, 4, 0] rfl (tX2_nearest_42 C  v3 v6 v8 ((2 * v4) + 1) hv)
set_option maxRecDepth 100000 in
theorem tX2_nearest_22 {p : Program} {l : Launch} {e : Env} {s : State} {m : MethodId} {args : Array Value} {below : List Frame} {meth : Method} {c : Code} (C : CC p s m args meth c yX2_nearest cX2_nearest 17 (some .long))  (v2 : Int32) (v3 : Int32) (v4 : Int32) (v5 : Int32) (v6 : Int64) {w : Int64} (hv : fX2_nearest_22 v2 v3 v4 v5 v6 = w) : PJ p l e s m args below meth c 17 2 (.long w) 22 [(2, .int v2), (3, .int v3), (4, .int v4), (5, .int v5), (6, .long v6)] [] := by
  unfold fX2_nearest_22 at hv
  refine jr_iload_n C dX2_nearest_22 rfl 0 rfl ?_
  refine jr_iload C dX2_nearest_23 3 rfl ?_
  refine jr_isub C dX2_nearest_25 ?_
  refine jr_bipush (v := 62) C dX2_nearest_26 (by decide) ?_
  refine jr_iadd C dX2_nearest_28 ?_
  refine jr_iload C dX2_nearest_29 2 rfl ?_
  refine jr_iadd C dX2_nearest_31 ?_
  refine jr_istore (lv' := [(8, .int (((v2 - v5) + 62) + v4)), (2, .int v2), (3, .int v3), (4, .int v4), (5, .int v5), (6, .long v6)]) C dX2_nearest_32 (by decide) rfl ?_
  exact jr_sub [2, 3, 5, 0] rfl (tX2_nearest_34 C  v3 v4 v6 (((v2 - v5) + 62) + v4) hv)
set_option maxRecDepth 100000 in
theorem tX2_nearest_16 {p : Program} {l : Launch} {e : Env} {s : State} {m : MethodId} {args : Array Value} {below : List Frame} {meth : Method} {c : Code} (C : CC p s m args meth c yX2_nearest cX2_nearest 17 (some .long))  (v0 : Int64) (v2 : Int32) (v3 : Int32) (v4 : Int32) (v5 : Int32) {w : Int64} (hv : fX2_nearest_16 v0 v2 v3 v4 v5 = w) : PJ p l e s m args below meth c 17 2 (.long w) 16 [(0, .long v0), (2, .int v2), (3, .int v3), (4, .int v4), (5, .int v5)] [] := by
  unfold fX2_nearest_16 at hv
  refine jr_lload_n C dX2_nearest_16 rfl 0 rfl ?_
  refine jr_iload C dX2_nearest_17 4 rfl ?_
  refine jr_lshl C dX2_nearest_19 ?_
  refine jr_lstore (lv' := [(6, .long (v0 <<< ((v5 : Int32).toInt64 &&& 63))), (0, .long v0), (2, .int v2), (3, .int v3), (4, .int v4), (5, .int v5)]) C dX2_nearest_20 (by decide) rfl ?_
  exact jr_sub [2, 3, 4, 5, 0] rfl (tX2_nearest_22 C  v2 v3 v4 v5 (v0 <<< ((v5 : Int32).toInt64 &&& 63)) hv)
set_option maxRecDepth 100000 in
theorem tX2_nearest_0 {p : Program} {l : Launch} {e : Env} {s : State} {m : MethodId} {args : Array Value} {below : List Frame} {meth : Method} {c : Code} (C : CC p s m args meth c yX2_nearest cX2_nearest 17 (some .long))  (v0 : Int64) (v2 : Int32) (v3 : Int32) (v4 : Int32) {w : Int64} (hv : fX2_nearest v0 v2 v3 v4 = w) : PJ p l e s m args below meth c 17 2 (.long w) 0 [(0, .long v0), (2, .int v2), (3, .int v3), (4, .int v4)] [] := by
  unfold fX2_nearest at hv
  refine jr_lload_n C dX2_nearest_0 rfl 0 rfl ?_
  refine jr_lconst (v := 0) C dX2_nearest_1 (by decide) ?_
  refine jr_lcmp_gt (tgt := 8) C dX2_nearest_2 dX2_nearest_3 rfl (fun q2 => ?_) (fun q2 => ?_)
  · have hv := (if_pos q2).symm.trans hv
    refine jr_lload_n C dX2_nearest_8 rfl 0 rfl ?_
    refine jr_pcall (rest := []) C (pJ13_numberOfLeadingZeros_95d88 l v0) oJ13_numberOfLeadingZeros_95d88 kw_279 rfl ⟨Nat.le_of_ble_eq_true rfl, Nat.le_of_ble_eq_true rfl⟩ rfl (Nat.le_of_ble_eq_true rfl) ⟨Nat.zero_le _, Nat.zero_le _⟩ dX2_nearest_9 ?_
    refine jr_iconst (v := 1) C dX2_nearest_12 (by decide) ?_
    refine jr_isub C dX2_nearest_13 ?_
    refine jr_istore (lv' := [(5, .int ((fJ13_numberOfLeadingZeros_95d88 v0) - 1)), (0, .long v0), (2, .int v2), (3, .int v3), (4, .int v4)]) C dX2_nearest_14 (by decide) rfl ?_
    exact jr_sub [1, 2, 3, 4, 0] rfl (tX2_nearest_16 C  v0 v2 v3 v4 ((fJ13_numberOfLeadingZeros_95d88 v0) - 1) hv)
  · have hv := (if_neg q2).symm.trans hv
    refine jr_lconst (v := 0) C dX2_nearest_6 (by decide) ?_
    exact jp_lret C dX2_nearest_7 (congrArg Value.long hv).symm
theorem pX2_nearest (l : Launch) (v0 : Int64) (v2 : Int32) (v3 : Int32) (v4 : Int32) : pu l yX2_nearest cX2_nearest 17 (some .long) 2 [.long v0, .int v2, .int v3, .int v4] (.long (fX2_nearest v0 v2 v3 v4)) := pu_of (by decide +kernel) (Nat.le_of_ble_eq_true rfl) rfl (fun C => tX2_nearest_0 C v0 v2 v3 v4 rfl)
/-! RobotCell$Fraction.lowered(JI)J -/
def fX2_lowered_28 (v0 : Int64) (v2 : Int32) (v3 : Int64) : Int64 :=
  if (v3 <<< ((v2 : Int32).toInt64 &&& 63)) = v0 then v3 else v3 ||| 1
def fX2_lowered (v0 : Int64) (v2 : Int32) : Int64 :=
  if 0 < v2 then (if v2 ≤ 62 then fX2_lowered_28 v0 v2 (((v0 : Int64).toUInt64 >>> ((v2 : Int32).toInt64.toUInt64 &&& Int64.toUInt64 63)).toInt64) else (if v0 = 0 then 0 else 1)) else v0
theorem oX2_lowered : ok_s yX2_lowered cX2_lowered 5 (some .long) 2 := ⟨kw_337, kw_336, kw_74, by decide +kernel⟩
set_option maxRecDepth 100000 in
theorem tX2_lowered_28 {p : Program} {l : Launch} {e : Env} {s : State} {m : MethodId} {args : Array Value} {below : List Frame} {meth : Method} {c : Code} (C : CC p s m args meth c yX2_lowered cX2_lowered 5 (some .long))  (v0 : Int64) (v2 : Int32) (v3 : Int64) {w : Int64} (hv : fX2_lowered_28 v0 v2 v3 = w) : PJ p l e s m args below meth c 5 0 (.long w) 28 [(0, .long v0), (2, .int v2), (3, .long v3)] [] := by
  unfold fX2_lowered_28 at hv
  refine jr_lload_n C dX2_lowered_28 rfl 2 rfl ?_
  refine jr_iload_n C dX2_lowered_29 rfl 1 rfl ?_
  refine jr_lshl C dX2_lowered_30 ?_
  refine jr_lload_n C dX2_lowered_31 rfl 0 rfl ?_
  refine jr_lcmp_ne (tgt := 40) C dX2_lowered_32 dX2_lowered_33 rfl (fun q32 => ?_) (fun q32 => ?_)
  · have hv := (if_neg q32).symm.trans hv
    refine jr_lload_n C dX2_lowered_40 rfl 2 rfl ?_
    refine jr_lconst (v := 1) C dX2_lowered_41 (by decide) ?_
    refine jr_lor C dX2_lowered_42 ?_
    exact jp_lret C dX2_lowered_43 (congrArg Value.long hv).symm
  · have hv := (if_pos q32).symm.trans hv
    refine jr_lload_n C dX2_lowered_36 rfl 2 rfl ?_
    refine jr_goto (tgt := 43) C dX2_lowered_37 rfl ?_
    exact jp_lret C dX2_lowered_43 (congrArg Value.long hv).symm
set_option maxRecDepth 100000 in
theorem tX2_lowered_0 {p : Program} {l : Launch} {e : Env} {s : State} {m : MethodId} {args : Array Value} {below : List Frame} {meth : Method} {c : Code} (C : CC p s m args meth c yX2_lowered cX2_lowered 5 (some .long))  (v0 : Int64) (v2 : Int32) {w : Int64} (hv : fX2_lowered v0 v2 = w) : PJ p l e s m args below meth c 5 0 (.long w) 0 [(0, .long v0), (2, .int v2)] [] := by
  unfold fX2_lowered at hv
  refine jr_iload_n C dX2_lowered_0 rfl 1 rfl ?_
  refine jr_if_gt (tgt := 6) C dX2_lowered_1 rfl (fun q1 => ?_) (fun q1 => ?_)
  · have hv := (if_pos q1).symm.trans hv
    refine jr_iload_n C dX2_lowered_6 rfl 1 rfl ?_
    refine jr_bipush (v := 62) C dX2_lowered_7 (by decide) ?_
    refine jr_icmp_le (tgt := 24) C dX2_lowered_9 rfl (fun q9 => ?_) (fun q9 => ?_)
    · have hv := (if_pos q9).symm.trans hv
      refine jr_lload_n C dX2_lowered_24 rfl 0 rfl ?_
      refine jr_iload_n C dX2_lowered_25 rfl 1 rfl ?_
      refine jr_lushr C dX2_lowered_26 ?_
      refine jr_lstore_n (lv' := [(3, .long (((v0 : Int64).toUInt64 >>> ((v2 : Int32).toInt64.toUInt64 &&& Int64.toUInt64 63)).toInt64)), (0, .long v0), (2, .int v2)]) C dX2_lowered_27 rfl (by decide) rfl ?_
      exact jr_sub [1, 2, 0] rfl (tX2_lowered_28 C  v0 v2 (((v0 : Int64).toUInt64 >>> ((v2 : Int32).toInt64.toUInt64 &&& Int64.toUInt64 63)).toInt64) hv)
    · have hv := (if_neg q9).symm.trans hv
      refine jr_lload_n C dX2_lowered_12 rfl 0 rfl ?_
      refine jr_lconst (v := 0) C dX2_lowered_13 (by decide) ?_
      refine jr_lcmp_eq (tgt := 22) C dX2_lowered_14 dX2_lowered_15 rfl (fun q14 => ?_) (fun q14 => ?_)
      · have hv := (if_pos q14).symm.trans hv
        refine jr_lconst (v := 0) C dX2_lowered_22 (by decide) ?_
        exact jp_lret C dX2_lowered_23 (congrArg Value.long hv).symm
      · have hv := (if_neg q14).symm.trans hv
        refine jr_lconst (v := 1) C dX2_lowered_18 (by decide) ?_
        refine jr_goto (tgt := 23) C dX2_lowered_19 rfl ?_
        exact jp_lret C dX2_lowered_23 (congrArg Value.long hv).symm
  · have hv := (if_neg q1).symm.trans hv
    refine jr_lload_n C dX2_lowered_4 rfl 0 rfl ?_
    exact jp_lret C dX2_lowered_5 (congrArg Value.long hv).symm
theorem pX2_lowered (l : Launch) (v0 : Int64) (v2 : Int32) : pu l yX2_lowered cX2_lowered 5 (some .long) 0 [.long v0, .int v2] (.long (fX2_lowered v0 v2)) := pu_of (by decide +kernel) (Nat.le_of_ble_eq_true rfl) rfl (fun C => tX2_lowered_0 C v0 v2 rfl)
/-! RobotCell$Fraction.ofBits(J)J -/
def fX2_ofBits (v0 : Int64) : Int64 :=
  if (fX2_isLost v0) = 0 then v0 else 9221120237041090560
theorem oX2_ofBits : ok_s yX2_ofBits cX2_ofBits 2 (some .long) 1 := ⟨kw_487, kw_486, kw_74, by decide +kernel⟩
set_option maxRecDepth 100000 in
theorem tX2_ofBits_0 {p : Program} {l : Launch} {e : Env} {s : State} {m : MethodId} {args : Array Value} {below : List Frame} {meth : Method} {c : Code} (C : CC p s m args meth c yX2_ofBits cX2_ofBits 2 (some .long))  (v0 : Int64) {w : Int64} (hv : fX2_ofBits v0 = w) : PJ p l e s m args below meth c 2 1 (.long w) 0 [(0, .long v0)] [] := by
  unfold fX2_ofBits at hv
  refine jr_lload_n C dX2_ofBits_0 rfl 0 rfl ?_
  refine jr_pcall (rest := []) C (pX2_isLost l v0) oX2_isLost kw_292 rfl ⟨Nat.le_of_ble_eq_true rfl, Nat.le_of_ble_eq_true rfl⟩ rfl (Nat.le_of_ble_eq_true rfl) ⟨Nat.zero_le _, Nat.zero_le _⟩ dX2_ofBits_1 ?_
  refine jr_if_eq (tgt := 13) C dX2_ofBits_4 rfl (fun q4 => ?_) (fun q4 => ?_)
  · have hv := (if_pos q4).symm.trans hv
    refine jr_lload_n C dX2_ofBits_13 rfl 0 rfl ?_
    exact jp_lret C dX2_ofBits_14 (congrArg Value.long hv).symm
  · have hv := (if_neg q4).symm.trans hv
    refine jr_ldc2 C kw_297 dX2_ofBits_7 ?_
    refine jr_goto (tgt := 14) C dX2_ofBits_10 rfl ?_
    exact jp_lret C dX2_ofBits_14 (congrArg Value.long hv).symm
theorem pX2_ofBits (l : Launch) (v0 : Int64) : pu l yX2_ofBits cX2_ofBits 2 (some .long) 1 [.long v0] (.long (fX2_ofBits v0)) := pu_of (by decide +kernel) (Nat.le_of_ble_eq_true rfl) rfl (fun C => tX2_ofBits_0 C v0 rfl)
/-! RobotCell$Fraction.ofBits32(I)J -/
def fX2_ofBits32_86 (t0 : Int64) (t1 : Int64) (t2 : Int32) : Int64 :=
  t0 ||| (fX2_nearest t1 ((t2 - 127) - 23) 52 1023)
def fX2_ofBits32_70 (v2 : Int64) (v4 : Int32) (t0 : Int64) : Int64 :=
  if v4 = 0 then fX2_ofBits32_86 v2 t0 1 else fX2_ofBits32_86 v2 t0 v4
def fX2_ofBits32_51 (v2 : Int64) (v4 : Int32) (v5 : Int32) : Int64 :=
  if v4 = 0 then fX2_ofBits32_70 v2 v4 v5.toInt64 else fX2_ofBits32_70 v2 v4 (((v5 + 8388607) + 1).toInt64)
def fX2_ofBits32_45 (v1 : Int32) (v2 : Int64) (v4 : Int32) : Int64 :=
  fX2_ofBits32_51 v2 v4 (v1 &&& 8388607)
def fX2_ofBits32_16 (v1 : Int32) (t0 : Int64) : Int64 :=
  if v1 ≤ 2139095040 then (if v1 = 2139095040 then t0 ||| 9218868437227405312 else fX2_ofBits32_45 v1 t0 (((v1).toUInt32 >>> ((23 : Int32).toUInt32 &&& Int32.toUInt32 31)).toInt32)) else 9221120237041090560
def fX2_ofBits32_5 (v0 : Int32) (v1 : Int32) : Int64 :=
  if 0 ≤ v0 then fX2_ofBits32_16 v1 0 else fX2_ofBits32_16 v1 (-9223372036854775808)
def fX2_ofBits32 (v0 : Int32) : Int64 :=
  fX2_ofBits32_5 v0 (v0 &&& 2147483647)
theorem oX2_ofBits32 : ok_s yX2_ofBits32 cX2_ofBits32 8 (some .long) 1 := ⟨kw_415, kw_414, kw_74, by decide +kernel⟩
set_option maxRecDepth 100000 in
theorem tX2_ofBits32_86 {p : Program} {l : Launch} {e : Env} {s : State} {m : MethodId} {args : Array Value} {below : List Frame} {meth : Method} {c : Code} (C : CC p s m args meth c yX2_ofBits32 cX2_ofBits32 8 (some .long))  (t0 : Int64) (t1 : Int64) (t2 : Int32) {w : Int64} (hv : fX2_ofBits32_86 t0 t1 t2 = w) : PJ p l e s m args below meth c 8 3 (.long w) 86 [] [.int t2, .long t1, .long t0] := by
  unfold fX2_ofBits32_86 at hv
  refine jr_bipush (v := 127) C dX2_ofBits32_86 (by decide) ?_
  refine jr_isub C dX2_ofBits32_88 ?_
  refine jr_bipush (v := 23) C dX2_ofBits32_89 (by decide) ?_
  refine jr_isub C dX2_ofBits32_91 ?_
  refine jr_bipush (v := 52) C dX2_ofBits32_92 (by decide) ?_
  refine jr_sipush (v := 1023) C dX2_ofBits32_94 (by decide) ?_
  refine jr_pcall (rest := [.long t0]) C (pX2_nearest l t1 ((t2 - 127) - 23) 52 1023) oX2_nearest kw_276 rfl ⟨Nat.le_of_ble_eq_true rfl, Nat.le_of_ble_eq_true rfl⟩ rfl (Nat.le_of_ble_eq_true rfl) ⟨Nat.zero_le _, Nat.zero_le _⟩ dX2_ofBits32_97 ?_
  refine jr_lor C dX2_ofBits32_100 ?_
  exact jp_lret C dX2_ofBits32_101 (congrArg Value.long hv).symm
set_option maxRecDepth 100000 in
theorem tX2_ofBits32_70 {p : Program} {l : Launch} {e : Env} {s : State} {m : MethodId} {args : Array Value} {below : List Frame} {meth : Method} {c : Code} (C : CC p s m args meth c yX2_ofBits32 cX2_ofBits32 8 (some .long))  (v2 : Int64) (v4 : Int32) (t0 : Int64) {w : Int64} (hv : fX2_ofBits32_70 v2 v4 t0 = w) : PJ p l e s m args below meth c 8 3 (.long w) 70 [(2, .long v2), (4, .int v4)] [.long t0] := by
  unfold fX2_ofBits32_70 at hv
  refine jr_lstore (lv' := [(6, .long t0), (2, .long v2), (4, .int v4)]) C dX2_ofBits32_70 (by decide) rfl ?_
  refine jr_lload_n C dX2_ofBits32_72 rfl 1 rfl ?_
  refine jr_lload C dX2_ofBits32_73 0 rfl ?_
  refine jr_iload C dX2_ofBits32_75 2 rfl ?_
  refine jr_if_eq (tgt := 85) C dX2_ofBits32_77 rfl (fun q77 => ?_) (fun q77 => ?_)
  · have hv := (if_pos q77).symm.trans hv
    refine jr_iconst (v := 1) C dX2_ofBits32_85 (by decide) ?_
    exact jr_sub [] rfl (tX2_ofBits32_86 C  v2 t0 1 hv)
  · have hv := (if_neg q77).symm.trans hv
    refine jr_iload C dX2_ofBits32_80 2 rfl ?_
    refine jr_goto (tgt := 86) C dX2_ofBits32_82 rfl ?_
    exact jr_sub [] rfl (tX2_ofBits32_86 C  v2 t0 v4 hv)
set_option maxRecDepth 100000 in
theorem tX2_ofBits32_51 {p : Program} {l : Launch} {e : Env} {s : State} {m : MethodId} {args : Array Value} {below : List Frame} {meth : Method} {c : Code} (C : CC p s m args meth c yX2_ofBits32 cX2_ofBits32 8 (some .long))  (v2 : Int64) (v4 : Int32) (v5 : Int32) {w : Int64} (hv : fX2_ofBits32_51 v2 v4 v5 = w) : PJ p l e s m args below meth c 8 3 (.long w) 51 [(2, .long v2), (4, .int v4), (5, .int v5)] [] := by
  unfold fX2_ofBits32_51 at hv
  refine jr_iload C dX2_ofBits32_51 1 rfl ?_
  refine jr_if_eq (tgt := 67) C dX2_ofBits32_53 rfl (fun q53 => ?_) (fun q53 => ?_)
  · have hv := (if_pos q53).symm.trans hv
    refine jr_iload C dX2_ofBits32_67 2 rfl ?_
    refine jr_i2l C dX2_ofBits32_69 ?_
    exact jr_sub [0, 1] rfl (tX2_ofBits32_70 C  v2 v4 v5.toInt64 hv)
  · have hv := (if_neg q53).symm.trans hv
    refine jr_iload C dX2_ofBits32_56 2 rfl ?_
    refine jr_ldc C kw_417 dX2_ofBits32_58 ?_
    refine jr_iadd C dX2_ofBits32_60 ?_
    refine jr_iconst (v := 1) C dX2_ofBits32_61 (by decide) ?_
    refine jr_iadd C dX2_ofBits32_62 ?_
    refine jr_i2l C dX2_ofBits32_63 ?_
    refine jr_goto (tgt := 70) C dX2_ofBits32_64 rfl ?_
    exact jr_sub [0, 1] rfl (tX2_ofBits32_70 C  v2 v4 (((v5 + 8388607) + 1).toInt64) hv)
set_option maxRecDepth 100000 in
theorem tX2_ofBits32_45 {p : Program} {l : Launch} {e : Env} {s : State} {m : MethodId} {args : Array Value} {below : List Frame} {meth : Method} {c : Code} (C : CC p s m args meth c yX2_ofBits32 cX2_ofBits32 8 (some .long))  (v1 : Int32) (v2 : Int64) (v4 : Int32) {w : Int64} (hv : fX2_ofBits32_45 v1 v2 v4 = w) : PJ p l e s m args below meth c 8 3 (.long w) 45 [(1, .int v1), (2, .long v2), (4, .int v4)] [] := by
  unfold fX2_ofBits32_45 at hv
  refine jr_iload_n C dX2_ofBits32_45 rfl 0 rfl ?_
  refine jr_ldc C kw_417 dX2_ofBits32_46 ?_
  refine jr_iand C dX2_ofBits32_48 ?_
  refine jr_istore (lv' := [(5, .int (v1 &&& 8388607)), (1, .int v1), (2, .long v2), (4, .int v4)]) C dX2_ofBits32_49 (by decide) rfl ?_
  exact jr_sub [2, 3, 0] rfl (tX2_ofBits32_51 C  v2 v4 (v1 &&& 8388607) hv)
set_option maxRecDepth 100000 in
theorem tX2_ofBits32_16 {p : Program} {l : Launch} {e : Env} {s : State} {m : MethodId} {args : Array Value} {below : List Frame} {meth : Method} {c : Code} (C : CC p s m args meth c yX2_ofBits32 cX2_ofBits32 8 (some .long))  (v1 : Int32) (t0 : Int64) {w : Int64} (hv : fX2_ofBits32_16 v1 t0 = w) : PJ p l e s m args below meth c 8 3 (.long w) 16 [(1, .int v1)] [.long t0] := by
  unfold fX2_ofBits32_16 at hv
  refine jr_lstore_n (lv' := [(2, .long t0), (1, .int v1)]) C dX2_ofBits32_16 rfl (by decide) rfl ?_
  refine jr_iload_n C dX2_ofBits32_17 rfl 1 rfl ?_
  refine jr_ldc C kw_412 dX2_ofBits32_18 ?_
  refine jr_icmp_le (tgt := 27) C dX2_ofBits32_20 rfl (fun q20 => ?_) (fun q20 => ?_)
  · have hv := (if_pos q20).symm.trans hv
    refine jr_iload_n C dX2_ofBits32_27 rfl 1 rfl ?_
    refine jr_ldc C kw_412 dX2_ofBits32_28 ?_
    refine jr_icmp_ne (tgt := 39) C dX2_ofBits32_30 rfl (fun q30 => ?_) (fun q30 => ?_)
    · have hv := (if_neg q30).symm.trans hv
      refine jr_iload_n C dX2_ofBits32_39 rfl 1 rfl ?_
      refine jr_bipush (v := 23) C dX2_ofBits32_40 (by decide) ?_
      refine jr_iushr C dX2_ofBits32_42 ?_
      refine jr_istore (lv' := [(4, .int (((v1).toUInt32 >>> ((23 : Int32).toUInt32 &&& Int32.toUInt32 31)).toInt32)), (2, .long t0), (1, .int v1)]) C dX2_ofBits32_43 (by decide) rfl ?_
      exact jr_sub [2, 1, 0] rfl (tX2_ofBits32_45 C  v1 t0 (((v1).toUInt32 >>> ((23 : Int32).toUInt32 &&& Int32.toUInt32 31)).toInt32) hv)
    · have hv := (if_pos q30).symm.trans hv
      refine jr_lload_n C dX2_ofBits32_33 rfl 0 rfl ?_
      refine jr_ldc2 C kw_296 dX2_ofBits32_34 ?_
      refine jr_lor C dX2_ofBits32_37 ?_
      exact jp_lret C dX2_ofBits32_38 (congrArg Value.long hv).symm
  · have hv := (if_neg q20).symm.trans hv
    refine jr_ldc2 C kw_297 dX2_ofBits32_23 ?_
    exact jp_lret C dX2_ofBits32_26 (congrArg Value.long hv).symm
set_option maxRecDepth 100000 in
theorem tX2_ofBits32_5 {p : Program} {l : Launch} {e : Env} {s : State} {m : MethodId} {args : Array Value} {below : List Frame} {meth : Method} {c : Code} (C : CC p s m args meth c yX2_ofBits32 cX2_ofBits32 8 (some .long))  (v0 : Int32) (v1 : Int32) {w : Int64} (hv : fX2_ofBits32_5 v0 v1 = w) : PJ p l e s m args below meth c 8 3 (.long w) 5 [(0, .int v0), (1, .int v1)] [] := by
  unfold fX2_ofBits32_5 at hv
  refine jr_iload_n C dX2_ofBits32_5 rfl 0 rfl ?_
  refine jr_if_ge (tgt := 15) C dX2_ofBits32_6 rfl (fun q6 => ?_) (fun q6 => ?_)
  · have hv := (if_pos q6).symm.trans hv
    refine jr_lconst (v := 0) C dX2_ofBits32_15 (by decide) ?_
    exact jr_sub [1] rfl (tX2_ofBits32_16 C  v1 0 hv)
  · have hv := (if_neg q6).symm.trans hv
    refine jr_ldc2 C kw_271 dX2_ofBits32_9 ?_
    refine jr_goto (tgt := 16) C dX2_ofBits32_12 rfl ?_
    exact jr_sub [1] rfl (tX2_ofBits32_16 C  v1 (-9223372036854775808) hv)
set_option maxRecDepth 100000 in
theorem tX2_ofBits32_0 {p : Program} {l : Launch} {e : Env} {s : State} {m : MethodId} {args : Array Value} {below : List Frame} {meth : Method} {c : Code} (C : CC p s m args meth c yX2_ofBits32 cX2_ofBits32 8 (some .long))  (v0 : Int32) {w : Int64} (hv : fX2_ofBits32 v0 = w) : PJ p l e s m args below meth c 8 3 (.long w) 0 [(0, .int v0)] [] := by
  unfold fX2_ofBits32 at hv
  refine jr_iload_n C dX2_ofBits32_0 rfl 0 rfl ?_
  refine jr_ldc C kw_416 dX2_ofBits32_1 ?_
  refine jr_iand C dX2_ofBits32_3 ?_
  refine jr_istore_n (lv' := [(1, .int (v0 &&& 2147483647)), (0, .int v0)]) C dX2_ofBits32_4 rfl (by decide) rfl ?_
  exact jr_sub [1, 0] rfl (tX2_ofBits32_5 C  v0 (v0 &&& 2147483647) hv)
theorem pX2_ofBits32 (l : Launch) (v0 : Int32) : pu l yX2_ofBits32 cX2_ofBits32 8 (some .long) 3 [.int v0] (.long (fX2_ofBits32 v0)) := pu_of (by decide +kernel) (Nat.le_of_ble_eq_true rfl) rfl (fun C => tX2_ofBits32_0 C v0 rfl)
/-! RobotCell$Fraction.toBits32(J)I -/
def fX2_toBits32_22 (v0 : Int64) (t0 : Int32) : Int32 :=
  if (fX2_isInfinite v0) = 0 then t0 ||| ((fX2_nearest (fX2_significand v0) (fX2_scale v0) 23 127).toInt32) else t0 ||| 2139095040
def fX2_toBits32 (v0 : Int64) : Int32 :=
  if (fX2_isLost v0) = 0 then (if 0 ≤ v0 then fX2_toBits32_22 v0 0 else fX2_toBits32_22 v0 (-2147483648)) else 2143289344
theorem oX2_toBits32 : ok_s yX2_toBits32 cX2_toBits32 3 (some .int) 1 := ⟨kw_409, kw_408, kw_74, by decide +kernel⟩
set_option maxRecDepth 100000 in
theorem tX2_toBits32_22 {p : Program} {l : Launch} {e : Env} {s : State} {m : MethodId} {args : Array Value} {below : List Frame} {meth : Method} {c : Code} (C : CC p s m args meth c yX2_toBits32 cX2_toBits32 3 (some .int))  (v0 : Int64) (t0 : Int32) {w : Int32} (hv : fX2_toBits32_22 v0 t0 = w) : PJ p l e s m args below meth c 3 3 (.int w) 22 [(0, .long v0)] [.int t0] := by
  unfold fX2_toBits32_22 at hv
  refine jr_istore_n (lv' := [(2, .int t0), (0, .long v0)]) C dX2_toBits32_22 rfl (by decide) rfl ?_
  refine jr_lload_n C dX2_toBits32_23 rfl 1 rfl ?_
  refine jr_pcall (rest := []) C (pX2_isInfinite l v0) oX2_isInfinite kw_301 rfl ⟨Nat.le_of_ble_eq_true rfl, Nat.le_of_ble_eq_true rfl⟩ rfl (Nat.le_of_ble_eq_true rfl) ⟨Nat.zero_le _, Nat.zero_le _⟩ dX2_toBits32_24 ?_
  refine jr_if_eq (tgt := 35) C dX2_toBits32_27 rfl (fun q27 => ?_) (fun q27 => ?_)
  · have hv := (if_pos q27).symm.trans hv
    refine jr_iload_n C dX2_toBits32_35 rfl 0 rfl ?_
    refine jr_lload_n C dX2_toBits32_36 rfl 1 rfl ?_
    refine jr_pcall (rest := [.int t0]) C (pX2_significand l v0) oX2_significand kw_307 rfl ⟨Nat.le_of_ble_eq_true rfl, Nat.le_of_ble_eq_true rfl⟩ rfl (Nat.le_of_ble_eq_true rfl) ⟨Nat.zero_le _, Nat.zero_le _⟩ dX2_toBits32_37 ?_
    refine jr_lload_n C dX2_toBits32_40 rfl 1 rfl ?_
    refine jr_pcall (rest := [.long (fX2_significand v0), .int t0]) C (pX2_scale l v0) oX2_scale kw_315 rfl ⟨Nat.le_of_ble_eq_true rfl, Nat.le_of_ble_eq_true rfl⟩ rfl (Nat.le_of_ble_eq_true rfl) ⟨Nat.zero_le _, Nat.zero_le _⟩ dX2_toBits32_41 ?_
    refine jr_bipush (v := 23) C dX2_toBits32_44 (by decide) ?_
    refine jr_bipush (v := 127) C dX2_toBits32_46 (by decide) ?_
    refine jr_pcall (rest := [.int t0]) C (pX2_nearest l (fX2_significand v0) (fX2_scale v0) 23 127) oX2_nearest kw_276 rfl ⟨Nat.le_of_ble_eq_true rfl, Nat.le_of_ble_eq_true rfl⟩ rfl (Nat.le_of_ble_eq_true rfl) ⟨Nat.zero_le _, Nat.zero_le _⟩ dX2_toBits32_48 ?_
    refine jr_l2i C dX2_toBits32_51 ?_
    refine jr_ior C dX2_toBits32_52 ?_
    exact jp_iret C dX2_toBits32_53 (congrArg Value.int hv).symm
  · have hv := (if_neg q27).symm.trans hv
    refine jr_iload_n C dX2_toBits32_30 rfl 0 rfl ?_
    refine jr_ldc C kw_412 dX2_toBits32_31 ?_
    refine jr_ior C dX2_toBits32_33 ?_
    exact jp_iret C dX2_toBits32_34 (congrArg Value.int hv).symm
set_option maxRecDepth 100000 in
theorem tX2_toBits32_0 {p : Program} {l : Launch} {e : Env} {s : State} {m : MethodId} {args : Array Value} {below : List Frame} {meth : Method} {c : Code} (C : CC p s m args meth c yX2_toBits32 cX2_toBits32 3 (some .int))  (v0 : Int64) {w : Int32} (hv : fX2_toBits32 v0 = w) : PJ p l e s m args below meth c 3 3 (.int w) 0 [(0, .long v0)] [] := by
  unfold fX2_toBits32 at hv
  refine jr_lload_n C dX2_toBits32_0 rfl 0 rfl ?_
  refine jr_pcall (rest := []) C (pX2_isLost l v0) oX2_isLost kw_292 rfl ⟨Nat.le_of_ble_eq_true rfl, Nat.le_of_ble_eq_true rfl⟩ rfl (Nat.le_of_ble_eq_true rfl) ⟨Nat.zero_le _, Nat.zero_le _⟩ dX2_toBits32_1 ?_
  refine jr_if_eq (tgt := 10) C dX2_toBits32_4 rfl (fun q4 => ?_) (fun q4 => ?_)
  · have hv := (if_pos q4).symm.trans hv
    refine jr_lload_n C dX2_toBits32_10 rfl 0 rfl ?_
    refine jr_lconst (v := 0) C dX2_toBits32_11 (by decide) ?_
    refine jr_lcmp_ge (tgt := 21) C dX2_toBits32_12 dX2_toBits32_13 rfl (fun q12 => ?_) (fun q12 => ?_)
    · have hv := (if_pos q12).symm.trans hv
      refine jr_iconst (v := 0) C dX2_toBits32_21 (by decide) ?_
      exact tX2_toBits32_22 C  v0 0 hv
    · have hv := (if_neg q12).symm.trans hv
      refine jr_ldc C kw_411 dX2_toBits32_16 ?_
      refine jr_goto (tgt := 22) C dX2_toBits32_18 rfl ?_
      exact tX2_toBits32_22 C  v0 (-2147483648) hv
  · have hv := (if_neg q4).symm.trans hv
    refine jr_ldc C kw_410 dX2_toBits32_7 ?_
    exact jp_iret C dX2_toBits32_9 (congrArg Value.int hv).symm
theorem pX2_toBits32 (l : Launch) (v0 : Int64) : pu l yX2_toBits32 cX2_toBits32 3 (some .int) 3 [.long v0] (.int (fX2_toBits32 v0)) := pu_of (by decide +kernel) (Nat.le_of_ble_eq_true rfl) rfl (fun C => tX2_toBits32_0 C v0 rfl)
/-! RobotCell$Fraction.nearestToWhole(JII)J -/
def fX2_nearestToWhole_30 (v2 : Int32) (v3 : Int32) (t0 : Int64) : Int64 :=
  fX2_nearest t0 0 v2 v3
def fX2_nearestToWhole (v0 : Int64) (v2 : Int32) (v3 : Int32) : Int64 :=
  if v0 = (-9223372036854775808) then fX2_nearest 4611686018427387904 1 v2 v3 else (if 0 ≤ v0 then fX2_nearestToWhole_30 v2 v3 v0 else fX2_nearestToWhole_30 v2 v3 (-v0))
theorem oX2_nearestToWhole : ok_s yX2_nearestToWhole cX2_nearestToWhole 4 (some .long) 3 := ⟨kw_274, kw_273, kw_74, by decide +kernel⟩
set_option maxRecDepth 100000 in
theorem tX2_nearestToWhole_30 {p : Program} {l : Launch} {e : Env} {s : State} {m : MethodId} {args : Array Value} {below : List Frame} {meth : Method} {c : Code} (C : CC p s m args meth c yX2_nearestToWhole cX2_nearestToWhole 4 (some .long))  (v2 : Int32) (v3 : Int32) (t0 : Int64) {w : Int64} (hv : fX2_nearestToWhole_30 v2 v3 t0 = w) : PJ p l e s m args below meth c 4 3 (.long w) 30 [(2, .int v2), (3, .int v3)] [.long t0] := by
  unfold fX2_nearestToWhole_30 at hv
  refine jr_iconst (v := 0) C dX2_nearestToWhole_30 (by decide) ?_
  refine jr_iload_n C dX2_nearestToWhole_31 rfl 0 rfl ?_
  refine jr_iload_n C dX2_nearestToWhole_32 rfl 1 rfl ?_
  refine jr_pcall (rest := []) C (pX2_nearest l t0 0 v2 v3) oX2_nearest kw_276 rfl ⟨Nat.le_of_ble_eq_true rfl, Nat.le_of_ble_eq_true rfl⟩ rfl (Nat.le_of_ble_eq_true rfl) ⟨Nat.zero_le _, Nat.zero_le _⟩ dX2_nearestToWhole_33 ?_
  exact jp_lret C dX2_nearestToWhole_36 (congrArg Value.long hv).symm
set_option maxRecDepth 100000 in
theorem tX2_nearestToWhole_0 {p : Program} {l : Launch} {e : Env} {s : State} {m : MethodId} {args : Array Value} {below : List Frame} {meth : Method} {c : Code} (C : CC p s m args meth c yX2_nearestToWhole cX2_nearestToWhole 4 (some .long))  (v0 : Int64) (v2 : Int32) (v3 : Int32) {w : Int64} (hv : fX2_nearestToWhole v0 v2 v3 = w) : PJ p l e s m args below meth c 4 3 (.long w) 0 [(0, .long v0), (2, .int v2), (3, .int v3)] [] := by
  unfold fX2_nearestToWhole at hv
  refine jr_lload_n C dX2_nearestToWhole_0 rfl 0 rfl ?_
  refine jr_ldc2 C kw_271 dX2_nearestToWhole_1 ?_
  refine jr_lcmp_ne (tgt := 18) C dX2_nearestToWhole_4 dX2_nearestToWhole_5 rfl (fun q4 => ?_) (fun q4 => ?_)
  · have hv := (if_neg q4).symm.trans hv
    refine jr_lload_n C dX2_nearestToWhole_18 rfl 0 rfl ?_
    refine jr_lconst (v := 0) C dX2_nearestToWhole_19 (by decide) ?_
    refine jr_lcmp_ge (tgt := 29) C dX2_nearestToWhole_20 dX2_nearestToWhole_21 rfl (fun q20 => ?_) (fun q20 => ?_)
    · have hv := (if_pos q20).symm.trans hv
      refine jr_lload_n C dX2_nearestToWhole_29 rfl 0 rfl ?_
      exact jr_sub [1, 2] rfl (tX2_nearestToWhole_30 C  v2 v3 v0 hv)
    · have hv := (if_neg q20).symm.trans hv
      refine jr_lload_n C dX2_nearestToWhole_24 rfl 0 rfl ?_
      refine jr_lneg C dX2_nearestToWhole_25 ?_
      refine jr_goto (tgt := 30) C dX2_nearestToWhole_26 rfl ?_
      exact jr_sub [1, 2] rfl (tX2_nearestToWhole_30 C  v2 v3 (-v0) hv)
  · have hv := (if_pos q4).symm.trans hv
    refine jr_ldc2 C kw_275 dX2_nearestToWhole_8 ?_
    refine jr_iconst (v := 1) C dX2_nearestToWhole_11 (by decide) ?_
    refine jr_iload_n C dX2_nearestToWhole_12 rfl 1 rfl ?_
    refine jr_iload_n C dX2_nearestToWhole_13 rfl 2 rfl ?_
    refine jr_pcall (rest := []) C (pX2_nearest l 4611686018427387904 1 v2 v3) oX2_nearest kw_276 rfl ⟨Nat.le_of_ble_eq_true rfl, Nat.le_of_ble_eq_true rfl⟩ rfl (Nat.le_of_ble_eq_true rfl) ⟨Nat.zero_le _, Nat.zero_le _⟩ dX2_nearestToWhole_14 ?_
    exact jp_lret C dX2_nearestToWhole_17 (congrArg Value.long hv).symm
theorem pX2_nearestToWhole (l : Launch) (v0 : Int64) (v2 : Int32) (v3 : Int32) : pu l yX2_nearestToWhole cX2_nearestToWhole 4 (some .long) 3 [.long v0, .int v2, .int v3] (.long (fX2_nearestToWhole v0 v2 v3)) := pu_of (by decide +kernel) (Nat.le_of_ble_eq_true rfl) rfl (fun C => tX2_nearestToWhole_0 C v0 v2 v3 rfl)
/-! RobotCell$Fraction.ofWhole(J)J -/
def fX2_ofWhole_13 (v0 : Int64) (t0 : Int64) : Int64 :=
  t0 ||| (fX2_nearestToWhole v0 52 1023)
def fX2_ofWhole (v0 : Int64) : Int64 :=
  if 0 ≤ v0 then fX2_ofWhole_13 v0 0 else fX2_ofWhole_13 v0 (-9223372036854775808)
theorem oX2_ofWhole : ok_s yX2_ofWhole cX2_ofWhole 2 (some .long) 1 := ⟨kw_270, kw_269, kw_74, by decide +kernel⟩
set_option maxRecDepth 100000 in
theorem tX2_ofWhole_13 {p : Program} {l : Launch} {e : Env} {s : State} {m : MethodId} {args : Array Value} {below : List Frame} {meth : Method} {c : Code} (C : CC p s m args meth c yX2_ofWhole cX2_ofWhole 2 (some .long))  (v0 : Int64) (t0 : Int64) {w : Int64} (hv : fX2_ofWhole_13 v0 t0 = w) : PJ p l e s m args below meth c 2 4 (.long w) 13 [(0, .long v0)] [.long t0] := by
  unfold fX2_ofWhole_13 at hv
  refine jr_lload_n C dX2_ofWhole_13 rfl 0 rfl ?_
  refine jr_bipush (v := 52) C dX2_ofWhole_14 (by decide) ?_
  refine jr_sipush (v := 1023) C dX2_ofWhole_16 (by decide) ?_
  refine jr_pcall (rest := [.long t0]) C (pX2_nearestToWhole l v0 52 1023) oX2_nearestToWhole kw_272 rfl ⟨Nat.le_of_ble_eq_true rfl, Nat.le_of_ble_eq_true rfl⟩ rfl (Nat.le_of_ble_eq_true rfl) ⟨Nat.zero_le _, Nat.zero_le _⟩ dX2_ofWhole_19 ?_
  refine jr_lor C dX2_ofWhole_22 ?_
  exact jp_lret C dX2_ofWhole_23 (congrArg Value.long hv).symm
set_option maxRecDepth 100000 in
theorem tX2_ofWhole_0 {p : Program} {l : Launch} {e : Env} {s : State} {m : MethodId} {args : Array Value} {below : List Frame} {meth : Method} {c : Code} (C : CC p s m args meth c yX2_ofWhole cX2_ofWhole 2 (some .long))  (v0 : Int64) {w : Int64} (hv : fX2_ofWhole v0 = w) : PJ p l e s m args below meth c 2 4 (.long w) 0 [(0, .long v0)] [] := by
  unfold fX2_ofWhole at hv
  refine jr_lload_n C dX2_ofWhole_0 rfl 0 rfl ?_
  refine jr_lconst (v := 0) C dX2_ofWhole_1 (by decide) ?_
  refine jr_lcmp_ge (tgt := 12) C dX2_ofWhole_2 dX2_ofWhole_3 rfl (fun q2 => ?_) (fun q2 => ?_)
  · have hv := (if_pos q2).symm.trans hv
    refine jr_lconst (v := 0) C dX2_ofWhole_12 (by decide) ?_
    exact tX2_ofWhole_13 C  v0 0 hv
  · have hv := (if_neg q2).symm.trans hv
    refine jr_ldc2 C kw_271 dX2_ofWhole_6 ?_
    refine jr_goto (tgt := 13) C dX2_ofWhole_9 rfl ?_
    exact tX2_ofWhole_13 C  v0 (-9223372036854775808) hv
theorem pX2_ofWhole (l : Launch) (v0 : Int64) : pu l yX2_ofWhole cX2_ofWhole 2 (some .long) 4 [.long v0] (.long (fX2_ofWhole v0)) := pu_of (by decide +kernel) (Nat.le_of_ble_eq_true rfl) rfl (fun C => tX2_ofWhole_0 C v0 rfl)
/-! RobotCell$Fraction.wholeToBits32(J)I -/
def fX2_wholeToBits32_12 (v0 : Int64) (t0 : Int32) : Int32 :=
  t0 ||| ((fX2_nearestToWhole v0 23 127).toInt32)
def fX2_wholeToBits32 (v0 : Int64) : Int32 :=
  if 0 ≤ v0 then fX2_wholeToBits32_12 v0 0 else fX2_wholeToBits32_12 v0 (-2147483648)
theorem oX2_wholeToBits32 : ok_s yX2_wholeToBits32 cX2_wholeToBits32 2 (some .int) 1 := ⟨kw_490, kw_489, kw_74, by decide +kernel⟩
set_option maxRecDepth 100000 in
theorem tX2_wholeToBits32_12 {p : Program} {l : Launch} {e : Env} {s : State} {m : MethodId} {args : Array Value} {below : List Frame} {meth : Method} {c : Code} (C : CC p s m args meth c yX2_wholeToBits32 cX2_wholeToBits32 2 (some .int))  (v0 : Int64) (t0 : Int32) {w : Int32} (hv : fX2_wholeToBits32_12 v0 t0 = w) : PJ p l e s m args below meth c 2 4 (.int w) 12 [(0, .long v0)] [.int t0] := by
  unfold fX2_wholeToBits32_12 at hv
  refine jr_lload_n C dX2_wholeToBits32_12 rfl 0 rfl ?_
  refine jr_bipush (v := 23) C dX2_wholeToBits32_13 (by decide) ?_
  refine jr_bipush (v := 127) C dX2_wholeToBits32_15 (by decide) ?_
  refine jr_pcall (rest := [.int t0]) C (pX2_nearestToWhole l v0 23 127) oX2_nearestToWhole kw_272 rfl ⟨Nat.le_of_ble_eq_true rfl, Nat.le_of_ble_eq_true rfl⟩ rfl (Nat.le_of_ble_eq_true rfl) ⟨Nat.zero_le _, Nat.zero_le _⟩ dX2_wholeToBits32_17 ?_
  refine jr_l2i C dX2_wholeToBits32_20 ?_
  refine jr_ior C dX2_wholeToBits32_21 ?_
  exact jp_iret C dX2_wholeToBits32_22 (congrArg Value.int hv).symm
set_option maxRecDepth 100000 in
theorem tX2_wholeToBits32_0 {p : Program} {l : Launch} {e : Env} {s : State} {m : MethodId} {args : Array Value} {below : List Frame} {meth : Method} {c : Code} (C : CC p s m args meth c yX2_wholeToBits32 cX2_wholeToBits32 2 (some .int))  (v0 : Int64) {w : Int32} (hv : fX2_wholeToBits32 v0 = w) : PJ p l e s m args below meth c 2 4 (.int w) 0 [(0, .long v0)] [] := by
  unfold fX2_wholeToBits32 at hv
  refine jr_lload_n C dX2_wholeToBits32_0 rfl 0 rfl ?_
  refine jr_lconst (v := 0) C dX2_wholeToBits32_1 (by decide) ?_
  refine jr_lcmp_ge (tgt := 11) C dX2_wholeToBits32_2 dX2_wholeToBits32_3 rfl (fun q2 => ?_) (fun q2 => ?_)
  · have hv := (if_pos q2).symm.trans hv
    refine jr_iconst (v := 0) C dX2_wholeToBits32_11 (by decide) ?_
    exact tX2_wholeToBits32_12 C  v0 0 hv
  · have hv := (if_neg q2).symm.trans hv
    refine jr_ldc C kw_411 dX2_wholeToBits32_6 ?_
    refine jr_goto (tgt := 12) C dX2_wholeToBits32_8 rfl ?_
    exact tX2_wholeToBits32_12 C  v0 (-2147483648) hv
theorem pX2_wholeToBits32 (l : Launch) (v0 : Int64) : pu l yX2_wholeToBits32 cX2_wholeToBits32 2 (some .int) 4 [.long v0] (.int (fX2_wholeToBits32 v0)) := pu_of (by decide +kernel) (Nat.le_of_ble_eq_true rfl) rfl (fun C => tX2_wholeToBits32_0 C v0 rfl)
/-! RobotCell$Fraction.cut(J)J -/
def fX2_cut_58 (v0 : Int64) (t0 : Int64) : Int64 :=
  if 0 ≤ v0 then t0 else -t0
def fX2_cut_38 (v0 : Int64) (v3 : Int32) : Int64 :=
  if 0 ≤ v3 then fX2_cut_58 v0 ((fX2_significand v0) <<< ((v3 : Int32).toInt64 &&& 63)) else fX2_cut_58 v0 ((((fX2_significand v0) : Int64).toUInt64 >>> (((-v3) : Int32).toInt64.toUInt64 &&& Int64.toUInt64 63)).toInt64)
def fX2_cut_5 (v0 : Int64) (v2 : Int32) : Int64 :=
  if 0 ≤ v2 then (if v2 ≤ 62 then fX2_cut_38 v0 (v2 - 52) else (if 0 ≤ v0 then 9223372036854775807 else (-9223372036854775808))) else 0
def fX2_cut (v0 : Int64) : Int64 :=
  fX2_cut_5 v0 (fX2_exponent v0)
theorem oX2_cut : ok_s yX2_cut cX2_cut 6 (some .long) 1 := ⟨kw_470, kw_469, kw_74, by decide +kernel⟩
set_option maxRecDepth 100000 in
theorem tX2_cut_58 {p : Program} {l : Launch} {e : Env} {s : State} {m : MethodId} {args : Array Value} {below : List Frame} {meth : Method} {c : Code} (C : CC p s m args meth c yX2_cut cX2_cut 6 (some .long))  (v0 : Int64) (t0 : Int64) {w : Int64} (hv : fX2_cut_58 v0 t0 = w) : PJ p l e s m args below meth c 6 3 (.long w) 58 [(0, .long v0)] [.long t0] := by
  unfold fX2_cut_58 at hv
  refine jr_lstore (lv' := [(4, .long t0), (0, .long v0)]) C dX2_cut_58 (by decide) rfl ?_
  refine jr_lload_n C dX2_cut_60 rfl 1 rfl ?_
  refine jr_lconst (v := 0) C dX2_cut_61 (by decide) ?_
  refine jr_lcmp_ge (tgt := 72) C dX2_cut_62 dX2_cut_63 rfl (fun q62 => ?_) (fun q62 => ?_)
  · have hv := (if_pos q62).symm.trans hv
    refine jr_lload C dX2_cut_72 0 rfl ?_
    exact jp_lret C dX2_cut_74 (congrArg Value.long hv).symm
  · have hv := (if_neg q62).symm.trans hv
    refine jr_lload C dX2_cut_66 0 rfl ?_
    refine jr_lneg C dX2_cut_68 ?_
    refine jr_goto (tgt := 74) C dX2_cut_69 rfl ?_
    exact jp_lret C dX2_cut_74 (congrArg Value.long hv).symm
set_option maxRecDepth 100000 in
theorem tX2_cut_38 {p : Program} {l : Launch} {e : Env} {s : State} {m : MethodId} {args : Array Value} {below : List Frame} {meth : Method} {c : Code} (C : CC p s m args meth c yX2_cut cX2_cut 6 (some .long))  (v0 : Int64) (v3 : Int32) {w : Int64} (hv : fX2_cut_38 v0 v3 = w) : PJ p l e s m args below meth c 6 3 (.long w) 38 [(0, .long v0), (3, .int v3)] [] := by
  unfold fX2_cut_38 at hv
  refine jr_iload_n C dX2_cut_38 rfl 1 rfl ?_
  refine jr_if_ge (tgt := 52) C dX2_cut_39 rfl (fun q39 => ?_) (fun q39 => ?_)
  · have hv := (if_pos q39).symm.trans hv
    refine jr_lload_n C dX2_cut_52 rfl 0 rfl ?_
    refine jr_pcall (rest := []) C (pX2_significand l v0) oX2_significand kw_307 rfl ⟨Nat.le_of_ble_eq_true rfl, Nat.le_of_ble_eq_true rfl⟩ rfl (Nat.le_of_ble_eq_true rfl) ⟨Nat.zero_le _, Nat.zero_le _⟩ dX2_cut_53 ?_
    refine jr_iload_n C dX2_cut_56 rfl 1 rfl ?_
    refine jr_lshl C dX2_cut_57 ?_
    exact jr_sub [0] rfl (tX2_cut_58 C  v0 ((fX2_significand v0) <<< ((v3 : Int32).toInt64 &&& 63)) hv)
  · have hv := (if_neg q39).symm.trans hv
    refine jr_lload_n C dX2_cut_42 rfl 0 rfl ?_
    refine jr_pcall (rest := []) C (pX2_significand l v0) oX2_significand kw_307 rfl ⟨Nat.le_of_ble_eq_true rfl, Nat.le_of_ble_eq_true rfl⟩ rfl (Nat.le_of_ble_eq_true rfl) ⟨Nat.zero_le _, Nat.zero_le _⟩ dX2_cut_43 ?_
    refine jr_iload_n C dX2_cut_46 rfl 1 rfl ?_
    refine jr_ineg C dX2_cut_47 ?_
    refine jr_lushr C dX2_cut_48 ?_
    refine jr_goto (tgt := 58) C dX2_cut_49 rfl ?_
    exact jr_sub [0] rfl (tX2_cut_58 C  v0 ((((fX2_significand v0) : Int64).toUInt64 >>> (((-v3) : Int32).toInt64.toUInt64 &&& Int64.toUInt64 63)).toInt64) hv)
set_option maxRecDepth 100000 in
theorem tX2_cut_5 {p : Program} {l : Launch} {e : Env} {s : State} {m : MethodId} {args : Array Value} {below : List Frame} {meth : Method} {c : Code} (C : CC p s m args meth c yX2_cut cX2_cut 6 (some .long))  (v0 : Int64) (v2 : Int32) {w : Int64} (hv : fX2_cut_5 v0 v2 = w) : PJ p l e s m args below meth c 6 3 (.long w) 5 [(0, .long v0), (2, .int v2)] [] := by
  unfold fX2_cut_5 at hv
  refine jr_iload_n C dX2_cut_5 rfl 1 rfl ?_
  refine jr_if_ge (tgt := 11) C dX2_cut_6 rfl (fun q6 => ?_) (fun q6 => ?_)
  · have hv := (if_pos q6).symm.trans hv
    refine jr_iload_n C dX2_cut_11 rfl 1 rfl ?_
    refine jr_bipush (v := 62) C dX2_cut_12 (by decide) ?_
    refine jr_icmp_le (tgt := 33) C dX2_cut_14 rfl (fun q14 => ?_) (fun q14 => ?_)
    · have hv := (if_pos q14).symm.trans hv
      refine jr_iload_n C dX2_cut_33 rfl 1 rfl ?_
      refine jr_bipush (v := 52) C dX2_cut_34 (by decide) ?_
      refine jr_isub C dX2_cut_36 ?_
      refine jr_istore_n (lv' := [(3, .int (v2 - 52)), (0, .long v0), (2, .int v2)]) C dX2_cut_37 rfl (by decide) rfl ?_
      exact jr_sub [1, 0] rfl (tX2_cut_38 C  v0 (v2 - 52) hv)
    · have hv := (if_neg q14).symm.trans hv
      refine jr_lload_n C dX2_cut_17 rfl 0 rfl ?_
      refine jr_lconst (v := 0) C dX2_cut_18 (by decide) ?_
      refine jr_lcmp_ge (tgt := 29) C dX2_cut_19 dX2_cut_20 rfl (fun q19 => ?_) (fun q19 => ?_)
      · have hv := (if_pos q19).symm.trans hv
        refine jr_ldc2 C kw_295 dX2_cut_29 ?_
        exact jp_lret C dX2_cut_32 (congrArg Value.long hv).symm
      · have hv := (if_neg q19).symm.trans hv
        refine jr_ldc2 C kw_271 dX2_cut_23 ?_
        refine jr_goto (tgt := 32) C dX2_cut_26 rfl ?_
        exact jp_lret C dX2_cut_32 (congrArg Value.long hv).symm
  · have hv := (if_neg q6).symm.trans hv
    refine jr_lconst (v := 0) C dX2_cut_9 (by decide) ?_
    exact jp_lret C dX2_cut_10 (congrArg Value.long hv).symm
set_option maxRecDepth 100000 in
theorem tX2_cut_0 {p : Program} {l : Launch} {e : Env} {s : State} {m : MethodId} {args : Array Value} {below : List Frame} {meth : Method} {c : Code} (C : CC p s m args meth c yX2_cut cX2_cut 6 (some .long))  (v0 : Int64) {w : Int64} (hv : fX2_cut v0 = w) : PJ p l e s m args below meth c 6 3 (.long w) 0 [(0, .long v0)] [] := by
  unfold fX2_cut at hv
  refine jr_lload_n C dX2_cut_0 rfl 0 rfl ?_
  refine jr_pcall (rest := []) C (pX2_exponent l v0) oX2_exponent kw_370 rfl ⟨Nat.le_of_ble_eq_true rfl, Nat.le_of_ble_eq_true rfl⟩ rfl (Nat.le_of_ble_eq_true rfl) ⟨Nat.zero_le _, Nat.zero_le _⟩ dX2_cut_1 ?_
  refine jr_istore_n (lv' := [(2, .int (fX2_exponent v0)), (0, .long v0)]) C dX2_cut_4 rfl (by decide) rfl ?_
  exact jr_sub [1, 0] rfl (tX2_cut_5 C  v0 (fX2_exponent v0) hv)
theorem pX2_cut (l : Launch) (v0 : Int64) : pu l yX2_cut cX2_cut 6 (some .long) 3 [.long v0] (.long (fX2_cut v0)) := pu_of (by decide +kernel) (Nat.le_of_ble_eq_true rfl) rfl (fun C => tX2_cut_0 C v0 rfl)
/-! RobotCell$Fraction.halfUp(J)J -/
def fX2_halfUp_46 (v3 : Int32) (t0 : Int64) : Int64 :=
  (t0 + (1 <<< (((v3 - 1) : Int32).toInt64 &&& 63))) >>> ((v3 : Int32).toInt64 &&& 63)
def fX2_halfUp_28 (v0 : Int64) (v3 : Int32) : Int64 :=
  if 0 ≤ v0 then fX2_halfUp_46 v3 (fX2_significand v0) else fX2_halfUp_46 v3 (-(fX2_significand v0))
def fX2_halfUp_5 (v0 : Int64) (v2 : Int32) : Int64 :=
  if (-1) ≤ v2 then (if v2 < 52 then fX2_halfUp_28 v0 (52 - v2) else fX2_cut v0) else 0
def fX2_halfUp (v0 : Int64) : Int64 :=
  fX2_halfUp_5 v0 (fX2_exponent v0)
theorem oX2_halfUp : ok_s yX2_halfUp cX2_halfUp 6 (some .long) 1 := ⟨kw_480, kw_479, kw_74, by decide +kernel⟩
set_option maxRecDepth 100000 in
theorem tX2_halfUp_46 {p : Program} {l : Launch} {e : Env} {s : State} {m : MethodId} {args : Array Value} {below : List Frame} {meth : Method} {c : Code} (C : CC p s m args meth c yX2_halfUp cX2_halfUp 6 (some .long))  (v3 : Int32) (t0 : Int64) {w : Int64} (hv : fX2_halfUp_46 v3 t0 = w) : PJ p l e s m args below meth c 6 4 (.long w) 46 [(3, .int v3)] [.long t0] := by
  unfold fX2_halfUp_46 at hv
  refine jr_lstore (lv' := [(4, .long t0), (3, .int v3)]) C dX2_halfUp_46 (by decide) rfl ?_
  refine jr_lload C dX2_halfUp_48 0 rfl ?_
  refine jr_lconst (v := 1) C dX2_halfUp_50 (by decide) ?_
  refine jr_iload_n C dX2_halfUp_51 rfl 1 rfl ?_
  refine jr_iconst (v := 1) C dX2_halfUp_52 (by decide) ?_
  refine jr_isub C dX2_halfUp_53 ?_
  refine jr_lshl C dX2_halfUp_54 ?_
  refine jr_ladd C dX2_halfUp_55 ?_
  refine jr_iload_n C dX2_halfUp_56 rfl 1 rfl ?_
  refine jr_lshr C dX2_halfUp_57 ?_
  exact jp_lret C dX2_halfUp_58 (congrArg Value.long hv).symm
set_option maxRecDepth 100000 in
theorem tX2_halfUp_28 {p : Program} {l : Launch} {e : Env} {s : State} {m : MethodId} {args : Array Value} {below : List Frame} {meth : Method} {c : Code} (C : CC p s m args meth c yX2_halfUp cX2_halfUp 6 (some .long))  (v0 : Int64) (v3 : Int32) {w : Int64} (hv : fX2_halfUp_28 v0 v3 = w) : PJ p l e s m args below meth c 6 4 (.long w) 28 [(0, .long v0), (3, .int v3)] [] := by
  unfold fX2_halfUp_28 at hv
  refine jr_lload_n C dX2_halfUp_28 rfl 0 rfl ?_
  refine jr_lconst (v := 0) C dX2_halfUp_29 (by decide) ?_
  refine jr_lcmp_ge (tgt := 42) C dX2_halfUp_30 dX2_halfUp_31 rfl (fun q30 => ?_) (fun q30 => ?_)
  · have hv := (if_pos q30).symm.trans hv
    refine jr_lload_n C dX2_halfUp_42 rfl 0 rfl ?_
    refine jr_pcall (rest := []) C (pX2_significand l v0) oX2_significand kw_307 rfl ⟨Nat.le_of_ble_eq_true rfl, Nat.le_of_ble_eq_true rfl⟩ rfl (Nat.le_of_ble_eq_true rfl) ⟨Nat.zero_le _, Nat.zero_le _⟩ dX2_halfUp_43 ?_
    exact jr_sub [1] rfl (tX2_halfUp_46 C  v3 (fX2_significand v0) hv)
  · have hv := (if_neg q30).symm.trans hv
    refine jr_lload_n C dX2_halfUp_34 rfl 0 rfl ?_
    refine jr_pcall (rest := []) C (pX2_significand l v0) oX2_significand kw_307 rfl ⟨Nat.le_of_ble_eq_true rfl, Nat.le_of_ble_eq_true rfl⟩ rfl (Nat.le_of_ble_eq_true rfl) ⟨Nat.zero_le _, Nat.zero_le _⟩ dX2_halfUp_35 ?_
    refine jr_lneg C dX2_halfUp_38 ?_
    refine jr_goto (tgt := 46) C dX2_halfUp_39 rfl ?_
    exact jr_sub [1] rfl (tX2_halfUp_46 C  v3 (-(fX2_significand v0)) hv)
set_option maxRecDepth 100000 in
theorem tX2_halfUp_5 {p : Program} {l : Launch} {e : Env} {s : State} {m : MethodId} {args : Array Value} {below : List Frame} {meth : Method} {c : Code} (C : CC p s m args meth c yX2_halfUp cX2_halfUp 6 (some .long))  (v0 : Int64) (v2 : Int32) {w : Int64} (hv : fX2_halfUp_5 v0 v2 = w) : PJ p l e s m args below meth c 6 4 (.long w) 5 [(0, .long v0), (2, .int v2)] [] := by
  unfold fX2_halfUp_5 at hv
  refine jr_iload_n C dX2_halfUp_5 rfl 1 rfl ?_
  refine jr_iconst (v := (-1)) C dX2_halfUp_6 (by decide) ?_
  refine jr_icmp_ge (tgt := 12) C dX2_halfUp_7 rfl (fun q7 => ?_) (fun q7 => ?_)
  · have hv := (if_pos q7).symm.trans hv
    refine jr_iload_n C dX2_halfUp_12 rfl 1 rfl ?_
    refine jr_bipush (v := 52) C dX2_halfUp_13 (by decide) ?_
    refine jr_icmp_lt (tgt := 23) C dX2_halfUp_15 rfl (fun q15 => ?_) (fun q15 => ?_)
    · have hv := (if_pos q15).symm.trans hv
      refine jr_bipush (v := 52) C dX2_halfUp_23 (by decide) ?_
      refine jr_iload_n C dX2_halfUp_25 rfl 1 rfl ?_
      refine jr_isub C dX2_halfUp_26 ?_
      refine jr_istore_n (lv' := [(3, .int (52 - v2)), (0, .long v0), (2, .int v2)]) C dX2_halfUp_27 rfl (by decide) rfl ?_
      exact jr_sub [1, 0] rfl (tX2_halfUp_28 C  v0 (52 - v2) hv)
    · have hv := (if_neg q15).symm.trans hv
      refine jr_lload_n C dX2_halfUp_18 rfl 0 rfl ?_
      refine jr_pcall (rest := []) C (pX2_cut l v0) oX2_cut kw_481 rfl ⟨Nat.le_of_ble_eq_true rfl, Nat.le_of_ble_eq_true rfl⟩ rfl (Nat.le_of_ble_eq_true rfl) ⟨Nat.zero_le _, Nat.zero_le _⟩ dX2_halfUp_19 ?_
      exact jp_lret C dX2_halfUp_22 (congrArg Value.long hv).symm
  · have hv := (if_neg q7).symm.trans hv
    refine jr_lconst (v := 0) C dX2_halfUp_10 (by decide) ?_
    exact jp_lret C dX2_halfUp_11 (congrArg Value.long hv).symm
set_option maxRecDepth 100000 in
theorem tX2_halfUp_0 {p : Program} {l : Launch} {e : Env} {s : State} {m : MethodId} {args : Array Value} {below : List Frame} {meth : Method} {c : Code} (C : CC p s m args meth c yX2_halfUp cX2_halfUp 6 (some .long))  (v0 : Int64) {w : Int64} (hv : fX2_halfUp v0 = w) : PJ p l e s m args below meth c 6 4 (.long w) 0 [(0, .long v0)] [] := by
  unfold fX2_halfUp at hv
  refine jr_lload_n C dX2_halfUp_0 rfl 0 rfl ?_
  refine jr_pcall (rest := []) C (pX2_exponent l v0) oX2_exponent kw_370 rfl ⟨Nat.le_of_ble_eq_true rfl, Nat.le_of_ble_eq_true rfl⟩ rfl (Nat.le_of_ble_eq_true rfl) ⟨Nat.zero_le _, Nat.zero_le _⟩ dX2_halfUp_1 ?_
  refine jr_istore_n (lv' := [(2, .int (fX2_exponent v0)), (0, .long v0)]) C dX2_halfUp_4 rfl (by decide) rfl ?_
  exact jr_sub [1, 0] rfl (tX2_halfUp_5 C  v0 (fX2_exponent v0) hv)
theorem pX2_halfUp (l : Launch) (v0 : Int64) : pu l yX2_halfUp cX2_halfUp 6 (some .long) 4 [.long v0] (.long (fX2_halfUp v0)) := pu_of (by decide +kernel) (Nat.le_of_ble_eq_true rfl) rfl (fun C => tX2_halfUp_0 C v0 rfl)
/-! RobotCell$Fraction.opposite(J)J -/
def fX2_opposite (v0 : Int64) : Int64 :=
  if (fX2_isLost v0) = 0 then v0 ^^^ (-9223372036854775808) else 9221120237041090560
theorem oX2_opposite : ok_s yX2_opposite cX2_opposite 2 (some .long) 1 := ⟨kw_343, kw_342, kw_74, by decide +kernel⟩
set_option maxRecDepth 100000 in
theorem tX2_opposite_0 {p : Program} {l : Launch} {e : Env} {s : State} {m : MethodId} {args : Array Value} {below : List Frame} {meth : Method} {c : Code} (C : CC p s m args meth c yX2_opposite cX2_opposite 2 (some .long))  (v0 : Int64) {w : Int64} (hv : fX2_opposite v0 = w) : PJ p l e s m args below meth c 2 1 (.long w) 0 [(0, .long v0)] [] := by
  unfold fX2_opposite at hv
  refine jr_lload_n C dX2_opposite_0 rfl 0 rfl ?_
  refine jr_pcall (rest := []) C (pX2_isLost l v0) oX2_isLost kw_292 rfl ⟨Nat.le_of_ble_eq_true rfl, Nat.le_of_ble_eq_true rfl⟩ rfl (Nat.le_of_ble_eq_true rfl) ⟨Nat.zero_le _, Nat.zero_le _⟩ dX2_opposite_1 ?_
  refine jr_if_eq (tgt := 13) C dX2_opposite_4 rfl (fun q4 => ?_) (fun q4 => ?_)
  · have hv := (if_pos q4).symm.trans hv
    refine jr_lload_n C dX2_opposite_13 rfl 0 rfl ?_
    refine jr_ldc2 C kw_271 dX2_opposite_14 ?_
    refine jr_lxor C dX2_opposite_17 ?_
    exact jp_lret C dX2_opposite_18 (congrArg Value.long hv).symm
  · have hv := (if_neg q4).symm.trans hv
    refine jr_ldc2 C kw_297 dX2_opposite_7 ?_
    refine jr_goto (tgt := 18) C dX2_opposite_10 rfl ?_
    exact jp_lret C dX2_opposite_18 (congrArg Value.long hv).symm
theorem pX2_opposite (l : Launch) (v0 : Int64) : pu l yX2_opposite cX2_opposite 2 (some .long) 1 [.long v0] (.long (fX2_opposite v0)) := pu_of (by decide +kernel) (Nat.le_of_ble_eq_true rfl) rfl (fun C => tX2_opposite_0 C v0 rfl)
/-! RobotCell$Fraction.signOf(J)J -/
def fX2_signOf_14 (v0 : Int64) : Int64 :=
  v0
def fX2_signOf (v0 : Int64) : Int64 :=
  if (fX2_isLost v0) = 0 then (if (fX2_isZero v0) = 0 then (fX2_signBit v0) ||| 4607182418800017408 else fX2_signOf_14 v0) else fX2_signOf_14 v0
theorem oX2_signOf : ok_s yX2_signOf cX2_signOf 2 (some .long) 1 := ⟨kw_387, kw_386, kw_74, by decide +kernel⟩
set_option maxRecDepth 100000 in
theorem tX2_signOf_14 {p : Program} {l : Launch} {e : Env} {s : State} {m : MethodId} {args : Array Value} {below : List Frame} {meth : Method} {c : Code} (C : CC p s m args meth c yX2_signOf cX2_signOf 2 (some .long))  (v0 : Int64) {w : Int64} (hv : fX2_signOf_14 v0 = w) : PJ p l e s m args below meth c 2 1 (.long w) 14 [(0, .long v0)] [] := by
  unfold fX2_signOf_14 at hv
  refine jr_lload_n C dX2_signOf_14 rfl 0 rfl ?_
  refine jr_goto (tgt := 26) C dX2_signOf_15 rfl ?_
  exact jp_lret C dX2_signOf_26 (congrArg Value.long hv).symm
set_option maxRecDepth 100000 in
theorem tX2_signOf_0 {p : Program} {l : Launch} {e : Env} {s : State} {m : MethodId} {args : Array Value} {below : List Frame} {meth : Method} {c : Code} (C : CC p s m args meth c yX2_signOf cX2_signOf 2 (some .long))  (v0 : Int64) {w : Int64} (hv : fX2_signOf v0 = w) : PJ p l e s m args below meth c 2 1 (.long w) 0 [(0, .long v0)] [] := by
  unfold fX2_signOf at hv
  refine jr_lload_n C dX2_signOf_0 rfl 0 rfl ?_
  refine jr_pcall (rest := []) C (pX2_isLost l v0) oX2_isLost kw_292 rfl ⟨Nat.le_of_ble_eq_true rfl, Nat.le_of_ble_eq_true rfl⟩ rfl (Nat.le_of_ble_eq_true rfl) ⟨Nat.zero_le _, Nat.zero_le _⟩ dX2_signOf_1 ?_
  refine jr_if_ne (tgt := 14) C dX2_signOf_4 rfl (fun q4 => ?_) (fun q4 => ?_)
  · have hv := (if_neg q4).symm.trans hv
    exact tX2_signOf_14 C  v0 hv
  · have hv := (if_pos q4).symm.trans hv
    refine jr_lload_n C dX2_signOf_7 rfl 0 rfl ?_
    refine jr_pcall (rest := []) C (pX2_isZero l v0) oX2_isZero kw_304 rfl ⟨Nat.le_of_ble_eq_true rfl, Nat.le_of_ble_eq_true rfl⟩ rfl (Nat.le_of_ble_eq_true rfl) ⟨Nat.zero_le _, Nat.zero_le _⟩ dX2_signOf_8 ?_
    refine jr_if_eq (tgt := 18) C dX2_signOf_11 rfl (fun q11 => ?_) (fun q11 => ?_)
    · have hv := (if_pos q11).symm.trans hv
      refine jr_lload_n C dX2_signOf_18 rfl 0 rfl ?_
      refine jr_pcall (rest := []) C (pX2_signBit l v0) oX2_signBit kw_298 rfl ⟨Nat.le_of_ble_eq_true rfl, Nat.le_of_ble_eq_true rfl⟩ rfl (Nat.le_of_ble_eq_true rfl) ⟨Nat.zero_le _, Nat.zero_le _⟩ dX2_signOf_19 ?_
      refine jr_ldc2 C kw_377 dX2_signOf_22 ?_
      refine jr_lor C dX2_signOf_25 ?_
      exact jp_lret C dX2_signOf_26 (congrArg Value.long hv).symm
    · have hv := (if_neg q11).symm.trans hv
      exact tX2_signOf_14 C  v0 hv
theorem pX2_signOf (l : Launch) (v0 : Int64) : pu l yX2_signOf cX2_signOf 2 (some .long) 1 [.long v0] (.long (fX2_signOf v0)) := pu_of (by decide +kernel) (Nat.le_of_ble_eq_true rfl) rfl (fun C => tX2_signOf_0 C v0 rfl)
/-! RobotCell$Fraction.wholeToZero(J)J -/
def fX2_wholeToZero_5 (v0 : Int64) (v2 : Int32) : Int64 :=
  if v2 < 52 then (if 0 ≤ v2 then v0 &&& ((((4503599627370495 : Int64).toUInt64 >>> ((v2 : Int32).toInt64.toUInt64 &&& Int64.toUInt64 63)).toInt64) ^^^ (-1)) else fX2_signBit v0) else v0
def fX2_wholeToZero (v0 : Int64) : Int64 :=
  fX2_wholeToZero_5 v0 (fX2_exponent v0)
theorem oX2_wholeToZero : ok_s yX2_wholeToZero cX2_wholeToZero 3 (some .long) 1 := ⟨kw_369, kw_368, kw_74, by decide +kernel⟩
set_option maxRecDepth 100000 in
theorem tX2_wholeToZero_5 {p : Program} {l : Launch} {e : Env} {s : State} {m : MethodId} {args : Array Value} {below : List Frame} {meth : Method} {c : Code} (C : CC p s m args meth c yX2_wholeToZero cX2_wholeToZero 3 (some .long))  (v0 : Int64) (v2 : Int32) {w : Int64} (hv : fX2_wholeToZero_5 v0 v2 = w) : PJ p l e s m args below meth c 3 1 (.long w) 5 [(0, .long v0), (2, .int v2)] [] := by
  unfold fX2_wholeToZero_5 at hv
  refine jr_iload_n C dX2_wholeToZero_5 rfl 1 rfl ?_
  refine jr_bipush (v := 52) C dX2_wholeToZero_6 (by decide) ?_
  refine jr_icmp_lt (tgt := 13) C dX2_wholeToZero_8 rfl (fun q8 => ?_) (fun q8 => ?_)
  · have hv := (if_pos q8).symm.trans hv
    refine jr_iload_n C dX2_wholeToZero_13 rfl 1 rfl ?_
    refine jr_if_ge (tgt := 24) C dX2_wholeToZero_14 rfl (fun q14 => ?_) (fun q14 => ?_)
    · have hv := (if_pos q14).symm.trans hv
      refine jr_lload_n C dX2_wholeToZero_24 rfl 0 rfl ?_
      refine jr_ldc2 C kw_310 dX2_wholeToZero_25 ?_
      refine jr_iload_n C dX2_wholeToZero_28 rfl 1 rfl ?_
      refine jr_lushr C dX2_wholeToZero_29 ?_
      refine jr_ldc2 C kw_373 dX2_wholeToZero_30 ?_
      refine jr_lxor C dX2_wholeToZero_33 ?_
      refine jr_land C dX2_wholeToZero_34 ?_
      exact jp_lret C dX2_wholeToZero_35 (congrArg Value.long hv).symm
    · have hv := (if_neg q14).symm.trans hv
      refine jr_lload_n C dX2_wholeToZero_17 rfl 0 rfl ?_
      refine jr_pcall (rest := []) C (pX2_signBit l v0) oX2_signBit kw_298 rfl ⟨Nat.le_of_ble_eq_true rfl, Nat.le_of_ble_eq_true rfl⟩ rfl (Nat.le_of_ble_eq_true rfl) ⟨Nat.zero_le _, Nat.zero_le _⟩ dX2_wholeToZero_18 ?_
      refine jr_goto (tgt := 35) C dX2_wholeToZero_21 rfl ?_
      exact jp_lret C dX2_wholeToZero_35 (congrArg Value.long hv).symm
  · have hv := (if_neg q8).symm.trans hv
    refine jr_lload_n C dX2_wholeToZero_11 rfl 0 rfl ?_
    exact jp_lret C dX2_wholeToZero_12 (congrArg Value.long hv).symm
set_option maxRecDepth 100000 in
theorem tX2_wholeToZero_0 {p : Program} {l : Launch} {e : Env} {s : State} {m : MethodId} {args : Array Value} {below : List Frame} {meth : Method} {c : Code} (C : CC p s m args meth c yX2_wholeToZero cX2_wholeToZero 3 (some .long))  (v0 : Int64) {w : Int64} (hv : fX2_wholeToZero v0 = w) : PJ p l e s m args below meth c 3 1 (.long w) 0 [(0, .long v0)] [] := by
  unfold fX2_wholeToZero at hv
  refine jr_lload_n C dX2_wholeToZero_0 rfl 0 rfl ?_
  refine jr_pcall (rest := []) C (pX2_exponent l v0) oX2_exponent kw_370 rfl ⟨Nat.le_of_ble_eq_true rfl, Nat.le_of_ble_eq_true rfl⟩ rfl (Nat.le_of_ble_eq_true rfl) ⟨Nat.zero_le _, Nat.zero_le _⟩ dX2_wholeToZero_1 ?_
  refine jr_istore_n (lv' := [(2, .int (fX2_exponent v0)), (0, .long v0)]) C dX2_wholeToZero_4 rfl (by decide) rfl ?_
  exact jr_sub [1, 0] rfl (tX2_wholeToZero_5 C  v0 (fX2_exponent v0) hv)
theorem pX2_wholeToZero (l : Launch) (v0 : Int64) : pu l yX2_wholeToZero cX2_wholeToZero 3 (some .long) 1 [.long v0] (.long (fX2_wholeToZero v0)) := pu_of (by decide +kernel) (Nat.le_of_ble_eq_true rfl) rfl (fun C => tX2_wholeToZero_0 C v0 rfl)
/-! RobotCell$Fraction.wholeAway(J)J -/
def fX2_wholeAway_5 (v0 : Int64) (v2 : Int32) : Int64 :=
  if 0 ≤ v2 then (v0 ||| (((4503599627370495 : Int64).toUInt64 >>> ((v2 : Int32).toInt64.toUInt64 &&& Int64.toUInt64 63)).toInt64)) + 1 else (fX2_signBit v0) ||| 4607182418800017408
def fX2_wholeAway (v0 : Int64) : Int64 :=
  fX2_wholeAway_5 v0 (fX2_exponent v0)
theorem oX2_wholeAway : ok_s yX2_wholeAway cX2_wholeAway 3 (some .long) 1 := ⟨kw_376, kw_375, kw_74, by decide +kernel⟩
set_option maxRecDepth 100000 in
theorem tX2_wholeAway_5 {p : Program} {l : Launch} {e : Env} {s : State} {m : MethodId} {args : Array Value} {below : List Frame} {meth : Method} {c : Code} (C : CC p s m args meth c yX2_wholeAway cX2_wholeAway 3 (some .long))  (v0 : Int64) (v2 : Int32) {w : Int64} (hv : fX2_wholeAway_5 v0 v2 = w) : PJ p l e s m args below meth c 3 1 (.long w) 5 [(0, .long v0), (2, .int v2)] [] := by
  unfold fX2_wholeAway_5 at hv
  refine jr_iload_n C dX2_wholeAway_5 rfl 1 rfl ?_
  refine jr_if_ge (tgt := 20) C dX2_wholeAway_6 rfl (fun q6 => ?_) (fun q6 => ?_)
  · have hv := (if_pos q6).symm.trans hv
    refine jr_lload_n C dX2_wholeAway_20 rfl 0 rfl ?_
    refine jr_ldc2 C kw_310 dX2_wholeAway_21 ?_
    refine jr_iload_n C dX2_wholeAway_24 rfl 1 rfl ?_
    refine jr_lushr C dX2_wholeAway_25 ?_
    refine jr_lor C dX2_wholeAway_26 ?_
    refine jr_lconst (v := 1) C dX2_wholeAway_27 (by decide) ?_
    refine jr_ladd C dX2_wholeAway_28 ?_
    exact jp_lret C dX2_wholeAway_29 (congrArg Value.long hv).symm
  · have hv := (if_neg q6).symm.trans hv
    refine jr_lload_n C dX2_wholeAway_9 rfl 0 rfl ?_
    refine jr_pcall (rest := []) C (pX2_signBit l v0) oX2_signBit kw_298 rfl ⟨Nat.le_of_ble_eq_true rfl, Nat.le_of_ble_eq_true rfl⟩ rfl (Nat.le_of_ble_eq_true rfl) ⟨Nat.zero_le _, Nat.zero_le _⟩ dX2_wholeAway_10 ?_
    refine jr_ldc2 C kw_377 dX2_wholeAway_13 ?_
    refine jr_lor C dX2_wholeAway_16 ?_
    refine jr_goto (tgt := 29) C dX2_wholeAway_17 rfl ?_
    exact jp_lret C dX2_wholeAway_29 (congrArg Value.long hv).symm
set_option maxRecDepth 100000 in
theorem tX2_wholeAway_0 {p : Program} {l : Launch} {e : Env} {s : State} {m : MethodId} {args : Array Value} {below : List Frame} {meth : Method} {c : Code} (C : CC p s m args meth c yX2_wholeAway cX2_wholeAway 3 (some .long))  (v0 : Int64) {w : Int64} (hv : fX2_wholeAway v0 = w) : PJ p l e s m args below meth c 3 1 (.long w) 0 [(0, .long v0)] [] := by
  unfold fX2_wholeAway at hv
  refine jr_lload_n C dX2_wholeAway_0 rfl 0 rfl ?_
  refine jr_pcall (rest := []) C (pX2_exponent l v0) oX2_exponent kw_370 rfl ⟨Nat.le_of_ble_eq_true rfl, Nat.le_of_ble_eq_true rfl⟩ rfl (Nat.le_of_ble_eq_true rfl) ⟨Nat.zero_le _, Nat.zero_le _⟩ dX2_wholeAway_1 ?_
  refine jr_istore_n (lv' := [(2, .int (fX2_exponent v0)), (0, .long v0)]) C dX2_wholeAway_4 rfl (by decide) rfl ?_
  exact jr_sub [1, 0] rfl (tX2_wholeAway_5 C  v0 (fX2_exponent v0) hv)
theorem pX2_wholeAway (l : Launch) (v0 : Int64) : pu l yX2_wholeAway cX2_wholeAway 3 (some .long) 1 [.long v0] (.long (fX2_wholeAway v0)) := pu_of (by decide +kernel) (Nat.le_of_ble_eq_true rfl) rfl (fun C => tX2_wholeAway_0 C v0 rfl)
/-! RobotCell$Fraction.wholeNotAbove(J)J -/
def fX2_wholeNotAbove_24 (v2 : Int64) : Int64 :=
  v2
def fX2_wholeNotAbove_5 (v0 : Int64) (v2 : Int64) : Int64 :=
  if 0 ≤ v0 then fX2_wholeNotAbove_24 v2 else (if v2 = v0 then fX2_wholeNotAbove_24 v2 else fX2_wholeAway v0)
def fX2_wholeNotAbove (v0 : Int64) : Int64 :=
  fX2_wholeNotAbove_5 v0 (fX2_wholeToZero v0)
theorem oX2_wholeNotAbove : ok_s yX2_wholeNotAbove cX2_wholeNotAbove 4 (some .long) 1 := ⟨kw_366, kw_365, kw_74, by decide +kernel⟩
set_option maxRecDepth 100000 in
theorem tX2_wholeNotAbove_24 {p : Program} {l : Launch} {e : Env} {s : State} {m : MethodId} {args : Array Value} {below : List Frame} {meth : Method} {c : Code} (C : CC p s m args meth c yX2_wholeNotAbove cX2_wholeNotAbove 4 (some .long))  (v2 : Int64) {w : Int64} (hv : fX2_wholeNotAbove_24 v2 = w) : PJ p l e s m args below meth c 4 2 (.long w) 24 [(2, .long v2)] [] := by
  unfold fX2_wholeNotAbove_24 at hv
  refine jr_lload_n C dX2_wholeNotAbove_24 rfl 0 rfl ?_
  exact jp_lret C dX2_wholeNotAbove_25 (congrArg Value.long hv).symm
set_option maxRecDepth 100000 in
theorem tX2_wholeNotAbove_5 {p : Program} {l : Launch} {e : Env} {s : State} {m : MethodId} {args : Array Value} {below : List Frame} {meth : Method} {c : Code} (C : CC p s m args meth c yX2_wholeNotAbove cX2_wholeNotAbove 4 (some .long))  (v0 : Int64) (v2 : Int64) {w : Int64} (hv : fX2_wholeNotAbove_5 v0 v2 = w) : PJ p l e s m args below meth c 4 2 (.long w) 5 [(0, .long v0), (2, .long v2)] [] := by
  unfold fX2_wholeNotAbove_5 at hv
  refine jr_lload_n C dX2_wholeNotAbove_5 rfl 0 rfl ?_
  refine jr_lconst (v := 0) C dX2_wholeNotAbove_6 (by decide) ?_
  refine jr_lcmp_ge (tgt := 24) C dX2_wholeNotAbove_7 dX2_wholeNotAbove_8 rfl (fun q7 => ?_) (fun q7 => ?_)
  · have hv := (if_pos q7).symm.trans hv
    exact jr_sub [1] rfl (tX2_wholeNotAbove_24 C  v2 hv)
  · have hv := (if_neg q7).symm.trans hv
    refine jr_lload_n C dX2_wholeNotAbove_11 rfl 1 rfl ?_
    refine jr_lload_n C dX2_wholeNotAbove_12 rfl 0 rfl ?_
    refine jr_lcmp_eq (tgt := 24) C dX2_wholeNotAbove_13 dX2_wholeNotAbove_14 rfl (fun q13 => ?_) (fun q13 => ?_)
    · have hv := (if_pos q13).symm.trans hv
      exact jr_sub [1] rfl (tX2_wholeNotAbove_24 C  v2 hv)
    · have hv := (if_neg q13).symm.trans hv
      refine jr_lload_n C dX2_wholeNotAbove_17 rfl 0 rfl ?_
      refine jr_pcall (rest := []) C (pX2_wholeAway l v0) oX2_wholeAway kw_374 rfl ⟨Nat.le_of_ble_eq_true rfl, Nat.le_of_ble_eq_true rfl⟩ rfl (Nat.le_of_ble_eq_true rfl) ⟨Nat.zero_le _, Nat.zero_le _⟩ dX2_wholeNotAbove_18 ?_
      refine jr_goto (tgt := 25) C dX2_wholeNotAbove_21 rfl ?_
      exact jp_lret C dX2_wholeNotAbove_25 (congrArg Value.long hv).symm
set_option maxRecDepth 100000 in
theorem tX2_wholeNotAbove_0 {p : Program} {l : Launch} {e : Env} {s : State} {m : MethodId} {args : Array Value} {below : List Frame} {meth : Method} {c : Code} (C : CC p s m args meth c yX2_wholeNotAbove cX2_wholeNotAbove 4 (some .long))  (v0 : Int64) {w : Int64} (hv : fX2_wholeNotAbove v0 = w) : PJ p l e s m args below meth c 4 2 (.long w) 0 [(0, .long v0)] [] := by
  unfold fX2_wholeNotAbove at hv
  refine jr_lload_n C dX2_wholeNotAbove_0 rfl 0 rfl ?_
  refine jr_pcall (rest := []) C (pX2_wholeToZero l v0) oX2_wholeToZero kw_367 rfl ⟨Nat.le_of_ble_eq_true rfl, Nat.le_of_ble_eq_true rfl⟩ rfl (Nat.le_of_ble_eq_true rfl) ⟨Nat.zero_le _, Nat.zero_le _⟩ dX2_wholeNotAbove_1 ?_
  refine jr_lstore_n (lv' := [(2, .long (fX2_wholeToZero v0)), (0, .long v0)]) C dX2_wholeNotAbove_4 rfl (by decide) rfl ?_
  exact jr_sub [1, 0] rfl (tX2_wholeNotAbove_5 C  v0 (fX2_wholeToZero v0) hv)
theorem pX2_wholeNotAbove (l : Launch) (v0 : Int64) : pu l yX2_wholeNotAbove cX2_wholeNotAbove 4 (some .long) 2 [.long v0] (.long (fX2_wholeNotAbove v0)) := pu_of (by decide +kernel) (Nat.le_of_ble_eq_true rfl) rfl (fun C => tX2_wholeNotAbove_0 C v0 rfl)
/-! RobotCell$Fraction.wholeNotBelow(J)J -/
def fX2_wholeNotBelow_24 (v2 : Int64) : Int64 :=
  v2
def fX2_wholeNotBelow_5 (v0 : Int64) (v2 : Int64) : Int64 :=
  if v0 ≤ 0 then fX2_wholeNotBelow_24 v2 else (if v2 = v0 then fX2_wholeNotBelow_24 v2 else fX2_wholeAway v0)
def fX2_wholeNotBelow (v0 : Int64) : Int64 :=
  fX2_wholeNotBelow_5 v0 (fX2_wholeToZero v0)
theorem oX2_wholeNotBelow : ok_s yX2_wholeNotBelow cX2_wholeNotBelow 4 (some .long) 1 := ⟨kw_380, kw_379, kw_74, by decide +kernel⟩
set_option maxRecDepth 100000 in
theorem tX2_wholeNotBelow_24 {p : Program} {l : Launch} {e : Env} {s : State} {m : MethodId} {args : Array Value} {below : List Frame} {meth : Method} {c : Code} (C : CC p s m args meth c yX2_wholeNotBelow cX2_wholeNotBelow 4 (some .long))  (v2 : Int64) {w : Int64} (hv : fX2_wholeNotBelow_24 v2 = w) : PJ p l e s m args below meth c 4 2 (.long w) 24 [(2, .long v2)] [] := by
  unfold fX2_wholeNotBelow_24 at hv
  refine jr_lload_n C dX2_wholeNotBelow_24 rfl 0 rfl ?_
  exact jp_lret C dX2_wholeNotBelow_25 (congrArg Value.long hv).symm
set_option maxRecDepth 100000 in
theorem tX2_wholeNotBelow_5 {p : Program} {l : Launch} {e : Env} {s : State} {m : MethodId} {args : Array Value} {below : List Frame} {meth : Method} {c : Code} (C : CC p s m args meth c yX2_wholeNotBelow cX2_wholeNotBelow 4 (some .long))  (v0 : Int64) (v2 : Int64) {w : Int64} (hv : fX2_wholeNotBelow_5 v0 v2 = w) : PJ p l e s m args below meth c 4 2 (.long w) 5 [(0, .long v0), (2, .long v2)] [] := by
  unfold fX2_wholeNotBelow_5 at hv
  refine jr_lload_n C dX2_wholeNotBelow_5 rfl 0 rfl ?_
  refine jr_lconst (v := 0) C dX2_wholeNotBelow_6 (by decide) ?_
  refine jr_lcmp_le (tgt := 24) C dX2_wholeNotBelow_7 dX2_wholeNotBelow_8 rfl (fun q7 => ?_) (fun q7 => ?_)
  · have hv := (if_pos q7).symm.trans hv
    exact jr_sub [1] rfl (tX2_wholeNotBelow_24 C  v2 hv)
  · have hv := (if_neg q7).symm.trans hv
    refine jr_lload_n C dX2_wholeNotBelow_11 rfl 1 rfl ?_
    refine jr_lload_n C dX2_wholeNotBelow_12 rfl 0 rfl ?_
    refine jr_lcmp_eq (tgt := 24) C dX2_wholeNotBelow_13 dX2_wholeNotBelow_14 rfl (fun q13 => ?_) (fun q13 => ?_)
    · have hv := (if_pos q13).symm.trans hv
      exact jr_sub [1] rfl (tX2_wholeNotBelow_24 C  v2 hv)
    · have hv := (if_neg q13).symm.trans hv
      refine jr_lload_n C dX2_wholeNotBelow_17 rfl 0 rfl ?_
      refine jr_pcall (rest := []) C (pX2_wholeAway l v0) oX2_wholeAway kw_374 rfl ⟨Nat.le_of_ble_eq_true rfl, Nat.le_of_ble_eq_true rfl⟩ rfl (Nat.le_of_ble_eq_true rfl) ⟨Nat.zero_le _, Nat.zero_le _⟩ dX2_wholeNotBelow_18 ?_
      refine jr_goto (tgt := 25) C dX2_wholeNotBelow_21 rfl ?_
      exact jp_lret C dX2_wholeNotBelow_25 (congrArg Value.long hv).symm
set_option maxRecDepth 100000 in
theorem tX2_wholeNotBelow_0 {p : Program} {l : Launch} {e : Env} {s : State} {m : MethodId} {args : Array Value} {below : List Frame} {meth : Method} {c : Code} (C : CC p s m args meth c yX2_wholeNotBelow cX2_wholeNotBelow 4 (some .long))  (v0 : Int64) {w : Int64} (hv : fX2_wholeNotBelow v0 = w) : PJ p l e s m args below meth c 4 2 (.long w) 0 [(0, .long v0)] [] := by
  unfold fX2_wholeNotBelow at hv
  refine jr_lload_n C dX2_wholeNotBelow_0 rfl 0 rfl ?_
  refine jr_pcall (rest := []) C (pX2_wholeToZero l v0) oX2_wholeToZero kw_367 rfl ⟨Nat.le_of_ble_eq_true rfl, Nat.le_of_ble_eq_true rfl⟩ rfl (Nat.le_of_ble_eq_true rfl) ⟨Nat.zero_le _, Nat.zero_le _⟩ dX2_wholeNotBelow_1 ?_
  refine jr_lstore_n (lv' := [(2, .long (fX2_wholeToZero v0)), (0, .long v0)]) C dX2_wholeNotBelow_4 rfl (by decide) rfl ?_
  exact jr_sub [1, 0] rfl (tX2_wholeNotBelow_5 C  v0 (fX2_wholeToZero v0) hv)
theorem pX2_wholeNotBelow (l : Launch) (v0 : Int64) : pu l yX2_wholeNotBelow cX2_wholeNotBelow 4 (some .long) 2 [.long v0] (.long (fX2_wholeNotBelow v0)) := pu_of (by decide +kernel) (Nat.le_of_ble_eq_true rfl) rfl (fun C => tX2_wholeNotBelow_0 C v0 rfl)
/-! RobotCell$Fraction.nearestWhole(J)J -/
def fX2_nearestWhole_91 (v0 : Int64) (t0 : Int32) : Int64 :=
  if t0 = 0 then fX2_wholeToZero v0 else fX2_wholeAway v0
def fX2_nearestWhole_86 (v0 : Int64) : Int64 :=
  fX2_nearestWhole_91 v0 1
def fX2_nearestWhole_90 (v0 : Int64) : Int64 :=
  fX2_nearestWhole_91 v0 0
def fX2_nearestWhole_62 (v0 : Int64) (v3 : Int64) (v5 : Int64) (v7 : Int64) : Int64 :=
  if v7 < v5 then fX2_nearestWhole_86 v0 else (if v5 = v7 then (if (v0 &&& v3) = 0 then fX2_nearestWhole_90 v0 else fX2_nearestWhole_86 v0) else fX2_nearestWhole_90 v0)
def fX2_nearestWhole_57 (v0 : Int64) (v3 : Int64) (v5 : Int64) : Int64 :=
  fX2_nearestWhole_62 v0 v3 v5 (((v3 : Int64).toUInt64 >>> ((1 : Int32).toInt64.toUInt64 &&& Int64.toUInt64 63)).toInt64)
def fX2_nearestWhole_50 (v0 : Int64) (v3 : Int64) : Int64 :=
  fX2_nearestWhole_57 v0 v3 (v0 &&& (v3 - 1))
def fX2_nearestWhole_5 (v0 : Int64) (v2 : Int32) : Int64 :=
  if v2 < 52 then (if 0 ≤ v2 then fX2_nearestWhole_50 v0 (((4503599627370496 : Int64).toUInt64 >>> ((v2 : Int32).toInt64.toUInt64 &&& Int64.toUInt64 63)).toInt64) else (if (fX2_magnitude v0) ≤ 4602678819172646912 then fX2_signBit v0 else (fX2_signBit v0) ||| 4607182418800017408)) else v0
def fX2_nearestWhole (v0 : Int64) : Int64 :=
  fX2_nearestWhole_5 v0 (fX2_exponent v0)
theorem oX2_nearestWhole : ok_s yX2_nearestWhole cX2_nearestWhole 10 (some .long) 1 := ⟨kw_383, kw_382, kw_74, by decide +kernel⟩
set_option maxRecDepth 100000 in
theorem tX2_nearestWhole_91 {p : Program} {l : Launch} {e : Env} {s : State} {m : MethodId} {args : Array Value} {below : List Frame} {meth : Method} {c : Code} (C : CC p s m args meth c yX2_nearestWhole cX2_nearestWhole 10 (some .long))  (v0 : Int64) (t0 : Int32) {w : Int64} (hv : fX2_nearestWhole_91 v0 t0 = w) : PJ p l e s m args below meth c 10 2 (.long w) 91 [(0, .long v0)] [.int t0] := by
  unfold fX2_nearestWhole_91 at hv
  refine jr_istore (lv' := [(9, .int t0), (0, .long v0)]) C dX2_nearestWhole_91 (by decide) rfl ?_
  refine jr_iload C dX2_nearestWhole_93 0 rfl ?_
  refine jr_if_eq (tgt := 105) C dX2_nearestWhole_95 rfl (fun q95 => ?_) (fun q95 => ?_)
  · have hv := (if_pos q95).symm.trans hv
    refine jr_lload_n C dX2_nearestWhole_105 rfl 1 rfl ?_
    refine jr_pcall (rest := []) C (pX2_wholeToZero l v0) oX2_wholeToZero kw_367 rfl ⟨Nat.le_of_ble_eq_true rfl, Nat.le_of_ble_eq_true rfl⟩ rfl (Nat.le_of_ble_eq_true rfl) ⟨Nat.zero_le _, Nat.zero_le _⟩ dX2_nearestWhole_106 ?_
    exact jp_lret C dX2_nearestWhole_109 (congrArg Value.long hv).symm
  · have hv := (if_neg q95).symm.trans hv
    refine jr_lload_n C dX2_nearestWhole_98 rfl 1 rfl ?_
    refine jr_pcall (rest := []) C (pX2_wholeAway l v0) oX2_wholeAway kw_374 rfl ⟨Nat.le_of_ble_eq_true rfl, Nat.le_of_ble_eq_true rfl⟩ rfl (Nat.le_of_ble_eq_true rfl) ⟨Nat.zero_le _, Nat.zero_le _⟩ dX2_nearestWhole_99 ?_
    refine jr_goto (tgt := 109) C dX2_nearestWhole_102 rfl ?_
    exact jp_lret C dX2_nearestWhole_109 (congrArg Value.long hv).symm
set_option maxRecDepth 100000 in
theorem tX2_nearestWhole_86 {p : Program} {l : Launch} {e : Env} {s : State} {m : MethodId} {args : Array Value} {below : List Frame} {meth : Method} {c : Code} (C : CC p s m args meth c yX2_nearestWhole cX2_nearestWhole 10 (some .long))  (v0 : Int64) {w : Int64} (hv : fX2_nearestWhole_86 v0 = w) : PJ p l e s m args below meth c 10 2 (.long w) 86 [(0, .long v0)] [] := by
  unfold fX2_nearestWhole_86 at hv
  refine jr_iconst (v := 1) C dX2_nearestWhole_86 (by decide) ?_
  refine jr_goto (tgt := 91) C dX2_nearestWhole_87 rfl ?_
  exact tX2_nearestWhole_91 C  v0 1 hv
set_option maxRecDepth 100000 in
theorem tX2_nearestWhole_90 {p : Program} {l : Launch} {e : Env} {s : State} {m : MethodId} {args : Array Value} {below : List Frame} {meth : Method} {c : Code} (C : CC p s m args meth c yX2_nearestWhole cX2_nearestWhole 10 (some .long))  (v0 : Int64) {w : Int64} (hv : fX2_nearestWhole_90 v0 = w) : PJ p l e s m args below meth c 10 2 (.long w) 90 [(0, .long v0)] [] := by
  unfold fX2_nearestWhole_90 at hv
  refine jr_iconst (v := 0) C dX2_nearestWhole_90 (by decide) ?_
  exact tX2_nearestWhole_91 C  v0 0 hv
set_option maxRecDepth 100000 in
theorem tX2_nearestWhole_62 {p : Program} {l : Launch} {e : Env} {s : State} {m : MethodId} {args : Array Value} {below : List Frame} {meth : Method} {c : Code} (C : CC p s m args meth c yX2_nearestWhole cX2_nearestWhole 10 (some .long))  (v0 : Int64) (v3 : Int64) (v5 : Int64) (v7 : Int64) {w : Int64} (hv : fX2_nearestWhole_62 v0 v3 v5 v7 = w) : PJ p l e s m args below meth c 10 2 (.long w) 62 [(0, .long v0), (3, .long v3), (5, .long v5), (7, .long v7)] [] := by
  unfold fX2_nearestWhole_62 at hv
  refine jr_lload C dX2_nearestWhole_62 2 rfl ?_
  refine jr_lload C dX2_nearestWhole_64 3 rfl ?_
  refine jr_lcmp_gt (tgt := 86) C dX2_nearestWhole_66 dX2_nearestWhole_67 rfl (fun q66 => ?_) (fun q66 => ?_)
  · have hv := (if_pos q66).symm.trans hv
    exact jr_sub [0] rfl (tX2_nearestWhole_86 C  v0 hv)
  · have hv := (if_neg q66).symm.trans hv
    refine jr_lload C dX2_nearestWhole_70 2 rfl ?_
    refine jr_lload C dX2_nearestWhole_72 3 rfl ?_
    refine jr_lcmp_ne (tgt := 90) C dX2_nearestWhole_74 dX2_nearestWhole_75 rfl (fun q74 => ?_) (fun q74 => ?_)
    · have hv := (if_neg q74).symm.trans hv
      exact jr_sub [0] rfl (tX2_nearestWhole_90 C  v0 hv)
    · have hv := (if_pos q74).symm.trans hv
      refine jr_lload_n C dX2_nearestWhole_78 rfl 0 rfl ?_
      refine jr_lload_n C dX2_nearestWhole_79 rfl 1 rfl ?_
      refine jr_land C dX2_nearestWhole_80 ?_
      refine jr_lconst (v := 0) C dX2_nearestWhole_81 (by decide) ?_
      refine jr_lcmp_eq (tgt := 90) C dX2_nearestWhole_82 dX2_nearestWhole_83 rfl (fun q82 => ?_) (fun q82 => ?_)
      · have hv := (if_pos q82).symm.trans hv
        exact jr_sub [0] rfl (tX2_nearestWhole_90 C  v0 hv)
      · have hv := (if_neg q82).symm.trans hv
        exact jr_sub [0] rfl (tX2_nearestWhole_86 C  v0 hv)
set_option maxRecDepth 100000 in
theorem tX2_nearestWhole_57 {p : Program} {l : Launch} {e : Env} {s : State} {m : MethodId} {args : Array Value} {below : List Frame} {meth : Method} {c : Code} (C : CC p s m args meth c yX2_nearestWhole cX2_nearestWhole 10 (some .long))  (v0 : Int64) (v3 : Int64) (v5 : Int64) {w : Int64} (hv : fX2_nearestWhole_57 v0 v3 v5 = w) : PJ p l e s m args below meth c 10 2 (.long w) 57 [(0, .long v0), (3, .long v3), (5, .long v5)] [] := by
  unfold fX2_nearestWhole_57 at hv
  refine jr_lload_n C dX2_nearestWhole_57 rfl 1 rfl ?_
  refine jr_iconst (v := 1) C dX2_nearestWhole_58 (by decide) ?_
  refine jr_lushr C dX2_nearestWhole_59 ?_
  refine jr_lstore (lv' := [(7, .long (((v3 : Int64).toUInt64 >>> ((1 : Int32).toInt64.toUInt64 &&& Int64.toUInt64 63)).toInt64)), (0, .long v0), (3, .long v3), (5, .long v5)]) C dX2_nearestWhole_60 (by decide) rfl ?_
  exact jr_sub [1, 2, 3, 0] rfl (tX2_nearestWhole_62 C  v0 v3 v5 (((v3 : Int64).toUInt64 >>> ((1 : Int32).toInt64.toUInt64 &&& Int64.toUInt64 63)).toInt64) hv)
set_option maxRecDepth 100000 in
theorem tX2_nearestWhole_50 {p : Program} {l : Launch} {e : Env} {s : State} {m : MethodId} {args : Array Value} {below : List Frame} {meth : Method} {c : Code} (C : CC p s m args meth c yX2_nearestWhole cX2_nearestWhole 10 (some .long))  (v0 : Int64) (v3 : Int64) {w : Int64} (hv : fX2_nearestWhole_50 v0 v3 = w) : PJ p l e s m args below meth c 10 2 (.long w) 50 [(0, .long v0), (3, .long v3)] [] := by
  unfold fX2_nearestWhole_50 at hv
  refine jr_lload_n C dX2_nearestWhole_50 rfl 0 rfl ?_
  refine jr_lload_n C dX2_nearestWhole_51 rfl 1 rfl ?_
  refine jr_lconst (v := 1) C dX2_nearestWhole_52 (by decide) ?_
  refine jr_lsub C dX2_nearestWhole_53 ?_
  refine jr_land C dX2_nearestWhole_54 ?_
  refine jr_lstore (lv' := [(5, .long (v0 &&& (v3 - 1))), (0, .long v0), (3, .long v3)]) C dX2_nearestWhole_55 (by decide) rfl ?_
  exact jr_sub [1, 2, 0] rfl (tX2_nearestWhole_57 C  v0 v3 (v0 &&& (v3 - 1)) hv)
set_option maxRecDepth 100000 in
theorem tX2_nearestWhole_5 {p : Program} {l : Launch} {e : Env} {s : State} {m : MethodId} {args : Array Value} {below : List Frame} {meth : Method} {c : Code} (C : CC p s m args meth c yX2_nearestWhole cX2_nearestWhole 10 (some .long))  (v0 : Int64) (v2 : Int32) {w : Int64} (hv : fX2_nearestWhole_5 v0 v2 = w) : PJ p l e s m args below meth c 10 2 (.long w) 5 [(0, .long v0), (2, .int v2)] [] := by
  unfold fX2_nearestWhole_5 at hv
  refine jr_iload_n C dX2_nearestWhole_5 rfl 1 rfl ?_
  refine jr_bipush (v := 52) C dX2_nearestWhole_6 (by decide) ?_
  refine jr_icmp_lt (tgt := 13) C dX2_nearestWhole_8 rfl (fun q8 => ?_) (fun q8 => ?_)
  · have hv := (if_pos q8).symm.trans hv
    refine jr_iload_n C dX2_nearestWhole_13 rfl 1 rfl ?_
    refine jr_if_ge (tgt := 44) C dX2_nearestWhole_14 rfl (fun q14 => ?_) (fun q14 => ?_)
    · have hv := (if_pos q14).symm.trans hv
      refine jr_ldc2 C kw_311 dX2_nearestWhole_44 ?_
      refine jr_iload_n C dX2_nearestWhole_47 rfl 1 rfl ?_
      refine jr_lushr C dX2_nearestWhole_48 ?_
      refine jr_lstore_n (lv' := [(3, .long (((4503599627370496 : Int64).toUInt64 >>> ((v2 : Int32).toInt64.toUInt64 &&& Int64.toUInt64 63)).toInt64)), (0, .long v0), (2, .int v2)]) C dX2_nearestWhole_49 rfl (by decide) rfl ?_
      exact jr_sub [1, 0] rfl (tX2_nearestWhole_50 C  v0 (((4503599627370496 : Int64).toUInt64 >>> ((v2 : Int32).toInt64.toUInt64 &&& Int64.toUInt64 63)).toInt64) hv)
    · have hv := (if_neg q14).symm.trans hv
      refine jr_lload_n C dX2_nearestWhole_17 rfl 0 rfl ?_
      refine jr_pcall (rest := []) C (pX2_magnitude l v0) oX2_magnitude kw_329 rfl ⟨Nat.le_of_ble_eq_true rfl, Nat.le_of_ble_eq_true rfl⟩ rfl (Nat.le_of_ble_eq_true rfl) ⟨Nat.zero_le _, Nat.zero_le _⟩ dX2_nearestWhole_18 ?_
      refine jr_ldc2 C kw_384 dX2_nearestWhole_21 ?_
      refine jr_lcmp_le (tgt := 39) C dX2_nearestWhole_24 dX2_nearestWhole_25 rfl (fun q24 => ?_) (fun q24 => ?_)
      · have hv := (if_pos q24).symm.trans hv
        refine jr_lload_n C dX2_nearestWhole_39 rfl 0 rfl ?_
        refine jr_pcall (rest := []) C (pX2_signBit l v0) oX2_signBit kw_298 rfl ⟨Nat.le_of_ble_eq_true rfl, Nat.le_of_ble_eq_true rfl⟩ rfl (Nat.le_of_ble_eq_true rfl) ⟨Nat.zero_le _, Nat.zero_le _⟩ dX2_nearestWhole_40 ?_
        exact jp_lret C dX2_nearestWhole_43 (congrArg Value.long hv).symm
      · have hv := (if_neg q24).symm.trans hv
        refine jr_lload_n C dX2_nearestWhole_28 rfl 0 rfl ?_
        refine jr_pcall (rest := []) C (pX2_signBit l v0) oX2_signBit kw_298 rfl ⟨Nat.le_of_ble_eq_true rfl, Nat.le_of_ble_eq_true rfl⟩ rfl (Nat.le_of_ble_eq_true rfl) ⟨Nat.zero_le _, Nat.zero_le _⟩ dX2_nearestWhole_29 ?_
        refine jr_ldc2 C kw_377 dX2_nearestWhole_32 ?_
        refine jr_lor C dX2_nearestWhole_35 ?_
        refine jr_goto (tgt := 43) C dX2_nearestWhole_36 rfl ?_
        exact jp_lret C dX2_nearestWhole_43 (congrArg Value.long hv).symm
  · have hv := (if_neg q8).symm.trans hv
    refine jr_lload_n C dX2_nearestWhole_11 rfl 0 rfl ?_
    exact jp_lret C dX2_nearestWhole_12 (congrArg Value.long hv).symm
set_option maxRecDepth 100000 in
theorem tX2_nearestWhole_0 {p : Program} {l : Launch} {e : Env} {s : State} {m : MethodId} {args : Array Value} {below : List Frame} {meth : Method} {c : Code} (C : CC p s m args meth c yX2_nearestWhole cX2_nearestWhole 10 (some .long))  (v0 : Int64) {w : Int64} (hv : fX2_nearestWhole v0 = w) : PJ p l e s m args below meth c 10 2 (.long w) 0 [(0, .long v0)] [] := by
  unfold fX2_nearestWhole at hv
  refine jr_lload_n C dX2_nearestWhole_0 rfl 0 rfl ?_
  refine jr_pcall (rest := []) C (pX2_exponent l v0) oX2_exponent kw_370 rfl ⟨Nat.le_of_ble_eq_true rfl, Nat.le_of_ble_eq_true rfl⟩ rfl (Nat.le_of_ble_eq_true rfl) ⟨Nat.zero_le _, Nat.zero_le _⟩ dX2_nearestWhole_1 ?_
  refine jr_istore_n (lv' := [(2, .int (fX2_exponent v0)), (0, .long v0)]) C dX2_nearestWhole_4 rfl (by decide) rfl ?_
  exact jr_sub [1, 0] rfl (tX2_nearestWhole_5 C  v0 (fX2_exponent v0) hv)
theorem pX2_nearestWhole (l : Launch) (v0 : Int64) : pu l yX2_nearestWhole cX2_nearestWhole 10 (some .long) 2 [.long v0] (.long (fX2_nearestWhole v0)) := pu_of (by decide +kernel) (Nat.le_of_ble_eq_true rfl) rfl (fun C => tX2_nearestWhole_0 C v0 rfl)
/-! RobotCell$Fraction.step(J)J -/
def fX2_step_14 (v0 : Int64) : Int64 :=
  fX2_magnitude v0
def fX2_step_24 (v2 : Int32) : Int64 :=
  if (-1022) ≤ v2 then fX2_nearest 1 (v2 - 52) 52 1023 else 1
def fX2_step (v0 : Int64) : Int64 :=
  if (fX2_isLost v0) = 0 then (if (fX2_isInfinite v0) = 0 then fX2_step_24 (fX2_exponent v0) else fX2_step_14 v0) else fX2_step_14 v0
theorem oX2_step : ok_s yX2_step cX2_step 3 (some .long) 1 := ⟨kw_397, kw_396, kw_74, by decide +kernel⟩
set_option maxRecDepth 100000 in
theorem tX2_step_14 {p : Program} {l : Launch} {e : Env} {s : State} {m : MethodId} {args : Array Value} {below : List Frame} {meth : Method} {c : Code} (C : CC p s m args meth c yX2_step cX2_step 3 (some .long))  (v0 : Int64) {w : Int64} (hv : fX2_step_14 v0 = w) : PJ p l e s m args below meth c 3 3 (.long w) 14 [(0, .long v0)] [] := by
  unfold fX2_step_14 at hv
  refine jr_lload_n C dX2_step_14 rfl 0 rfl ?_
  refine jr_pcall (rest := []) C (pX2_magnitude l v0) oX2_magnitude kw_329 rfl ⟨Nat.le_of_ble_eq_true rfl, Nat.le_of_ble_eq_true rfl⟩ rfl (Nat.le_of_ble_eq_true rfl) ⟨Nat.zero_le _, Nat.zero_le _⟩ dX2_step_15 ?_
  exact jp_lret C dX2_step_18 (congrArg Value.long hv).symm
set_option maxRecDepth 100000 in
theorem tX2_step_24 {p : Program} {l : Launch} {e : Env} {s : State} {m : MethodId} {args : Array Value} {below : List Frame} {meth : Method} {c : Code} (C : CC p s m args meth c yX2_step cX2_step 3 (some .long))  (v2 : Int32) {w : Int64} (hv : fX2_step_24 v2 = w) : PJ p l e s m args below meth c 3 3 (.long w) 24 [(2, .int v2)] [] := by
  unfold fX2_step_24 at hv
  refine jr_iload_n C dX2_step_24 rfl 0 rfl ?_
  refine jr_sipush (v := (-1022)) C dX2_step_25 (by decide) ?_
  refine jr_icmp_ge (tgt := 35) C dX2_step_28 rfl (fun q28 => ?_) (fun q28 => ?_)
  · have hv := (if_pos q28).symm.trans hv
    refine jr_lconst (v := 1) C dX2_step_35 (by decide) ?_
    refine jr_iload_n C dX2_step_36 rfl 0 rfl ?_
    refine jr_bipush (v := 52) C dX2_step_37 (by decide) ?_
    refine jr_isub C dX2_step_39 ?_
    refine jr_bipush (v := 52) C dX2_step_40 (by decide) ?_
    refine jr_sipush (v := 1023) C dX2_step_42 (by decide) ?_
    refine jr_pcall (rest := []) C (pX2_nearest l 1 (v2 - 52) 52 1023) oX2_nearest kw_276 rfl ⟨Nat.le_of_ble_eq_true rfl, Nat.le_of_ble_eq_true rfl⟩ rfl (Nat.le_of_ble_eq_true rfl) ⟨Nat.zero_le _, Nat.zero_le _⟩ dX2_step_45 ?_
    exact jp_lret C dX2_step_48 (congrArg Value.long hv).symm
  · have hv := (if_neg q28).symm.trans hv
    refine jr_lconst (v := 1) C dX2_step_31 (by decide) ?_
    refine jr_goto (tgt := 48) C dX2_step_32 rfl ?_
    exact jp_lret C dX2_step_48 (congrArg Value.long hv).symm
set_option maxRecDepth 100000 in
theorem tX2_step_0 {p : Program} {l : Launch} {e : Env} {s : State} {m : MethodId} {args : Array Value} {below : List Frame} {meth : Method} {c : Code} (C : CC p s m args meth c yX2_step cX2_step 3 (some .long))  (v0 : Int64) {w : Int64} (hv : fX2_step v0 = w) : PJ p l e s m args below meth c 3 3 (.long w) 0 [(0, .long v0)] [] := by
  unfold fX2_step at hv
  refine jr_lload_n C dX2_step_0 rfl 0 rfl ?_
  refine jr_pcall (rest := []) C (pX2_isLost l v0) oX2_isLost kw_292 rfl ⟨Nat.le_of_ble_eq_true rfl, Nat.le_of_ble_eq_true rfl⟩ rfl (Nat.le_of_ble_eq_true rfl) ⟨Nat.zero_le _, Nat.zero_le _⟩ dX2_step_1 ?_
  refine jr_if_ne (tgt := 14) C dX2_step_4 rfl (fun q4 => ?_) (fun q4 => ?_)
  · have hv := (if_neg q4).symm.trans hv
    exact tX2_step_14 C  v0 hv
  · have hv := (if_pos q4).symm.trans hv
    refine jr_lload_n C dX2_step_7 rfl 0 rfl ?_
    refine jr_pcall (rest := []) C (pX2_isInfinite l v0) oX2_isInfinite kw_301 rfl ⟨Nat.le_of_ble_eq_true rfl, Nat.le_of_ble_eq_true rfl⟩ rfl (Nat.le_of_ble_eq_true rfl) ⟨Nat.zero_le _, Nat.zero_le _⟩ dX2_step_8 ?_
    refine jr_if_eq (tgt := 19) C dX2_step_11 rfl (fun q11 => ?_) (fun q11 => ?_)
    · have hv := (if_pos q11).symm.trans hv
      refine jr_lload_n C dX2_step_19 rfl 0 rfl ?_
      refine jr_pcall (rest := []) C (pX2_exponent l v0) oX2_exponent kw_370 rfl ⟨Nat.le_of_ble_eq_true rfl, Nat.le_of_ble_eq_true rfl⟩ rfl (Nat.le_of_ble_eq_true rfl) ⟨Nat.zero_le _, Nat.zero_le _⟩ dX2_step_20 ?_
      refine jr_istore_n (lv' := [(2, .int (fX2_exponent v0)), (0, .long v0)]) C dX2_step_23 rfl (by decide) rfl ?_
      exact jr_sub [0] rfl (tX2_step_24 C  (fX2_exponent v0) hv)
    · have hv := (if_neg q11).symm.trans hv
      exact tX2_step_14 C  v0 hv
theorem pX2_step (l : Launch) (v0 : Int64) : pu l yX2_step cX2_step 3 (some .long) 3 [.long v0] (.long (fX2_step v0)) := pu_of (by decide +kernel) (Nat.le_of_ble_eq_true rfl) rfl (fun C => tX2_step_0 C v0 rfl)
/-! RobotCell$Fraction.nextAbove(J)J -/
def fX2_nextAbove_15 (v0 : Int64) : Int64 :=
  v0
def fX2_nextAbove (v0 : Int64) : Int64 :=
  if (fX2_isLost v0) = 0 then (if v0 = 9218868437227405312 then fX2_nextAbove_15 v0 else (if (fX2_isZero v0) = 0 then (if 0 ≤ v0 then v0 + 1 else v0 - 1) else 1)) else fX2_nextAbove_15 v0
theorem oX2_nextAbove : ok_s yX2_nextAbove cX2_nextAbove 2 (some .long) 1 := ⟨kw_400, kw_399, kw_74, by decide +kernel⟩
set_option maxRecDepth 100000 in
theorem tX2_nextAbove_15 {p : Program} {l : Launch} {e : Env} {s : State} {m : MethodId} {args : Array Value} {below : List Frame} {meth : Method} {c : Code} (C : CC p s m args meth c yX2_nextAbove cX2_nextAbove 2 (some .long))  (v0 : Int64) {w : Int64} (hv : fX2_nextAbove_15 v0 = w) : PJ p l e s m args below meth c 2 1 (.long w) 15 [(0, .long v0)] [] := by
  unfold fX2_nextAbove_15 at hv
  refine jr_lload_n C dX2_nextAbove_15 rfl 0 rfl ?_
  exact jp_lret C dX2_nextAbove_16 (congrArg Value.long hv).symm
set_option maxRecDepth 100000 in
theorem tX2_nextAbove_0 {p : Program} {l : Launch} {e : Env} {s : State} {m : MethodId} {args : Array Value} {below : List Frame} {meth : Method} {c : Code} (C : CC p s m args meth c yX2_nextAbove cX2_nextAbove 2 (some .long))  (v0 : Int64) {w : Int64} (hv : fX2_nextAbove v0 = w) : PJ p l e s m args below meth c 2 1 (.long w) 0 [(0, .long v0)] [] := by
  unfold fX2_nextAbove at hv
  refine jr_lload_n C dX2_nextAbove_0 rfl 0 rfl ?_
  refine jr_pcall (rest := []) C (pX2_isLost l v0) oX2_isLost kw_292 rfl ⟨Nat.le_of_ble_eq_true rfl, Nat.le_of_ble_eq_true rfl⟩ rfl (Nat.le_of_ble_eq_true rfl) ⟨Nat.zero_le _, Nat.zero_le _⟩ dX2_nextAbove_1 ?_
  refine jr_if_ne (tgt := 15) C dX2_nextAbove_4 rfl (fun q4 => ?_) (fun q4 => ?_)
  · have hv := (if_neg q4).symm.trans hv
    exact tX2_nextAbove_15 C  v0 hv
  · have hv := (if_pos q4).symm.trans hv
    refine jr_lload_n C dX2_nextAbove_7 rfl 0 rfl ?_
    refine jr_ldc2 C kw_296 dX2_nextAbove_8 ?_
    refine jr_lcmp_ne (tgt := 17) C dX2_nextAbove_11 dX2_nextAbove_12 rfl (fun q11 => ?_) (fun q11 => ?_)
    · have hv := (if_neg q11).symm.trans hv
      refine jr_lload_n C dX2_nextAbove_17 rfl 0 rfl ?_
      refine jr_pcall (rest := []) C (pX2_isZero l v0) oX2_isZero kw_304 rfl ⟨Nat.le_of_ble_eq_true rfl, Nat.le_of_ble_eq_true rfl⟩ rfl (Nat.le_of_ble_eq_true rfl) ⟨Nat.zero_le _, Nat.zero_le _⟩ dX2_nextAbove_18 ?_
      refine jr_if_eq (tgt := 26) C dX2_nextAbove_21 rfl (fun q21 => ?_) (fun q21 => ?_)
      · have hv := (if_pos q21).symm.trans hv
        refine jr_lload_n C dX2_nextAbove_26 rfl 0 rfl ?_
        refine jr_lconst (v := 0) C dX2_nextAbove_27 (by decide) ?_
        refine jr_lcmp_ge (tgt := 38) C dX2_nextAbove_28 dX2_nextAbove_29 rfl (fun q28 => ?_) (fun q28 => ?_)
        · have hv := (if_pos q28).symm.trans hv
          refine jr_lload_n C dX2_nextAbove_38 rfl 0 rfl ?_
          refine jr_lconst (v := 1) C dX2_nextAbove_39 (by decide) ?_
          refine jr_ladd C dX2_nextAbove_40 ?_
          exact jp_lret C dX2_nextAbove_41 (congrArg Value.long hv).symm
        · have hv := (if_neg q28).symm.trans hv
          refine jr_lload_n C dX2_nextAbove_32 rfl 0 rfl ?_
          refine jr_lconst (v := 1) C dX2_nextAbove_33 (by decide) ?_
          refine jr_lsub C dX2_nextAbove_34 ?_
          refine jr_goto (tgt := 41) C dX2_nextAbove_35 rfl ?_
          exact jp_lret C dX2_nextAbove_41 (congrArg Value.long hv).symm
      · have hv := (if_neg q21).symm.trans hv
        refine jr_lconst (v := 1) C dX2_nextAbove_24 (by decide) ?_
        exact jp_lret C dX2_nextAbove_25 (congrArg Value.long hv).symm
    · have hv := (if_pos q11).symm.trans hv
      exact tX2_nextAbove_15 C  v0 hv
theorem pX2_nextAbove (l : Launch) (v0 : Int64) : pu l yX2_nextAbove cX2_nextAbove 2 (some .long) 1 [.long v0] (.long (fX2_nextAbove v0)) := pu_of (by decide +kernel) (Nat.le_of_ble_eq_true rfl) rfl (fun C => tX2_nextAbove_0 C v0 rfl)
/-! RobotCell$Fraction.nextBelow(J)J -/
def fX2_nextBelow (v0 : Int64) : Int64 :=
  fX2_opposite (fX2_nextAbove (fX2_opposite v0))
theorem oX2_nextBelow : ok_s yX2_nextBelow cX2_nextBelow 2 (some .long) 1 := ⟨kw_403, kw_402, kw_74, by decide +kernel⟩
set_option maxRecDepth 100000 in
theorem tX2_nextBelow_0 {p : Program} {l : Launch} {e : Env} {s : State} {m : MethodId} {args : Array Value} {below : List Frame} {meth : Method} {c : Code} (C : CC p s m args meth c yX2_nextBelow cX2_nextBelow 2 (some .long))  (v0 : Int64) {w : Int64} (hv : fX2_nextBelow v0 = w) : PJ p l e s m args below meth c 2 2 (.long w) 0 [(0, .long v0)] [] := by
  unfold fX2_nextBelow at hv
  refine jr_lload_n C dX2_nextBelow_0 rfl 0 rfl ?_
  refine jr_pcall (rest := []) C (pX2_opposite l v0) oX2_opposite kw_341 rfl ⟨Nat.le_of_ble_eq_true rfl, Nat.le_of_ble_eq_true rfl⟩ rfl (Nat.le_of_ble_eq_true rfl) ⟨Nat.zero_le _, Nat.zero_le _⟩ dX2_nextBelow_1 ?_
  refine jr_pcall (rest := []) C (pX2_nextAbove l (fX2_opposite v0)) oX2_nextAbove kw_404 rfl ⟨Nat.le_of_ble_eq_true rfl, Nat.le_of_ble_eq_true rfl⟩ rfl (Nat.le_of_ble_eq_true rfl) ⟨Nat.zero_le _, Nat.zero_le _⟩ dX2_nextBelow_4 ?_
  refine jr_pcall (rest := []) C (pX2_opposite l (fX2_nextAbove (fX2_opposite v0))) oX2_opposite kw_341 rfl ⟨Nat.le_of_ble_eq_true rfl, Nat.le_of_ble_eq_true rfl⟩ rfl (Nat.le_of_ble_eq_true rfl) ⟨Nat.zero_le _, Nat.zero_le _⟩ dX2_nextBelow_7 ?_
  exact jp_lret C dX2_nextBelow_10 (congrArg Value.long hv).symm
theorem pX2_nextBelow (l : Launch) (v0 : Int64) : pu l yX2_nextBelow cX2_nextBelow 2 (some .long) 2 [.long v0] (.long (fX2_nextBelow v0)) := pu_of (by decide +kernel) (Nat.le_of_ble_eq_true rfl) rfl (fun C => tX2_nextBelow_0 C v0 rfl)
/-! RobotCell$Fraction.scaled(JJ)J -/
def fX2_scaled_21 (v0 : Int64) : Int64 :=
  v0
def fX2_scaled_39 (v0 : Int64) (v4 : Int32) : Int64 :=
  (fX2_signBit v0) ||| (fX2_nearest (fX2_significand v0) ((fX2_scale v0) + v4) 52 1023)
def fX2_scaled (v0 : Int64) (v2 : Int64) : Int64 :=
  if (fX2_isLost v0) = 0 then (if (fX2_isInfinite v0) = 0 then (if (fX2_isZero v0) = 0 then fX2_scaled_39 v0 ((mxJ (-3000) (mnJ 3000 v2)).toInt32) else fX2_scaled_21 v0) else fX2_scaled_21 v0) else fX2_scaled_21 v0
theorem oX2_scaled : ok_s yX2_scaled cX2_scaled 5 (some .long) 2 := ⟨kw_440, kw_439, kw_74, by decide +kernel⟩
set_option maxRecDepth 100000 in
theorem tX2_scaled_21 {p : Program} {l : Launch} {e : Env} {s : State} {m : MethodId} {args : Array Value} {below : List Frame} {meth : Method} {c : Code} (C : CC p s m args meth c yX2_scaled cX2_scaled 5 (some .long))  (v0 : Int64) {w : Int64} (hv : fX2_scaled_21 v0 = w) : PJ p l e s m args below meth c 5 3 (.long w) 21 [(0, .long v0)] [] := by
  unfold fX2_scaled_21 at hv
  refine jr_lload_n C dX2_scaled_21 rfl 0 rfl ?_
  exact jp_lret C dX2_scaled_22 (congrArg Value.long hv).symm
set_option maxRecDepth 100000 in
theorem tX2_scaled_39 {p : Program} {l : Launch} {e : Env} {s : State} {m : MethodId} {args : Array Value} {below : List Frame} {meth : Method} {c : Code} (C : CC p s m args meth c yX2_scaled cX2_scaled 5 (some .long))  (v0 : Int64) (v4 : Int32) {w : Int64} (hv : fX2_scaled_39 v0 v4 = w) : PJ p l e s m args below meth c 5 3 (.long w) 39 [(0, .long v0), (4, .int v4)] [] := by
  unfold fX2_scaled_39 at hv
  refine jr_lload_n C dX2_scaled_39 rfl 0 rfl ?_
  refine jr_pcall (rest := []) C (pX2_signBit l v0) oX2_signBit kw_298 rfl ⟨Nat.le_of_ble_eq_true rfl, Nat.le_of_ble_eq_true rfl⟩ rfl (Nat.le_of_ble_eq_true rfl) ⟨Nat.zero_le _, Nat.zero_le _⟩ dX2_scaled_40 ?_
  refine jr_lload_n C dX2_scaled_43 rfl 0 rfl ?_
  refine jr_pcall (rest := [.long (fX2_signBit v0)]) C (pX2_significand l v0) oX2_significand kw_307 rfl ⟨Nat.le_of_ble_eq_true rfl, Nat.le_of_ble_eq_true rfl⟩ rfl (Nat.le_of_ble_eq_true rfl) ⟨Nat.zero_le _, Nat.zero_le _⟩ dX2_scaled_44 ?_
  refine jr_lload_n C dX2_scaled_47 rfl 0 rfl ?_
  refine jr_pcall (rest := [.long (fX2_significand v0), .long (fX2_signBit v0)]) C (pX2_scale l v0) oX2_scale kw_315 rfl ⟨Nat.le_of_ble_eq_true rfl, Nat.le_of_ble_eq_true rfl⟩ rfl (Nat.le_of_ble_eq_true rfl) ⟨Nat.zero_le _, Nat.zero_le _⟩ dX2_scaled_48 ?_
  refine jr_iload C dX2_scaled_51 1 rfl ?_
  refine jr_iadd C dX2_scaled_53 ?_
  refine jr_bipush (v := 52) C dX2_scaled_54 (by decide) ?_
  refine jr_sipush (v := 1023) C dX2_scaled_56 (by decide) ?_
  refine jr_pcall (rest := [.long (fX2_signBit v0)]) C (pX2_nearest l (fX2_significand v0) ((fX2_scale v0) + v4) 52 1023) oX2_nearest kw_276 rfl ⟨Nat.le_of_ble_eq_true rfl, Nat.le_of_ble_eq_true rfl⟩ rfl (Nat.le_of_ble_eq_true rfl) ⟨Nat.zero_le _, Nat.zero_le _⟩ dX2_scaled_59 ?_
  refine jr_lor C dX2_scaled_62 ?_
  exact jp_lret C dX2_scaled_63 (congrArg Value.long hv).symm
set_option maxRecDepth 100000 in
theorem tX2_scaled_0 {p : Program} {l : Launch} {e : Env} {s : State} {m : MethodId} {args : Array Value} {below : List Frame} {meth : Method} {c : Code} (C : CC p s m args meth c yX2_scaled cX2_scaled 5 (some .long))  (v0 : Int64) (v2 : Int64) {w : Int64} (hv : fX2_scaled v0 v2 = w) : PJ p l e s m args below meth c 5 3 (.long w) 0 [(0, .long v0), (2, .long v2)] [] := by
  unfold fX2_scaled at hv
  refine jr_lload_n C dX2_scaled_0 rfl 0 rfl ?_
  refine jr_pcall (rest := []) C (pX2_isLost l v0) oX2_isLost kw_292 rfl ⟨Nat.le_of_ble_eq_true rfl, Nat.le_of_ble_eq_true rfl⟩ rfl (Nat.le_of_ble_eq_true rfl) ⟨Nat.zero_le _, Nat.zero_le _⟩ dX2_scaled_1 ?_
  refine jr_if_ne (tgt := 21) C dX2_scaled_4 rfl (fun q4 => ?_) (fun q4 => ?_)
  · have hv := (if_neg q4).symm.trans hv
    exact jr_sub [0] rfl (tX2_scaled_21 C  v0 hv)
  · have hv := (if_pos q4).symm.trans hv
    refine jr_lload_n C dX2_scaled_7 rfl 0 rfl ?_
    refine jr_pcall (rest := []) C (pX2_isInfinite l v0) oX2_isInfinite kw_301 rfl ⟨Nat.le_of_ble_eq_true rfl, Nat.le_of_ble_eq_true rfl⟩ rfl (Nat.le_of_ble_eq_true rfl) ⟨Nat.zero_le _, Nat.zero_le _⟩ dX2_scaled_8 ?_
    refine jr_if_ne (tgt := 21) C dX2_scaled_11 rfl (fun q11 => ?_) (fun q11 => ?_)
    · have hv := (if_neg q11).symm.trans hv
      exact jr_sub [0] rfl (tX2_scaled_21 C  v0 hv)
    · have hv := (if_pos q11).symm.trans hv
      refine jr_lload_n C dX2_scaled_14 rfl 0 rfl ?_
      refine jr_pcall (rest := []) C (pX2_isZero l v0) oX2_isZero kw_304 rfl ⟨Nat.le_of_ble_eq_true rfl, Nat.le_of_ble_eq_true rfl⟩ rfl (Nat.le_of_ble_eq_true rfl) ⟨Nat.zero_le _, Nat.zero_le _⟩ dX2_scaled_15 ?_
      refine jr_if_eq (tgt := 23) C dX2_scaled_18 rfl (fun q18 => ?_) (fun q18 => ?_)
      · have hv := (if_pos q18).symm.trans hv
        refine jr_ldc2 C kw_441 dX2_scaled_23 ?_
        refine jr_ldc2 C kw_442 dX2_scaled_26 ?_
        refine jr_lload_n C dX2_scaled_29 rfl 1 rfl ?_
        refine jr_mnJ C kw_443 (Nat.le_of_ble_eq_true rfl) (Nat.le_of_ble_eq_true rfl) (Nat.zero_le _) (Nat.zero_le _) dX2_scaled_30 ?_
        refine jr_mxJ C kw_446 (Nat.le_of_ble_eq_true rfl) (Nat.le_of_ble_eq_true rfl) (Nat.zero_le _) (Nat.zero_le _) dX2_scaled_33 ?_
        refine jr_l2i C dX2_scaled_36 ?_
        refine jr_istore (lv' := [(4, .int ((mxJ (-3000) (mnJ 3000 v2)).toInt32)), (0, .long v0), (2, .long v2)]) C dX2_scaled_37 (by decide) rfl ?_
        exact jr_sub [1, 0] rfl (tX2_scaled_39 C  v0 ((mxJ (-3000) (mnJ 3000 v2)).toInt32) hv)
      · have hv := (if_neg q18).symm.trans hv
        exact jr_sub [0] rfl (tX2_scaled_21 C  v0 hv)
theorem pX2_scaled (l : Launch) (v0 : Int64) (v2 : Int64) : pu l yX2_scaled cX2_scaled 5 (some .long) 3 [.long v0, .long v2] (.long (fX2_scaled v0 v2)) := pu_of (by decide +kernel) (Nat.le_of_ble_eq_true rfl) rfl (fun C => tX2_scaled_0 C v0 v2 rfl)
/-! RobotCell$Fraction.isLike(JJ)Z -/
def fX2_isLike_14  : Int32 :=
  0
def fX2_isLike_36  : Int32 :=
  1
def fX2_isLike_40  : Int32 :=
  0
def fX2_isLike (v0 : Int64) (v2 : Int64) : Int32 :=
  if (fX2_isLost v0) = 0 then (if (fX2_isLost v2) = 0 then (if v0 = v2 then fX2_isLike_36 else (if (fX2_isZero v0) = 0 then fX2_isLike_40 else (if (fX2_isZero v2) = 0 then fX2_isLike_40 else fX2_isLike_36))) else fX2_isLike_14) else fX2_isLike_14
theorem oX2_isLike : ok_s yX2_isLike cX2_isLike 4 (some .boolean) 2 := ⟨kw_461, kw_460, kw_74, by decide +kernel⟩
set_option maxRecDepth 100000 in
theorem tX2_isLike_14 {p : Program} {l : Launch} {e : Env} {s : State} {m : MethodId} {args : Array Value} {below : List Frame} {meth : Method} {c : Code} (C : CC p s m args meth c yX2_isLike cX2_isLike 4 (some .boolean))   {w : Int32} (hv : fX2_isLike_14  = w) : PJ p l e s m args below meth c 4 1 (.int w) 14 [] [] := by
  unfold fX2_isLike_14 at hv
  refine jr_iconst (v := 0) C dX2_isLike_14 (by decide) ?_
  exact jp_zret C dX2_isLike_15 rfl (congrArg Value.int hv).symm
set_option maxRecDepth 100000 in
theorem tX2_isLike_36 {p : Program} {l : Launch} {e : Env} {s : State} {m : MethodId} {args : Array Value} {below : List Frame} {meth : Method} {c : Code} (C : CC p s m args meth c yX2_isLike cX2_isLike 4 (some .boolean))   {w : Int32} (hv : fX2_isLike_36  = w) : PJ p l e s m args below meth c 4 1 (.int w) 36 [] [] := by
  unfold fX2_isLike_36 at hv
  refine jr_iconst (v := 1) C dX2_isLike_36 (by decide) ?_
  refine jr_goto (tgt := 41) C dX2_isLike_37 rfl ?_
  exact jp_zret C dX2_isLike_41 rfl (congrArg Value.int hv).symm
set_option maxRecDepth 100000 in
theorem tX2_isLike_40 {p : Program} {l : Launch} {e : Env} {s : State} {m : MethodId} {args : Array Value} {below : List Frame} {meth : Method} {c : Code} (C : CC p s m args meth c yX2_isLike cX2_isLike 4 (some .boolean))   {w : Int32} (hv : fX2_isLike_40  = w) : PJ p l e s m args below meth c 4 1 (.int w) 40 [] [] := by
  unfold fX2_isLike_40 at hv
  refine jr_iconst (v := 0) C dX2_isLike_40 (by decide) ?_
  exact jp_zret C dX2_isLike_41 rfl (congrArg Value.int hv).symm
set_option maxRecDepth 100000 in
theorem tX2_isLike_0 {p : Program} {l : Launch} {e : Env} {s : State} {m : MethodId} {args : Array Value} {below : List Frame} {meth : Method} {c : Code} (C : CC p s m args meth c yX2_isLike cX2_isLike 4 (some .boolean))  (v0 : Int64) (v2 : Int64) {w : Int32} (hv : fX2_isLike v0 v2 = w) : PJ p l e s m args below meth c 4 1 (.int w) 0 [(0, .long v0), (2, .long v2)] [] := by
  unfold fX2_isLike at hv
  refine jr_lload_n C dX2_isLike_0 rfl 0 rfl ?_
  refine jr_pcall (rest := []) C (pX2_isLost l v0) oX2_isLost kw_292 rfl ⟨Nat.le_of_ble_eq_true rfl, Nat.le_of_ble_eq_true rfl⟩ rfl (Nat.le_of_ble_eq_true rfl) ⟨Nat.zero_le _, Nat.zero_le _⟩ dX2_isLike_1 ?_
  refine jr_if_ne (tgt := 14) C dX2_isLike_4 rfl (fun q4 => ?_) (fun q4 => ?_)
  · have hv := (if_neg q4).symm.trans hv
    exact jr_sub [] rfl (tX2_isLike_14 C   hv)
  · have hv := (if_pos q4).symm.trans hv
    refine jr_lload_n C dX2_isLike_7 rfl 1 rfl ?_
    refine jr_pcall (rest := []) C (pX2_isLost l v2) oX2_isLost kw_292 rfl ⟨Nat.le_of_ble_eq_true rfl, Nat.le_of_ble_eq_true rfl⟩ rfl (Nat.le_of_ble_eq_true rfl) ⟨Nat.zero_le _, Nat.zero_le _⟩ dX2_isLike_8 ?_
    refine jr_if_eq (tgt := 16) C dX2_isLike_11 rfl (fun q11 => ?_) (fun q11 => ?_)
    · have hv := (if_pos q11).symm.trans hv
      refine jr_lload_n C dX2_isLike_16 rfl 0 rfl ?_
      refine jr_lload_n C dX2_isLike_17 rfl 1 rfl ?_
      refine jr_lcmp_eq (tgt := 36) C dX2_isLike_18 dX2_isLike_19 rfl (fun q18 => ?_) (fun q18 => ?_)
      · have hv := (if_pos q18).symm.trans hv
        exact jr_sub [] rfl (tX2_isLike_36 C   hv)
      · have hv := (if_neg q18).symm.trans hv
        refine jr_lload_n C dX2_isLike_22 rfl 0 rfl ?_
        refine jr_pcall (rest := []) C (pX2_isZero l v0) oX2_isZero kw_304 rfl ⟨Nat.le_of_ble_eq_true rfl, Nat.le_of_ble_eq_true rfl⟩ rfl (Nat.le_of_ble_eq_true rfl) ⟨Nat.zero_le _, Nat.zero_le _⟩ dX2_isLike_23 ?_
        refine jr_if_eq (tgt := 40) C dX2_isLike_26 rfl (fun q26 => ?_) (fun q26 => ?_)
        · have hv := (if_pos q26).symm.trans hv
          exact jr_sub [] rfl (tX2_isLike_40 C   hv)
        · have hv := (if_neg q26).symm.trans hv
          refine jr_lload_n C dX2_isLike_29 rfl 1 rfl ?_
          refine jr_pcall (rest := []) C (pX2_isZero l v2) oX2_isZero kw_304 rfl ⟨Nat.le_of_ble_eq_true rfl, Nat.le_of_ble_eq_true rfl⟩ rfl (Nat.le_of_ble_eq_true rfl) ⟨Nat.zero_le _, Nat.zero_le _⟩ dX2_isLike_30 ?_
          refine jr_if_eq (tgt := 40) C dX2_isLike_33 rfl (fun q33 => ?_) (fun q33 => ?_)
          · have hv := (if_pos q33).symm.trans hv
            exact jr_sub [] rfl (tX2_isLike_40 C   hv)
          · have hv := (if_neg q33).symm.trans hv
            exact jr_sub [] rfl (tX2_isLike_36 C   hv)
    · have hv := (if_neg q11).symm.trans hv
      exact jr_sub [] rfl (tX2_isLike_14 C   hv)
theorem pX2_isLike (l : Launch) (v0 : Int64) (v2 : Int64) : pu l yX2_isLike cX2_isLike 4 (some .boolean) 1 [.long v0, .long v2] (.int (fX2_isLike v0 v2)) := pu_of (by decide +kernel) (Nat.le_of_ble_eq_true rfl) rfl (fun C => tX2_isLike_0 C v0 v2 rfl)
/-! RobotCell$Fraction.ordered(J)J -/
def fX2_ordered (v0 : Int64) : Int64 :=
  if 0 ≤ v0 then v0 else v0 ^^^ 9223372036854775807
theorem oX2_ordered : ok_s yX2_ordered cX2_ordered 2 (some .long) 1 := ⟨kw_430, kw_429, kw_74, by decide +kernel⟩
set_option maxRecDepth 100000 in
theorem tX2_ordered_0 {p : Program} {l : Launch} {e : Env} {s : State} {m : MethodId} {args : Array Value} {below : List Frame} {meth : Method} {c : Code} (C : CC p s m args meth c yX2_ordered cX2_ordered 2 (some .long))  (v0 : Int64) {w : Int64} (hv : fX2_ordered v0 = w) : PJ p l e s m args below meth c 2 0 (.long w) 0 [(0, .long v0)] [] := by
  unfold fX2_ordered at hv
  refine jr_lload_n C dX2_ordered_0 rfl 0 rfl ?_
  refine jr_lconst (v := 0) C dX2_ordered_1 (by decide) ?_
  refine jr_lcmp_ge (tgt := 14) C dX2_ordered_2 dX2_ordered_3 rfl (fun q2 => ?_) (fun q2 => ?_)
  · have hv := (if_pos q2).symm.trans hv
    refine jr_lload_n C dX2_ordered_14 rfl 0 rfl ?_
    exact jp_lret C dX2_ordered_15 (congrArg Value.long hv).symm
  · have hv := (if_neg q2).symm.trans hv
    refine jr_lload_n C dX2_ordered_6 rfl 0 rfl ?_
    refine jr_ldc2 C kw_295 dX2_ordered_7 ?_
    refine jr_lxor C dX2_ordered_10 ?_
    refine jr_goto (tgt := 15) C dX2_ordered_11 rfl ?_
    exact jp_lret C dX2_ordered_15 (congrArg Value.long hv).symm
theorem pX2_ordered (l : Launch) (v0 : Int64) : pu l yX2_ordered cX2_ordered 2 (some .long) 0 [.long v0] (.long (fX2_ordered v0)) := pu_of (by decide +kernel) (Nat.le_of_ble_eq_true rfl) rfl (fun C => tX2_ordered_0 C v0 rfl)
/-! RobotCell$Fraction.rankOf(JJ)I -/
def fX2_rankOf_12 (v4 : Int64) (v6 : Int64) : Int32 :=
  if v4 = v6 then 0 else (if v6 ≤ v4 then 1 else (-1))
def fX2_rankOf_6 (v2 : Int64) (v4 : Int64) : Int32 :=
  fX2_rankOf_12 v4 (fX2_ordered v2)
def fX2_rankOf (v0 : Int64) (v2 : Int64) : Int32 :=
  fX2_rankOf_6 v2 (fX2_ordered v0)
theorem oX2_rankOf : ok_s yX2_rankOf cX2_rankOf 8 (some .int) 2 := ⟨kw_427, kw_426, kw_74, by decide +kernel⟩
set_option maxRecDepth 100000 in
theorem tX2_rankOf_12 {p : Program} {l : Launch} {e : Env} {s : State} {m : MethodId} {args : Array Value} {below : List Frame} {meth : Method} {c : Code} (C : CC p s m args meth c yX2_rankOf cX2_rankOf 8 (some .int))  (v4 : Int64) (v6 : Int64) {w : Int32} (hv : fX2_rankOf_12 v4 v6 = w) : PJ p l e s m args below meth c 8 1 (.int w) 12 [(4, .long v4), (6, .long v6)] [] := by
  unfold fX2_rankOf_12 at hv
  refine jr_lload C dX2_rankOf_12 0 rfl ?_
  refine jr_lload C dX2_rankOf_14 1 rfl ?_
  refine jr_lcmp_ne (tgt := 22) C dX2_rankOf_16 dX2_rankOf_17 rfl (fun q16 => ?_) (fun q16 => ?_)
  · have hv := (if_neg q16).symm.trans hv
    refine jr_lload C dX2_rankOf_22 0 rfl ?_
    refine jr_lload C dX2_rankOf_24 1 rfl ?_
    refine jr_lcmp_ge (tgt := 34) C dX2_rankOf_26 dX2_rankOf_27 rfl (fun q26 => ?_) (fun q26 => ?_)
    · have hv := (if_pos q26).symm.trans hv
      refine jr_iconst (v := 1) C dX2_rankOf_34 (by decide) ?_
      exact jp_iret C dX2_rankOf_35 (congrArg Value.int hv).symm
    · have hv := (if_neg q26).symm.trans hv
      refine jr_iconst (v := (-1)) C dX2_rankOf_30 (by decide) ?_
      refine jr_goto (tgt := 35) C dX2_rankOf_31 rfl ?_
      exact jp_iret C dX2_rankOf_35 (congrArg Value.int hv).symm
  · have hv := (if_pos q16).symm.trans hv
    refine jr_iconst (v := 0) C dX2_rankOf_20 (by decide) ?_
    exact jp_iret C dX2_rankOf_21 (congrArg Value.int hv).symm
set_option maxRecDepth 100000 in
theorem tX2_rankOf_6 {p : Program} {l : Launch} {e : Env} {s : State} {m : MethodId} {args : Array Value} {below : List Frame} {meth : Method} {c : Code} (C : CC p s m args meth c yX2_rankOf cX2_rankOf 8 (some .int))  (v2 : Int64) (v4 : Int64) {w : Int32} (hv : fX2_rankOf_6 v2 v4 = w) : PJ p l e s m args below meth c 8 1 (.int w) 6 [(2, .long v2), (4, .long v4)] [] := by
  unfold fX2_rankOf_6 at hv
  refine jr_lload_n C dX2_rankOf_6 rfl 0 rfl ?_
  refine jr_pcall (rest := []) C (pX2_ordered l v2) oX2_ordered kw_428 rfl ⟨Nat.le_of_ble_eq_true rfl, Nat.le_of_ble_eq_true rfl⟩ rfl (Nat.le_of_ble_eq_true rfl) ⟨Nat.zero_le _, Nat.zero_le _⟩ dX2_rankOf_7 ?_
  refine jr_lstore (lv' := [(6, .long (fX2_ordered v2)), (2, .long v2), (4, .long v4)]) C dX2_rankOf_10 (by decide) rfl ?_
  exact jr_sub [2, 0] rfl (tX2_rankOf_12 C  v4 (fX2_ordered v2) hv)
set_option maxRecDepth 100000 in
theorem tX2_rankOf_0 {p : Program} {l : Launch} {e : Env} {s : State} {m : MethodId} {args : Array Value} {below : List Frame} {meth : Method} {c : Code} (C : CC p s m args meth c yX2_rankOf cX2_rankOf 8 (some .int))  (v0 : Int64) (v2 : Int64) {w : Int32} (hv : fX2_rankOf v0 v2 = w) : PJ p l e s m args below meth c 8 1 (.int w) 0 [(0, .long v0), (2, .long v2)] [] := by
  unfold fX2_rankOf at hv
  refine jr_lload_n C dX2_rankOf_0 rfl 0 rfl ?_
  refine jr_pcall (rest := []) C (pX2_ordered l v0) oX2_ordered kw_428 rfl ⟨Nat.le_of_ble_eq_true rfl, Nat.le_of_ble_eq_true rfl⟩ rfl (Nat.le_of_ble_eq_true rfl) ⟨Nat.zero_le _, Nat.zero_le _⟩ dX2_rankOf_1 ?_
  refine jr_lstore (lv' := [(4, .long (fX2_ordered v0)), (0, .long v0), (2, .long v2)]) C dX2_rankOf_4 (by decide) rfl ?_
  exact jr_sub [2, 0] rfl (tX2_rankOf_6 C  v2 (fX2_ordered v0) hv)
theorem pX2_rankOf (l : Launch) (v0 : Int64) (v2 : Int64) : pu l yX2_rankOf cX2_rankOf 8 (some .int) 1 [.long v0, .long v2] (.int (fX2_rankOf v0 v2)) := pu_of (by decide +kernel) (Nat.le_of_ble_eq_true rfl) rfl (fun C => tX2_rankOf_0 C v0 v2 rfl)
/-! RobotCell$Fraction.isLess(JJ)Z -/
def fX2_isLess_22  : Int32 :=
  0
def fX2_isLess (v0 : Int64) (v2 : Int64) : Int32 :=
  if (fX2_isLost v0) = 0 then (if (fX2_isLost v2) = 0 then (if (fX2_isLike v0 v2) = 0 then (if 0 ≤ (fX2_rankOf v0 v2) then 0 else 1) else fX2_isLess_22) else fX2_isLess_22) else fX2_isLess_22
theorem oX2_isLess : ok_s yX2_isLess cX2_isLess 4 (some .boolean) 2 := ⟨kw_458, kw_457, kw_74, by decide +kernel⟩
set_option maxRecDepth 100000 in
theorem tX2_isLess_22 {p : Program} {l : Launch} {e : Env} {s : State} {m : MethodId} {args : Array Value} {below : List Frame} {meth : Method} {c : Code} (C : CC p s m args meth c yX2_isLess cX2_isLess 4 (some .boolean))   {w : Int32} (hv : fX2_isLess_22  = w) : PJ p l e s m args below meth c 4 2 (.int w) 22 [] [] := by
  unfold fX2_isLess_22 at hv
  refine jr_iconst (v := 0) C dX2_isLess_22 (by decide) ?_
  exact jp_zret C dX2_isLess_23 rfl (congrArg Value.int hv).symm
set_option maxRecDepth 100000 in
theorem tX2_isLess_0 {p : Program} {l : Launch} {e : Env} {s : State} {m : MethodId} {args : Array Value} {below : List Frame} {meth : Method} {c : Code} (C : CC p s m args meth c yX2_isLess cX2_isLess 4 (some .boolean))  (v0 : Int64) (v2 : Int64) {w : Int32} (hv : fX2_isLess v0 v2 = w) : PJ p l e s m args below meth c 4 2 (.int w) 0 [(0, .long v0), (2, .long v2)] [] := by
  unfold fX2_isLess at hv
  refine jr_lload_n C dX2_isLess_0 rfl 0 rfl ?_
  refine jr_pcall (rest := []) C (pX2_isLost l v0) oX2_isLost kw_292 rfl ⟨Nat.le_of_ble_eq_true rfl, Nat.le_of_ble_eq_true rfl⟩ rfl (Nat.le_of_ble_eq_true rfl) ⟨Nat.zero_le _, Nat.zero_le _⟩ dX2_isLess_1 ?_
  refine jr_if_ne (tgt := 22) C dX2_isLess_4 rfl (fun q4 => ?_) (fun q4 => ?_)
  · have hv := (if_neg q4).symm.trans hv
    exact jr_sub [] rfl (tX2_isLess_22 C   hv)
  · have hv := (if_pos q4).symm.trans hv
    refine jr_lload_n C dX2_isLess_7 rfl 1 rfl ?_
    refine jr_pcall (rest := []) C (pX2_isLost l v2) oX2_isLost kw_292 rfl ⟨Nat.le_of_ble_eq_true rfl, Nat.le_of_ble_eq_true rfl⟩ rfl (Nat.le_of_ble_eq_true rfl) ⟨Nat.zero_le _, Nat.zero_le _⟩ dX2_isLess_8 ?_
    refine jr_if_ne (tgt := 22) C dX2_isLess_11 rfl (fun q11 => ?_) (fun q11 => ?_)
    · have hv := (if_neg q11).symm.trans hv
      exact jr_sub [] rfl (tX2_isLess_22 C   hv)
    · have hv := (if_pos q11).symm.trans hv
      refine jr_lload_n C dX2_isLess_14 rfl 0 rfl ?_
      refine jr_lload_n C dX2_isLess_15 rfl 1 rfl ?_
      refine jr_pcall (rest := []) C (pX2_isLike l v0 v2) oX2_isLike kw_459 rfl ⟨Nat.le_of_ble_eq_true rfl, Nat.le_of_ble_eq_true rfl⟩ rfl (Nat.le_of_ble_eq_true rfl) ⟨Nat.zero_le _, Nat.zero_le _⟩ dX2_isLess_16 ?_
      refine jr_if_eq (tgt := 24) C dX2_isLess_19 rfl (fun q19 => ?_) (fun q19 => ?_)
      · have hv := (if_pos q19).symm.trans hv
        refine jr_lload_n C dX2_isLess_24 rfl 0 rfl ?_
        refine jr_lload_n C dX2_isLess_25 rfl 1 rfl ?_
        refine jr_pcall (rest := []) C (pX2_rankOf l v0 v2) oX2_rankOf kw_425 rfl ⟨Nat.le_of_ble_eq_true rfl, Nat.le_of_ble_eq_true rfl⟩ rfl (Nat.le_of_ble_eq_true rfl) ⟨Nat.zero_le _, Nat.zero_le _⟩ dX2_isLess_26 ?_
        refine jr_if_ge (tgt := 36) C dX2_isLess_29 rfl (fun q29 => ?_) (fun q29 => ?_)
        · have hv := (if_pos q29).symm.trans hv
          refine jr_iconst (v := 0) C dX2_isLess_36 (by decide) ?_
          exact jp_zret C dX2_isLess_37 rfl (congrArg Value.int hv).symm
        · have hv := (if_neg q29).symm.trans hv
          refine jr_iconst (v := 1) C dX2_isLess_32 (by decide) ?_
          refine jr_goto (tgt := 37) C dX2_isLess_33 rfl ?_
          exact jp_zret C dX2_isLess_37 rfl (congrArg Value.int hv).symm
      · have hv := (if_neg q19).symm.trans hv
        exact jr_sub [] rfl (tX2_isLess_22 C   hv)
theorem pX2_isLess (l : Launch) (v0 : Int64) (v2 : Int64) : pu l yX2_isLess cX2_isLess 4 (some .boolean) 2 [.long v0, .long v2] (.int (fX2_isLess v0 v2)) := pu_of (by decide +kernel) (Nat.le_of_ble_eq_true rfl) rfl (fun C => tX2_isLess_0 C v0 v2 rfl)
/-! RobotCell$Fraction.greater(JJ)J -/
def fX2_greater_14  : Int64 :=
  9221120237041090560
def fX2_greater (v0 : Int64) (v2 : Int64) : Int64 :=
  if (fX2_isLost v0) = 0 then (if (fX2_isLost v2) = 0 then (if (fX2_rankOf v0 v2) < 0 then v2 else v0) else fX2_greater_14) else fX2_greater_14
theorem oX2_greater : ok_s yX2_greater cX2_greater 4 (some .long) 2 := ⟨kw_424, kw_423, kw_74, by decide +kernel⟩
set_option maxRecDepth 100000 in
theorem tX2_greater_14 {p : Program} {l : Launch} {e : Env} {s : State} {m : MethodId} {args : Array Value} {below : List Frame} {meth : Method} {c : Code} (C : CC p s m args meth c yX2_greater cX2_greater 4 (some .long))   {w : Int64} (hv : fX2_greater_14  = w) : PJ p l e s m args below meth c 4 2 (.long w) 14 [] [] := by
  unfold fX2_greater_14 at hv
  refine jr_ldc2 C kw_297 dX2_greater_14 ?_
  exact jp_lret C dX2_greater_17 (congrArg Value.long hv).symm
set_option maxRecDepth 100000 in
theorem tX2_greater_0 {p : Program} {l : Launch} {e : Env} {s : State} {m : MethodId} {args : Array Value} {below : List Frame} {meth : Method} {c : Code} (C : CC p s m args meth c yX2_greater cX2_greater 4 (some .long))  (v0 : Int64) (v2 : Int64) {w : Int64} (hv : fX2_greater v0 v2 = w) : PJ p l e s m args below meth c 4 2 (.long w) 0 [(0, .long v0), (2, .long v2)] [] := by
  unfold fX2_greater at hv
  refine jr_lload_n C dX2_greater_0 rfl 0 rfl ?_
  refine jr_pcall (rest := []) C (pX2_isLost l v0) oX2_isLost kw_292 rfl ⟨Nat.le_of_ble_eq_true rfl, Nat.le_of_ble_eq_true rfl⟩ rfl (Nat.le_of_ble_eq_true rfl) ⟨Nat.zero_le _, Nat.zero_le _⟩ dX2_greater_1 ?_
  refine jr_if_ne (tgt := 14) C dX2_greater_4 rfl (fun q4 => ?_) (fun q4 => ?_)
  · have hv := (if_neg q4).symm.trans hv
    exact jr_sub [] rfl (tX2_greater_14 C   hv)
  · have hv := (if_pos q4).symm.trans hv
    refine jr_lload_n C dX2_greater_7 rfl 1 rfl ?_
    refine jr_pcall (rest := []) C (pX2_isLost l v2) oX2_isLost kw_292 rfl ⟨Nat.le_of_ble_eq_true rfl, Nat.le_of_ble_eq_true rfl⟩ rfl (Nat.le_of_ble_eq_true rfl) ⟨Nat.zero_le _, Nat.zero_le _⟩ dX2_greater_8 ?_
    refine jr_if_eq (tgt := 18) C dX2_greater_11 rfl (fun q11 => ?_) (fun q11 => ?_)
    · have hv := (if_pos q11).symm.trans hv
      refine jr_lload_n C dX2_greater_18 rfl 0 rfl ?_
      refine jr_lload_n C dX2_greater_19 rfl 1 rfl ?_
      refine jr_pcall (rest := []) C (pX2_rankOf l v0 v2) oX2_rankOf kw_425 rfl ⟨Nat.le_of_ble_eq_true rfl, Nat.le_of_ble_eq_true rfl⟩ rfl (Nat.le_of_ble_eq_true rfl) ⟨Nat.zero_le _, Nat.zero_le _⟩ dX2_greater_20 ?_
      refine jr_if_lt (tgt := 30) C dX2_greater_23 rfl (fun q23 => ?_) (fun q23 => ?_)
      · have hv := (if_pos q23).symm.trans hv
        refine jr_lload_n C dX2_greater_30 rfl 1 rfl ?_
        exact jp_lret C dX2_greater_31 (congrArg Value.long hv).symm
      · have hv := (if_neg q23).symm.trans hv
        refine jr_lload_n C dX2_greater_26 rfl 0 rfl ?_
        refine jr_goto (tgt := 31) C dX2_greater_27 rfl ?_
        exact jp_lret C dX2_greater_31 (congrArg Value.long hv).symm
    · have hv := (if_neg q11).symm.trans hv
      exact jr_sub [] rfl (tX2_greater_14 C   hv)
theorem pX2_greater (l : Launch) (v0 : Int64) (v2 : Int64) : pu l yX2_greater cX2_greater 4 (some .long) 2 [.long v0, .long v2] (.long (fX2_greater v0 v2)) := pu_of (by decide +kernel) (Nat.le_of_ble_eq_true rfl) rfl (fun C => tX2_greater_0 C v0 v2 rfl)
/-! RobotCell$Fraction.lesser(JJ)J -/
def fX2_lesser_14  : Int64 :=
  9221120237041090560
def fX2_lesser (v0 : Int64) (v2 : Int64) : Int64 :=
  if (fX2_isLost v0) = 0 then (if (fX2_isLost v2) = 0 then (if 0 < (fX2_rankOf v0 v2) then v2 else v0) else fX2_lesser_14) else fX2_lesser_14
theorem oX2_lesser : ok_s yX2_lesser cX2_lesser 4 (some .long) 2 := ⟨kw_433, kw_432, kw_74, by decide +kernel⟩
set_option maxRecDepth 100000 in
theorem tX2_lesser_14 {p : Program} {l : Launch} {e : Env} {s : State} {m : MethodId} {args : Array Value} {below : List Frame} {meth : Method} {c : Code} (C : CC p s m args meth c yX2_lesser cX2_lesser 4 (some .long))   {w : Int64} (hv : fX2_lesser_14  = w) : PJ p l e s m args below meth c 4 2 (.long w) 14 [] [] := by
  unfold fX2_lesser_14 at hv
  refine jr_ldc2 C kw_297 dX2_lesser_14 ?_
  exact jp_lret C dX2_lesser_17 (congrArg Value.long hv).symm
set_option maxRecDepth 100000 in
theorem tX2_lesser_0 {p : Program} {l : Launch} {e : Env} {s : State} {m : MethodId} {args : Array Value} {below : List Frame} {meth : Method} {c : Code} (C : CC p s m args meth c yX2_lesser cX2_lesser 4 (some .long))  (v0 : Int64) (v2 : Int64) {w : Int64} (hv : fX2_lesser v0 v2 = w) : PJ p l e s m args below meth c 4 2 (.long w) 0 [(0, .long v0), (2, .long v2)] [] := by
  unfold fX2_lesser at hv
  refine jr_lload_n C dX2_lesser_0 rfl 0 rfl ?_
  refine jr_pcall (rest := []) C (pX2_isLost l v0) oX2_isLost kw_292 rfl ⟨Nat.le_of_ble_eq_true rfl, Nat.le_of_ble_eq_true rfl⟩ rfl (Nat.le_of_ble_eq_true rfl) ⟨Nat.zero_le _, Nat.zero_le _⟩ dX2_lesser_1 ?_
  refine jr_if_ne (tgt := 14) C dX2_lesser_4 rfl (fun q4 => ?_) (fun q4 => ?_)
  · have hv := (if_neg q4).symm.trans hv
    exact jr_sub [] rfl (tX2_lesser_14 C   hv)
  · have hv := (if_pos q4).symm.trans hv
    refine jr_lload_n C dX2_lesser_7 rfl 1 rfl ?_
    refine jr_pcall (rest := []) C (pX2_isLost l v2) oX2_isLost kw_292 rfl ⟨Nat.le_of_ble_eq_true rfl, Nat.le_of_ble_eq_true rfl⟩ rfl (Nat.le_of_ble_eq_true rfl) ⟨Nat.zero_le _, Nat.zero_le _⟩ dX2_lesser_8 ?_
    refine jr_if_eq (tgt := 18) C dX2_lesser_11 rfl (fun q11 => ?_) (fun q11 => ?_)
    · have hv := (if_pos q11).symm.trans hv
      refine jr_lload_n C dX2_lesser_18 rfl 0 rfl ?_
      refine jr_lload_n C dX2_lesser_19 rfl 1 rfl ?_
      refine jr_pcall (rest := []) C (pX2_rankOf l v0 v2) oX2_rankOf kw_425 rfl ⟨Nat.le_of_ble_eq_true rfl, Nat.le_of_ble_eq_true rfl⟩ rfl (Nat.le_of_ble_eq_true rfl) ⟨Nat.zero_le _, Nat.zero_le _⟩ dX2_lesser_20 ?_
      refine jr_if_gt (tgt := 30) C dX2_lesser_23 rfl (fun q23 => ?_) (fun q23 => ?_)
      · have hv := (if_pos q23).symm.trans hv
        refine jr_lload_n C dX2_lesser_30 rfl 1 rfl ?_
        exact jp_lret C dX2_lesser_31 (congrArg Value.long hv).symm
      · have hv := (if_neg q23).symm.trans hv
        refine jr_lload_n C dX2_lesser_26 rfl 0 rfl ?_
        refine jr_goto (tgt := 31) C dX2_lesser_27 rfl ?_
        exact jp_lret C dX2_lesser_31 (congrArg Value.long hv).symm
    · have hv := (if_neg q11).symm.trans hv
      exact jr_sub [] rfl (tX2_lesser_14 C   hv)
theorem pX2_lesser (l : Launch) (v0 : Int64) (v2 : Int64) : pu l yX2_lesser cX2_lesser 4 (some .long) 2 [.long v0, .long v2] (.long (fX2_lesser v0 v2)) := pu_of (by decide +kernel) (Nat.le_of_ble_eq_true rfl) rfl (fun C => tX2_lesser_0 C v0 v2 rfl)
/-! RobotCell$Fraction.withSign(JJ)J -/
def fX2_withSign (v0 : Int64) (v2 : Int64) : Int64 :=
  if (fX2_isLost v0) = 0 then (fX2_magnitude v0) ||| (fX2_signBit v2) else 9221120237041090560
theorem oX2_withSign : ok_s yX2_withSign cX2_withSign 4 (some .long) 2 := ⟨kw_436, kw_435, kw_74, by decide +kernel⟩
set_option maxRecDepth 100000 in
theorem tX2_withSign_0 {p : Program} {l : Launch} {e : Env} {s : State} {m : MethodId} {args : Array Value} {below : List Frame} {meth : Method} {c : Code} (C : CC p s m args meth c yX2_withSign cX2_withSign 4 (some .long))  (v0 : Int64) (v2 : Int64) {w : Int64} (hv : fX2_withSign v0 v2 = w) : PJ p l e s m args below meth c 4 1 (.long w) 0 [(0, .long v0), (2, .long v2)] [] := by
  unfold fX2_withSign at hv
  refine jr_lload_n C dX2_withSign_0 rfl 0 rfl ?_
  refine jr_pcall (rest := []) C (pX2_isLost l v0) oX2_isLost kw_292 rfl ⟨Nat.le_of_ble_eq_true rfl, Nat.le_of_ble_eq_true rfl⟩ rfl (Nat.le_of_ble_eq_true rfl) ⟨Nat.zero_le _, Nat.zero_le _⟩ dX2_withSign_1 ?_
  refine jr_if_eq (tgt := 13) C dX2_withSign_4 rfl (fun q4 => ?_) (fun q4 => ?_)
  · have hv := (if_pos q4).symm.trans hv
    refine jr_lload_n C dX2_withSign_13 rfl 0 rfl ?_
    refine jr_pcall (rest := []) C (pX2_magnitude l v0) oX2_magnitude kw_329 rfl ⟨Nat.le_of_ble_eq_true rfl, Nat.le_of_ble_eq_true rfl⟩ rfl (Nat.le_of_ble_eq_true rfl) ⟨Nat.zero_le _, Nat.zero_le _⟩ dX2_withSign_14 ?_
    refine jr_lload_n C dX2_withSign_17 rfl 1 rfl ?_
    refine jr_pcall (rest := [.long (fX2_magnitude v0)]) C (pX2_signBit l v2) oX2_signBit kw_298 rfl ⟨Nat.le_of_ble_eq_true rfl, Nat.le_of_ble_eq_true rfl⟩ rfl (Nat.le_of_ble_eq_true rfl) ⟨Nat.zero_le _, Nat.zero_le _⟩ dX2_withSign_18 ?_
    refine jr_lor C dX2_withSign_21 ?_
    exact jp_lret C dX2_withSign_22 (congrArg Value.long hv).symm
  · have hv := (if_neg q4).symm.trans hv
    refine jr_ldc2 C kw_297 dX2_withSign_7 ?_
    refine jr_goto (tgt := 22) C dX2_withSign_10 rfl ?_
    exact jp_lret C dX2_withSign_22 (congrArg Value.long hv).symm
theorem pX2_withSign (l : Launch) (v0 : Int64) (v2 : Int64) : pu l yX2_withSign cX2_withSign 4 (some .long) 1 [.long v0, .long v2] (.long (fX2_withSign v0 v2)) := pu_of (by decide +kernel) (Nat.le_of_ble_eq_true rfl) rfl (fun C => tX2_withSign_0 C v0 v2 rfl)
/-! RobotCell$Fraction.addLesser(JJ)J -/
def fX2_addLesser_59 (v0 : Int64) (v4 : Int32) (t0 : Int64) : Int64 :=
  if t0 = 0 then 0 else (fX2_signBit v0) ||| (fX2_nearest t0 ((fX2_scale v0) - v4) 52 1023)
def fX2_addLesser_34 (v0 : Int64) (v2 : Int64) (v4 : Int32) (v5 : Int64) (v7 : Int64) : Int64 :=
  if (fX2_signBit v0) = (fX2_signBit v2) then fX2_addLesser_59 v0 v4 (v5 + v7) else fX2_addLesser_59 v0 v4 (v5 - v7)
def fX2_addLesser_13 (v0 : Int64) (v2 : Int64) (v4 : Int32) (v5 : Int64) : Int64 :=
  fX2_addLesser_34 v0 v2 v4 v5 (fX2_lowered ((fX2_significand v2) <<< ((v4 : Int32).toInt64 &&& 63)) ((fX2_scale v0) - (fX2_scale v2)))
def fX2_addLesser (v0 : Int64) (v2 : Int64) : Int64 :=
  fX2_addLesser_13 v0 v2 9 ((fX2_significand v0) <<< ((9 : Int32).toInt64 &&& 63))
theorem oX2_addLesser : ok_s yX2_addLesser cX2_addLesser 11 (some .long) 2 := ⟨kw_334, kw_333, kw_74, by decide +kernel⟩
set_option maxRecDepth 100000 in
theorem tX2_addLesser_59 {p : Program} {l : Launch} {e : Env} {s : State} {m : MethodId} {args : Array Value} {below : List Frame} {meth : Method} {c : Code} (C : CC p s m args meth c yX2_addLesser cX2_addLesser 11 (some .long))  (v0 : Int64) (v4 : Int32) (t0 : Int64) {w : Int64} (hv : fX2_addLesser_59 v0 v4 t0 = w) : PJ p l e s m args below meth c 11 3 (.long w) 59 [(0, .long v0), (4, .int v4)] [.long t0] := by
  unfold fX2_addLesser_59 at hv
  refine jr_lstore (lv' := [(9, .long t0), (0, .long v0), (4, .int v4)]) C dX2_addLesser_59 (by decide) rfl ?_
  refine jr_lload C dX2_addLesser_61 0 rfl ?_
  refine jr_lconst (v := 0) C dX2_addLesser_63 (by decide) ?_
  refine jr_lcmp_ne (tgt := 72) C dX2_addLesser_64 dX2_addLesser_65 rfl (fun q64 => ?_) (fun q64 => ?_)
  · have hv := (if_neg q64).symm.trans hv
    refine jr_lload_n C dX2_addLesser_72 rfl 1 rfl ?_
    refine jr_pcall (rest := []) C (pX2_signBit l v0) oX2_signBit kw_298 rfl ⟨Nat.le_of_ble_eq_true rfl, Nat.le_of_ble_eq_true rfl⟩ rfl (Nat.le_of_ble_eq_true rfl) ⟨Nat.zero_le _, Nat.zero_le _⟩ dX2_addLesser_73 ?_
    refine jr_lload C dX2_addLesser_76 0 rfl ?_
    refine jr_lload_n C dX2_addLesser_78 rfl 1 rfl ?_
    refine jr_pcall (rest := [.long t0, .long (fX2_signBit v0)]) C (pX2_scale l v0) oX2_scale kw_315 rfl ⟨Nat.le_of_ble_eq_true rfl, Nat.le_of_ble_eq_true rfl⟩ rfl (Nat.le_of_ble_eq_true rfl) ⟨Nat.zero_le _, Nat.zero_le _⟩ dX2_addLesser_79 ?_
    refine jr_iload C dX2_addLesser_82 2 rfl ?_
    refine jr_isub C dX2_addLesser_84 ?_
    refine jr_bipush (v := 52) C dX2_addLesser_85 (by decide) ?_
    refine jr_sipush (v := 1023) C dX2_addLesser_87 (by decide) ?_
    refine jr_pcall (rest := [.long (fX2_signBit v0)]) C (pX2_nearest l t0 ((fX2_scale v0) - v4) 52 1023) oX2_nearest kw_276 rfl ⟨Nat.le_of_ble_eq_true rfl, Nat.le_of_ble_eq_true rfl⟩ rfl (Nat.le_of_ble_eq_true rfl) ⟨Nat.zero_le _, Nat.zero_le _⟩ dX2_addLesser_90 ?_
    refine jr_lor C dX2_addLesser_93 ?_
    exact jp_lret C dX2_addLesser_94 (congrArg Value.long hv).symm
  · have hv := (if_pos q64).symm.trans hv
    refine jr_lconst (v := 0) C dX2_addLesser_68 (by decide) ?_
    refine jr_goto (tgt := 94) C dX2_addLesser_69 rfl ?_
    exact jp_lret C dX2_addLesser_94 (congrArg Value.long hv).symm
set_option maxRecDepth 100000 in
theorem tX2_addLesser_34 {p : Program} {l : Launch} {e : Env} {s : State} {m : MethodId} {args : Array Value} {below : List Frame} {meth : Method} {c : Code} (C : CC p s m args meth c yX2_addLesser cX2_addLesser 11 (some .long))  (v0 : Int64) (v2 : Int64) (v4 : Int32) (v5 : Int64) (v7 : Int64) {w : Int64} (hv : fX2_addLesser_34 v0 v2 v4 v5 v7 = w) : PJ p l e s m args below meth c 11 3 (.long w) 34 [(0, .long v0), (2, .long v2), (4, .int v4), (5, .long v5), (7, .long v7)] [] := by
  unfold fX2_addLesser_34 at hv
  refine jr_lload_n C dX2_addLesser_34 rfl 0 rfl ?_
  refine jr_pcall (rest := []) C (pX2_signBit l v0) oX2_signBit kw_298 rfl ⟨Nat.le_of_ble_eq_true rfl, Nat.le_of_ble_eq_true rfl⟩ rfl (Nat.le_of_ble_eq_true rfl) ⟨Nat.zero_le _, Nat.zero_le _⟩ dX2_addLesser_35 ?_
  refine jr_lload_n C dX2_addLesser_38 rfl 1 rfl ?_
  refine jr_pcall (rest := [.long (fX2_signBit v0)]) C (pX2_signBit l v2) oX2_signBit kw_298 rfl ⟨Nat.le_of_ble_eq_true rfl, Nat.le_of_ble_eq_true rfl⟩ rfl (Nat.le_of_ble_eq_true rfl) ⟨Nat.zero_le _, Nat.zero_le _⟩ dX2_addLesser_39 ?_
  refine jr_lcmp_ne (tgt := 54) C dX2_addLesser_42 dX2_addLesser_43 rfl (fun q42 => ?_) (fun q42 => ?_)
  · have hv := (if_neg q42).symm.trans hv
    refine jr_lload C dX2_addLesser_54 3 rfl ?_
    refine jr_lload C dX2_addLesser_56 4 rfl ?_
    refine jr_lsub C dX2_addLesser_58 ?_
    exact jr_sub [0, 2] rfl (tX2_addLesser_59 C  v0 v4 (v5 - v7) hv)
  · have hv := (if_pos q42).symm.trans hv
    refine jr_lload C dX2_addLesser_46 3 rfl ?_
    refine jr_lload C dX2_addLesser_48 4 rfl ?_
    refine jr_ladd C dX2_addLesser_50 ?_
    refine jr_goto (tgt := 59) C dX2_addLesser_51 rfl ?_
    exact jr_sub [0, 2] rfl (tX2_addLesser_59 C  v0 v4 (v5 + v7) hv)
set_option maxRecDepth 100000 in
theorem tX2_addLesser_13 {p : Program} {l : Launch} {e : Env} {s : State} {m : MethodId} {args : Array Value} {below : List Frame} {meth : Method} {c : Code} (C : CC p s m args meth c yX2_addLesser cX2_addLesser 11 (some .long))  (v0 : Int64) (v2 : Int64) (v4 : Int32) (v5 : Int64) {w : Int64} (hv : fX2_addLesser_13 v0 v2 v4 v5 = w) : PJ p l e s m args below meth c 11 3 (.long w) 13 [(0, .long v0), (2, .long v2), (4, .int v4), (5, .long v5)] [] := by
  unfold fX2_addLesser_13 at hv
  refine jr_lload_n C dX2_addLesser_13 rfl 1 rfl ?_
  refine jr_pcall (rest := []) C (pX2_significand l v2) oX2_significand kw_307 rfl ⟨Nat.le_of_ble_eq_true rfl, Nat.le_of_ble_eq_true rfl⟩ rfl (Nat.le_of_ble_eq_true rfl) ⟨Nat.zero_le _, Nat.zero_le _⟩ dX2_addLesser_14 ?_
  refine jr_iload C dX2_addLesser_17 2 rfl ?_
  refine jr_lshl C dX2_addLesser_19 ?_
  refine jr_lload_n C dX2_addLesser_20 rfl 0 rfl ?_
  refine jr_pcall (rest := [.long ((fX2_significand v2) <<< ((v4 : Int32).toInt64 &&& 63))]) C (pX2_scale l v0) oX2_scale kw_315 rfl ⟨Nat.le_of_ble_eq_true rfl, Nat.le_of_ble_eq_true rfl⟩ rfl (Nat.le_of_ble_eq_true rfl) ⟨Nat.zero_le _, Nat.zero_le _⟩ dX2_addLesser_21 ?_
  refine jr_lload_n C dX2_addLesser_24 rfl 1 rfl ?_
  refine jr_pcall (rest := [.int (fX2_scale v0), .long ((fX2_significand v2) <<< ((v4 : Int32).toInt64 &&& 63))]) C (pX2_scale l v2) oX2_scale kw_315 rfl ⟨Nat.le_of_ble_eq_true rfl, Nat.le_of_ble_eq_true rfl⟩ rfl (Nat.le_of_ble_eq_true rfl) ⟨Nat.zero_le _, Nat.zero_le _⟩ dX2_addLesser_25 ?_
  refine jr_isub C dX2_addLesser_28 ?_
  refine jr_pcall (rest := []) C (pX2_lowered l ((fX2_significand v2) <<< ((v4 : Int32).toInt64 &&& 63)) ((fX2_scale v0) - (fX2_scale v2))) oX2_lowered kw_335 rfl ⟨Nat.le_of_ble_eq_true rfl, Nat.le_of_ble_eq_true rfl⟩ rfl (Nat.le_of_ble_eq_true rfl) ⟨Nat.zero_le _, Nat.zero_le _⟩ dX2_addLesser_29 ?_
  refine jr_lstore (lv' := [(7, .long (fX2_lowered ((fX2_significand v2) <<< ((v4 : Int32).toInt64 &&& 63)) ((fX2_scale v0) - (fX2_scale v2)))), (0, .long v0), (2, .long v2), (4, .int v4), (5, .long v5)]) C dX2_addLesser_32 (by decide) rfl ?_
  exact jr_sub [1, 2, 3, 4, 0] rfl (tX2_addLesser_34 C  v0 v2 v4 v5 (fX2_lowered ((fX2_significand v2) <<< ((v4 : Int32).toInt64 &&& 63)) ((fX2_scale v0) - (fX2_scale v2))) hv)
set_option maxRecDepth 100000 in
theorem tX2_addLesser_0 {p : Program} {l : Launch} {e : Env} {s : State} {m : MethodId} {args : Array Value} {below : List Frame} {meth : Method} {c : Code} (C : CC p s m args meth c yX2_addLesser cX2_addLesser 11 (some .long))  (v0 : Int64) (v2 : Int64) {w : Int64} (hv : fX2_addLesser v0 v2 = w) : PJ p l e s m args below meth c 11 3 (.long w) 0 [(0, .long v0), (2, .long v2)] [] := by
  unfold fX2_addLesser at hv
  refine jr_bipush (v := 9) C dX2_addLesser_0 (by decide) ?_
  refine jr_istore (lv' := [(4, .int 9), (0, .long v0), (2, .long v2)]) C dX2_addLesser_2 (by decide) rfl ?_
  refine jr_lload_n C dX2_addLesser_4 rfl 1 rfl ?_
  refine jr_pcall (rest := []) C (pX2_significand l v0) oX2_significand kw_307 rfl ⟨Nat.le_of_ble_eq_true rfl, Nat.le_of_ble_eq_true rfl⟩ rfl (Nat.le_of_ble_eq_true rfl) ⟨Nat.zero_le _, Nat.zero_le _⟩ dX2_addLesser_5 ?_
  refine jr_iload C dX2_addLesser_8 0 rfl ?_
  refine jr_lshl C dX2_addLesser_10 ?_
  refine jr_lstore (lv' := [(5, .long ((fX2_significand v0) <<< ((9 : Int32).toInt64 &&& 63))), (4, .int 9), (0, .long v0), (2, .long v2)]) C dX2_addLesser_11 (by decide) rfl ?_
  exact jr_sub [2, 3, 1, 0] rfl (tX2_addLesser_13 C  v0 v2 9 ((fX2_significand v0) <<< ((9 : Int32).toInt64 &&& 63)) hv)
theorem pX2_addLesser (l : Launch) (v0 : Int64) (v2 : Int64) : pu l yX2_addLesser cX2_addLesser 11 (some .long) 3 [.long v0, .long v2] (.long (fX2_addLesser v0 v2)) := pu_of (by decide +kernel) (Nat.le_of_ble_eq_true rfl) rfl (fun C => tX2_addLesser_0 C v0 v2 rfl)
/-! RobotCell$Fraction.add(JJ)J -/
def fX2_add_14  : Int64 :=
  9221120237041090560
def fX2_add_44 (v0 : Int64) : Int64 :=
  v0
def fX2_add (v0 : Int64) (v2 : Int64) : Int64 :=
  if (fX2_isLost v0) = 0 then (if (fX2_isLost v2) = 0 then (if (fX2_isInfinite v0) = 0 then (if (fX2_isInfinite v2) = 0 then (if (fX2_isZero v0) = 0 then (if (fX2_isZero v2) = 0 then (if (fX2_magnitude v0) < (fX2_magnitude v2) then fX2_addLesser v2 v0 else fX2_addLesser v0 v2) else v0) else (if (fX2_isZero v2) = 0 then v2 else v0 &&& v2)) else v2) else (if (fX2_isInfinite v2) = 0 then fX2_add_44 v0 else (if v0 = v2 then fX2_add_44 v0 else 9221120237041090560))) else fX2_add_14) else fX2_add_14
theorem oX2_add : ok_s yX2_add cX2_add 4 (some .long) 2 := ⟨kw_328, kw_327, kw_74, by decide +kernel⟩
set_option maxRecDepth 100000 in
theorem tX2_add_14 {p : Program} {l : Launch} {e : Env} {s : State} {m : MethodId} {args : Array Value} {below : List Frame} {meth : Method} {c : Code} (C : CC p s m args meth c yX2_add cX2_add 4 (some .long))   {w : Int64} (hv : fX2_add_14  = w) : PJ p l e s m args below meth c 4 4 (.long w) 14 [] [] := by
  unfold fX2_add_14 at hv
  refine jr_ldc2 C kw_297 dX2_add_14 ?_
  exact jp_lret C dX2_add_17 (congrArg Value.long hv).symm
set_option maxRecDepth 100000 in
theorem tX2_add_44 {p : Program} {l : Launch} {e : Env} {s : State} {m : MethodId} {args : Array Value} {below : List Frame} {meth : Method} {c : Code} (C : CC p s m args meth c yX2_add cX2_add 4 (some .long))  (v0 : Int64) {w : Int64} (hv : fX2_add_44 v0 = w) : PJ p l e s m args below meth c 4 4 (.long w) 44 [(0, .long v0)] [] := by
  unfold fX2_add_44 at hv
  refine jr_lload_n C dX2_add_44 rfl 0 rfl ?_
  exact jp_lret C dX2_add_45 (congrArg Value.long hv).symm
set_option maxRecDepth 100000 in
theorem tX2_add_0 {p : Program} {l : Launch} {e : Env} {s : State} {m : MethodId} {args : Array Value} {below : List Frame} {meth : Method} {c : Code} (C : CC p s m args meth c yX2_add cX2_add 4 (some .long))  (v0 : Int64) (v2 : Int64) {w : Int64} (hv : fX2_add v0 v2 = w) : PJ p l e s m args below meth c 4 4 (.long w) 0 [(0, .long v0), (2, .long v2)] [] := by
  unfold fX2_add at hv
  refine jr_lload_n C dX2_add_0 rfl 0 rfl ?_
  refine jr_pcall (rest := []) C (pX2_isLost l v0) oX2_isLost kw_292 rfl ⟨Nat.le_of_ble_eq_true rfl, Nat.le_of_ble_eq_true rfl⟩ rfl (Nat.le_of_ble_eq_true rfl) ⟨Nat.zero_le _, Nat.zero_le _⟩ dX2_add_1 ?_
  refine jr_if_ne (tgt := 14) C dX2_add_4 rfl (fun q4 => ?_) (fun q4 => ?_)
  · have hv := (if_neg q4).symm.trans hv
    exact jr_sub [] rfl (tX2_add_14 C   hv)
  · have hv := (if_pos q4).symm.trans hv
    refine jr_lload_n C dX2_add_7 rfl 1 rfl ?_
    refine jr_pcall (rest := []) C (pX2_isLost l v2) oX2_isLost kw_292 rfl ⟨Nat.le_of_ble_eq_true rfl, Nat.le_of_ble_eq_true rfl⟩ rfl (Nat.le_of_ble_eq_true rfl) ⟨Nat.zero_le _, Nat.zero_le _⟩ dX2_add_8 ?_
    refine jr_if_eq (tgt := 18) C dX2_add_11 rfl (fun q11 => ?_) (fun q11 => ?_)
    · have hv := (if_pos q11).symm.trans hv
      refine jr_lload_n C dX2_add_18 rfl 0 rfl ?_
      refine jr_pcall (rest := []) C (pX2_isInfinite l v0) oX2_isInfinite kw_301 rfl ⟨Nat.le_of_ble_eq_true rfl, Nat.le_of_ble_eq_true rfl⟩ rfl (Nat.le_of_ble_eq_true rfl) ⟨Nat.zero_le _, Nat.zero_le _⟩ dX2_add_19 ?_
      refine jr_if_eq (tgt := 46) C dX2_add_22 rfl (fun q22 => ?_) (fun q22 => ?_)
      · have hv := (if_pos q22).symm.trans hv
        refine jr_lload_n C dX2_add_46 rfl 1 rfl ?_
        refine jr_pcall (rest := []) C (pX2_isInfinite l v2) oX2_isInfinite kw_301 rfl ⟨Nat.le_of_ble_eq_true rfl, Nat.le_of_ble_eq_true rfl⟩ rfl (Nat.le_of_ble_eq_true rfl) ⟨Nat.zero_le _, Nat.zero_le _⟩ dX2_add_47 ?_
        refine jr_if_eq (tgt := 55) C dX2_add_50 rfl (fun q50 => ?_) (fun q50 => ?_)
        · have hv := (if_pos q50).symm.trans hv
          refine jr_lload_n C dX2_add_55 rfl 0 rfl ?_
          refine jr_pcall (rest := []) C (pX2_isZero l v0) oX2_isZero kw_304 rfl ⟨Nat.le_of_ble_eq_true rfl, Nat.le_of_ble_eq_true rfl⟩ rfl (Nat.le_of_ble_eq_true rfl) ⟨Nat.zero_le _, Nat.zero_le _⟩ dX2_add_56 ?_
          refine jr_if_eq (tgt := 77) C dX2_add_59 rfl (fun q59 => ?_) (fun q59 => ?_)
          · have hv := (if_pos q59).symm.trans hv
            refine jr_lload_n C dX2_add_77 rfl 1 rfl ?_
            refine jr_pcall (rest := []) C (pX2_isZero l v2) oX2_isZero kw_304 rfl ⟨Nat.le_of_ble_eq_true rfl, Nat.le_of_ble_eq_true rfl⟩ rfl (Nat.le_of_ble_eq_true rfl) ⟨Nat.zero_le _, Nat.zero_le _⟩ dX2_add_78 ?_
            refine jr_if_eq (tgt := 86) C dX2_add_81 rfl (fun q81 => ?_) (fun q81 => ?_)
            · have hv := (if_pos q81).symm.trans hv
              refine jr_lload_n C dX2_add_86 rfl 0 rfl ?_
              refine jr_pcall (rest := []) C (pX2_magnitude l v0) oX2_magnitude kw_329 rfl ⟨Nat.le_of_ble_eq_true rfl, Nat.le_of_ble_eq_true rfl⟩ rfl (Nat.le_of_ble_eq_true rfl) ⟨Nat.zero_le _, Nat.zero_le _⟩ dX2_add_87 ?_
              refine jr_lload_n C dX2_add_90 rfl 1 rfl ?_
              refine jr_pcall (rest := [.long (fX2_magnitude v0)]) C (pX2_magnitude l v2) oX2_magnitude kw_329 rfl ⟨Nat.le_of_ble_eq_true rfl, Nat.le_of_ble_eq_true rfl⟩ rfl (Nat.le_of_ble_eq_true rfl) ⟨Nat.zero_le _, Nat.zero_le _⟩ dX2_add_91 ?_
              refine jr_lcmp_lt (tgt := 106) C dX2_add_94 dX2_add_95 rfl (fun q94 => ?_) (fun q94 => ?_)
              · have hv := (if_pos q94).symm.trans hv
                refine jr_lload_n C dX2_add_106 rfl 1 rfl ?_
                refine jr_lload_n C dX2_add_107 rfl 0 rfl ?_
                refine jr_pcall (rest := []) C (pX2_addLesser l v2 v0) oX2_addLesser kw_332 rfl ⟨Nat.le_of_ble_eq_true rfl, Nat.le_of_ble_eq_true rfl⟩ rfl (Nat.le_of_ble_eq_true rfl) ⟨Nat.zero_le _, Nat.zero_le _⟩ dX2_add_108 ?_
                exact jp_lret C dX2_add_111 (congrArg Value.long hv).symm
              · have hv := (if_neg q94).symm.trans hv
                refine jr_lload_n C dX2_add_98 rfl 0 rfl ?_
                refine jr_lload_n C dX2_add_99 rfl 1 rfl ?_
                refine jr_pcall (rest := []) C (pX2_addLesser l v0 v2) oX2_addLesser kw_332 rfl ⟨Nat.le_of_ble_eq_true rfl, Nat.le_of_ble_eq_true rfl⟩ rfl (Nat.le_of_ble_eq_true rfl) ⟨Nat.zero_le _, Nat.zero_le _⟩ dX2_add_100 ?_
                refine jr_goto (tgt := 111) C dX2_add_103 rfl ?_
                exact jp_lret C dX2_add_111 (congrArg Value.long hv).symm
            · have hv := (if_neg q81).symm.trans hv
              refine jr_lload_n C dX2_add_84 rfl 0 rfl ?_
              exact jp_lret C dX2_add_85 (congrArg Value.long hv).symm
          · have hv := (if_neg q59).symm.trans hv
            refine jr_lload_n C dX2_add_62 rfl 1 rfl ?_
            refine jr_pcall (rest := []) C (pX2_isZero l v2) oX2_isZero kw_304 rfl ⟨Nat.le_of_ble_eq_true rfl, Nat.le_of_ble_eq_true rfl⟩ rfl (Nat.le_of_ble_eq_true rfl) ⟨Nat.zero_le _, Nat.zero_le _⟩ dX2_add_63 ?_
            refine jr_if_eq (tgt := 75) C dX2_add_66 rfl (fun q66 => ?_) (fun q66 => ?_)
            · have hv := (if_pos q66).symm.trans hv
              refine jr_lload_n C dX2_add_75 rfl 1 rfl ?_
              exact jp_lret C dX2_add_76 (congrArg Value.long hv).symm
            · have hv := (if_neg q66).symm.trans hv
              refine jr_lload_n C dX2_add_69 rfl 0 rfl ?_
              refine jr_lload_n C dX2_add_70 rfl 1 rfl ?_
              refine jr_land C dX2_add_71 ?_
              refine jr_goto (tgt := 76) C dX2_add_72 rfl ?_
              exact jp_lret C dX2_add_76 (congrArg Value.long hv).symm
        · have hv := (if_neg q50).symm.trans hv
          refine jr_lload_n C dX2_add_53 rfl 1 rfl ?_
          exact jp_lret C dX2_add_54 (congrArg Value.long hv).symm
      · have hv := (if_neg q22).symm.trans hv
        refine jr_lload_n C dX2_add_25 rfl 1 rfl ?_
        refine jr_pcall (rest := []) C (pX2_isInfinite l v2) oX2_isInfinite kw_301 rfl ⟨Nat.le_of_ble_eq_true rfl, Nat.le_of_ble_eq_true rfl⟩ rfl (Nat.le_of_ble_eq_true rfl) ⟨Nat.zero_le _, Nat.zero_le _⟩ dX2_add_26 ?_
        refine jr_if_eq (tgt := 44) C dX2_add_29 rfl (fun q29 => ?_) (fun q29 => ?_)
        · have hv := (if_pos q29).symm.trans hv
          exact jr_sub [0] rfl (tX2_add_44 C  v0 hv)
        · have hv := (if_neg q29).symm.trans hv
          refine jr_lload_n C dX2_add_32 rfl 0 rfl ?_
          refine jr_lload_n C dX2_add_33 rfl 1 rfl ?_
          refine jr_lcmp_eq (tgt := 44) C dX2_add_34 dX2_add_35 rfl (fun q34 => ?_) (fun q34 => ?_)
          · have hv := (if_pos q34).symm.trans hv
            exact jr_sub [0] rfl (tX2_add_44 C  v0 hv)
          · have hv := (if_neg q34).symm.trans hv
            refine jr_ldc2 C kw_297 dX2_add_38 ?_
            refine jr_goto (tgt := 45) C dX2_add_41 rfl ?_
            exact jp_lret C dX2_add_45 (congrArg Value.long hv).symm
    · have hv := (if_neg q11).symm.trans hv
      exact jr_sub [] rfl (tX2_add_14 C   hv)
theorem pX2_add (l : Launch) (v0 : Int64) (v2 : Int64) : pu l yX2_add cX2_add 4 (some .long) 4 [.long v0, .long v2] (.long (fX2_add v0 v2)) := pu_of (by decide +kernel) (Nat.le_of_ble_eq_true rfl) rfl (fun C => tX2_add_0 C v0 v2 rfl)
/-! RobotCell$Fraction.subtract(JJ)J -/
def fX2_subtract (v0 : Int64) (v2 : Int64) : Int64 :=
  fX2_add v0 (fX2_opposite v2)
theorem oX2_subtract : ok_s yX2_subtract cX2_subtract 4 (some .long) 2 := ⟨kw_340, kw_339, kw_74, by decide +kernel⟩
set_option maxRecDepth 100000 in
theorem tX2_subtract_0 {p : Program} {l : Launch} {e : Env} {s : State} {m : MethodId} {args : Array Value} {below : List Frame} {meth : Method} {c : Code} (C : CC p s m args meth c yX2_subtract cX2_subtract 4 (some .long))  (v0 : Int64) (v2 : Int64) {w : Int64} (hv : fX2_subtract v0 v2 = w) : PJ p l e s m args below meth c 4 5 (.long w) 0 [(0, .long v0), (2, .long v2)] [] := by
  unfold fX2_subtract at hv
  refine jr_lload_n C dX2_subtract_0 rfl 0 rfl ?_
  refine jr_lload_n C dX2_subtract_1 rfl 1 rfl ?_
  refine jr_pcall (rest := [.long v0]) C (pX2_opposite l v2) oX2_opposite kw_341 rfl ⟨Nat.le_of_ble_eq_true rfl, Nat.le_of_ble_eq_true rfl⟩ rfl (Nat.le_of_ble_eq_true rfl) ⟨Nat.zero_le _, Nat.zero_le _⟩ dX2_subtract_2 ?_
  refine jr_pcall (rest := []) C (pX2_add l v0 (fX2_opposite v2)) oX2_add kw_344 rfl ⟨Nat.le_of_ble_eq_true rfl, Nat.le_of_ble_eq_true rfl⟩ rfl (Nat.le_of_ble_eq_true rfl) ⟨Nat.zero_le _, Nat.zero_le _⟩ dX2_subtract_5 ?_
  exact jp_lret C dX2_subtract_8 (congrArg Value.long hv).symm
theorem pX2_subtract (l : Launch) (v0 : Int64) (v2 : Int64) : pu l yX2_subtract cX2_subtract 4 (some .long) 5 [.long v0, .long v2] (.long (fX2_subtract v0 v2)) := pu_of (by decide +kernel) (Nat.le_of_ble_eq_true rfl) rfl (fun C => tX2_subtract_0 C v0 v2 rfl)
/-! RobotCell$Fraction.productAbove(JJI)J -/
def fX2_productAbove_83 (v4 : Int32) (v5 : Int32) (v12 : Int64) (v14 : Int64) : Int64 :=
  (v12 <<< ((((2 * v5) - v4) : Int32).toInt64 &&& 63)) ||| (fX2_lowered v14 v4)
def fX2_productAbove_67 (v4 : Int32) (v5 : Int32) (v6 : Int64) (v8 : Int64) (v10 : Int64) (v12 : Int64) : Int64 :=
  fX2_productAbove_83 v4 v5 v12 (((v10 &&& v6) <<< ((v5 : Int32).toInt64 &&& 63)) ||| (v8 &&& v6))
def fX2_productAbove_50 (v0 : Int64) (v2 : Int64) (v4 : Int32) (v5 : Int32) (v6 : Int64) (v8 : Int64) (v10 : Int64) : Int64 :=
  fX2_productAbove_67 v4 v5 v6 v8 v10 (((((v0 : Int64).toUInt64 >>> ((v5 : Int32).toInt64.toUInt64 &&& Int64.toUInt64 63)).toInt64) * (((v2 : Int64).toUInt64 >>> ((v5 : Int32).toInt64.toUInt64 &&& Int64.toUInt64 63)).toInt64)) + (((v10 : Int64).toUInt64 >>> ((v5 : Int32).toInt64.toUInt64 &&& Int64.toUInt64 63)).toInt64))
def fX2_productAbove_23 (v0 : Int64) (v2 : Int64) (v4 : Int32) (v5 : Int32) (v6 : Int64) (v8 : Int64) : Int64 :=
  fX2_productAbove_50 v0 v2 v4 v5 v6 v8 ((((((v0 : Int64).toUInt64 >>> ((v5 : Int32).toInt64.toUInt64 &&& Int64.toUInt64 63)).toInt64) * (v2 &&& v6)) + ((v0 &&& v6) * (((v2 : Int64).toUInt64 >>> ((v5 : Int32).toInt64.toUInt64 &&& Int64.toUInt64 63)).toInt64))) + (((v8 : Int64).toUInt64 >>> ((v5 : Int32).toInt64.toUInt64 &&& Int64.toUInt64 63)).toInt64))
def fX2_productAbove_12 (v0 : Int64) (v2 : Int64) (v4 : Int32) (v5 : Int32) (v6 : Int64) : Int64 :=
  fX2_productAbove_23 v0 v2 v4 v5 v6 ((v0 &&& v6) * (v2 &&& v6))
def fX2_productAbove (v0 : Int64) (v2 : Int64) (v4 : Int32) : Int64 :=
  fX2_productAbove_12 v0 v2 v4 27 ((1 <<< ((27 : Int32).toInt64 &&& 63)) - 1)
theorem oX2_productAbove : ok_s yX2_productAbove cX2_productAbove 16 (some .long) 3 := ⟨kw_350, kw_349, kw_74, by decide +kernel⟩
set_option maxRecDepth 100000 in
theorem tX2_productAbove_83 {p : Program} {l : Launch} {e : Env} {s : State} {m : MethodId} {args : Array Value} {below : List Frame} {meth : Method} {c : Code} (C : CC p s m args meth c yX2_productAbove cX2_productAbove 16 (some .long))  (v4 : Int32) (v5 : Int32) (v12 : Int64) (v14 : Int64) {w : Int64} (hv : fX2_productAbove_83 v4 v5 v12 v14 = w) : PJ p l e s m args below meth c 16 1 (.long w) 83 [(4, .int v4), (5, .int v5), (12, .long v12), (14, .long v14)] [] := by
  unfold fX2_productAbove_83 at hv
  refine jr_lload C dX2_productAbove_83 2 rfl ?_
  refine jr_iconst (v := 2) C dX2_productAbove_85 (by decide) ?_
  refine jr_iload C dX2_productAbove_86 1 rfl ?_
  refine jr_imul C dX2_productAbove_88 ?_
  refine jr_iload C dX2_productAbove_89 0 rfl ?_
  refine jr_isub C dX2_productAbove_91 ?_
  refine jr_lshl C dX2_productAbove_92 ?_
  refine jr_lload C dX2_productAbove_93 3 rfl ?_
  refine jr_iload C dX2_productAbove_95 0 rfl ?_
  refine jr_pcall (rest := [.long (v12 <<< ((((2 * v5) - v4) : Int32).toInt64 &&& 63))]) C (pX2_lowered l v14 v4) oX2_lowered kw_335 rfl ⟨Nat.le_of_ble_eq_true rfl, Nat.le_of_ble_eq_true rfl⟩ rfl (Nat.le_of_ble_eq_true rfl) ⟨Nat.zero_le _, Nat.zero_le _⟩ dX2_productAbove_97 ?_
  refine jr_lor C dX2_productAbove_100 ?_
  exact jp_lret C dX2_productAbove_101 (congrArg Value.long hv).symm
set_option maxRecDepth 100000 in
theorem tX2_productAbove_67 {p : Program} {l : Launch} {e : Env} {s : State} {m : MethodId} {args : Array Value} {below : List Frame} {meth : Method} {c : Code} (C : CC p s m args meth c yX2_productAbove cX2_productAbove 16 (some .long))  (v4 : Int32) (v5 : Int32) (v6 : Int64) (v8 : Int64) (v10 : Int64) (v12 : Int64) {w : Int64} (hv : fX2_productAbove_67 v4 v5 v6 v8 v10 v12 = w) : PJ p l e s m args below meth c 16 1 (.long w) 67 [(4, .int v4), (5, .int v5), (6, .long v6), (8, .long v8), (10, .long v10), (12, .long v12)] [] := by
  unfold fX2_productAbove_67 at hv
  refine jr_lload C dX2_productAbove_67 4 rfl ?_
  refine jr_lload C dX2_productAbove_69 2 rfl ?_
  refine jr_land C dX2_productAbove_71 ?_
  refine jr_iload C dX2_productAbove_72 1 rfl ?_
  refine jr_lshl C dX2_productAbove_74 ?_
  refine jr_lload C dX2_productAbove_75 3 rfl ?_
  refine jr_lload C dX2_productAbove_77 2 rfl ?_
  refine jr_land C dX2_productAbove_79 ?_
  refine jr_lor C dX2_productAbove_80 ?_
  refine jr_lstore (lv' := [(14, .long (((v10 &&& v6) <<< ((v5 : Int32).toInt64 &&& 63)) ||| (v8 &&& v6))), (4, .int v4), (5, .int v5), (6, .long v6), (8, .long v8), (10, .long v10), (12, .long v12)]) C dX2_productAbove_81 (by decide) rfl ?_
  exact jr_sub [1, 2, 6, 0] rfl (tX2_productAbove_83 C  v4 v5 v12 (((v10 &&& v6) <<< ((v5 : Int32).toInt64 &&& 63)) ||| (v8 &&& v6)) hv)
set_option maxRecDepth 100000 in
theorem tX2_productAbove_50 {p : Program} {l : Launch} {e : Env} {s : State} {m : MethodId} {args : Array Value} {below : List Frame} {meth : Method} {c : Code} (C : CC p s m args meth c yX2_productAbove cX2_productAbove 16 (some .long))  (v0 : Int64) (v2 : Int64) (v4 : Int32) (v5 : Int32) (v6 : Int64) (v8 : Int64) (v10 : Int64) {w : Int64} (hv : fX2_productAbove_50 v0 v2 v4 v5 v6 v8 v10 = w) : PJ p l e s m args below meth c 16 1 (.long w) 50 [(0, .long v0), (2, .long v2), (4, .int v4), (5, .int v5), (6, .long v6), (8, .long v8), (10, .long v10)] [] := by
  unfold fX2_productAbove_50 at hv
  refine jr_lload_n C dX2_productAbove_50 rfl 0 rfl ?_
  refine jr_iload C dX2_productAbove_51 3 rfl ?_
  refine jr_lushr C dX2_productAbove_53 ?_
  refine jr_lload_n C dX2_productAbove_54 rfl 1 rfl ?_
  refine jr_iload C dX2_productAbove_55 3 rfl ?_
  refine jr_lushr C dX2_productAbove_57 ?_
  refine jr_lmul C dX2_productAbove_58 ?_
  refine jr_lload C dX2_productAbove_59 6 rfl ?_
  refine jr_iload C dX2_productAbove_61 3 rfl ?_
  refine jr_lushr C dX2_productAbove_63 ?_
  refine jr_ladd C dX2_productAbove_64 ?_
  refine jr_lstore (lv' := [(12, .long (((((v0 : Int64).toUInt64 >>> ((v5 : Int32).toInt64.toUInt64 &&& Int64.toUInt64 63)).toInt64) * (((v2 : Int64).toUInt64 >>> ((v5 : Int32).toInt64.toUInt64 &&& Int64.toUInt64 63)).toInt64)) + (((v10 : Int64).toUInt64 >>> ((v5 : Int32).toInt64.toUInt64 &&& Int64.toUInt64 63)).toInt64))), (0, .long v0), (2, .long v2), (4, .int v4), (5, .int v5), (6, .long v6), (8, .long v8), (10, .long v10)]) C dX2_productAbove_65 (by decide) rfl ?_
  exact jr_sub [3, 4, 5, 6, 7, 0] rfl (tX2_productAbove_67 C  v4 v5 v6 v8 v10 (((((v0 : Int64).toUInt64 >>> ((v5 : Int32).toInt64.toUInt64 &&& Int64.toUInt64 63)).toInt64) * (((v2 : Int64).toUInt64 >>> ((v5 : Int32).toInt64.toUInt64 &&& Int64.toUInt64 63)).toInt64)) + (((v10 : Int64).toUInt64 >>> ((v5 : Int32).toInt64.toUInt64 &&& Int64.toUInt64 63)).toInt64)) hv)
set_option maxRecDepth 100000 in
theorem tX2_productAbove_23 {p : Program} {l : Launch} {e : Env} {s : State} {m : MethodId} {args : Array Value} {below : List Frame} {meth : Method} {c : Code} (C : CC p s m args meth c yX2_productAbove cX2_productAbove 16 (some .long))  (v0 : Int64) (v2 : Int64) (v4 : Int32) (v5 : Int32) (v6 : Int64) (v8 : Int64) {w : Int64} (hv : fX2_productAbove_23 v0 v2 v4 v5 v6 v8 = w) : PJ p l e s m args below meth c 16 1 (.long w) 23 [(0, .long v0), (2, .long v2), (4, .int v4), (5, .int v5), (6, .long v6), (8, .long v8)] [] := by
  unfold fX2_productAbove_23 at hv
  refine jr_lload_n C dX2_productAbove_23 rfl 0 rfl ?_
  refine jr_iload C dX2_productAbove_24 3 rfl ?_
  refine jr_lushr C dX2_productAbove_26 ?_
  refine jr_lload_n C dX2_productAbove_27 rfl 1 rfl ?_
  refine jr_lload C dX2_productAbove_28 4 rfl ?_
  refine jr_land C dX2_productAbove_30 ?_
  refine jr_lmul C dX2_productAbove_31 ?_
  refine jr_lload_n C dX2_productAbove_32 rfl 0 rfl ?_
  refine jr_lload C dX2_productAbove_33 4 rfl ?_
  refine jr_land C dX2_productAbove_35 ?_
  refine jr_lload_n C dX2_productAbove_36 rfl 1 rfl ?_
  refine jr_iload C dX2_productAbove_37 3 rfl ?_
  refine jr_lushr C dX2_productAbove_39 ?_
  refine jr_lmul C dX2_productAbove_40 ?_
  refine jr_ladd C dX2_productAbove_41 ?_
  refine jr_lload C dX2_productAbove_42 5 rfl ?_
  refine jr_iload C dX2_productAbove_44 3 rfl ?_
  refine jr_lushr C dX2_productAbove_46 ?_
  refine jr_ladd C dX2_productAbove_47 ?_
  refine jr_lstore (lv' := [(10, .long ((((((v0 : Int64).toUInt64 >>> ((v5 : Int32).toInt64.toUInt64 &&& Int64.toUInt64 63)).toInt64) * (v2 &&& v6)) + ((v0 &&& v6) * (((v2 : Int64).toUInt64 >>> ((v5 : Int32).toInt64.toUInt64 &&& Int64.toUInt64 63)).toInt64))) + (((v8 : Int64).toUInt64 >>> ((v5 : Int32).toInt64.toUInt64 &&& Int64.toUInt64 63)).toInt64))), (0, .long v0), (2, .long v2), (4, .int v4), (5, .int v5), (6, .long v6), (8, .long v8)]) C dX2_productAbove_48 (by decide) rfl ?_
  exact jr_sub [1, 2, 3, 4, 5, 6, 0] rfl (tX2_productAbove_50 C  v0 v2 v4 v5 v6 v8 ((((((v0 : Int64).toUInt64 >>> ((v5 : Int32).toInt64.toUInt64 &&& Int64.toUInt64 63)).toInt64) * (v2 &&& v6)) + ((v0 &&& v6) * (((v2 : Int64).toUInt64 >>> ((v5 : Int32).toInt64.toUInt64 &&& Int64.toUInt64 63)).toInt64))) + (((v8 : Int64).toUInt64 >>> ((v5 : Int32).toInt64.toUInt64 &&& Int64.toUInt64 63)).toInt64)) hv)
set_option maxRecDepth 100000 in
theorem tX2_productAbove_12 {p : Program} {l : Launch} {e : Env} {s : State} {m : MethodId} {args : Array Value} {below : List Frame} {meth : Method} {c : Code} (C : CC p s m args meth c yX2_productAbove cX2_productAbove 16 (some .long))  (v0 : Int64) (v2 : Int64) (v4 : Int32) (v5 : Int32) (v6 : Int64) {w : Int64} (hv : fX2_productAbove_12 v0 v2 v4 v5 v6 = w) : PJ p l e s m args below meth c 16 1 (.long w) 12 [(0, .long v0), (2, .long v2), (4, .int v4), (5, .int v5), (6, .long v6)] [] := by
  unfold fX2_productAbove_12 at hv
  refine jr_lload_n C dX2_productAbove_12 rfl 0 rfl ?_
  refine jr_lload C dX2_productAbove_13 4 rfl ?_
  refine jr_land C dX2_productAbove_15 ?_
  refine jr_lload_n C dX2_productAbove_16 rfl 1 rfl ?_
  refine jr_lload C dX2_productAbove_17 4 rfl ?_
  refine jr_land C dX2_productAbove_19 ?_
  refine jr_lmul C dX2_productAbove_20 ?_
  refine jr_lstore (lv' := [(8, .long ((v0 &&& v6) * (v2 &&& v6))), (0, .long v0), (2, .long v2), (4, .int v4), (5, .int v5), (6, .long v6)]) C dX2_productAbove_21 (by decide) rfl ?_
  exact jr_sub [1, 2, 3, 4, 5, 0] rfl (tX2_productAbove_23 C  v0 v2 v4 v5 v6 ((v0 &&& v6) * (v2 &&& v6)) hv)
set_option maxRecDepth 100000 in
theorem tX2_productAbove_0 {p : Program} {l : Launch} {e : Env} {s : State} {m : MethodId} {args : Array Value} {below : List Frame} {meth : Method} {c : Code} (C : CC p s m args meth c yX2_productAbove cX2_productAbove 16 (some .long))  (v0 : Int64) (v2 : Int64) (v4 : Int32) {w : Int64} (hv : fX2_productAbove v0 v2 v4 = w) : PJ p l e s m args below meth c 16 1 (.long w) 0 [(0, .long v0), (2, .long v2), (4, .int v4)] [] := by
  unfold fX2_productAbove at hv
  refine jr_bipush (v := 27) C dX2_productAbove_0 (by decide) ?_
  refine jr_istore (lv' := [(5, .int 27), (0, .long v0), (2, .long v2), (4, .int v4)]) C dX2_productAbove_2 (by decide) rfl ?_
  refine jr_lconst (v := 1) C dX2_productAbove_4 (by decide) ?_
  refine jr_iload C dX2_productAbove_5 0 rfl ?_
  refine jr_lshl C dX2_productAbove_7 ?_
  refine jr_lconst (v := 1) C dX2_productAbove_8 (by decide) ?_
  refine jr_lsub C dX2_productAbove_9 ?_
  refine jr_lstore (lv' := [(6, .long ((1 <<< ((27 : Int32).toInt64 &&& 63)) - 1)), (5, .int 27), (0, .long v0), (2, .long v2), (4, .int v4)]) C dX2_productAbove_10 (by decide) rfl ?_
  exact jr_sub [2, 3, 4, 1, 0] rfl (tX2_productAbove_12 C  v0 v2 v4 27 ((1 <<< ((27 : Int32).toInt64 &&& 63)) - 1) hv)
theorem pX2_productAbove (l : Launch) (v0 : Int64) (v2 : Int64) (v4 : Int32) : pu l yX2_productAbove cX2_productAbove 16 (some .long) 1 [.long v0, .long v2, .int v4] (.long (fX2_productAbove v0 v2 v4)) := pu_of (by decide +kernel) (Nat.le_of_ble_eq_true rfl) rfl (fun C => tX2_productAbove_0 C v0 v2 v4 rfl)
/-! RobotCell$Fraction.multiply(JJ)J -/
def fX2_multiply_14  : Int64 :=
  9221120237041090560
def fX2_multiply_54  : Int64 :=
  9221120237041090560
def fX2_multiply_40 (v0 : Int64) (v2 : Int64) (v4 : Int64) : Int64 :=
  if (fX2_isZero v0) = 0 then (if (fX2_isZero v2) = 0 then v4 ||| 9218868437227405312 else fX2_multiply_54) else fX2_multiply_54
def fX2_multiply_81 (v4 : Int64) : Int64 :=
  v4
def fX2_multiply_103 (v0 : Int64) (v2 : Int64) (v4 : Int64) (v6 : Int32) (v7 : Int64) : Int64 :=
  v4 ||| (fX2_nearest v7 (((fX2_scale v0) + (fX2_scale v2)) + v6) 52 1023)
def fX2_multiply_26 (v0 : Int64) (v2 : Int64) (v4 : Int64) : Int64 :=
  if (fX2_isInfinite v0) = 0 then (if (fX2_isInfinite v2) = 0 then (if (fX2_isZero v0) = 0 then (if (fX2_isZero v2) = 0 then fX2_multiply_103 v0 v2 v4 44 (fX2_productAbove (fX2_significand v0) (fX2_significand v2) 44) else fX2_multiply_81 v4) else fX2_multiply_81 v4) else fX2_multiply_40 v0 v2 v4) else fX2_multiply_40 v0 v2 v4
def fX2_multiply (v0 : Int64) (v2 : Int64) : Int64 :=
  if (fX2_isLost v0) = 0 then (if (fX2_isLost v2) = 0 then fX2_multiply_26 v0 v2 (fX2_signBit (v0 ^^^ v2)) else fX2_multiply_14) else fX2_multiply_14
theorem oX2_multiply : ok_s yX2_multiply cX2_multiply 9 (some .long) 2 := ⟨kw_347, kw_346, kw_74, by decide +kernel⟩
set_option maxRecDepth 100000 in
theorem tX2_multiply_14 {p : Program} {l : Launch} {e : Env} {s : State} {m : MethodId} {args : Array Value} {below : List Frame} {meth : Method} {c : Code} (C : CC p s m args meth c yX2_multiply cX2_multiply 9 (some .long))   {w : Int64} (hv : fX2_multiply_14  = w) : PJ p l e s m args below meth c 9 3 (.long w) 14 [] [] := by
  unfold fX2_multiply_14 at hv
  refine jr_ldc2 C kw_297 dX2_multiply_14 ?_
  exact jp_lret C dX2_multiply_17 (congrArg Value.long hv).symm
set_option maxRecDepth 100000 in
theorem tX2_multiply_54 {p : Program} {l : Launch} {e : Env} {s : State} {m : MethodId} {args : Array Value} {below : List Frame} {meth : Method} {c : Code} (C : CC p s m args meth c yX2_multiply cX2_multiply 9 (some .long))   {w : Int64} (hv : fX2_multiply_54  = w) : PJ p l e s m args below meth c 9 3 (.long w) 54 [] [] := by
  unfold fX2_multiply_54 at hv
  refine jr_ldc2 C kw_297 dX2_multiply_54 ?_
  refine jr_goto (tgt := 66) C dX2_multiply_57 rfl ?_
  exact jp_lret C dX2_multiply_66 (congrArg Value.long hv).symm
set_option maxRecDepth 100000 in
theorem tX2_multiply_40 {p : Program} {l : Launch} {e : Env} {s : State} {m : MethodId} {args : Array Value} {below : List Frame} {meth : Method} {c : Code} (C : CC p s m args meth c yX2_multiply cX2_multiply 9 (some .long))  (v0 : Int64) (v2 : Int64) (v4 : Int64) {w : Int64} (hv : fX2_multiply_40 v0 v2 v4 = w) : PJ p l e s m args below meth c 9 3 (.long w) 40 [(0, .long v0), (2, .long v2), (4, .long v4)] [] := by
  unfold fX2_multiply_40 at hv
  refine jr_lload_n C dX2_multiply_40 rfl 0 rfl ?_
  refine jr_pcall (rest := []) C (pX2_isZero l v0) oX2_isZero kw_304 rfl ⟨Nat.le_of_ble_eq_true rfl, Nat.le_of_ble_eq_true rfl⟩ rfl (Nat.le_of_ble_eq_true rfl) ⟨Nat.zero_le _, Nat.zero_le _⟩ dX2_multiply_41 ?_
  refine jr_if_ne (tgt := 54) C dX2_multiply_44 rfl (fun q44 => ?_) (fun q44 => ?_)
  · have hv := (if_neg q44).symm.trans hv
    exact jr_sub [] rfl (tX2_multiply_54 C   hv)
  · have hv := (if_pos q44).symm.trans hv
    refine jr_lload_n C dX2_multiply_47 rfl 1 rfl ?_
    refine jr_pcall (rest := []) C (pX2_isZero l v2) oX2_isZero kw_304 rfl ⟨Nat.le_of_ble_eq_true rfl, Nat.le_of_ble_eq_true rfl⟩ rfl (Nat.le_of_ble_eq_true rfl) ⟨Nat.zero_le _, Nat.zero_le _⟩ dX2_multiply_48 ?_
    refine jr_if_eq (tgt := 60) C dX2_multiply_51 rfl (fun q51 => ?_) (fun q51 => ?_)
    · have hv := (if_pos q51).symm.trans hv
      refine jr_lload C dX2_multiply_60 2 rfl ?_
      refine jr_ldc2 C kw_296 dX2_multiply_62 ?_
      refine jr_lor C dX2_multiply_65 ?_
      exact jp_lret C dX2_multiply_66 (congrArg Value.long hv).symm
    · have hv := (if_neg q51).symm.trans hv
      exact jr_sub [] rfl (tX2_multiply_54 C   hv)
set_option maxRecDepth 100000 in
theorem tX2_multiply_81 {p : Program} {l : Launch} {e : Env} {s : State} {m : MethodId} {args : Array Value} {below : List Frame} {meth : Method} {c : Code} (C : CC p s m args meth c yX2_multiply cX2_multiply 9 (some .long))  (v4 : Int64) {w : Int64} (hv : fX2_multiply_81 v4 = w) : PJ p l e s m args below meth c 9 3 (.long w) 81 [(4, .long v4)] [] := by
  unfold fX2_multiply_81 at hv
  refine jr_lload C dX2_multiply_81 0 rfl ?_
  exact jp_lret C dX2_multiply_83 (congrArg Value.long hv).symm
set_option maxRecDepth 100000 in
theorem tX2_multiply_103 {p : Program} {l : Launch} {e : Env} {s : State} {m : MethodId} {args : Array Value} {below : List Frame} {meth : Method} {c : Code} (C : CC p s m args meth c yX2_multiply cX2_multiply 9 (some .long))  (v0 : Int64) (v2 : Int64) (v4 : Int64) (v6 : Int32) (v7 : Int64) {w : Int64} (hv : fX2_multiply_103 v0 v2 v4 v6 v7 = w) : PJ p l e s m args below meth c 9 3 (.long w) 103 [(0, .long v0), (2, .long v2), (4, .long v4), (6, .int v6), (7, .long v7)] [] := by
  unfold fX2_multiply_103 at hv
  refine jr_lload C dX2_multiply_103 2 rfl ?_
  refine jr_lload C dX2_multiply_105 4 rfl ?_
  refine jr_lload_n C dX2_multiply_107 rfl 0 rfl ?_
  refine jr_pcall (rest := [.long v7, .long v4]) C (pX2_scale l v0) oX2_scale kw_315 rfl ⟨Nat.le_of_ble_eq_true rfl, Nat.le_of_ble_eq_true rfl⟩ rfl (Nat.le_of_ble_eq_true rfl) ⟨Nat.zero_le _, Nat.zero_le _⟩ dX2_multiply_108 ?_
  refine jr_lload_n C dX2_multiply_111 rfl 1 rfl ?_
  refine jr_pcall (rest := [.int (fX2_scale v0), .long v7, .long v4]) C (pX2_scale l v2) oX2_scale kw_315 rfl ⟨Nat.le_of_ble_eq_true rfl, Nat.le_of_ble_eq_true rfl⟩ rfl (Nat.le_of_ble_eq_true rfl) ⟨Nat.zero_le _, Nat.zero_le _⟩ dX2_multiply_112 ?_
  refine jr_iadd C dX2_multiply_115 ?_
  refine jr_iload C dX2_multiply_116 3 rfl ?_
  refine jr_iadd C dX2_multiply_118 ?_
  refine jr_bipush (v := 52) C dX2_multiply_119 (by decide) ?_
  refine jr_sipush (v := 1023) C dX2_multiply_121 (by decide) ?_
  refine jr_pcall (rest := [.long v4]) C (pX2_nearest l v7 (((fX2_scale v0) + (fX2_scale v2)) + v6) 52 1023) oX2_nearest kw_276 rfl ⟨Nat.le_of_ble_eq_true rfl, Nat.le_of_ble_eq_true rfl⟩ rfl (Nat.le_of_ble_eq_true rfl) ⟨Nat.zero_le _, Nat.zero_le _⟩ dX2_multiply_124 ?_
  refine jr_lor C dX2_multiply_127 ?_
  exact jp_lret C dX2_multiply_128 (congrArg Value.long hv).symm
set_option maxRecDepth 100000 in
theorem tX2_multiply_26 {p : Program} {l : Launch} {e : Env} {s : State} {m : MethodId} {args : Array Value} {below : List Frame} {meth : Method} {c : Code} (C : CC p s m args meth c yX2_multiply cX2_multiply 9 (some .long))  (v0 : Int64) (v2 : Int64) (v4 : Int64) {w : Int64} (hv : fX2_multiply_26 v0 v2 v4 = w) : PJ p l e s m args below meth c 9 3 (.long w) 26 [(0, .long v0), (2, .long v2), (4, .long v4)] [] := by
  unfold fX2_multiply_26 at hv
  refine jr_lload_n C dX2_multiply_26 rfl 0 rfl ?_
  refine jr_pcall (rest := []) C (pX2_isInfinite l v0) oX2_isInfinite kw_301 rfl ⟨Nat.le_of_ble_eq_true rfl, Nat.le_of_ble_eq_true rfl⟩ rfl (Nat.le_of_ble_eq_true rfl) ⟨Nat.zero_le _, Nat.zero_le _⟩ dX2_multiply_27 ?_
  refine jr_if_ne (tgt := 40) C dX2_multiply_30 rfl (fun q30 => ?_) (fun q30 => ?_)
  · have hv := (if_neg q30).symm.trans hv
    exact tX2_multiply_40 C  v0 v2 v4 hv
  · have hv := (if_pos q30).symm.trans hv
    refine jr_lload_n C dX2_multiply_33 rfl 1 rfl ?_
    refine jr_pcall (rest := []) C (pX2_isInfinite l v2) oX2_isInfinite kw_301 rfl ⟨Nat.le_of_ble_eq_true rfl, Nat.le_of_ble_eq_true rfl⟩ rfl (Nat.le_of_ble_eq_true rfl) ⟨Nat.zero_le _, Nat.zero_le _⟩ dX2_multiply_34 ?_
    refine jr_if_eq (tgt := 67) C dX2_multiply_37 rfl (fun q37 => ?_) (fun q37 => ?_)
    · have hv := (if_pos q37).symm.trans hv
      refine jr_lload_n C dX2_multiply_67 rfl 0 rfl ?_
      refine jr_pcall (rest := []) C (pX2_isZero l v0) oX2_isZero kw_304 rfl ⟨Nat.le_of_ble_eq_true rfl, Nat.le_of_ble_eq_true rfl⟩ rfl (Nat.le_of_ble_eq_true rfl) ⟨Nat.zero_le _, Nat.zero_le _⟩ dX2_multiply_68 ?_
      refine jr_if_ne (tgt := 81) C dX2_multiply_71 rfl (fun q71 => ?_) (fun q71 => ?_)
      · have hv := (if_neg q71).symm.trans hv
        exact jr_sub [2] rfl (tX2_multiply_81 C  v4 hv)
      · have hv := (if_pos q71).symm.trans hv
        refine jr_lload_n C dX2_multiply_74 rfl 1 rfl ?_
        refine jr_pcall (rest := []) C (pX2_isZero l v2) oX2_isZero kw_304 rfl ⟨Nat.le_of_ble_eq_true rfl, Nat.le_of_ble_eq_true rfl⟩ rfl (Nat.le_of_ble_eq_true rfl) ⟨Nat.zero_le _, Nat.zero_le _⟩ dX2_multiply_75 ?_
        refine jr_if_eq (tgt := 84) C dX2_multiply_78 rfl (fun q78 => ?_) (fun q78 => ?_)
        · have hv := (if_pos q78).symm.trans hv
          refine jr_bipush (v := 44) C dX2_multiply_84 (by decide) ?_
          refine jr_istore (lv' := [(6, .int 44), (0, .long v0), (2, .long v2), (4, .long v4)]) C dX2_multiply_86 (by decide) rfl ?_
          refine jr_lload_n C dX2_multiply_88 rfl 1 rfl ?_
          refine jr_pcall (rest := []) C (pX2_significand l v0) oX2_significand kw_307 rfl ⟨Nat.le_of_ble_eq_true rfl, Nat.le_of_ble_eq_true rfl⟩ rfl (Nat.le_of_ble_eq_true rfl) ⟨Nat.zero_le _, Nat.zero_le _⟩ dX2_multiply_89 ?_
          refine jr_lload_n C dX2_multiply_92 rfl 2 rfl ?_
          refine jr_pcall (rest := [.long (fX2_significand v0)]) C (pX2_significand l v2) oX2_significand kw_307 rfl ⟨Nat.le_of_ble_eq_true rfl, Nat.le_of_ble_eq_true rfl⟩ rfl (Nat.le_of_ble_eq_true rfl) ⟨Nat.zero_le _, Nat.zero_le _⟩ dX2_multiply_93 ?_
          refine jr_iload C dX2_multiply_96 0 rfl ?_
          refine jr_pcall (rest := []) C (pX2_productAbove l (fX2_significand v0) (fX2_significand v2) 44) oX2_productAbove kw_348 rfl ⟨Nat.le_of_ble_eq_true rfl, Nat.le_of_ble_eq_true rfl⟩ rfl (Nat.le_of_ble_eq_true rfl) ⟨Nat.zero_le _, Nat.zero_le _⟩ dX2_multiply_98 ?_
          refine jr_lstore (lv' := [(7, .long (fX2_productAbove (fX2_significand v0) (fX2_significand v2) 44)), (6, .int 44), (0, .long v0), (2, .long v2), (4, .long v4)]) C dX2_multiply_101 (by decide) rfl ?_
          exact jr_sub [2, 3, 4, 1, 0] rfl (tX2_multiply_103 C  v0 v2 v4 44 (fX2_productAbove (fX2_significand v0) (fX2_significand v2) 44) hv)
        · have hv := (if_neg q78).symm.trans hv
          exact jr_sub [2] rfl (tX2_multiply_81 C  v4 hv)
    · have hv := (if_neg q37).symm.trans hv
      exact tX2_multiply_40 C  v0 v2 v4 hv
set_option maxRecDepth 100000 in
theorem tX2_multiply_0 {p : Program} {l : Launch} {e : Env} {s : State} {m : MethodId} {args : Array Value} {below : List Frame} {meth : Method} {c : Code} (C : CC p s m args meth c yX2_multiply cX2_multiply 9 (some .long))  (v0 : Int64) (v2 : Int64) {w : Int64} (hv : fX2_multiply v0 v2 = w) : PJ p l e s m args below meth c 9 3 (.long w) 0 [(0, .long v0), (2, .long v2)] [] := by
  unfold fX2_multiply at hv
  refine jr_lload_n C dX2_multiply_0 rfl 0 rfl ?_
  refine jr_pcall (rest := []) C (pX2_isLost l v0) oX2_isLost kw_292 rfl ⟨Nat.le_of_ble_eq_true rfl, Nat.le_of_ble_eq_true rfl⟩ rfl (Nat.le_of_ble_eq_true rfl) ⟨Nat.zero_le _, Nat.zero_le _⟩ dX2_multiply_1 ?_
  refine jr_if_ne (tgt := 14) C dX2_multiply_4 rfl (fun q4 => ?_) (fun q4 => ?_)
  · have hv := (if_neg q4).symm.trans hv
    exact jr_sub [] rfl (tX2_multiply_14 C   hv)
  · have hv := (if_pos q4).symm.trans hv
    refine jr_lload_n C dX2_multiply_7 rfl 1 rfl ?_
    refine jr_pcall (rest := []) C (pX2_isLost l v2) oX2_isLost kw_292 rfl ⟨Nat.le_of_ble_eq_true rfl, Nat.le_of_ble_eq_true rfl⟩ rfl (Nat.le_of_ble_eq_true rfl) ⟨Nat.zero_le _, Nat.zero_le _⟩ dX2_multiply_8 ?_
    refine jr_if_eq (tgt := 18) C dX2_multiply_11 rfl (fun q11 => ?_) (fun q11 => ?_)
    · have hv := (if_pos q11).symm.trans hv
      refine jr_lload_n C dX2_multiply_18 rfl 0 rfl ?_
      refine jr_lload_n C dX2_multiply_19 rfl 1 rfl ?_
      refine jr_lxor C dX2_multiply_20 ?_
      refine jr_pcall (rest := []) C (pX2_signBit l (v0 ^^^ v2)) oX2_signBit kw_298 rfl ⟨Nat.le_of_ble_eq_true rfl, Nat.le_of_ble_eq_true rfl⟩ rfl (Nat.le_of_ble_eq_true rfl) ⟨Nat.zero_le _, Nat.zero_le _⟩ dX2_multiply_21 ?_
      refine jr_lstore (lv' := [(4, .long (fX2_signBit (v0 ^^^ v2))), (0, .long v0), (2, .long v2)]) C dX2_multiply_24 (by decide) rfl ?_
      exact jr_sub [1, 2, 0] rfl (tX2_multiply_26 C  v0 v2 (fX2_signBit (v0 ^^^ v2)) hv)
    · have hv := (if_neg q11).symm.trans hv
      exact jr_sub [] rfl (tX2_multiply_14 C   hv)
theorem pX2_multiply (l : Launch) (v0 : Int64) (v2 : Int64) : pu l yX2_multiply cX2_multiply 9 (some .long) 3 [.long v0, .long v2] (.long (fX2_multiply v0 v2)) := pu_of (by decide +kernel) (Nat.le_of_ble_eq_true rfl) rfl (fun C => tX2_multiply_0 C v0 v2 rfl)
/-! RobotCell$Fraction.middle(JJ)J -/
def fX2_middle (v0 : Int64) (v2 : Int64) : Int64 :=
  if (fX2_isLost v0) = 0 then (if (fX2_isLost v2) = 0 then fX2_multiply (fX2_add v0 v2) 4602678819172646912 else v0) else v2
theorem oX2_middle : ok_s yX2_middle cX2_middle 4 (some .long) 2 := ⟨kw_451, kw_450, kw_74, by decide +kernel⟩
set_option maxRecDepth 100000 in
theorem tX2_middle_0 {p : Program} {l : Launch} {e : Env} {s : State} {m : MethodId} {args : Array Value} {below : List Frame} {meth : Method} {c : Code} (C : CC p s m args meth c yX2_middle cX2_middle 4 (some .long))  (v0 : Int64) (v2 : Int64) {w : Int64} (hv : fX2_middle v0 v2 = w) : PJ p l e s m args below meth c 4 5 (.long w) 0 [(0, .long v0), (2, .long v2)] [] := by
  unfold fX2_middle at hv
  refine jr_lload_n C dX2_middle_0 rfl 0 rfl ?_
  refine jr_pcall (rest := []) C (pX2_isLost l v0) oX2_isLost kw_292 rfl ⟨Nat.le_of_ble_eq_true rfl, Nat.le_of_ble_eq_true rfl⟩ rfl (Nat.le_of_ble_eq_true rfl) ⟨Nat.zero_le _, Nat.zero_le _⟩ dX2_middle_1 ?_
  refine jr_if_eq (tgt := 9) C dX2_middle_4 rfl (fun q4 => ?_) (fun q4 => ?_)
  · have hv := (if_pos q4).symm.trans hv
    refine jr_lload_n C dX2_middle_9 rfl 1 rfl ?_
    refine jr_pcall (rest := []) C (pX2_isLost l v2) oX2_isLost kw_292 rfl ⟨Nat.le_of_ble_eq_true rfl, Nat.le_of_ble_eq_true rfl⟩ rfl (Nat.le_of_ble_eq_true rfl) ⟨Nat.zero_le _, Nat.zero_le _⟩ dX2_middle_10 ?_
    refine jr_if_eq (tgt := 20) C dX2_middle_13 rfl (fun q13 => ?_) (fun q13 => ?_)
    · have hv := (if_pos q13).symm.trans hv
      refine jr_lload_n C dX2_middle_20 rfl 0 rfl ?_
      refine jr_lload_n C dX2_middle_21 rfl 1 rfl ?_
      refine jr_pcall (rest := []) C (pX2_add l v0 v2) oX2_add kw_344 rfl ⟨Nat.le_of_ble_eq_true rfl, Nat.le_of_ble_eq_true rfl⟩ rfl (Nat.le_of_ble_eq_true rfl) ⟨Nat.zero_le _, Nat.zero_le _⟩ dX2_middle_22 ?_
      refine jr_ldc2 C kw_384 dX2_middle_25 ?_
      refine jr_pcall (rest := []) C (pX2_multiply l (fX2_add v0 v2) 4602678819172646912) oX2_multiply kw_452 rfl ⟨Nat.le_of_ble_eq_true rfl, Nat.le_of_ble_eq_true rfl⟩ rfl (Nat.le_of_ble_eq_true rfl) ⟨Nat.zero_le _, Nat.zero_le _⟩ dX2_middle_28 ?_
      exact jp_lret C dX2_middle_31 (congrArg Value.long hv).symm
    · have hv := (if_neg q13).symm.trans hv
      refine jr_lload_n C dX2_middle_16 rfl 0 rfl ?_
      refine jr_goto (tgt := 31) C dX2_middle_17 rfl ?_
      exact jp_lret C dX2_middle_31 (congrArg Value.long hv).symm
  · have hv := (if_neg q4).symm.trans hv
    refine jr_lload_n C dX2_middle_7 rfl 1 rfl ?_
    exact jp_lret C dX2_middle_8 (congrArg Value.long hv).symm
theorem pX2_middle (l : Launch) (v0 : Int64) (v2 : Int64) : pu l yX2_middle cX2_middle 4 (some .long) 5 [.long v0, .long v2] (.long (fX2_middle v0 v2)) := pu_of (by decide +kernel) (Nat.le_of_ble_eq_true rfl) rfl (fun C => tX2_middle_0 C v0 v2 rfl)
/-! RobotCell$Fraction.quotientOf(JJ)J -/
def fX2_quotientOf_56 (r21 : Int64 → Int64 → Int64 → Int32 → Option Int64) (v2 : Int64) (v4 : Int64) (v6 : Int64) (v8 : Int32) : Option Int64 :=
  r21 v2 v4 v6 v8
def fX2_quotientOf_53 (r21 : Int64 → Int64 → Int64 → Int32 → Option Int64) (v2 : Int64) (v4 : Int64) (v6 : Int64) (v8 : Int32) : Option Int64 :=
  fX2_quotientOf_56 r21 v2 v4 v6 (v8 + 1)
def fX2_quotientOf_47 (r21 : Int64 → Int64 → Int64 → Int32 → Option Int64) (v2 : Int64) (v4 : Int64) (v6 : Int64) (v8 : Int32) : Option Int64 :=
  if v2 = 0 then none else fX2_quotientOf_53 r21 v2 v4 (v6 - v6 / v2 * v2) v8
def fX2_quotientOf_35 (r21 : Int64 → Int64 → Int64 → Int32 → Option Int64) (v2 : Int64) (v4 : Int64) (v6 : Int64) (v8 : Int32) : Option Int64 :=
  if v2 = 0 then none else fX2_quotientOf_47 r21 v2 ((v4 <<< ((10 : Int32).toInt64 &&& 63)) + (v6 / v2)) v6 v8
def fX2_quotientOf_21  : Nat → Int64 → Int64 → Int64 → Int32 → Option Int64
  | 0, _, _, _, _ => none
  | q + 1, v2, v4, v6, v8 => if 6 ≤ v8 then (if v6 = 0 then some v4 else some (v4 ||| 1)) else fX2_quotientOf_35 (fX2_quotientOf_21  q) v2 v4 (v6 <<< ((10 : Int32).toInt64 &&& 63)) v8
def fX2_quotientOf_18 (v2 : Int64) (v4 : Int64) (v6 : Int64) : Option Int64 :=
  fX2_quotientOf_21 8 v2 v4 v6 0
def fX2_quotientOf_13 (v0 : Int64) (v2 : Int64) (v4 : Int64) : Option Int64 :=
  if v2 = 0 then none else fX2_quotientOf_18 v2 v4 (v0 - v0 / v2 * v2)
def fX2_quotientOf (v0 : Int64) (v2 : Int64) : Option Int64 :=
  if 0 < v2 then (if v2 = 0 then none else fX2_quotientOf_13 v0 v2 (v0 / v2)) else some 0
theorem oX2_quotientOf : ok_s yX2_quotientOf cX2_quotientOf 9 (some .long) 2 := ⟨kw_314, kw_313, kw_74, by decide +kernel⟩
set_option maxRecDepth 100000 in
theorem tX2_quotientOf_56 {p : Program} {l : Launch} {e : Env} {s : State} {m : MethodId} {args : Array Value} {below : List Frame} {meth : Method} {c : Code} (C : CC p s m args meth c yX2_quotientOf cX2_quotientOf 9 (some .long)) (r21 : Int64 → Int64 → Int64 → Int32 → Option Int64) (h21 : ∀ (v2 : Int64) (v4 : Int64) (v6 : Int64) (v8 : Int32) (w : Int64), r21 v2 v4 v6 v8 = some w → PJ p l e s m args below meth c 9 0 (.long w) 21 [(2, .long v2), (4, .long v4), (6, .long v6), (8, .int v8)] []) (v2 : Int64) (v4 : Int64) (v6 : Int64) (v8 : Int32) {w : Int64} (hv : fX2_quotientOf_56 r21 v2 v4 v6 v8 = some w) : PJ p l e s m args below meth c 9 0 (.long w) 56 [(2, .long v2), (4, .long v4), (6, .long v6), (8, .int v8)] [] := by
  unfold fX2_quotientOf_56 at hv
  refine jr_goto (tgt := 21) C dX2_quotientOf_56 rfl ?_
  exact h21 v2 v4 v6 v8 _ hv
set_option maxRecDepth 100000 in
theorem tX2_quotientOf_53 {p : Program} {l : Launch} {e : Env} {s : State} {m : MethodId} {args : Array Value} {below : List Frame} {meth : Method} {c : Code} (C : CC p s m args meth c yX2_quotientOf cX2_quotientOf 9 (some .long)) (r21 : Int64 → Int64 → Int64 → Int32 → Option Int64) (h21 : ∀ (v2 : Int64) (v4 : Int64) (v6 : Int64) (v8 : Int32) (w : Int64), r21 v2 v4 v6 v8 = some w → PJ p l e s m args below meth c 9 0 (.long w) 21 [(2, .long v2), (4, .long v4), (6, .long v6), (8, .int v8)] []) (v2 : Int64) (v4 : Int64) (v6 : Int64) (v8 : Int32) {w : Int64} (hv : fX2_quotientOf_53 r21 v2 v4 v6 v8 = some w) : PJ p l e s m args below meth c 9 0 (.long w) 53 [(2, .long v2), (4, .long v4), (6, .long v6), (8, .int v8)] [] := by
  unfold fX2_quotientOf_53 at hv
  refine jr_iinc (v := (v8 + 1)) (lv' := [(8, .int (v8 + 1)), (2, .long v2), (4, .long v4), (6, .long v6)]) C dX2_quotientOf_53 3 rfl rfl (by decide) rfl ?_
  exact jr_sub [1, 2, 3, 0] rfl (tX2_quotientOf_56 C r21 h21 v2 v4 v6 (v8 + 1) hv)
set_option maxRecDepth 100000 in
theorem tX2_quotientOf_47 {p : Program} {l : Launch} {e : Env} {s : State} {m : MethodId} {args : Array Value} {below : List Frame} {meth : Method} {c : Code} (C : CC p s m args meth c yX2_quotientOf cX2_quotientOf 9 (some .long)) (r21 : Int64 → Int64 → Int64 → Int32 → Option Int64) (h21 : ∀ (v2 : Int64) (v4 : Int64) (v6 : Int64) (v8 : Int32) (w : Int64), r21 v2 v4 v6 v8 = some w → PJ p l e s m args below meth c 9 0 (.long w) 21 [(2, .long v2), (4, .long v4), (6, .long v6), (8, .int v8)] []) (v2 : Int64) (v4 : Int64) (v6 : Int64) (v8 : Int32) {w : Int64} (hv : fX2_quotientOf_47 r21 v2 v4 v6 v8 = some w) : PJ p l e s m args below meth c 9 0 (.long w) 47 [(2, .long v2), (4, .long v4), (6, .long v6), (8, .int v8)] [] := by
  unfold fX2_quotientOf_47 at hv
  refine jr_lload C dX2_quotientOf_47 2 rfl ?_
  refine jr_lload_n C dX2_quotientOf_49 rfl 0 rfl ?_
  by_cases z50 : v2 = 0
  · exact absurd ((if_pos z50).symm.trans hv) (by simp)
  have hv := (if_neg z50).symm.trans hv
  refine jr_lrem C dX2_quotientOf_50 z50 ?_
  refine jr_lstore (lv' := [(6, .long (v6 - v6 / v2 * v2)), (2, .long v2), (4, .long v4), (8, .int v8)]) C dX2_quotientOf_51 (by decide) rfl ?_
  exact jr_sub [1, 2, 0, 3] rfl (tX2_quotientOf_53 C r21 h21 v2 v4 (v6 - v6 / v2 * v2) v8 hv)
set_option maxRecDepth 100000 in
theorem tX2_quotientOf_35 {p : Program} {l : Launch} {e : Env} {s : State} {m : MethodId} {args : Array Value} {below : List Frame} {meth : Method} {c : Code} (C : CC p s m args meth c yX2_quotientOf cX2_quotientOf 9 (some .long)) (r21 : Int64 → Int64 → Int64 → Int32 → Option Int64) (h21 : ∀ (v2 : Int64) (v4 : Int64) (v6 : Int64) (v8 : Int32) (w : Int64), r21 v2 v4 v6 v8 = some w → PJ p l e s m args below meth c 9 0 (.long w) 21 [(2, .long v2), (4, .long v4), (6, .long v6), (8, .int v8)] []) (v2 : Int64) (v4 : Int64) (v6 : Int64) (v8 : Int32) {w : Int64} (hv : fX2_quotientOf_35 r21 v2 v4 v6 v8 = some w) : PJ p l e s m args below meth c 9 0 (.long w) 35 [(2, .long v2), (4, .long v4), (6, .long v6), (8, .int v8)] [] := by
  unfold fX2_quotientOf_35 at hv
  refine jr_lload C dX2_quotientOf_35 1 rfl ?_
  refine jr_bipush (v := 10) C dX2_quotientOf_37 (by decide) ?_
  refine jr_lshl C dX2_quotientOf_39 ?_
  refine jr_lload C dX2_quotientOf_40 2 rfl ?_
  refine jr_lload_n C dX2_quotientOf_42 rfl 0 rfl ?_
  by_cases z43 : v2 = 0
  · exact absurd ((if_pos z43).symm.trans hv) (by simp)
  have hv := (if_neg z43).symm.trans hv
  refine jr_ldiv C dX2_quotientOf_43 z43 ?_
  refine jr_ladd C dX2_quotientOf_44 ?_
  refine jr_lstore (lv' := [(4, .long ((v4 <<< ((10 : Int32).toInt64 &&& 63)) + (v6 / v2))), (2, .long v2), (6, .long v6), (8, .int v8)]) C dX2_quotientOf_45 (by decide) rfl ?_
  exact jr_sub [1, 0, 2, 3] rfl (tX2_quotientOf_47 C r21 h21 v2 ((v4 <<< ((10 : Int32).toInt64 &&& 63)) + (v6 / v2)) v6 v8 hv)
set_option maxRecDepth 100000 in
theorem tX2_quotientOf_21 {p : Program} {l : Launch} {e : Env} {s : State} {m : MethodId} {args : Array Value} {below : List Frame} {meth : Method} {c : Code} (C : CC p s m args meth c yX2_quotientOf cX2_quotientOf 9 (some .long))  : ∀ (q : Nat) (v2 : Int64) (v4 : Int64) (v6 : Int64) (v8 : Int32) (w : Int64), fX2_quotientOf_21  q v2 v4 v6 v8 = some w → PJ p l e s m args below meth c 9 0 (.long w) 21 [(2, .long v2), (4, .long v4), (6, .long v6), (8, .int v8)] [] := by
  intro q
  induction q with
  | zero => intro v2 v4 v6 v8 w hv; exact absurd hv (by simp [fX2_quotientOf_21])
  | succ q ih =>
    intro v2 v4 v6 v8 w hv
    unfold fX2_quotientOf_21 at hv
    refine jr_iload C dX2_quotientOf_21 3 rfl ?_
    refine jr_bipush (v := 6) C dX2_quotientOf_23 (by decide) ?_
    refine jr_icmp_ge (tgt := 59) C dX2_quotientOf_25 rfl (fun q25 => ?_) (fun q25 => ?_)
    · have hv := (if_pos q25).symm.trans hv
      refine jr_lload C dX2_quotientOf_59 2 rfl ?_
      refine jr_lconst (v := 0) C dX2_quotientOf_61 (by decide) ?_
      refine jr_lcmp_eq (tgt := 73) C dX2_quotientOf_62 dX2_quotientOf_63 rfl (fun q62 => ?_) (fun q62 => ?_)
      · have hv := (if_pos q62).symm.trans hv
        refine jr_lload C dX2_quotientOf_73 1 rfl ?_
        exact jp_lret C dX2_quotientOf_75 (congrArg Value.long (Option.some.inj hv)).symm
      · have hv := (if_neg q62).symm.trans hv
        refine jr_lload C dX2_quotientOf_66 1 rfl ?_
        refine jr_lconst (v := 1) C dX2_quotientOf_68 (by decide) ?_
        refine jr_lor C dX2_quotientOf_69 ?_
        refine jr_goto (tgt := 75) C dX2_quotientOf_70 rfl ?_
        exact jp_lret C dX2_quotientOf_75 (congrArg Value.long (Option.some.inj hv)).symm
    · have hv := (if_neg q25).symm.trans hv
      refine jr_lload C dX2_quotientOf_28 2 rfl ?_
      refine jr_bipush (v := 10) C dX2_quotientOf_30 (by decide) ?_
      refine jr_lshl C dX2_quotientOf_32 ?_
      refine jr_lstore (lv' := [(6, .long (v6 <<< ((10 : Int32).toInt64 &&& 63))), (2, .long v2), (4, .long v4), (8, .int v8)]) C dX2_quotientOf_33 (by decide) rfl ?_
      exact jr_sub [1, 2, 0, 3] rfl (tX2_quotientOf_35 C (fX2_quotientOf_21  q) ih v2 v4 (v6 <<< ((10 : Int32).toInt64 &&& 63)) v8 hv)
set_option maxRecDepth 100000 in
theorem tX2_quotientOf_18 {p : Program} {l : Launch} {e : Env} {s : State} {m : MethodId} {args : Array Value} {below : List Frame} {meth : Method} {c : Code} (C : CC p s m args meth c yX2_quotientOf cX2_quotientOf 9 (some .long))  (v2 : Int64) (v4 : Int64) (v6 : Int64) {w : Int64} (hv : fX2_quotientOf_18 v2 v4 v6 = some w) : PJ p l e s m args below meth c 9 0 (.long w) 18 [(2, .long v2), (4, .long v4), (6, .long v6)] [] := by
  unfold fX2_quotientOf_18 at hv
  refine jr_iconst (v := 0) C dX2_quotientOf_18 (by decide) ?_
  refine jr_istore (lv' := [(8, .int 0), (2, .long v2), (4, .long v4), (6, .long v6)]) C dX2_quotientOf_19 (by decide) rfl ?_
  exact jr_sub [1, 2, 3, 0] rfl (tX2_quotientOf_21 C  8 v2 v4 v6 0 _ hv)
set_option maxRecDepth 100000 in
theorem tX2_quotientOf_13 {p : Program} {l : Launch} {e : Env} {s : State} {m : MethodId} {args : Array Value} {below : List Frame} {meth : Method} {c : Code} (C : CC p s m args meth c yX2_quotientOf cX2_quotientOf 9 (some .long))  (v0 : Int64) (v2 : Int64) (v4 : Int64) {w : Int64} (hv : fX2_quotientOf_13 v0 v2 v4 = some w) : PJ p l e s m args below meth c 9 0 (.long w) 13 [(0, .long v0), (2, .long v2), (4, .long v4)] [] := by
  unfold fX2_quotientOf_13 at hv
  refine jr_lload_n C dX2_quotientOf_13 rfl 0 rfl ?_
  refine jr_lload_n C dX2_quotientOf_14 rfl 1 rfl ?_
  by_cases z15 : v2 = 0
  · exact absurd ((if_pos z15).symm.trans hv) (by simp)
  have hv := (if_neg z15).symm.trans hv
  refine jr_lrem C dX2_quotientOf_15 z15 ?_
  refine jr_lstore (lv' := [(6, .long (v0 - v0 / v2 * v2)), (0, .long v0), (2, .long v2), (4, .long v4)]) C dX2_quotientOf_16 (by decide) rfl ?_
  exact jr_sub [2, 3, 0] rfl (tX2_quotientOf_18 C  v2 v4 (v0 - v0 / v2 * v2) hv)
set_option maxRecDepth 100000 in
theorem tX2_quotientOf_0 {p : Program} {l : Launch} {e : Env} {s : State} {m : MethodId} {args : Array Value} {below : List Frame} {meth : Method} {c : Code} (C : CC p s m args meth c yX2_quotientOf cX2_quotientOf 9 (some .long))  (v0 : Int64) (v2 : Int64) {w : Int64} (hv : fX2_quotientOf v0 v2 = some w) : PJ p l e s m args below meth c 9 0 (.long w) 0 [(0, .long v0), (2, .long v2)] [] := by
  unfold fX2_quotientOf at hv
  refine jr_lload_n C dX2_quotientOf_0 rfl 1 rfl ?_
  refine jr_lconst (v := 0) C dX2_quotientOf_1 (by decide) ?_
  refine jr_lcmp_gt (tgt := 8) C dX2_quotientOf_2 dX2_quotientOf_3 rfl (fun q2 => ?_) (fun q2 => ?_)
  · have hv := (if_pos q2).symm.trans hv
    refine jr_lload_n C dX2_quotientOf_8 rfl 0 rfl ?_
    refine jr_lload_n C dX2_quotientOf_9 rfl 1 rfl ?_
    by_cases z10 : v2 = 0
    · exact absurd ((if_pos z10).symm.trans hv) (by simp)
    have hv := (if_neg z10).symm.trans hv
    refine jr_ldiv C dX2_quotientOf_10 z10 ?_
    refine jr_lstore (lv' := [(4, .long (v0 / v2)), (0, .long v0), (2, .long v2)]) C dX2_quotientOf_11 (by decide) rfl ?_
    exact jr_sub [1, 2, 0] rfl (tX2_quotientOf_13 C  v0 v2 (v0 / v2) hv)
  · have hv := (if_neg q2).symm.trans hv
    refine jr_lconst (v := 0) C dX2_quotientOf_6 (by decide) ?_
    exact jp_lret C dX2_quotientOf_7 (congrArg Value.long (Option.some.inj hv)).symm
theorem pX2_quotientOf (l : Launch) (v0 : Int64) (v2 : Int64) {w : Int64} (hw : fX2_quotientOf v0 v2 = some w) : pu l yX2_quotientOf cX2_quotientOf 9 (some .long) 0 [.long v0, .long v2] (.long w) := pu_of (by decide +kernel) (Nat.le_of_ble_eq_true rfl) rfl (fun C => tX2_quotientOf_0 C v0 v2 hw)
/-! RobotCell$Fraction.restOf(JJI)J -/
def fX2_restOf_39 (r17 : Int64 → Int64 → Int32 → Option Int64) (v2 : Int64) (v5 : Int64) (v7 : Int32) : Option Int64 :=
  r17 v2 v5 v7
def fX2_restOf_36 (r17 : Int64 → Int64 → Int32 → Option Int64) (v2 : Int64) (v5 : Int64) (v7 : Int32) : Option Int64 :=
  fX2_restOf_39 r17 v2 v5 (v7 + (-10))
def fX2_restOf_17  : Nat → Int64 → Int64 → Int32 → Option Int64
  | 0, _, _, _ => none
  | q + 1, v2, v5, v7 => if v7 ≤ 0 then some v5 else (if v2 = 0 then none else fX2_restOf_36 (fX2_restOf_17  q) v2 ((v5 <<< (((mnI v7 10) : Int32).toInt64 &&& 63)) - (v5 <<< (((mnI v7 10) : Int32).toInt64 &&& 63)) / v2 * v2) v7)
def fX2_restOf_13 (v2 : Int64) (v4 : Int32) (v5 : Int64) : Option Int64 :=
  fX2_restOf_17 300 v2 v5 v4
def fX2_restOf (v0 : Int64) (v2 : Int64) (v4 : Int32) : Option Int64 :=
  if 0 < v2 then (if v2 = 0 then none else fX2_restOf_13 v2 v4 (v0 - v0 / v2 * v2)) else some 0
theorem oX2_restOf : ok_s yX2_restOf cX2_restOf 8 (some .long) 3 := ⟨kw_356, kw_355, kw_74, by decide +kernel⟩
set_option maxRecDepth 100000 in
theorem tX2_restOf_39 {p : Program} {l : Launch} {e : Env} {s : State} {m : MethodId} {args : Array Value} {below : List Frame} {meth : Method} {c : Code} (C : CC p s m args meth c yX2_restOf cX2_restOf 8 (some .long)) (r17 : Int64 → Int64 → Int32 → Option Int64) (h17 : ∀ (v2 : Int64) (v5 : Int64) (v7 : Int32) (w : Int64), r17 v2 v5 v7 = some w → PJ p l e s m args below meth c 8 1 (.long w) 17 [(2, .long v2), (5, .long v5), (7, .int v7)] []) (v2 : Int64) (v5 : Int64) (v7 : Int32) {w : Int64} (hv : fX2_restOf_39 r17 v2 v5 v7 = some w) : PJ p l e s m args below meth c 8 1 (.long w) 39 [(2, .long v2), (5, .long v5), (7, .int v7)] [] := by
  unfold fX2_restOf_39 at hv
  refine jr_goto (tgt := 17) C dX2_restOf_39 rfl ?_
  exact h17 v2 v5 v7 _ hv
set_option maxRecDepth 100000 in
theorem tX2_restOf_36 {p : Program} {l : Launch} {e : Env} {s : State} {m : MethodId} {args : Array Value} {below : List Frame} {meth : Method} {c : Code} (C : CC p s m args meth c yX2_restOf cX2_restOf 8 (some .long)) (r17 : Int64 → Int64 → Int32 → Option Int64) (h17 : ∀ (v2 : Int64) (v5 : Int64) (v7 : Int32) (w : Int64), r17 v2 v5 v7 = some w → PJ p l e s m args below meth c 8 1 (.long w) 17 [(2, .long v2), (5, .long v5), (7, .int v7)] []) (v2 : Int64) (v5 : Int64) (v7 : Int32) {w : Int64} (hv : fX2_restOf_36 r17 v2 v5 v7 = some w) : PJ p l e s m args below meth c 8 1 (.long w) 36 [(2, .long v2), (5, .long v5), (7, .int v7)] [] := by
  unfold fX2_restOf_36 at hv
  refine jr_iinc (v := (v7 + (-10))) (lv' := [(7, .int (v7 + (-10))), (2, .long v2), (5, .long v5)]) C dX2_restOf_36 2 rfl rfl (by decide) rfl ?_
  exact jr_sub [1, 2, 0] rfl (tX2_restOf_39 C r17 h17 v2 v5 (v7 + (-10)) hv)
set_option maxRecDepth 100000 in
theorem tX2_restOf_17 {p : Program} {l : Launch} {e : Env} {s : State} {m : MethodId} {args : Array Value} {below : List Frame} {meth : Method} {c : Code} (C : CC p s m args meth c yX2_restOf cX2_restOf 8 (some .long))  : ∀ (q : Nat) (v2 : Int64) (v5 : Int64) (v7 : Int32) (w : Int64), fX2_restOf_17  q v2 v5 v7 = some w → PJ p l e s m args below meth c 8 1 (.long w) 17 [(2, .long v2), (5, .long v5), (7, .int v7)] [] := by
  intro q
  induction q with
  | zero => intro v2 v5 v7 w hv; exact absurd hv (by simp [fX2_restOf_17])
  | succ q ih =>
    intro v2 v5 v7 w hv
    unfold fX2_restOf_17 at hv
    refine jr_iload C dX2_restOf_17 2 rfl ?_
    refine jr_if_le (tgt := 42) C dX2_restOf_19 rfl (fun q19 => ?_) (fun q19 => ?_)
    · have hv := (if_pos q19).symm.trans hv
      refine jr_lload C dX2_restOf_42 1 rfl ?_
      exact jp_lret C dX2_restOf_44 (congrArg Value.long (Option.some.inj hv)).symm
    · have hv := (if_neg q19).symm.trans hv
      refine jr_lload C dX2_restOf_22 1 rfl ?_
      refine jr_iload C dX2_restOf_24 2 rfl ?_
      refine jr_bipush (v := 10) C dX2_restOf_26 (by decide) ?_
      refine jr_mnI C kw_357 (Nat.le_of_ble_eq_true rfl) (Nat.le_of_ble_eq_true rfl) (Nat.zero_le _) (Nat.zero_le _) dX2_restOf_28 ?_
      refine jr_lshl C dX2_restOf_31 ?_
      refine jr_lload_n C dX2_restOf_32 rfl 0 rfl ?_
      by_cases z33 : v2 = 0
      · exact absurd ((if_pos z33).symm.trans hv) (by simp)
      have hv := (if_neg z33).symm.trans hv
      refine jr_lrem C dX2_restOf_33 z33 ?_
      refine jr_lstore (lv' := [(5, .long ((v5 <<< (((mnI v7 10) : Int32).toInt64 &&& 63)) - (v5 <<< (((mnI v7 10) : Int32).toInt64 &&& 63)) / v2 * v2)), (2, .long v2), (7, .int v7)]) C dX2_restOf_34 (by decide) rfl ?_
      exact jr_sub [1, 0, 2] rfl (tX2_restOf_36 C (fX2_restOf_17  q) ih v2 ((v5 <<< (((mnI v7 10) : Int32).toInt64 &&& 63)) - (v5 <<< (((mnI v7 10) : Int32).toInt64 &&& 63)) / v2 * v2) v7 hv)
set_option maxRecDepth 100000 in
theorem tX2_restOf_13 {p : Program} {l : Launch} {e : Env} {s : State} {m : MethodId} {args : Array Value} {below : List Frame} {meth : Method} {c : Code} (C : CC p s m args meth c yX2_restOf cX2_restOf 8 (some .long))  (v2 : Int64) (v4 : Int32) (v5 : Int64) {w : Int64} (hv : fX2_restOf_13 v2 v4 v5 = some w) : PJ p l e s m args below meth c 8 1 (.long w) 13 [(2, .long v2), (4, .int v4), (5, .long v5)] [] := by
  unfold fX2_restOf_13 at hv
  refine jr_iload C dX2_restOf_13 1 rfl ?_
  refine jr_istore (lv' := [(7, .int v4), (2, .long v2), (4, .int v4), (5, .long v5)]) C dX2_restOf_15 (by decide) rfl ?_
  exact jr_sub [1, 3, 0] rfl (tX2_restOf_17 C  300 v2 v5 v4 _ hv)
set_option maxRecDepth 100000 in
theorem tX2_restOf_0 {p : Program} {l : Launch} {e : Env} {s : State} {m : MethodId} {args : Array Value} {below : List Frame} {meth : Method} {c : Code} (C : CC p s m args meth c yX2_restOf cX2_restOf 8 (some .long))  (v0 : Int64) (v2 : Int64) (v4 : Int32) {w : Int64} (hv : fX2_restOf v0 v2 v4 = some w) : PJ p l e s m args below meth c 8 1 (.long w) 0 [(0, .long v0), (2, .long v2), (4, .int v4)] [] := by
  unfold fX2_restOf at hv
  refine jr_lload_n C dX2_restOf_0 rfl 1 rfl ?_
  refine jr_lconst (v := 0) C dX2_restOf_1 (by decide) ?_
  refine jr_lcmp_gt (tgt := 8) C dX2_restOf_2 dX2_restOf_3 rfl (fun q2 => ?_) (fun q2 => ?_)
  · have hv := (if_pos q2).symm.trans hv
    refine jr_lload_n C dX2_restOf_8 rfl 0 rfl ?_
    refine jr_lload_n C dX2_restOf_9 rfl 1 rfl ?_
    by_cases z10 : v2 = 0
    · exact absurd ((if_pos z10).symm.trans hv) (by simp)
    have hv := (if_neg z10).symm.trans hv
    refine jr_lrem C dX2_restOf_10 z10 ?_
    refine jr_lstore (lv' := [(5, .long (v0 - v0 / v2 * v2)), (0, .long v0), (2, .long v2), (4, .int v4)]) C dX2_restOf_11 (by decide) rfl ?_
    exact jr_sub [2, 3, 0] rfl (tX2_restOf_13 C  v2 v4 (v0 - v0 / v2 * v2) hv)
  · have hv := (if_neg q2).symm.trans hv
    refine jr_lconst (v := 0) C dX2_restOf_6 (by decide) ?_
    exact jp_lret C dX2_restOf_7 (congrArg Value.long (Option.some.inj hv)).symm
theorem pX2_restOf (l : Launch) (v0 : Int64) (v2 : Int64) (v4 : Int32) {w : Int64} (hw : fX2_restOf v0 v2 v4 = some w) : pu l yX2_restOf cX2_restOf 8 (some .long) 1 [.long v0, .long v2, .int v4] (.long w) := pu_of (by decide +kernel) (Nat.le_of_ble_eq_true rfl) rfl (fun C => tX2_restOf_0 C v0 v2 v4 hw)
/-! RobotCell$Fraction.rootOf(JI)J -/
def fX2_rootOf_97 (v2 : Int32) (t0 : Int64) (t1 : Int32) : Option Int64 :=
  some (fX2_nearest (t0 ||| t1.toInt64) (v2 - 29) 52 1023)
def fX2_rootOf_79 (r9 : Int64 → Int32 → Int64 → Int64 → Int32 → Option Int64) (v0 : Int64) (v2 : Int32) (v3 : Int64) (v5 : Int64) (v7 : Int32) : Option Int64 :=
  r9 v0 v2 v3 v5 v7
def fX2_rootOf_76 (r9 : Int64 → Int32 → Int64 → Int64 → Int32 → Option Int64) (v0 : Int64) (v2 : Int32) (v3 : Int64) (v5 : Int64) (v7 : Int32) : Option Int64 :=
  fX2_rootOf_79 r9 v0 v2 v3 v5 (v7 + (-1))
def fX2_rootOf_72 (r9 : Int64 → Int32 → Int64 → Int64 → Int32 → Option Int64) (v0 : Int64) (v2 : Int32) (v3 : Int64) (v5 : Int64) (v7 : Int32) : Option Int64 :=
  fX2_rootOf_76 r9 v0 v2 (v3 ||| 1) v5 v7
def fX2_rootOf_57 (r9 : Int64 → Int32 → Int64 → Int64 → Int32 → Option Int64) (v0 : Int64) (v2 : Int32) (v3 : Int64) (v5 : Int64) (v7 : Int32) (v10 : Int64) : Option Int64 :=
  if v5 < v10 then fX2_rootOf_76 r9 v0 v2 v3 v5 v7 else fX2_rootOf_72 r9 v0 v2 v3 (v5 - v10) v7
def fX2_rootOf_53 (r9 : Int64 → Int32 → Int64 → Int64 → Int32 → Option Int64) (v0 : Int64) (v2 : Int32) (v3 : Int64) (v5 : Int64) (v7 : Int32) (v10 : Int64) : Option Int64 :=
  fX2_rootOf_57 r9 v0 v2 (v3 <<< ((1 : Int32).toInt64 &&& 63)) v5 v7 v10
def fX2_rootOf_46 (r9 : Int64 → Int32 → Int64 → Int64 → Int32 → Option Int64) (v0 : Int64) (v2 : Int32) (v3 : Int64) (v5 : Int64) (v7 : Int32) : Option Int64 :=
  fX2_rootOf_53 r9 v0 v2 v3 v5 v7 ((v3 <<< ((2 : Int32).toInt64 &&& 63)) ||| 1)
def fX2_rootOf_35 (r9 : Int64 → Int32 → Int64 → Int64 → Int32 → Option Int64) (v0 : Int64) (v2 : Int32) (v3 : Int64) (v5 : Int64) (v7 : Int32) (t0 : Int64) : Option Int64 :=
  fX2_rootOf_46 r9 v0 v2 v3 ((v5 <<< ((2 : Int32).toInt64 &&& 63)) ||| t0) v7
def fX2_rootOf_9  : Nat → Int64 → Int32 → Int64 → Int64 → Int32 → Option Int64
  | 0, _, _, _, _, _ => none
  | q + 1, v0, v2, v3, v5, v7 => if v7 < (-28) then (if v5 = 0 then fX2_rootOf_97 v2 (v3 <<< ((1 : Int32).toInt64 &&& 63)) 0 else fX2_rootOf_97 v2 (v3 <<< ((1 : Int32).toInt64 &&& 63)) 1) else (if v7 < 0 then fX2_rootOf_35 (fX2_rootOf_9  q) v0 v2 v3 v5 v7 0 else fX2_rootOf_35 (fX2_rootOf_9  q) v0 v2 v3 v5 v7 ((((v0 : Int64).toUInt64 >>> (((2 * v7) : Int32).toInt64.toUInt64 &&& Int64.toUInt64 63)).toInt64) &&& 3))
def fX2_rootOf (v0 : Int64) (v2 : Int32) : Option Int64 :=
  fX2_rootOf_9 60 v0 v2 0 0 26
theorem oX2_rootOf : ok_s yX2_rootOf cX2_rootOf 12 (some .long) 2 := ⟨kw_393, kw_392, kw_74, by decide +kernel⟩
set_option maxRecDepth 100000 in
theorem tX2_rootOf_97 {p : Program} {l : Launch} {e : Env} {s : State} {m : MethodId} {args : Array Value} {below : List Frame} {meth : Method} {c : Code} (C : CC p s m args meth c yX2_rootOf cX2_rootOf 12 (some .long))  (v2 : Int32) (t0 : Int64) (t1 : Int32) {w : Int64} (hv : fX2_rootOf_97 v2 t0 t1 = some w) : PJ p l e s m args below meth c 12 3 (.long w) 97 [(2, .int v2)] [.int t1, .long t0] := by
  unfold fX2_rootOf_97 at hv
  refine jr_i2l C dX2_rootOf_97 ?_
  refine jr_lor C dX2_rootOf_98 ?_
  refine jr_iload_n C dX2_rootOf_99 rfl 0 rfl ?_
  refine jr_bipush (v := 29) C dX2_rootOf_100 (by decide) ?_
  refine jr_isub C dX2_rootOf_102 ?_
  refine jr_bipush (v := 52) C dX2_rootOf_103 (by decide) ?_
  refine jr_sipush (v := 1023) C dX2_rootOf_105 (by decide) ?_
  refine jr_pcall (rest := []) C (pX2_nearest l (t0 ||| t1.toInt64) (v2 - 29) 52 1023) oX2_nearest kw_276 rfl ⟨Nat.le_of_ble_eq_true rfl, Nat.le_of_ble_eq_true rfl⟩ rfl (Nat.le_of_ble_eq_true rfl) ⟨Nat.zero_le _, Nat.zero_le _⟩ dX2_rootOf_108 ?_
  exact jp_lret C dX2_rootOf_111 (congrArg Value.long (Option.some.inj hv)).symm
set_option maxRecDepth 100000 in
theorem tX2_rootOf_79 {p : Program} {l : Launch} {e : Env} {s : State} {m : MethodId} {args : Array Value} {below : List Frame} {meth : Method} {c : Code} (C : CC p s m args meth c yX2_rootOf cX2_rootOf 12 (some .long)) (r9 : Int64 → Int32 → Int64 → Int64 → Int32 → Option Int64) (h9 : ∀ (v0 : Int64) (v2 : Int32) (v3 : Int64) (v5 : Int64) (v7 : Int32) (w : Int64), r9 v0 v2 v3 v5 v7 = some w → PJ p l e s m args below meth c 12 3 (.long w) 9 [(0, .long v0), (2, .int v2), (3, .long v3), (5, .long v5), (7, .int v7)] []) (v0 : Int64) (v2 : Int32) (v3 : Int64) (v5 : Int64) (v7 : Int32) {w : Int64} (hv : fX2_rootOf_79 r9 v0 v2 v3 v5 v7 = some w) : PJ p l e s m args below meth c 12 3 (.long w) 79 [(0, .long v0), (2, .int v2), (3, .long v3), (5, .long v5), (7, .int v7)] [] := by
  unfold fX2_rootOf_79 at hv
  refine jr_goto (tgt := 9) C dX2_rootOf_79 rfl ?_
  exact h9 v0 v2 v3 v5 v7 _ hv
set_option maxRecDepth 100000 in
theorem tX2_rootOf_76 {p : Program} {l : Launch} {e : Env} {s : State} {m : MethodId} {args : Array Value} {below : List Frame} {meth : Method} {c : Code} (C : CC p s m args meth c yX2_rootOf cX2_rootOf 12 (some .long)) (r9 : Int64 → Int32 → Int64 → Int64 → Int32 → Option Int64) (h9 : ∀ (v0 : Int64) (v2 : Int32) (v3 : Int64) (v5 : Int64) (v7 : Int32) (w : Int64), r9 v0 v2 v3 v5 v7 = some w → PJ p l e s m args below meth c 12 3 (.long w) 9 [(0, .long v0), (2, .int v2), (3, .long v3), (5, .long v5), (7, .int v7)] []) (v0 : Int64) (v2 : Int32) (v3 : Int64) (v5 : Int64) (v7 : Int32) {w : Int64} (hv : fX2_rootOf_76 r9 v0 v2 v3 v5 v7 = some w) : PJ p l e s m args below meth c 12 3 (.long w) 76 [(0, .long v0), (2, .int v2), (3, .long v3), (5, .long v5), (7, .int v7)] [] := by
  unfold fX2_rootOf_76 at hv
  refine jr_iinc (v := (v7 + (-1))) (lv' := [(7, .int (v7 + (-1))), (0, .long v0), (2, .int v2), (3, .long v3), (5, .long v5)]) C dX2_rootOf_76 4 rfl rfl (by decide) rfl ?_
  exact jr_sub [1, 2, 3, 4, 0] rfl (tX2_rootOf_79 C r9 h9 v0 v2 v3 v5 (v7 + (-1)) hv)
set_option maxRecDepth 100000 in
theorem tX2_rootOf_72 {p : Program} {l : Launch} {e : Env} {s : State} {m : MethodId} {args : Array Value} {below : List Frame} {meth : Method} {c : Code} (C : CC p s m args meth c yX2_rootOf cX2_rootOf 12 (some .long)) (r9 : Int64 → Int32 → Int64 → Int64 → Int32 → Option Int64) (h9 : ∀ (v0 : Int64) (v2 : Int32) (v3 : Int64) (v5 : Int64) (v7 : Int32) (w : Int64), r9 v0 v2 v3 v5 v7 = some w → PJ p l e s m args below meth c 12 3 (.long w) 9 [(0, .long v0), (2, .int v2), (3, .long v3), (5, .long v5), (7, .int v7)] []) (v0 : Int64) (v2 : Int32) (v3 : Int64) (v5 : Int64) (v7 : Int32) {w : Int64} (hv : fX2_rootOf_72 r9 v0 v2 v3 v5 v7 = some w) : PJ p l e s m args below meth c 12 3 (.long w) 72 [(0, .long v0), (2, .int v2), (3, .long v3), (5, .long v5), (7, .int v7)] [] := by
  unfold fX2_rootOf_72 at hv
  refine jr_lload_n C dX2_rootOf_72 rfl 2 rfl ?_
  refine jr_lconst (v := 1) C dX2_rootOf_73 (by decide) ?_
  refine jr_lor C dX2_rootOf_74 ?_
  refine jr_lstore_n (lv' := [(3, .long (v3 ||| 1)), (0, .long v0), (2, .int v2), (5, .long v5), (7, .int v7)]) C dX2_rootOf_75 rfl (by decide) rfl ?_
  exact jr_sub [1, 2, 0, 3, 4] rfl (tX2_rootOf_76 C r9 h9 v0 v2 (v3 ||| 1) v5 v7 hv)
set_option maxRecDepth 100000 in
theorem tX2_rootOf_57 {p : Program} {l : Launch} {e : Env} {s : State} {m : MethodId} {args : Array Value} {below : List Frame} {meth : Method} {c : Code} (C : CC p s m args meth c yX2_rootOf cX2_rootOf 12 (some .long)) (r9 : Int64 → Int32 → Int64 → Int64 → Int32 → Option Int64) (h9 : ∀ (v0 : Int64) (v2 : Int32) (v3 : Int64) (v5 : Int64) (v7 : Int32) (w : Int64), r9 v0 v2 v3 v5 v7 = some w → PJ p l e s m args below meth c 12 3 (.long w) 9 [(0, .long v0), (2, .int v2), (3, .long v3), (5, .long v5), (7, .int v7)] []) (v0 : Int64) (v2 : Int32) (v3 : Int64) (v5 : Int64) (v7 : Int32) (v10 : Int64) {w : Int64} (hv : fX2_rootOf_57 r9 v0 v2 v3 v5 v7 v10 = some w) : PJ p l e s m args below meth c 12 3 (.long w) 57 [(0, .long v0), (2, .int v2), (3, .long v3), (5, .long v5), (7, .int v7), (10, .long v10)] [] := by
  unfold fX2_rootOf_57 at hv
  refine jr_lload C dX2_rootOf_57 3 rfl ?_
  refine jr_lload C dX2_rootOf_59 5 rfl ?_
  refine jr_lcmp_lt (tgt := 76) C dX2_rootOf_61 dX2_rootOf_62 rfl (fun q61 => ?_) (fun q61 => ?_)
  · have hv := (if_pos q61).symm.trans hv
    exact jr_sub [0, 1, 2, 3, 4] rfl (tX2_rootOf_76 C r9 h9 v0 v2 v3 v5 v7 hv)
  · have hv := (if_neg q61).symm.trans hv
    refine jr_lload C dX2_rootOf_65 3 rfl ?_
    refine jr_lload C dX2_rootOf_67 5 rfl ?_
    refine jr_lsub C dX2_rootOf_69 ?_
    refine jr_lstore (lv' := [(5, .long (v5 - v10)), (0, .long v0), (2, .int v2), (3, .long v3), (7, .int v7), (10, .long v10)]) C dX2_rootOf_70 (by decide) rfl ?_
    exact jr_sub [1, 2, 3, 0, 4] rfl (tX2_rootOf_72 C r9 h9 v0 v2 v3 (v5 - v10) v7 hv)
set_option maxRecDepth 100000 in
theorem tX2_rootOf_53 {p : Program} {l : Launch} {e : Env} {s : State} {m : MethodId} {args : Array Value} {below : List Frame} {meth : Method} {c : Code} (C : CC p s m args meth c yX2_rootOf cX2_rootOf 12 (some .long)) (r9 : Int64 → Int32 → Int64 → Int64 → Int32 → Option Int64) (h9 : ∀ (v0 : Int64) (v2 : Int32) (v3 : Int64) (v5 : Int64) (v7 : Int32) (w : Int64), r9 v0 v2 v3 v5 v7 = some w → PJ p l e s m args below meth c 12 3 (.long w) 9 [(0, .long v0), (2, .int v2), (3, .long v3), (5, .long v5), (7, .int v7)] []) (v0 : Int64) (v2 : Int32) (v3 : Int64) (v5 : Int64) (v7 : Int32) (v10 : Int64) {w : Int64} (hv : fX2_rootOf_53 r9 v0 v2 v3 v5 v7 v10 = some w) : PJ p l e s m args below meth c 12 3 (.long w) 53 [(0, .long v0), (2, .int v2), (3, .long v3), (5, .long v5), (7, .int v7), (10, .long v10)] [] := by
  unfold fX2_rootOf_53 at hv
  refine jr_lload_n C dX2_rootOf_53 rfl 2 rfl ?_
  refine jr_iconst (v := 1) C dX2_rootOf_54 (by decide) ?_
  refine jr_lshl C dX2_rootOf_55 ?_
  refine jr_lstore_n (lv' := [(3, .long (v3 <<< ((1 : Int32).toInt64 &&& 63))), (0, .long v0), (2, .int v2), (5, .long v5), (7, .int v7), (10, .long v10)]) C dX2_rootOf_56 rfl (by decide) rfl ?_
  exact jr_sub [1, 2, 0, 3, 4, 5] rfl (tX2_rootOf_57 C r9 h9 v0 v2 (v3 <<< ((1 : Int32).toInt64 &&& 63)) v5 v7 v10 hv)
set_option maxRecDepth 100000 in
theorem tX2_rootOf_46 {p : Program} {l : Launch} {e : Env} {s : State} {m : MethodId} {args : Array Value} {below : List Frame} {meth : Method} {c : Code} (C : CC p s m args meth c yX2_rootOf cX2_rootOf 12 (some .long)) (r9 : Int64 → Int32 → Int64 → Int64 → Int32 → Option Int64) (h9 : ∀ (v0 : Int64) (v2 : Int32) (v3 : Int64) (v5 : Int64) (v7 : Int32) (w : Int64), r9 v0 v2 v3 v5 v7 = some w → PJ p l e s m args below meth c 12 3 (.long w) 9 [(0, .long v0), (2, .int v2), (3, .long v3), (5, .long v5), (7, .int v7)] []) (v0 : Int64) (v2 : Int32) (v3 : Int64) (v5 : Int64) (v7 : Int32) {w : Int64} (hv : fX2_rootOf_46 r9 v0 v2 v3 v5 v7 = some w) : PJ p l e s m args below meth c 12 3 (.long w) 46 [(0, .long v0), (2, .int v2), (3, .long v3), (5, .long v5), (7, .int v7)] [] := by
  unfold fX2_rootOf_46 at hv
  refine jr_lload_n C dX2_rootOf_46 rfl 2 rfl ?_
  refine jr_iconst (v := 2) C dX2_rootOf_47 (by decide) ?_
  refine jr_lshl C dX2_rootOf_48 ?_
  refine jr_lconst (v := 1) C dX2_rootOf_49 (by decide) ?_
  refine jr_lor C dX2_rootOf_50 ?_
  refine jr_lstore (lv' := [(10, .long ((v3 <<< ((2 : Int32).toInt64 &&& 63)) ||| 1)), (0, .long v0), (2, .int v2), (3, .long v3), (5, .long v5), (7, .int v7)]) C dX2_rootOf_51 (by decide) rfl ?_
  exact jr_sub [1, 2, 3, 4, 5, 0] rfl (tX2_rootOf_53 C r9 h9 v0 v2 v3 v5 v7 ((v3 <<< ((2 : Int32).toInt64 &&& 63)) ||| 1) hv)
set_option maxRecDepth 100000 in
theorem tX2_rootOf_35 {p : Program} {l : Launch} {e : Env} {s : State} {m : MethodId} {args : Array Value} {below : List Frame} {meth : Method} {c : Code} (C : CC p s m args meth c yX2_rootOf cX2_rootOf 12 (some .long)) (r9 : Int64 → Int32 → Int64 → Int64 → Int32 → Option Int64) (h9 : ∀ (v0 : Int64) (v2 : Int32) (v3 : Int64) (v5 : Int64) (v7 : Int32) (w : Int64), r9 v0 v2 v3 v5 v7 = some w → PJ p l e s m args below meth c 12 3 (.long w) 9 [(0, .long v0), (2, .int v2), (3, .long v3), (5, .long v5), (7, .int v7)] []) (v0 : Int64) (v2 : Int32) (v3 : Int64) (v5 : Int64) (v7 : Int32) (t0 : Int64) {w : Int64} (hv : fX2_rootOf_35 r9 v0 v2 v3 v5 v7 t0 = some w) : PJ p l e s m args below meth c 12 3 (.long w) 35 [(0, .long v0), (2, .int v2), (3, .long v3), (5, .long v5), (7, .int v7)] [.long t0] := by
  unfold fX2_rootOf_35 at hv
  refine jr_lstore (lv' := [(8, .long t0), (0, .long v0), (2, .int v2), (3, .long v3), (5, .long v5), (7, .int v7)]) C dX2_rootOf_35 (by decide) rfl ?_
  refine jr_lload C dX2_rootOf_37 4 rfl ?_
  refine jr_iconst (v := 2) C dX2_rootOf_39 (by decide) ?_
  refine jr_lshl C dX2_rootOf_40 ?_
  refine jr_lload C dX2_rootOf_41 0 rfl ?_
  refine jr_lor C dX2_rootOf_43 ?_
  refine jr_lstore (lv' := [(5, .long ((v5 <<< ((2 : Int32).toInt64 &&& 63)) ||| t0)), (8, .long t0), (0, .long v0), (2, .int v2), (3, .long v3), (7, .int v7)]) C dX2_rootOf_44 (by decide) rfl ?_
  exact jr_sub [2, 3, 4, 0, 5] rfl (tX2_rootOf_46 C r9 h9 v0 v2 v3 ((v5 <<< ((2 : Int32).toInt64 &&& 63)) ||| t0) v7 hv)
set_option maxRecDepth 100000 in
theorem tX2_rootOf_9 {p : Program} {l : Launch} {e : Env} {s : State} {m : MethodId} {args : Array Value} {below : List Frame} {meth : Method} {c : Code} (C : CC p s m args meth c yX2_rootOf cX2_rootOf 12 (some .long))  : ∀ (q : Nat) (v0 : Int64) (v2 : Int32) (v3 : Int64) (v5 : Int64) (v7 : Int32) (w : Int64), fX2_rootOf_9  q v0 v2 v3 v5 v7 = some w → PJ p l e s m args below meth c 12 3 (.long w) 9 [(0, .long v0), (2, .int v2), (3, .long v3), (5, .long v5), (7, .int v7)] [] := by
  intro q
  induction q with
  | zero => intro v0 v2 v3 v5 v7 w hv; exact absurd hv (by simp [fX2_rootOf_9])
  | succ q ih =>
    intro v0 v2 v3 v5 v7 w hv
    unfold fX2_rootOf_9 at hv
    refine jr_iload C dX2_rootOf_9 4 rfl ?_
    refine jr_bipush (v := (-28)) C dX2_rootOf_11 (by decide) ?_
    refine jr_icmp_lt (tgt := 82) C dX2_rootOf_13 rfl (fun q13 => ?_) (fun q13 => ?_)
    · have hv := (if_pos q13).symm.trans hv
      refine jr_lload_n C dX2_rootOf_82 rfl 2 rfl ?_
      refine jr_iconst (v := 1) C dX2_rootOf_83 (by decide) ?_
      refine jr_lshl C dX2_rootOf_84 ?_
      refine jr_lload C dX2_rootOf_85 3 rfl ?_
      refine jr_lconst (v := 0) C dX2_rootOf_87 (by decide) ?_
      refine jr_lcmp_eq (tgt := 96) C dX2_rootOf_88 dX2_rootOf_89 rfl (fun q88 => ?_) (fun q88 => ?_)
      · have hv := (if_pos q88).symm.trans hv
        refine jr_iconst (v := 0) C dX2_rootOf_96 (by decide) ?_
        exact jr_sub [1] rfl (tX2_rootOf_97 C  v2 (v3 <<< ((1 : Int32).toInt64 &&& 63)) 0 hv)
      · have hv := (if_neg q88).symm.trans hv
        refine jr_iconst (v := 1) C dX2_rootOf_92 (by decide) ?_
        refine jr_goto (tgt := 97) C dX2_rootOf_93 rfl ?_
        exact jr_sub [1] rfl (tX2_rootOf_97 C  v2 (v3 <<< ((1 : Int32).toInt64 &&& 63)) 1 hv)
    · have hv := (if_neg q13).symm.trans hv
      refine jr_iload C dX2_rootOf_16 4 rfl ?_
      refine jr_if_lt (tgt := 34) C dX2_rootOf_18 rfl (fun q18 => ?_) (fun q18 => ?_)
      · have hv := (if_pos q18).symm.trans hv
        refine jr_lconst (v := 0) C dX2_rootOf_34 (by decide) ?_
        exact tX2_rootOf_35 C (fX2_rootOf_9  q) ih v0 v2 v3 v5 v7 0 hv
      · have hv := (if_neg q18).symm.trans hv
        refine jr_lload_n C dX2_rootOf_21 rfl 0 rfl ?_
        refine jr_iconst (v := 2) C dX2_rootOf_22 (by decide) ?_
        refine jr_iload C dX2_rootOf_23 4 rfl ?_
        refine jr_imul C dX2_rootOf_25 ?_
        refine jr_lushr C dX2_rootOf_26 ?_
        refine jr_ldc2 C kw_394 dX2_rootOf_27 ?_
        refine jr_land C dX2_rootOf_30 ?_
        refine jr_goto (tgt := 35) C dX2_rootOf_31 rfl ?_
        exact tX2_rootOf_35 C (fX2_rootOf_9  q) ih v0 v2 v3 v5 v7 ((((v0 : Int64).toUInt64 >>> (((2 * v7) : Int32).toInt64.toUInt64 &&& Int64.toUInt64 63)).toInt64) &&& 3) hv
set_option maxRecDepth 100000 in
theorem tX2_rootOf_0 {p : Program} {l : Launch} {e : Env} {s : State} {m : MethodId} {args : Array Value} {below : List Frame} {meth : Method} {c : Code} (C : CC p s m args meth c yX2_rootOf cX2_rootOf 12 (some .long))  (v0 : Int64) (v2 : Int32) {w : Int64} (hv : fX2_rootOf v0 v2 = some w) : PJ p l e s m args below meth c 12 3 (.long w) 0 [(0, .long v0), (2, .int v2)] [] := by
  unfold fX2_rootOf at hv
  refine jr_lconst (v := 0) C dX2_rootOf_0 (by decide) ?_
  refine jr_lstore_n (lv' := [(3, .long 0), (0, .long v0), (2, .int v2)]) C dX2_rootOf_1 rfl (by decide) rfl ?_
  refine jr_lconst (v := 0) C dX2_rootOf_2 (by decide) ?_
  refine jr_lstore (lv' := [(5, .long 0), (3, .long 0), (0, .long v0), (2, .int v2)]) C dX2_rootOf_3 (by decide) rfl ?_
  refine jr_bipush (v := 26) C dX2_rootOf_5 (by decide) ?_
  refine jr_istore (lv' := [(7, .int 26), (5, .long 0), (3, .long 0), (0, .long v0), (2, .int v2)]) C dX2_rootOf_7 (by decide) rfl ?_
  exact jr_sub [3, 4, 2, 1, 0] rfl (tX2_rootOf_9 C  60 v0 v2 0 0 26 _ hv)
theorem pX2_rootOf (l : Launch) (v0 : Int64) (v2 : Int32) {w : Int64} (hw : fX2_rootOf v0 v2 = some w) : pu l yX2_rootOf cX2_rootOf 12 (some .long) 3 [.long v0, .int v2] (.long w) := pu_of (by decide +kernel) (Nat.le_of_ble_eq_true rfl) rfl (fun C => tX2_rootOf_0 C v0 v2 hw)
