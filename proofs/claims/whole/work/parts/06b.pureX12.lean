/-! RobotCell$Fraction.divide(JJ)J -/
def fX2_divide_14  : Option Int64 :=
  some 9221120237041090560
def fX2_divide_94 (v4 : Int64) : Option Int64 :=
  some v4
def fX2_divide_26 (v0 : Int64) (v2 : Int64) (v4 : Int64) : Option Int64 :=
  if (fX2_isInfinite v0) = 0 then (if (fX2_isZero v2) = 0 then (if (fX2_isZero v0) = 0 then (if (fX2_isInfinite v2) = 0 then (Option.bind (fX2_quotientOf (fX2_significand v0) (fX2_significand v2)) (fun c105 => some (v4 ||| (fX2_nearest c105 (((fX2_scale v0) - (fX2_scale v2)) - 60) 52 1023)))) else fX2_divide_94 v4) else fX2_divide_94 v4) else (if (fX2_isZero v0) = 0 then some (v4 ||| 9218868437227405312) else some 9221120237041090560)) else (if (fX2_isInfinite v2) = 0 then some (v4 ||| 9218868437227405312) else some 9221120237041090560)
def fX2_divide (v0 : Int64) (v2 : Int64) : Option Int64 :=
  if (fX2_isLost v0) = 0 then (if (fX2_isLost v2) = 0 then fX2_divide_26 v0 v2 (fX2_signBit (v0 ^^^ v2)) else fX2_divide_14) else fX2_divide_14
theorem oX2_divide : ok_s yX2_divide cX2_divide 8 (some .long) 2 := ⟨kw_291, kw_290, kw_74, by decide +kernel⟩
set_option maxRecDepth 100000 in
theorem tX2_divide_14 {p : Program} {l : Launch} {e : Env} {s : State} {m : MethodId} {args : Array Value} {below : List Frame} {meth : Method} {c : Code} (C : CC p s m args meth c yX2_divide cX2_divide 8 (some .long))   {w : Int64} (hv : fX2_divide_14  = some w) : PJ p l e s m args below meth c 8 3 (.long w) 14 [] [] := by
  unfold fX2_divide_14 at hv
  refine jr_ldc2 C kw_297 dX2_divide_14 ?_
  exact jp_lret C dX2_divide_17 (congrArg Value.long (Option.some.inj hv)).symm
set_option maxRecDepth 100000 in
theorem tX2_divide_94 {p : Program} {l : Launch} {e : Env} {s : State} {m : MethodId} {args : Array Value} {below : List Frame} {meth : Method} {c : Code} (C : CC p s m args meth c yX2_divide cX2_divide 8 (some .long))  (v4 : Int64) {w : Int64} (hv : fX2_divide_94 v4 = some w) : PJ p l e s m args below meth c 8 3 (.long w) 94 [(4, .long v4)] [] := by
  unfold fX2_divide_94 at hv
  refine jr_lload C dX2_divide_94 0 rfl ?_
  exact jp_lret C dX2_divide_96 (congrArg Value.long (Option.some.inj hv)).symm
set_option maxRecDepth 100000 in
theorem tX2_divide_26 {p : Program} {l : Launch} {e : Env} {s : State} {m : MethodId} {args : Array Value} {below : List Frame} {meth : Method} {c : Code} (C : CC p s m args meth c yX2_divide cX2_divide 8 (some .long))  (v0 : Int64) (v2 : Int64) (v4 : Int64) {w : Int64} (hv : fX2_divide_26 v0 v2 v4 = some w) : PJ p l e s m args below meth c 8 3 (.long w) 26 [(0, .long v0), (2, .long v2), (4, .long v4)] [] := by
  unfold fX2_divide_26 at hv
  refine jr_lload_n C dX2_divide_26 rfl 0 rfl ?_
  refine jr_pcall (rest := []) C (pX2_isInfinite l v0) oX2_isInfinite kw_301 rfl ⟨Nat.le_of_ble_eq_true rfl, Nat.le_of_ble_eq_true rfl⟩ rfl (Nat.le_of_ble_eq_true rfl) ⟨Nat.zero_le _, Nat.zero_le _⟩ dX2_divide_27 ?_
  refine jr_if_eq (tgt := 53) C dX2_divide_30 rfl (fun q30 => ?_) (fun q30 => ?_)
  · have hv := (if_pos q30).symm.trans hv
    refine jr_lload_n C dX2_divide_53 rfl 1 rfl ?_
    refine jr_pcall (rest := []) C (pX2_isZero l v2) oX2_isZero kw_304 rfl ⟨Nat.le_of_ble_eq_true rfl, Nat.le_of_ble_eq_true rfl⟩ rfl (Nat.le_of_ble_eq_true rfl) ⟨Nat.zero_le _, Nat.zero_le _⟩ dX2_divide_54 ?_
    refine jr_if_eq (tgt := 80) C dX2_divide_57 rfl (fun q57 => ?_) (fun q57 => ?_)
    · have hv := (if_pos q57).symm.trans hv
      refine jr_lload_n C dX2_divide_80 rfl 0 rfl ?_
      refine jr_pcall (rest := []) C (pX2_isZero l v0) oX2_isZero kw_304 rfl ⟨Nat.le_of_ble_eq_true rfl, Nat.le_of_ble_eq_true rfl⟩ rfl (Nat.le_of_ble_eq_true rfl) ⟨Nat.zero_le _, Nat.zero_le _⟩ dX2_divide_81 ?_
      refine jr_if_ne (tgt := 94) C dX2_divide_84 rfl (fun q84 => ?_) (fun q84 => ?_)
      · have hv := (if_neg q84).symm.trans hv
        exact jr_sub [2] rfl (tX2_divide_94 C  v4 hv)
      · have hv := (if_pos q84).symm.trans hv
        refine jr_lload_n C dX2_divide_87 rfl 1 rfl ?_
        refine jr_pcall (rest := []) C (pX2_isInfinite l v2) oX2_isInfinite kw_301 rfl ⟨Nat.le_of_ble_eq_true rfl, Nat.le_of_ble_eq_true rfl⟩ rfl (Nat.le_of_ble_eq_true rfl) ⟨Nat.zero_le _, Nat.zero_le _⟩ dX2_divide_88 ?_
        refine jr_if_eq (tgt := 97) C dX2_divide_91 rfl (fun q91 => ?_) (fun q91 => ?_)
        · have hv := (if_pos q91).symm.trans hv
          refine jr_lload_n C dX2_divide_97 rfl 0 rfl ?_
          refine jr_pcall (rest := []) C (pX2_significand l v0) oX2_significand kw_307 rfl ⟨Nat.le_of_ble_eq_true rfl, Nat.le_of_ble_eq_true rfl⟩ rfl (Nat.le_of_ble_eq_true rfl) ⟨Nat.zero_le _, Nat.zero_le _⟩ dX2_divide_98 ?_
          refine jr_lload_n C dX2_divide_101 rfl 1 rfl ?_
          refine jr_pcall (rest := [.long (fX2_significand v0)]) C (pX2_significand l v2) oX2_significand kw_307 rfl ⟨Nat.le_of_ble_eq_true rfl, Nat.le_of_ble_eq_true rfl⟩ rfl (Nat.le_of_ble_eq_true rfl) ⟨Nat.zero_le _, Nat.zero_le _⟩ dX2_divide_102 ?_
          obtain ⟨c105, hc105, hv⟩ := Option.bind_eq_some_iff.mp hv
          refine jr_pcall (rest := []) C (pX2_quotientOf l (fX2_significand v0) (fX2_significand v2) hc105) oX2_quotientOf kw_312 rfl ⟨Nat.le_of_ble_eq_true rfl, Nat.le_of_ble_eq_true rfl⟩ rfl (Nat.le_of_ble_eq_true rfl) ⟨Nat.zero_le _, Nat.zero_le _⟩ dX2_divide_105 ?_
          refine jr_lstore (lv' := [(6, .long c105), (0, .long v0), (2, .long v2), (4, .long v4)]) C dX2_divide_108 (by decide) rfl ?_
          refine jr_lload C dX2_divide_110 3 rfl ?_
          refine jr_lload C dX2_divide_112 0 rfl ?_
          refine jr_lload_n C dX2_divide_114 rfl 1 rfl ?_
          refine jr_pcall (rest := [.long c105, .long v4]) C (pX2_scale l v0) oX2_scale kw_315 rfl ⟨Nat.le_of_ble_eq_true rfl, Nat.le_of_ble_eq_true rfl⟩ rfl (Nat.le_of_ble_eq_true rfl) ⟨Nat.zero_le _, Nat.zero_le _⟩ dX2_divide_115 ?_
          refine jr_lload_n C dX2_divide_118 rfl 2 rfl ?_
          refine jr_pcall (rest := [.int (fX2_scale v0), .long c105, .long v4]) C (pX2_scale l v2) oX2_scale kw_315 rfl ⟨Nat.le_of_ble_eq_true rfl, Nat.le_of_ble_eq_true rfl⟩ rfl (Nat.le_of_ble_eq_true rfl) ⟨Nat.zero_le _, Nat.zero_le _⟩ dX2_divide_119 ?_
          refine jr_isub C dX2_divide_122 ?_
          refine jr_bipush (v := 60) C dX2_divide_123 (by decide) ?_
          refine jr_isub C dX2_divide_125 ?_
          refine jr_bipush (v := 52) C dX2_divide_126 (by decide) ?_
          refine jr_sipush (v := 1023) C dX2_divide_128 (by decide) ?_
          refine jr_pcall (rest := [.long v4]) C (pX2_nearest l c105 (((fX2_scale v0) - (fX2_scale v2)) - 60) 52 1023) oX2_nearest kw_276 rfl ⟨Nat.le_of_ble_eq_true rfl, Nat.le_of_ble_eq_true rfl⟩ rfl (Nat.le_of_ble_eq_true rfl) ⟨Nat.zero_le _, Nat.zero_le _⟩ dX2_divide_131 ?_
          refine jr_lor C dX2_divide_134 ?_
          exact jp_lret C dX2_divide_135 (congrArg Value.long (Option.some.inj hv)).symm
        · have hv := (if_neg q91).symm.trans hv
          exact jr_sub [2] rfl (tX2_divide_94 C  v4 hv)
    · have hv := (if_neg q57).symm.trans hv
      refine jr_lload_n C dX2_divide_60 rfl 0 rfl ?_
      refine jr_pcall (rest := []) C (pX2_isZero l v0) oX2_isZero kw_304 rfl ⟨Nat.le_of_ble_eq_true rfl, Nat.le_of_ble_eq_true rfl⟩ rfl (Nat.le_of_ble_eq_true rfl) ⟨Nat.zero_le _, Nat.zero_le _⟩ dX2_divide_61 ?_
      refine jr_if_eq (tgt := 73) C dX2_divide_64 rfl (fun q64 => ?_) (fun q64 => ?_)
      · have hv := (if_pos q64).symm.trans hv
        refine jr_lload C dX2_divide_73 2 rfl ?_
        refine jr_ldc2 C kw_296 dX2_divide_75 ?_
        refine jr_lor C dX2_divide_78 ?_
        exact jp_lret C dX2_divide_79 (congrArg Value.long (Option.some.inj hv)).symm
      · have hv := (if_neg q64).symm.trans hv
        refine jr_ldc2 C kw_297 dX2_divide_67 ?_
        refine jr_goto (tgt := 79) C dX2_divide_70 rfl ?_
        exact jp_lret C dX2_divide_79 (congrArg Value.long (Option.some.inj hv)).symm
  · have hv := (if_neg q30).symm.trans hv
    refine jr_lload_n C dX2_divide_33 rfl 1 rfl ?_
    refine jr_pcall (rest := []) C (pX2_isInfinite l v2) oX2_isInfinite kw_301 rfl ⟨Nat.le_of_ble_eq_true rfl, Nat.le_of_ble_eq_true rfl⟩ rfl (Nat.le_of_ble_eq_true rfl) ⟨Nat.zero_le _, Nat.zero_le _⟩ dX2_divide_34 ?_
    refine jr_if_eq (tgt := 46) C dX2_divide_37 rfl (fun q37 => ?_) (fun q37 => ?_)
    · have hv := (if_pos q37).symm.trans hv
      refine jr_lload C dX2_divide_46 2 rfl ?_
      refine jr_ldc2 C kw_296 dX2_divide_48 ?_
      refine jr_lor C dX2_divide_51 ?_
      exact jp_lret C dX2_divide_52 (congrArg Value.long (Option.some.inj hv)).symm
    · have hv := (if_neg q37).symm.trans hv
      refine jr_ldc2 C kw_297 dX2_divide_40 ?_
      refine jr_goto (tgt := 52) C dX2_divide_43 rfl ?_
      exact jp_lret C dX2_divide_52 (congrArg Value.long (Option.some.inj hv)).symm
set_option maxRecDepth 100000 in
theorem tX2_divide_0 {p : Program} {l : Launch} {e : Env} {s : State} {m : MethodId} {args : Array Value} {below : List Frame} {meth : Method} {c : Code} (C : CC p s m args meth c yX2_divide cX2_divide 8 (some .long))  (v0 : Int64) (v2 : Int64) {w : Int64} (hv : fX2_divide v0 v2 = some w) : PJ p l e s m args below meth c 8 3 (.long w) 0 [(0, .long v0), (2, .long v2)] [] := by
  unfold fX2_divide at hv
  refine jr_lload_n C dX2_divide_0 rfl 0 rfl ?_
  refine jr_pcall (rest := []) C (pX2_isLost l v0) oX2_isLost kw_292 rfl ⟨Nat.le_of_ble_eq_true rfl, Nat.le_of_ble_eq_true rfl⟩ rfl (Nat.le_of_ble_eq_true rfl) ⟨Nat.zero_le _, Nat.zero_le _⟩ dX2_divide_1 ?_
  refine jr_if_ne (tgt := 14) C dX2_divide_4 rfl (fun q4 => ?_) (fun q4 => ?_)
  · have hv := (if_neg q4).symm.trans hv
    exact jr_sub [] rfl (tX2_divide_14 C   hv)
  · have hv := (if_pos q4).symm.trans hv
    refine jr_lload_n C dX2_divide_7 rfl 1 rfl ?_
    refine jr_pcall (rest := []) C (pX2_isLost l v2) oX2_isLost kw_292 rfl ⟨Nat.le_of_ble_eq_true rfl, Nat.le_of_ble_eq_true rfl⟩ rfl (Nat.le_of_ble_eq_true rfl) ⟨Nat.zero_le _, Nat.zero_le _⟩ dX2_divide_8 ?_
    refine jr_if_eq (tgt := 18) C dX2_divide_11 rfl (fun q11 => ?_) (fun q11 => ?_)
    · have hv := (if_pos q11).symm.trans hv
      refine jr_lload_n C dX2_divide_18 rfl 0 rfl ?_
      refine jr_lload_n C dX2_divide_19 rfl 1 rfl ?_
      refine jr_lxor C dX2_divide_20 ?_
      refine jr_pcall (rest := []) C (pX2_signBit l (v0 ^^^ v2)) oX2_signBit kw_298 rfl ⟨Nat.le_of_ble_eq_true rfl, Nat.le_of_ble_eq_true rfl⟩ rfl (Nat.le_of_ble_eq_true rfl) ⟨Nat.zero_le _, Nat.zero_le _⟩ dX2_divide_21 ?_
      refine jr_lstore (lv' := [(4, .long (fX2_signBit (v0 ^^^ v2))), (0, .long v0), (2, .long v2)]) C dX2_divide_24 (by decide) rfl ?_
      exact jr_sub [1, 2, 0] rfl (tX2_divide_26 C  v0 v2 (fX2_signBit (v0 ^^^ v2)) hv)
    · have hv := (if_neg q11).symm.trans hv
      exact jr_sub [] rfl (tX2_divide_14 C   hv)
theorem pX2_divide (l : Launch) (v0 : Int64) (v2 : Int64) {w : Int64} (hw : fX2_divide v0 v2 = some w) : pu l yX2_divide cX2_divide 8 (some .long) 3 [.long v0, .long v2] (.long w) := pu_of (by decide +kernel) (Nat.le_of_ble_eq_true rfl) rfl (fun C => tX2_divide_0 C v0 v2 hw)
/-! RobotCell$Fraction.remainder(JJ)J -/
def fX2_remainder_28  : Option Int64 :=
  some 9221120237041090560
def fX2_remainder (v0 : Int64) (v2 : Int64) : Option Int64 :=
  if (fX2_isLost v0) = 0 then (if (fX2_isLost v2) = 0 then (if (fX2_isInfinite v0) = 0 then (if (fX2_isZero v2) = 0 then (if (fX2_magnitude v2) ≤ (fX2_magnitude v0) then (Option.bind (fX2_restOf (fX2_significand v0) (fX2_significand v2) ((fX2_scale v0) - (fX2_scale v2))) (fun c63 => some ((fX2_signBit v0) ||| (fX2_nearest c63 (fX2_scale v2) 52 1023)))) else some v0) else fX2_remainder_28) else fX2_remainder_28) else fX2_remainder_28) else fX2_remainder_28
theorem oX2_remainder : ok_s yX2_remainder cX2_remainder 6 (some .long) 2 := ⟨kw_353, kw_352, kw_74, by decide +kernel⟩
set_option maxRecDepth 100000 in
theorem tX2_remainder_28 {p : Program} {l : Launch} {e : Env} {s : State} {m : MethodId} {args : Array Value} {below : List Frame} {meth : Method} {c : Code} (C : CC p s m args meth c yX2_remainder cX2_remainder 6 (some .long))   {w : Int64} (hv : fX2_remainder_28  = some w) : PJ p l e s m args below meth c 6 3 (.long w) 28 [] [] := by
  unfold fX2_remainder_28 at hv
  refine jr_ldc2 C kw_297 dX2_remainder_28 ?_
  exact jp_lret C dX2_remainder_31 (congrArg Value.long (Option.some.inj hv)).symm
set_option maxRecDepth 100000 in
theorem tX2_remainder_0 {p : Program} {l : Launch} {e : Env} {s : State} {m : MethodId} {args : Array Value} {below : List Frame} {meth : Method} {c : Code} (C : CC p s m args meth c yX2_remainder cX2_remainder 6 (some .long))  (v0 : Int64) (v2 : Int64) {w : Int64} (hv : fX2_remainder v0 v2 = some w) : PJ p l e s m args below meth c 6 3 (.long w) 0 [(0, .long v0), (2, .long v2)] [] := by
  unfold fX2_remainder at hv
  refine jr_lload_n C dX2_remainder_0 rfl 0 rfl ?_
  refine jr_pcall (rest := []) C (pX2_isLost l v0) oX2_isLost kw_292 rfl ⟨Nat.le_of_ble_eq_true rfl, Nat.le_of_ble_eq_true rfl⟩ rfl (Nat.le_of_ble_eq_true rfl) ⟨Nat.zero_le _, Nat.zero_le _⟩ dX2_remainder_1 ?_
  refine jr_if_ne (tgt := 28) C dX2_remainder_4 rfl (fun q4 => ?_) (fun q4 => ?_)
  · have hv := (if_neg q4).symm.trans hv
    exact jr_sub [] rfl (tX2_remainder_28 C   hv)
  · have hv := (if_pos q4).symm.trans hv
    refine jr_lload_n C dX2_remainder_7 rfl 1 rfl ?_
    refine jr_pcall (rest := []) C (pX2_isLost l v2) oX2_isLost kw_292 rfl ⟨Nat.le_of_ble_eq_true rfl, Nat.le_of_ble_eq_true rfl⟩ rfl (Nat.le_of_ble_eq_true rfl) ⟨Nat.zero_le _, Nat.zero_le _⟩ dX2_remainder_8 ?_
    refine jr_if_ne (tgt := 28) C dX2_remainder_11 rfl (fun q11 => ?_) (fun q11 => ?_)
    · have hv := (if_neg q11).symm.trans hv
      exact jr_sub [] rfl (tX2_remainder_28 C   hv)
    · have hv := (if_pos q11).symm.trans hv
      refine jr_lload_n C dX2_remainder_14 rfl 0 rfl ?_
      refine jr_pcall (rest := []) C (pX2_isInfinite l v0) oX2_isInfinite kw_301 rfl ⟨Nat.le_of_ble_eq_true rfl, Nat.le_of_ble_eq_true rfl⟩ rfl (Nat.le_of_ble_eq_true rfl) ⟨Nat.zero_le _, Nat.zero_le _⟩ dX2_remainder_15 ?_
      refine jr_if_ne (tgt := 28) C dX2_remainder_18 rfl (fun q18 => ?_) (fun q18 => ?_)
      · have hv := (if_neg q18).symm.trans hv
        exact jr_sub [] rfl (tX2_remainder_28 C   hv)
      · have hv := (if_pos q18).symm.trans hv
        refine jr_lload_n C dX2_remainder_21 rfl 1 rfl ?_
        refine jr_pcall (rest := []) C (pX2_isZero l v2) oX2_isZero kw_304 rfl ⟨Nat.le_of_ble_eq_true rfl, Nat.le_of_ble_eq_true rfl⟩ rfl (Nat.le_of_ble_eq_true rfl) ⟨Nat.zero_le _, Nat.zero_le _⟩ dX2_remainder_22 ?_
        refine jr_if_eq (tgt := 32) C dX2_remainder_25 rfl (fun q25 => ?_) (fun q25 => ?_)
        · have hv := (if_pos q25).symm.trans hv
          refine jr_lload_n C dX2_remainder_32 rfl 0 rfl ?_
          refine jr_pcall (rest := []) C (pX2_magnitude l v0) oX2_magnitude kw_329 rfl ⟨Nat.le_of_ble_eq_true rfl, Nat.le_of_ble_eq_true rfl⟩ rfl (Nat.le_of_ble_eq_true rfl) ⟨Nat.zero_le _, Nat.zero_le _⟩ dX2_remainder_33 ?_
          refine jr_lload_n C dX2_remainder_36 rfl 1 rfl ?_
          refine jr_pcall (rest := [.long (fX2_magnitude v0)]) C (pX2_magnitude l v2) oX2_magnitude kw_329 rfl ⟨Nat.le_of_ble_eq_true rfl, Nat.le_of_ble_eq_true rfl⟩ rfl (Nat.le_of_ble_eq_true rfl) ⟨Nat.zero_le _, Nat.zero_le _⟩ dX2_remainder_37 ?_
          refine jr_lcmp_ge (tgt := 46) C dX2_remainder_40 dX2_remainder_41 rfl (fun q40 => ?_) (fun q40 => ?_)
          · have hv := (if_pos q40).symm.trans hv
            refine jr_lload_n C dX2_remainder_46 rfl 0 rfl ?_
            refine jr_pcall (rest := []) C (pX2_significand l v0) oX2_significand kw_307 rfl ⟨Nat.le_of_ble_eq_true rfl, Nat.le_of_ble_eq_true rfl⟩ rfl (Nat.le_of_ble_eq_true rfl) ⟨Nat.zero_le _, Nat.zero_le _⟩ dX2_remainder_47 ?_
            refine jr_lload_n C dX2_remainder_50 rfl 1 rfl ?_
            refine jr_pcall (rest := [.long (fX2_significand v0)]) C (pX2_significand l v2) oX2_significand kw_307 rfl ⟨Nat.le_of_ble_eq_true rfl, Nat.le_of_ble_eq_true rfl⟩ rfl (Nat.le_of_ble_eq_true rfl) ⟨Nat.zero_le _, Nat.zero_le _⟩ dX2_remainder_51 ?_
            refine jr_lload_n C dX2_remainder_54 rfl 0 rfl ?_
            refine jr_pcall (rest := [.long (fX2_significand v2), .long (fX2_significand v0)]) C (pX2_scale l v0) oX2_scale kw_315 rfl ⟨Nat.le_of_ble_eq_true rfl, Nat.le_of_ble_eq_true rfl⟩ rfl (Nat.le_of_ble_eq_true rfl) ⟨Nat.zero_le _, Nat.zero_le _⟩ dX2_remainder_55 ?_
            refine jr_lload_n C dX2_remainder_58 rfl 1 rfl ?_
            refine jr_pcall (rest := [.int (fX2_scale v0), .long (fX2_significand v2), .long (fX2_significand v0)]) C (pX2_scale l v2) oX2_scale kw_315 rfl ⟨Nat.le_of_ble_eq_true rfl, Nat.le_of_ble_eq_true rfl⟩ rfl (Nat.le_of_ble_eq_true rfl) ⟨Nat.zero_le _, Nat.zero_le _⟩ dX2_remainder_59 ?_
            refine jr_isub C dX2_remainder_62 ?_
            obtain ⟨c63, hc63, hv⟩ := Option.bind_eq_some_iff.mp hv
            refine jr_pcall (rest := []) C (pX2_restOf l (fX2_significand v0) (fX2_significand v2) ((fX2_scale v0) - (fX2_scale v2)) hc63) oX2_restOf kw_354 rfl ⟨Nat.le_of_ble_eq_true rfl, Nat.le_of_ble_eq_true rfl⟩ rfl (Nat.le_of_ble_eq_true rfl) ⟨Nat.zero_le _, Nat.zero_le _⟩ dX2_remainder_63 ?_
            refine jr_lstore (lv' := [(4, .long c63), (0, .long v0), (2, .long v2)]) C dX2_remainder_66 (by decide) rfl ?_
            refine jr_lload_n C dX2_remainder_68 rfl 1 rfl ?_
            refine jr_pcall (rest := []) C (pX2_signBit l v0) oX2_signBit kw_298 rfl ⟨Nat.le_of_ble_eq_true rfl, Nat.le_of_ble_eq_true rfl⟩ rfl (Nat.le_of_ble_eq_true rfl) ⟨Nat.zero_le _, Nat.zero_le _⟩ dX2_remainder_69 ?_
            refine jr_lload C dX2_remainder_72 0 rfl ?_
            refine jr_lload_n C dX2_remainder_74 rfl 2 rfl ?_
            refine jr_pcall (rest := [.long c63, .long (fX2_signBit v0)]) C (pX2_scale l v2) oX2_scale kw_315 rfl ⟨Nat.le_of_ble_eq_true rfl, Nat.le_of_ble_eq_true rfl⟩ rfl (Nat.le_of_ble_eq_true rfl) ⟨Nat.zero_le _, Nat.zero_le _⟩ dX2_remainder_75 ?_
            refine jr_bipush (v := 52) C dX2_remainder_78 (by decide) ?_
            refine jr_sipush (v := 1023) C dX2_remainder_80 (by decide) ?_
            refine jr_pcall (rest := [.long (fX2_signBit v0)]) C (pX2_nearest l c63 (fX2_scale v2) 52 1023) oX2_nearest kw_276 rfl ⟨Nat.le_of_ble_eq_true rfl, Nat.le_of_ble_eq_true rfl⟩ rfl (Nat.le_of_ble_eq_true rfl) ⟨Nat.zero_le _, Nat.zero_le _⟩ dX2_remainder_83 ?_
            refine jr_lor C dX2_remainder_86 ?_
            exact jp_lret C dX2_remainder_87 (congrArg Value.long (Option.some.inj hv)).symm
          · have hv := (if_neg q40).symm.trans hv
            refine jr_lload_n C dX2_remainder_44 rfl 0 rfl ?_
            exact jp_lret C dX2_remainder_45 (congrArg Value.long (Option.some.inj hv)).symm
        · have hv := (if_neg q25).symm.trans hv
          exact jr_sub [] rfl (tX2_remainder_28 C   hv)
theorem pX2_remainder (l : Launch) (v0 : Int64) (v2 : Int64) {w : Int64} (hw : fX2_remainder v0 v2 = some w) : pu l yX2_remainder cX2_remainder 6 (some .long) 3 [.long v0, .long v2] (.long w) := pu_of (by decide +kernel) (Nat.le_of_ble_eq_true rfl) rfl (fun C => tX2_remainder_0 C v0 v2 hw)
/-! RobotCell$Fraction.root(J)J -/
def fX2_root_14 (v0 : Int64) : Option Int64 :=
  some v0
def fX2_root_42 (v0 : Int64) (v2 : Int32) : Option Int64 :=
  Option.bind (fX2_rootOf ((fX2_significand v0) <<< ((v2 : Int32).toInt64 &&& 63)) (((fX2_scale v0) - v2) / 2)) (fun c56 => some c56)
def fX2_root (v0 : Int64) : Option Int64 :=
  if (fX2_isLost v0) = 0 then (if (fX2_isZero v0) = 0 then (if 0 ≤ v0 then (if (fX2_isInfinite v0) = 0 then fX2_root_42 v0 ((fX2_scale v0) &&& 1) else some v0) else some 9221120237041090560) else fX2_root_14 v0) else fX2_root_14 v0
theorem oX2_root : ok_s yX2_root cX2_root 3 (some .long) 1 := ⟨kw_390, kw_389, kw_74, by decide +kernel⟩
set_option maxRecDepth 100000 in
theorem tX2_root_14 {p : Program} {l : Launch} {e : Env} {s : State} {m : MethodId} {args : Array Value} {below : List Frame} {meth : Method} {c : Code} (C : CC p s m args meth c yX2_root cX2_root 3 (some .long))  (v0 : Int64) {w : Int64} (hv : fX2_root_14 v0 = some w) : PJ p l e s m args below meth c 3 4 (.long w) 14 [(0, .long v0)] [] := by
  unfold fX2_root_14 at hv
  refine jr_lload_n C dX2_root_14 rfl 0 rfl ?_
  exact jp_lret C dX2_root_15 (congrArg Value.long (Option.some.inj hv)).symm
set_option maxRecDepth 100000 in
theorem tX2_root_42 {p : Program} {l : Launch} {e : Env} {s : State} {m : MethodId} {args : Array Value} {below : List Frame} {meth : Method} {c : Code} (C : CC p s m args meth c yX2_root cX2_root 3 (some .long))  (v0 : Int64) (v2 : Int32) {w : Int64} (hv : fX2_root_42 v0 v2 = some w) : PJ p l e s m args below meth c 3 4 (.long w) 42 [(0, .long v0), (2, .int v2)] [] := by
  unfold fX2_root_42 at hv
  refine jr_lload_n C dX2_root_42 rfl 0 rfl ?_
  refine jr_pcall (rest := []) C (pX2_significand l v0) oX2_significand kw_307 rfl ⟨Nat.le_of_ble_eq_true rfl, Nat.le_of_ble_eq_true rfl⟩ rfl (Nat.le_of_ble_eq_true rfl) ⟨Nat.zero_le _, Nat.zero_le _⟩ dX2_root_43 ?_
  refine jr_iload_n C dX2_root_46 rfl 1 rfl ?_
  refine jr_lshl C dX2_root_47 ?_
  refine jr_lload_n C dX2_root_48 rfl 0 rfl ?_
  refine jr_pcall (rest := [.long ((fX2_significand v0) <<< ((v2 : Int32).toInt64 &&& 63))]) C (pX2_scale l v0) oX2_scale kw_315 rfl ⟨Nat.le_of_ble_eq_true rfl, Nat.le_of_ble_eq_true rfl⟩ rfl (Nat.le_of_ble_eq_true rfl) ⟨Nat.zero_le _, Nat.zero_le _⟩ dX2_root_49 ?_
  refine jr_iload_n C dX2_root_52 rfl 1 rfl ?_
  refine jr_isub C dX2_root_53 ?_
  refine jr_iconst (v := 2) C dX2_root_54 (by decide) ?_
  refine jr_idiv C dX2_root_55 (by decide) ?_
  obtain ⟨c56, hc56, hv⟩ := Option.bind_eq_some_iff.mp hv
  refine jr_pcall (rest := []) C (pX2_rootOf l ((fX2_significand v0) <<< ((v2 : Int32).toInt64 &&& 63)) (((fX2_scale v0) - v2) / 2) hc56) oX2_rootOf kw_391 rfl ⟨Nat.le_of_ble_eq_true rfl, Nat.le_of_ble_eq_true rfl⟩ rfl (Nat.le_of_ble_eq_true rfl) ⟨Nat.zero_le _, Nat.zero_le _⟩ dX2_root_56 ?_
  exact jp_lret C dX2_root_59 (congrArg Value.long (Option.some.inj hv)).symm
set_option maxRecDepth 100000 in
theorem tX2_root_0 {p : Program} {l : Launch} {e : Env} {s : State} {m : MethodId} {args : Array Value} {below : List Frame} {meth : Method} {c : Code} (C : CC p s m args meth c yX2_root cX2_root 3 (some .long))  (v0 : Int64) {w : Int64} (hv : fX2_root v0 = some w) : PJ p l e s m args below meth c 3 4 (.long w) 0 [(0, .long v0)] [] := by
  unfold fX2_root at hv
  refine jr_lload_n C dX2_root_0 rfl 0 rfl ?_
  refine jr_pcall (rest := []) C (pX2_isLost l v0) oX2_isLost kw_292 rfl ⟨Nat.le_of_ble_eq_true rfl, Nat.le_of_ble_eq_true rfl⟩ rfl (Nat.le_of_ble_eq_true rfl) ⟨Nat.zero_le _, Nat.zero_le _⟩ dX2_root_1 ?_
  refine jr_if_ne (tgt := 14) C dX2_root_4 rfl (fun q4 => ?_) (fun q4 => ?_)
  · have hv := (if_neg q4).symm.trans hv
    exact tX2_root_14 C  v0 hv
  · have hv := (if_pos q4).symm.trans hv
    refine jr_lload_n C dX2_root_7 rfl 0 rfl ?_
    refine jr_pcall (rest := []) C (pX2_isZero l v0) oX2_isZero kw_304 rfl ⟨Nat.le_of_ble_eq_true rfl, Nat.le_of_ble_eq_true rfl⟩ rfl (Nat.le_of_ble_eq_true rfl) ⟨Nat.zero_le _, Nat.zero_le _⟩ dX2_root_8 ?_
    refine jr_if_eq (tgt := 16) C dX2_root_11 rfl (fun q11 => ?_) (fun q11 => ?_)
    · have hv := (if_pos q11).symm.trans hv
      refine jr_lload_n C dX2_root_16 rfl 0 rfl ?_
      refine jr_lconst (v := 0) C dX2_root_17 (by decide) ?_
      refine jr_lcmp_ge (tgt := 26) C dX2_root_18 dX2_root_19 rfl (fun q18 => ?_) (fun q18 => ?_)
      · have hv := (if_pos q18).symm.trans hv
        refine jr_lload_n C dX2_root_26 rfl 0 rfl ?_
        refine jr_pcall (rest := []) C (pX2_isInfinite l v0) oX2_isInfinite kw_301 rfl ⟨Nat.le_of_ble_eq_true rfl, Nat.le_of_ble_eq_true rfl⟩ rfl (Nat.le_of_ble_eq_true rfl) ⟨Nat.zero_le _, Nat.zero_le _⟩ dX2_root_27 ?_
        refine jr_if_eq (tgt := 35) C dX2_root_30 rfl (fun q30 => ?_) (fun q30 => ?_)
        · have hv := (if_pos q30).symm.trans hv
          refine jr_lload_n C dX2_root_35 rfl 0 rfl ?_
          refine jr_pcall (rest := []) C (pX2_scale l v0) oX2_scale kw_315 rfl ⟨Nat.le_of_ble_eq_true rfl, Nat.le_of_ble_eq_true rfl⟩ rfl (Nat.le_of_ble_eq_true rfl) ⟨Nat.zero_le _, Nat.zero_le _⟩ dX2_root_36 ?_
          refine jr_iconst (v := 1) C dX2_root_39 (by decide) ?_
          refine jr_iand C dX2_root_40 ?_
          refine jr_istore_n (lv' := [(2, .int ((fX2_scale v0) &&& 1)), (0, .long v0)]) C dX2_root_41 rfl (by decide) rfl ?_
          exact jr_sub [1, 0] rfl (tX2_root_42 C  v0 ((fX2_scale v0) &&& 1) hv)
        · have hv := (if_neg q30).symm.trans hv
          refine jr_lload_n C dX2_root_33 rfl 0 rfl ?_
          exact jp_lret C dX2_root_34 (congrArg Value.long (Option.some.inj hv)).symm
      · have hv := (if_neg q18).symm.trans hv
        refine jr_ldc2 C kw_297 dX2_root_22 ?_
        exact jp_lret C dX2_root_25 (congrArg Value.long (Option.some.inj hv)).symm
    · have hv := (if_neg q11).symm.trans hv
      exact tX2_root_14 C  v0 hv
theorem pX2_root (l : Launch) (v0 : Int64) {w : Int64} (hw : fX2_root v0 = some w) : pu l yX2_root cX2_root 3 (some .long) 4 [.long v0] (.long w) := pu_of (by decide +kernel) (Nat.le_of_ble_eq_true rfl) rfl (fun C => tX2_root_0 C v0 hw)
/-! RobotCellModel.isLost(J)Z -/
def fX12_isLost (v0 : Int64) : Int32 :=
  if (v0 &&& 9223372036854775807) ≤ 9218868437227405312 then 0 else 1
theorem oX12_isLost : ok_s yX12_isLost cX12_isLost 2 (some .boolean) 1 := ⟨kw_1205, kw_1204, kw_73, by decide +kernel⟩
set_option maxRecDepth 100000 in
theorem tX12_isLost_0 {p : Program} {l : Launch} {e : Env} {s : State} {m : MethodId} {args : Array Value} {below : List Frame} {meth : Method} {c : Code} (C : CC p s m args meth c yX12_isLost cX12_isLost 2 (some .boolean))  (v0 : Int64) {w : Int32} (hv : fX12_isLost v0 = w) : PJ p l e s m args below meth c 2 0 (.int w) 0 [(0, .long v0)] [] := by
  unfold fX12_isLost at hv
  refine jr_lload_n C dX12_isLost_0 rfl 0 rfl ?_
  refine jr_ldc2 C kw_1206 dX12_isLost_1 ?_
  refine jr_land C dX12_isLost_4 ?_
  refine jr_ldc2 C kw_1207 dX12_isLost_5 ?_
  refine jr_lcmp_le (tgt := 16) C dX12_isLost_8 dX12_isLost_9 rfl (fun q8 => ?_) (fun q8 => ?_)
  · have hv := (if_pos q8).symm.trans hv
    refine jr_iconst (v := 0) C dX12_isLost_16 (by decide) ?_
    exact jp_zret C dX12_isLost_17 rfl (congrArg Value.int hv).symm
  · have hv := (if_neg q8).symm.trans hv
    refine jr_iconst (v := 1) C dX12_isLost_12 (by decide) ?_
    refine jr_goto (tgt := 17) C dX12_isLost_13 rfl ?_
    exact jp_zret C dX12_isLost_17 rfl (congrArg Value.int hv).symm
theorem pX12_isLost (l : Launch) (v0 : Int64) : pu l yX12_isLost cX12_isLost 2 (some .boolean) 0 [.long v0] (.int (fX12_isLost v0)) := pu_of (by decide +kernel) (Nat.le_of_ble_eq_true rfl) rfl (fun C => tX12_isLost_0 C v0 rfl)
/-! RobotCellModel.isInfinite(J)Z -/
def fX12_isInfinite (v0 : Int64) : Int32 :=
  if (v0 &&& 9223372036854775807) = 9218868437227405312 then 1 else 0
theorem oX12_isInfinite : ok_s yX12_isInfinite cX12_isInfinite 2 (some .boolean) 1 := ⟨kw_1234, kw_1233, kw_73, by decide +kernel⟩
set_option maxRecDepth 100000 in
theorem tX12_isInfinite_0 {p : Program} {l : Launch} {e : Env} {s : State} {m : MethodId} {args : Array Value} {below : List Frame} {meth : Method} {c : Code} (C : CC p s m args meth c yX12_isInfinite cX12_isInfinite 2 (some .boolean))  (v0 : Int64) {w : Int32} (hv : fX12_isInfinite v0 = w) : PJ p l e s m args below meth c 2 0 (.int w) 0 [(0, .long v0)] [] := by
  unfold fX12_isInfinite at hv
  refine jr_lload_n C dX12_isInfinite_0 rfl 0 rfl ?_
  refine jr_ldc2 C kw_1206 dX12_isInfinite_1 ?_
  refine jr_land C dX12_isInfinite_4 ?_
  refine jr_ldc2 C kw_1207 dX12_isInfinite_5 ?_
  refine jr_lcmp_ne (tgt := 16) C dX12_isInfinite_8 dX12_isInfinite_9 rfl (fun q8 => ?_) (fun q8 => ?_)
  · have hv := (if_neg q8).symm.trans hv
    refine jr_iconst (v := 0) C dX12_isInfinite_16 (by decide) ?_
    exact jp_zret C dX12_isInfinite_17 rfl (congrArg Value.int hv).symm
  · have hv := (if_pos q8).symm.trans hv
    refine jr_iconst (v := 1) C dX12_isInfinite_12 (by decide) ?_
    refine jr_goto (tgt := 17) C dX12_isInfinite_13 rfl ?_
    exact jp_zret C dX12_isInfinite_17 rfl (congrArg Value.int hv).symm
theorem pX12_isInfinite (l : Launch) (v0 : Int64) : pu l yX12_isInfinite cX12_isInfinite 2 (some .boolean) 0 [.long v0] (.int (fX12_isInfinite v0)) := pu_of (by decide +kernel) (Nat.le_of_ble_eq_true rfl) rfl (fun C => tX12_isInfinite_0 C v0 rfl)
/-! RobotCellModel.isZero(J)Z -/
def fX12_isZero (v0 : Int64) : Int32 :=
  if (v0 &&& 9223372036854775807) = 0 then 1 else 0
theorem oX12_isZero : ok_s yX12_isZero cX12_isZero 2 (some .boolean) 1 := ⟨kw_1237, kw_1236, kw_73, by decide +kernel⟩
set_option maxRecDepth 100000 in
theorem tX12_isZero_0 {p : Program} {l : Launch} {e : Env} {s : State} {m : MethodId} {args : Array Value} {below : List Frame} {meth : Method} {c : Code} (C : CC p s m args meth c yX12_isZero cX12_isZero 2 (some .boolean))  (v0 : Int64) {w : Int32} (hv : fX12_isZero v0 = w) : PJ p l e s m args below meth c 2 0 (.int w) 0 [(0, .long v0)] [] := by
  unfold fX12_isZero at hv
  refine jr_lload_n C dX12_isZero_0 rfl 0 rfl ?_
  refine jr_ldc2 C kw_1206 dX12_isZero_1 ?_
  refine jr_land C dX12_isZero_4 ?_
  refine jr_lconst (v := 0) C dX12_isZero_5 (by decide) ?_
  refine jr_lcmp_ne (tgt := 14) C dX12_isZero_6 dX12_isZero_7 rfl (fun q6 => ?_) (fun q6 => ?_)
  · have hv := (if_neg q6).symm.trans hv
    refine jr_iconst (v := 0) C dX12_isZero_14 (by decide) ?_
    exact jp_zret C dX12_isZero_15 rfl (congrArg Value.int hv).symm
  · have hv := (if_pos q6).symm.trans hv
    refine jr_iconst (v := 1) C dX12_isZero_10 (by decide) ?_
    refine jr_goto (tgt := 15) C dX12_isZero_11 rfl ?_
    exact jp_zret C dX12_isZero_15 rfl (congrArg Value.int hv).symm
theorem pX12_isZero (l : Launch) (v0 : Int64) : pu l yX12_isZero cX12_isZero 2 (some .boolean) 0 [.long v0] (.int (fX12_isZero v0)) := pu_of (by decide +kernel) (Nat.le_of_ble_eq_true rfl) rfl (fun C => tX12_isZero_0 C v0 rfl)
/-! RobotCellModel.one(J)J -/
def fX12_one (v0 : Int64) : Int64 :=
  if (fX12_isLost v0) = 0 then v0 else 9221120237041090560
theorem oX12_one : ok_s yX12_one cX12_one 2 (some .long) 1 := ⟨kw_1202, kw_1201, kw_73, by decide +kernel⟩
set_option maxRecDepth 100000 in
theorem tX12_one_0 {p : Program} {l : Launch} {e : Env} {s : State} {m : MethodId} {args : Array Value} {below : List Frame} {meth : Method} {c : Code} (C : CC p s m args meth c yX12_one cX12_one 2 (some .long))  (v0 : Int64) {w : Int64} (hv : fX12_one v0 = w) : PJ p l e s m args below meth c 2 1 (.long w) 0 [(0, .long v0)] [] := by
  unfold fX12_one at hv
  refine jr_lload_n C dX12_one_0 rfl 0 rfl ?_
  refine jr_pcall (rest := []) C (pX12_isLost l v0) oX12_isLost kw_1203 rfl ⟨Nat.le_of_ble_eq_true rfl, Nat.le_of_ble_eq_true rfl⟩ rfl (Nat.le_of_ble_eq_true rfl) ⟨Nat.zero_le _, Nat.zero_le _⟩ dX12_one_1 ?_
  refine jr_if_eq (tgt := 13) C dX12_one_4 rfl (fun q4 => ?_) (fun q4 => ?_)
  · have hv := (if_pos q4).symm.trans hv
    refine jr_lload_n C dX12_one_13 rfl 0 rfl ?_
    exact jp_lret C dX12_one_14 (congrArg Value.long hv).symm
  · have hv := (if_neg q4).symm.trans hv
    refine jr_ldc2 C kw_1208 dX12_one_7 ?_
    refine jr_goto (tgt := 14) C dX12_one_10 rfl ?_
    exact jp_lret C dX12_one_14 (congrArg Value.long hv).symm
theorem pX12_one (l : Launch) (v0 : Int64) : pu l yX12_one cX12_one 2 (some .long) 1 [.long v0] (.long (fX12_one v0)) := pu_of (by decide +kernel) (Nat.le_of_ble_eq_true rfl) rfl (fun C => tX12_one_0 C v0 rfl)
/-! RobotCellModel.digits(J)J -/
def fX12_digits_16 (v2 : Int32) (v3 : Int64) : Int64 :=
  if v2 = 0 then v3 else v3 ||| 4503599627370496
def fX12_digits_10 (v0 : Int64) (v2 : Int32) : Int64 :=
  fX12_digits_16 v2 (v0 &&& 4503599627370495)
def fX12_digits (v0 : Int64) : Int64 :=
  fX12_digits_10 v0 (((v0 >>> ((52 : Int32).toInt64 &&& 63)).toInt32) &&& 2047)
theorem oX12_digits : ok_s yX12_digits cX12_digits 5 (some .long) 1 := ⟨kw_1241, kw_1240, kw_73, by decide +kernel⟩
set_option maxRecDepth 100000 in
theorem tX12_digits_16 {p : Program} {l : Launch} {e : Env} {s : State} {m : MethodId} {args : Array Value} {below : List Frame} {meth : Method} {c : Code} (C : CC p s m args meth c yX12_digits cX12_digits 5 (some .long))  (v2 : Int32) (v3 : Int64) {w : Int64} (hv : fX12_digits_16 v2 v3 = w) : PJ p l e s m args below meth c 5 0 (.long w) 16 [(2, .int v2), (3, .long v3)] [] := by
  unfold fX12_digits_16 at hv
  refine jr_iload_n C dX12_digits_16 rfl 0 rfl ?_
  refine jr_if_ne (tgt := 24) C dX12_digits_17 rfl (fun q17 => ?_) (fun q17 => ?_)
  · have hv := (if_neg q17).symm.trans hv
    refine jr_lload_n C dX12_digits_24 rfl 1 rfl ?_
    refine jr_ldc2 C kw_1228 dX12_digits_25 ?_
    refine jr_lor C dX12_digits_28 ?_
    exact jp_lret C dX12_digits_29 (congrArg Value.long hv).symm
  · have hv := (if_pos q17).symm.trans hv
    refine jr_lload_n C dX12_digits_20 rfl 1 rfl ?_
    refine jr_goto (tgt := 29) C dX12_digits_21 rfl ?_
    exact jp_lret C dX12_digits_29 (congrArg Value.long hv).symm
set_option maxRecDepth 100000 in
theorem tX12_digits_10 {p : Program} {l : Launch} {e : Env} {s : State} {m : MethodId} {args : Array Value} {below : List Frame} {meth : Method} {c : Code} (C : CC p s m args meth c yX12_digits cX12_digits 5 (some .long))  (v0 : Int64) (v2 : Int32) {w : Int64} (hv : fX12_digits_10 v0 v2 = w) : PJ p l e s m args below meth c 5 0 (.long w) 10 [(0, .long v0), (2, .int v2)] [] := by
  unfold fX12_digits_10 at hv
  refine jr_lload_n C dX12_digits_10 rfl 0 rfl ?_
  refine jr_ldc2 C kw_1242 dX12_digits_11 ?_
  refine jr_land C dX12_digits_14 ?_
  refine jr_lstore_n (lv' := [(3, .long (v0 &&& 4503599627370495)), (0, .long v0), (2, .int v2)]) C dX12_digits_15 rfl (by decide) rfl ?_
  exact jr_sub [2, 0] rfl (tX12_digits_16 C  v2 (v0 &&& 4503599627370495) hv)
set_option maxRecDepth 100000 in
theorem tX12_digits_0 {p : Program} {l : Launch} {e : Env} {s : State} {m : MethodId} {args : Array Value} {below : List Frame} {meth : Method} {c : Code} (C : CC p s m args meth c yX12_digits cX12_digits 5 (some .long))  (v0 : Int64) {w : Int64} (hv : fX12_digits v0 = w) : PJ p l e s m args below meth c 5 0 (.long w) 0 [(0, .long v0)] [] := by
  unfold fX12_digits at hv
  refine jr_lload_n C dX12_digits_0 rfl 0 rfl ?_
  refine jr_bipush (v := 52) C dX12_digits_1 (by decide) ?_
  refine jr_lshr C dX12_digits_3 ?_
  refine jr_l2i C dX12_digits_4 ?_
  refine jr_sipush (v := 2047) C dX12_digits_5 (by decide) ?_
  refine jr_iand C dX12_digits_8 ?_
  refine jr_istore_n (lv' := [(2, .int (((v0 >>> ((52 : Int32).toInt64 &&& 63)).toInt32) &&& 2047)), (0, .long v0)]) C dX12_digits_9 rfl (by decide) rfl ?_
  exact jr_sub [1, 0] rfl (tX12_digits_10 C  v0 (((v0 >>> ((52 : Int32).toInt64 &&& 63)).toInt32) &&& 2047) hv)
theorem pX12_digits (l : Launch) (v0 : Int64) : pu l yX12_digits cX12_digits 5 (some .long) 0 [.long v0] (.long (fX12_digits v0)) := pu_of (by decide +kernel) (Nat.le_of_ble_eq_true rfl) rfl (fun C => tX12_digits_0 C v0 rfl)
/-! RobotCellModel.unit(J)I -/
def fX12_unit_10 (v2 : Int32) : Int32 :=
  if v2 = 0 then (-1074) else v2 - 1075
def fX12_unit (v0 : Int64) : Int32 :=
  fX12_unit_10 (((v0 >>> ((52 : Int32).toInt64 &&& 63)).toInt32) &&& 2047)
theorem oX12_unit : ok_s yX12_unit cX12_unit 3 (some .int) 1 := ⟨kw_1248, kw_1247, kw_73, by decide +kernel⟩
set_option maxRecDepth 100000 in
theorem tX12_unit_10 {p : Program} {l : Launch} {e : Env} {s : State} {m : MethodId} {args : Array Value} {below : List Frame} {meth : Method} {c : Code} (C : CC p s m args meth c yX12_unit cX12_unit 3 (some .int))  (v2 : Int32) {w : Int32} (hv : fX12_unit_10 v2 = w) : PJ p l e s m args below meth c 3 0 (.int w) 10 [(2, .int v2)] [] := by
  unfold fX12_unit_10 at hv
  refine jr_iload_n C dX12_unit_10 rfl 0 rfl ?_
  refine jr_if_ne (tgt := 20) C dX12_unit_11 rfl (fun q11 => ?_) (fun q11 => ?_)
  · have hv := (if_neg q11).symm.trans hv
    refine jr_iload_n C dX12_unit_20 rfl 0 rfl ?_
    refine jr_sipush (v := 1075) C dX12_unit_21 (by decide) ?_
    refine jr_isub C dX12_unit_24 ?_
    exact jp_iret C dX12_unit_25 (congrArg Value.int hv).symm
  · have hv := (if_pos q11).symm.trans hv
    refine jr_sipush (v := (-1074)) C dX12_unit_14 (by decide) ?_
    refine jr_goto (tgt := 25) C dX12_unit_17 rfl ?_
    exact jp_iret C dX12_unit_25 (congrArg Value.int hv).symm
set_option maxRecDepth 100000 in
theorem tX12_unit_0 {p : Program} {l : Launch} {e : Env} {s : State} {m : MethodId} {args : Array Value} {below : List Frame} {meth : Method} {c : Code} (C : CC p s m args meth c yX12_unit cX12_unit 3 (some .int))  (v0 : Int64) {w : Int32} (hv : fX12_unit v0 = w) : PJ p l e s m args below meth c 3 0 (.int w) 0 [(0, .long v0)] [] := by
  unfold fX12_unit at hv
  refine jr_lload_n C dX12_unit_0 rfl 0 rfl ?_
  refine jr_bipush (v := 52) C dX12_unit_1 (by decide) ?_
  refine jr_lshr C dX12_unit_3 ?_
  refine jr_l2i C dX12_unit_4 ?_
  refine jr_sipush (v := 2047) C dX12_unit_5 (by decide) ?_
  refine jr_iand C dX12_unit_8 ?_
  refine jr_istore_n (lv' := [(2, .int (((v0 >>> ((52 : Int32).toInt64 &&& 63)).toInt32) &&& 2047)), (0, .long v0)]) C dX12_unit_9 rfl (by decide) rfl ?_
  exact jr_sub [0] rfl (tX12_unit_10 C  (((v0 >>> ((52 : Int32).toInt64 &&& 63)).toInt32) &&& 2047) hv)
theorem pX12_unit (l : Launch) (v0 : Int64) : pu l yX12_unit cX12_unit 3 (some .int) 0 [.long v0] (.int (fX12_unit v0)) := pu_of (by decide +kernel) (Nat.le_of_ble_eq_true rfl) rfl (fun C => tX12_unit_0 C v0 rfl)
/-! RobotCellModel.bitsOf(J)I -/
def fX12_bitsOf_44 (r9 : Int64 → Int32 → Int32 → Option Int32) (v2 : Int64) (v4 : Int32) (v5 : Int32) : Option Int32 :=
  r9 v2 v4 v5
def fX12_bitsOf_38 (r9 : Int64 → Int32 → Int32 → Option Int32) (v2 : Int64) (v4 : Int32) (v5 : Int32) : Option Int32 :=
  fX12_bitsOf_44 r9 v2 v4 (v5 / 2)
def fX12_bitsOf_33 (r9 : Int64 → Int32 → Int32 → Option Int32) (v2 : Int64) (v4 : Int32) (v5 : Int32) : Option Int32 :=
  fX12_bitsOf_38 r9 (((v2 : Int64).toUInt64 >>> ((v5 : Int32).toInt64.toUInt64 &&& Int64.toUInt64 63)).toInt64) v4 v5
def fX12_bitsOf_9  : Nat → Int64 → Int32 → Int32 → Option Int32
  | 0, _, _, _ => none
  | q + 1, v2, v4, v5 => if v5 ≤ 0 then (if v2 = 0 then some 0 else some (v4 + 1)) else (if (((v2 : Int64).toUInt64 >>> ((v5 : Int32).toInt64.toUInt64 &&& Int64.toUInt64 63)).toInt64) = 0 then fX12_bitsOf_38 (fX12_bitsOf_9  q) v2 v4 v5 else fX12_bitsOf_33 (fX12_bitsOf_9  q) v2 (v4 + v5) v5)
def fX12_bitsOf (v0 : Int64) : Option Int32 :=
  fX12_bitsOf_9 8 v0 0 32
theorem oX12_bitsOf : ok_s yX12_bitsOf cX12_bitsOf 6 (some .int) 1 := ⟨kw_1227, kw_1226, kw_73, by decide +kernel⟩
set_option maxRecDepth 100000 in
theorem tX12_bitsOf_44 {p : Program} {l : Launch} {e : Env} {s : State} {m : MethodId} {args : Array Value} {below : List Frame} {meth : Method} {c : Code} (C : CC p s m args meth c yX12_bitsOf cX12_bitsOf 6 (some .int)) (r9 : Int64 → Int32 → Int32 → Option Int32) (h9 : ∀ (v2 : Int64) (v4 : Int32) (v5 : Int32) (w : Int32), r9 v2 v4 v5 = some w → PJ p l e s m args below meth c 6 0 (.int w) 9 [(2, .long v2), (4, .int v4), (5, .int v5)] []) (v2 : Int64) (v4 : Int32) (v5 : Int32) {w : Int32} (hv : fX12_bitsOf_44 r9 v2 v4 v5 = some w) : PJ p l e s m args below meth c 6 0 (.int w) 44 [(2, .long v2), (4, .int v4), (5, .int v5)] [] := by
  unfold fX12_bitsOf_44 at hv
  refine jr_goto (tgt := 9) C dX12_bitsOf_44 rfl ?_
  exact h9 v2 v4 v5 _ hv
set_option maxRecDepth 100000 in
theorem tX12_bitsOf_38 {p : Program} {l : Launch} {e : Env} {s : State} {m : MethodId} {args : Array Value} {below : List Frame} {meth : Method} {c : Code} (C : CC p s m args meth c yX12_bitsOf cX12_bitsOf 6 (some .int)) (r9 : Int64 → Int32 → Int32 → Option Int32) (h9 : ∀ (v2 : Int64) (v4 : Int32) (v5 : Int32) (w : Int32), r9 v2 v4 v5 = some w → PJ p l e s m args below meth c 6 0 (.int w) 9 [(2, .long v2), (4, .int v4), (5, .int v5)] []) (v2 : Int64) (v4 : Int32) (v5 : Int32) {w : Int32} (hv : fX12_bitsOf_38 r9 v2 v4 v5 = some w) : PJ p l e s m args below meth c 6 0 (.int w) 38 [(2, .long v2), (4, .int v4), (5, .int v5)] [] := by
  unfold fX12_bitsOf_38 at hv
  refine jr_iload C dX12_bitsOf_38 2 rfl ?_
  refine jr_iconst (v := 2) C dX12_bitsOf_40 (by decide) ?_
  refine jr_idiv C dX12_bitsOf_41 (by decide) ?_
  refine jr_istore (lv' := [(5, .int (v5 / 2)), (2, .long v2), (4, .int v4)]) C dX12_bitsOf_42 (by decide) rfl ?_
  exact jr_sub [1, 2, 0] rfl (tX12_bitsOf_44 C r9 h9 v2 v4 (v5 / 2) hv)
set_option maxRecDepth 100000 in
theorem tX12_bitsOf_33 {p : Program} {l : Launch} {e : Env} {s : State} {m : MethodId} {args : Array Value} {below : List Frame} {meth : Method} {c : Code} (C : CC p s m args meth c yX12_bitsOf cX12_bitsOf 6 (some .int)) (r9 : Int64 → Int32 → Int32 → Option Int32) (h9 : ∀ (v2 : Int64) (v4 : Int32) (v5 : Int32) (w : Int32), r9 v2 v4 v5 = some w → PJ p l e s m args below meth c 6 0 (.int w) 9 [(2, .long v2), (4, .int v4), (5, .int v5)] []) (v2 : Int64) (v4 : Int32) (v5 : Int32) {w : Int32} (hv : fX12_bitsOf_33 r9 v2 v4 v5 = some w) : PJ p l e s m args below meth c 6 0 (.int w) 33 [(2, .long v2), (4, .int v4), (5, .int v5)] [] := by
  unfold fX12_bitsOf_33 at hv
  refine jr_lload_n C dX12_bitsOf_33 rfl 0 rfl ?_
  refine jr_iload C dX12_bitsOf_34 2 rfl ?_
  refine jr_lushr C dX12_bitsOf_36 ?_
  refine jr_lstore_n (lv' := [(2, .long (((v2 : Int64).toUInt64 >>> ((v5 : Int32).toInt64.toUInt64 &&& Int64.toUInt64 63)).toInt64)), (4, .int v4), (5, .int v5)]) C dX12_bitsOf_37 rfl (by decide) rfl ?_
  exact tX12_bitsOf_38 C r9 h9 (((v2 : Int64).toUInt64 >>> ((v5 : Int32).toInt64.toUInt64 &&& Int64.toUInt64 63)).toInt64) v4 v5 hv
set_option maxRecDepth 100000 in
theorem tX12_bitsOf_9 {p : Program} {l : Launch} {e : Env} {s : State} {m : MethodId} {args : Array Value} {below : List Frame} {meth : Method} {c : Code} (C : CC p s m args meth c yX12_bitsOf cX12_bitsOf 6 (some .int))  : ∀ (q : Nat) (v2 : Int64) (v4 : Int32) (v5 : Int32) (w : Int32), fX12_bitsOf_9  q v2 v4 v5 = some w → PJ p l e s m args below meth c 6 0 (.int w) 9 [(2, .long v2), (4, .int v4), (5, .int v5)] [] := by
  intro q
  induction q with
  | zero => intro v2 v4 v5 w hv; exact absurd hv (by simp [fX12_bitsOf_9])
  | succ q ih =>
    intro v2 v4 v5 w hv
    unfold fX12_bitsOf_9 at hv
    refine jr_iload C dX12_bitsOf_9 2 rfl ?_
    refine jr_if_le (tgt := 47) C dX12_bitsOf_11 rfl (fun q11 => ?_) (fun q11 => ?_)
    · have hv := (if_pos q11).symm.trans hv
      refine jr_lload_n C dX12_bitsOf_47 rfl 0 rfl ?_
      refine jr_lconst (v := 0) C dX12_bitsOf_48 (by decide) ?_
      refine jr_lcmp_ne (tgt := 57) C dX12_bitsOf_49 dX12_bitsOf_50 rfl (fun q49 => ?_) (fun q49 => ?_)
      · have hv := (if_neg q49).symm.trans hv
        refine jr_iload C dX12_bitsOf_57 1 rfl ?_
        refine jr_iconst (v := 1) C dX12_bitsOf_59 (by decide) ?_
        refine jr_iadd C dX12_bitsOf_60 ?_
        exact jp_iret C dX12_bitsOf_61 (congrArg Value.int (Option.some.inj hv)).symm
      · have hv := (if_pos q49).symm.trans hv
        refine jr_iconst (v := 0) C dX12_bitsOf_53 (by decide) ?_
        refine jr_goto (tgt := 61) C dX12_bitsOf_54 rfl ?_
        exact jp_iret C dX12_bitsOf_61 (congrArg Value.int (Option.some.inj hv)).symm
    · have hv := (if_neg q11).symm.trans hv
      refine jr_lload_n C dX12_bitsOf_14 rfl 0 rfl ?_
      refine jr_iload C dX12_bitsOf_15 2 rfl ?_
      refine jr_lushr C dX12_bitsOf_17 ?_
      refine jr_lconst (v := 0) C dX12_bitsOf_18 (by decide) ?_
      refine jr_lcmp_ne (tgt := 26) C dX12_bitsOf_19 dX12_bitsOf_20 rfl (fun q19 => ?_) (fun q19 => ?_)
      · have hv := (if_neg q19).symm.trans hv
        refine jr_iload C dX12_bitsOf_26 1 rfl ?_
        refine jr_iload C dX12_bitsOf_28 2 rfl ?_
        refine jr_iadd C dX12_bitsOf_30 ?_
        refine jr_istore (lv' := [(4, .int (v4 + v5)), (2, .long v2), (5, .int v5)]) C dX12_bitsOf_31 (by decide) rfl ?_
        exact jr_sub [1, 0, 2] rfl (tX12_bitsOf_33 C (fX12_bitsOf_9  q) ih v2 (v4 + v5) v5 hv)
      · have hv := (if_pos q19).symm.trans hv
        refine jr_goto (tgt := 38) C dX12_bitsOf_23 rfl ?_
        exact tX12_bitsOf_38 C (fX12_bitsOf_9  q) ih v2 v4 v5 hv
set_option maxRecDepth 100000 in
theorem tX12_bitsOf_0 {p : Program} {l : Launch} {e : Env} {s : State} {m : MethodId} {args : Array Value} {below : List Frame} {meth : Method} {c : Code} (C : CC p s m args meth c yX12_bitsOf cX12_bitsOf 6 (some .int))  (v0 : Int64) {w : Int32} (hv : fX12_bitsOf v0 = some w) : PJ p l e s m args below meth c 6 0 (.int w) 0 [(0, .long v0)] [] := by
  unfold fX12_bitsOf at hv
  refine jr_lload_n C dX12_bitsOf_0 rfl 0 rfl ?_
  refine jr_lstore_n (lv' := [(2, .long v0), (0, .long v0)]) C dX12_bitsOf_1 rfl (by decide) rfl ?_
  refine jr_iconst (v := 0) C dX12_bitsOf_2 (by decide) ?_
  refine jr_istore (lv' := [(4, .int 0), (2, .long v0), (0, .long v0)]) C dX12_bitsOf_3 (by decide) rfl ?_
  refine jr_bipush (v := 32) C dX12_bitsOf_5 (by decide) ?_
  refine jr_istore (lv' := [(5, .int 32), (4, .int 0), (2, .long v0), (0, .long v0)]) C dX12_bitsOf_7 (by decide) rfl ?_
  exact jr_sub [2, 1, 0] rfl (tX12_bitsOf_9 C  8 v0 0 32 _ hv)
theorem pX12_bitsOf (l : Launch) (v0 : Int64) {w : Int32} (hw : fX12_bitsOf v0 = some w) : pu l yX12_bitsOf cX12_bitsOf 6 (some .int) 0 [.long v0] (.int w) := pu_of (by decide +kernel) (Nat.le_of_ble_eq_true rfl) rfl (fun C => tX12_bitsOf_0 C v0 hw)
/-! RobotCellModel.nearest(ZJIZIII)J -/
def fX12_nearest_256 (t0 : Int64) (t1 : Int64) : Option Int64 :=
  some (t0 ||| t1)
def fX12_nearest_223 (v8 : Int64) (v10 : Int32) (v11 : Int64) : Option Int64 :=
  if 4503599627370496 ≤ v11 then fX12_nearest_256 v8 ((((v10 + 1075).toInt64) <<< ((52 : Int32).toInt64 &&& 63)) ||| (v11 - 4503599627370496)) else fX12_nearest_256 v8 v11
def fX12_nearest_220 (r193 : Int64 → Int32 → Int64 → Option Int64) (v8 : Int64) (v10 : Int32) (v11 : Int64) : Option Int64 :=
  r193 v8 v10 v11
def fX12_nearest_217 (r193 : Int64 → Int32 → Int64 → Option Int64) (v8 : Int64) (v10 : Int32) (v11 : Int64) : Option Int64 :=
  fX12_nearest_220 r193 v8 (v10 + (-1)) v11
def fX12_nearest_193  : Nat → Int64 → Int32 → Int64 → Option Int64
  | 0, _, _, _ => none
  | q + 1, v8, v10, v11 => Option.bind (fX12_bitsOf v11) (fun c195 => if 53 ≤ c195 then fX12_nearest_223 v8 v10 v11 else (if v10 ≤ (-1074) then fX12_nearest_223 v8 v10 v11 else fX12_nearest_217 (fX12_nearest_193  q) v8 v10 (v11 <<< ((1 : Int32).toInt64 &&& 63))))
def fX12_nearest_190 (r171 : Int64 → Int32 → Int64 → Option Int64) (v8 : Int64) (v10 : Int32) (v11 : Int64) : Option Int64 :=
  r171 v8 v10 v11
def fX12_nearest_187 (r171 : Int64 → Int32 → Int64 → Option Int64) (v8 : Int64) (v10 : Int32) (v11 : Int64) : Option Int64 :=
  fX12_nearest_190 r171 v8 (v10 + 1) v11
def fX12_nearest_171  : Nat → Int64 → Int32 → Int64 → Option Int64
  | 0, _, _, _ => none
  | q + 1, v8, v10, v11 => Option.bind (fX12_bitsOf v11) (fun c173 => if c173 ≤ 53 then fX12_nearest_193 70 v8 v10 v11 else fX12_nearest_187 (fX12_nearest_171  q) v8 v10 (v11 >>> ((1 : Int32).toInt64 &&& 63)))
def fX12_nearest_141 (v7 : Int32) (v8 : Int64) (v10 : Int32) (v11 : Int64) : Option Int64 :=
  if v11 = 0 then some v8 else (Option.bind (fX12_bitsOf v11) (fun c153 => if (c153 + v10) ≤ v7 then fX12_nearest_171 70 v8 v10 v11 else some (v8 ||| 9218868437227405312)))
def fX12_nearest_135 (v7 : Int32) (v8 : Int64) (v10 : Int32) (v11 : Int64) : Option Int64 :=
  fX12_nearest_141 v7 v8 v10 v11
def fX12_nearest_129 (v7 : Int32) (v8 : Int64) (v10 : Int32) (v11 : Int64) : Option Int64 :=
  fX12_nearest_135 v7 v8 v10 (v11 + 1)
def fX12_nearest_99 (v4 : Int32) (v7 : Int32) (v8 : Int64) (v10 : Int32) (v11 : Int64) (v14 : Int64) (v16 : Int64) : Option Int64 :=
  if v16 < v14 then fX12_nearest_129 v7 v8 v10 v11 else (if v14 = v16 then (if v4 = 0 then (if (v11 &&& 1) = 1 then fX12_nearest_129 v7 v8 v10 v11 else fX12_nearest_135 v7 v8 v10 v11) else fX12_nearest_129 v7 v8 v10 v11) else fX12_nearest_135 v7 v8 v10 v11)
def fX12_nearest_91 (v4 : Int32) (v7 : Int32) (v8 : Int64) (v10 : Int32) (v11 : Int64) (v13 : Int32) (v14 : Int64) : Option Int64 :=
  fX12_nearest_99 v4 v7 v8 v10 v11 v14 (1 <<< (((v13 - 1) : Int32).toInt64 &&& 63))
def fX12_nearest_82 (v1 : Int64) (v4 : Int32) (v7 : Int32) (v8 : Int64) (v10 : Int32) (v11 : Int64) (v13 : Int32) : Option Int64 :=
  fX12_nearest_91 v4 v7 v8 v10 v11 v13 (v1 - (v11 <<< ((v13 : Int32).toInt64 &&& 63)))
def fX12_nearest_58 (v1 : Int64) (v3 : Int32) (v4 : Int32) (v7 : Int32) (v8 : Int64) (v10 : Int32) (v11 : Int64) (v13 : Int32) : Option Int64 :=
  if v13 ≤ 62 then (if v13 ≤ 0 then fX12_nearest_141 v7 v8 v3 v11 else fX12_nearest_82 v1 v4 v7 v8 v10 (v1 >>> ((v13 : Int32).toInt64 &&& 63)) v13) else fX12_nearest_141 v7 v8 v10 0
def fX12_nearest_47 (v1 : Int64) (v3 : Int32) (v4 : Int32) (v7 : Int32) (v8 : Int64) (t0 : Int32) : Option Int64 :=
  fX12_nearest_58 v1 v3 v4 v7 v8 t0 v1 (t0 - v3)
def fX12_nearest_33 (v1 : Int64) (v3 : Int32) (v4 : Int32) (v6 : Int32) (v7 : Int32) (v8 : Int64) (v10 : Int32) : Option Int64 :=
  if v6 ≤ v10 then fX12_nearest_47 v1 v3 v4 v7 v8 v10 else fX12_nearest_47 v1 v3 v4 v7 v8 v6
def fX12_nearest_11 (v1 : Int64) (v3 : Int32) (v4 : Int32) (v5 : Int32) (v6 : Int32) (v7 : Int32) (t0 : Int64) : Option Int64 :=
  if v1 = 0 then some t0 else (Option.bind (fX12_bitsOf v1) (fun c24 => fX12_nearest_33 v1 v3 v4 v6 v7 t0 ((v3 + c24) - v5)))
def fX12_nearest (v0 : Int32) (v1 : Int64) (v3 : Int32) (v4 : Int32) (v5 : Int32) (v6 : Int32) (v7 : Int32) : Option Int64 :=
  if v0 = 0 then fX12_nearest_11 v1 v3 v4 v5 v6 v7 0 else fX12_nearest_11 v1 v3 v4 v5 v6 v7 (-9223372036854775808)
theorem oX12_nearest : ok_s yX12_nearest cX12_nearest 18 (some .long) 7 := ⟨kw_1223, kw_1222, kw_73, by decide +kernel⟩
set_option maxRecDepth 100000 in
theorem tX12_nearest_256 {p : Program} {l : Launch} {e : Env} {s : State} {m : MethodId} {args : Array Value} {below : List Frame} {meth : Method} {c : Code} (C : CC p s m args meth c yX12_nearest cX12_nearest 18 (some .long))  (t0 : Int64) (t1 : Int64) {w : Int64} (hv : fX12_nearest_256 t0 t1 = some w) : PJ p l e s m args below meth c 18 1 (.long w) 256 [] [.long t1, .long t0] := by
  unfold fX12_nearest_256 at hv
  refine jr_lor C dX12_nearest_256 ?_
  exact jp_lret C dX12_nearest_257 (congrArg Value.long (Option.some.inj hv)).symm
set_option maxRecDepth 100000 in
theorem tX12_nearest_223 {p : Program} {l : Launch} {e : Env} {s : State} {m : MethodId} {args : Array Value} {below : List Frame} {meth : Method} {c : Code} (C : CC p s m args meth c yX12_nearest cX12_nearest 18 (some .long))  (v8 : Int64) (v10 : Int32) (v11 : Int64) {w : Int64} (hv : fX12_nearest_223 v8 v10 v11 = some w) : PJ p l e s m args below meth c 18 1 (.long w) 223 [(8, .long v8), (10, .int v10), (11, .long v11)] [] := by
  unfold fX12_nearest_223 at hv
  refine jr_lload C dX12_nearest_223 0 rfl ?_
  refine jr_lload C dX12_nearest_225 2 rfl ?_
  refine jr_ldc2 C kw_1228 dX12_nearest_227 ?_
  refine jr_lcmp_ge (tgt := 239) C dX12_nearest_230 dX12_nearest_231 rfl (fun q230 => ?_) (fun q230 => ?_)
  · have hv := (if_pos q230).symm.trans hv
    refine jr_iload C dX12_nearest_239 1 rfl ?_
    refine jr_sipush (v := 1075) C dX12_nearest_241 (by decide) ?_
    refine jr_iadd C dX12_nearest_244 ?_
    refine jr_i2l C dX12_nearest_245 ?_
    refine jr_bipush (v := 52) C dX12_nearest_246 (by decide) ?_
    refine jr_lshl C dX12_nearest_248 ?_
    refine jr_lload C dX12_nearest_249 2 rfl ?_
    refine jr_ldc2 C kw_1228 dX12_nearest_251 ?_
    refine jr_lsub C dX12_nearest_254 ?_
    refine jr_lor C dX12_nearest_255 ?_
    exact jr_sub [] rfl (tX12_nearest_256 C  v8 ((((v10 + 1075).toInt64) <<< ((52 : Int32).toInt64 &&& 63)) ||| (v11 - 4503599627370496)) hv)
  · have hv := (if_neg q230).symm.trans hv
    refine jr_lload C dX12_nearest_234 2 rfl ?_
    refine jr_goto (tgt := 256) C dX12_nearest_236 rfl ?_
    exact jr_sub [] rfl (tX12_nearest_256 C  v8 v11 hv)
set_option maxRecDepth 100000 in
theorem tX12_nearest_220 {p : Program} {l : Launch} {e : Env} {s : State} {m : MethodId} {args : Array Value} {below : List Frame} {meth : Method} {c : Code} (C : CC p s m args meth c yX12_nearest cX12_nearest 18 (some .long)) (r193 : Int64 → Int32 → Int64 → Option Int64) (h193 : ∀ (v8 : Int64) (v10 : Int32) (v11 : Int64) (w : Int64), r193 v8 v10 v11 = some w → PJ p l e s m args below meth c 18 1 (.long w) 193 [(8, .long v8), (10, .int v10), (11, .long v11)] []) (v8 : Int64) (v10 : Int32) (v11 : Int64) {w : Int64} (hv : fX12_nearest_220 r193 v8 v10 v11 = some w) : PJ p l e s m args below meth c 18 1 (.long w) 220 [(8, .long v8), (10, .int v10), (11, .long v11)] [] := by
  unfold fX12_nearest_220 at hv
  refine jr_goto (tgt := 193) C dX12_nearest_220 rfl ?_
  exact h193 v8 v10 v11 _ hv
set_option maxRecDepth 100000 in
theorem tX12_nearest_217 {p : Program} {l : Launch} {e : Env} {s : State} {m : MethodId} {args : Array Value} {below : List Frame} {meth : Method} {c : Code} (C : CC p s m args meth c yX12_nearest cX12_nearest 18 (some .long)) (r193 : Int64 → Int32 → Int64 → Option Int64) (h193 : ∀ (v8 : Int64) (v10 : Int32) (v11 : Int64) (w : Int64), r193 v8 v10 v11 = some w → PJ p l e s m args below meth c 18 1 (.long w) 193 [(8, .long v8), (10, .int v10), (11, .long v11)] []) (v8 : Int64) (v10 : Int32) (v11 : Int64) {w : Int64} (hv : fX12_nearest_217 r193 v8 v10 v11 = some w) : PJ p l e s m args below meth c 18 1 (.long w) 217 [(8, .long v8), (10, .int v10), (11, .long v11)] [] := by
  unfold fX12_nearest_217 at hv
  refine jr_iinc (v := (v10 + (-1))) (lv' := [(10, .int (v10 + (-1))), (8, .long v8), (11, .long v11)]) C dX12_nearest_217 1 rfl rfl (by decide) rfl ?_
  exact jr_sub [1, 0, 2] rfl (tX12_nearest_220 C r193 h193 v8 (v10 + (-1)) v11 hv)
set_option maxRecDepth 100000 in
theorem tX12_nearest_193 {p : Program} {l : Launch} {e : Env} {s : State} {m : MethodId} {args : Array Value} {below : List Frame} {meth : Method} {c : Code} (C : CC p s m args meth c yX12_nearest cX12_nearest 18 (some .long))  : ∀ (q : Nat) (v8 : Int64) (v10 : Int32) (v11 : Int64) (w : Int64), fX12_nearest_193  q v8 v10 v11 = some w → PJ p l e s m args below meth c 18 1 (.long w) 193 [(8, .long v8), (10, .int v10), (11, .long v11)] [] := by
  intro q
  induction q with
  | zero => intro v8 v10 v11 w hv; exact absurd hv (by simp [fX12_nearest_193])
  | succ q ih =>
    intro v8 v10 v11 w hv
    unfold fX12_nearest_193 at hv
    refine jr_lload C dX12_nearest_193 2 rfl ?_
    obtain ⟨c195, hc195, hv⟩ := Option.bind_eq_some_iff.mp hv
    refine jr_pcall (rest := []) C (pX12_bitsOf l v11 hc195) oX12_bitsOf kw_1225 rfl ⟨Nat.le_of_ble_eq_true rfl, Nat.le_of_ble_eq_true rfl⟩ rfl (Nat.le_of_ble_eq_true rfl) ⟨Nat.zero_le _, Nat.zero_le _⟩ dX12_nearest_195 ?_
    refine jr_bipush (v := 53) C dX12_nearest_198 (by decide) ?_
    refine jr_icmp_ge (tgt := 223) C dX12_nearest_200 rfl (fun q200 => ?_) (fun q200 => ?_)
    · have hv := (if_pos q200).symm.trans hv
      exact tX12_nearest_223 C  v8 v10 v11 hv
    · have hv := (if_neg q200).symm.trans hv
      refine jr_iload C dX12_nearest_203 1 rfl ?_
      refine jr_sipush (v := (-1074)) C dX12_nearest_205 (by decide) ?_
      refine jr_icmp_le (tgt := 223) C dX12_nearest_208 rfl (fun q208 => ?_) (fun q208 => ?_)
      · have hv := (if_pos q208).symm.trans hv
        exact tX12_nearest_223 C  v8 v10 v11 hv
      · have hv := (if_neg q208).symm.trans hv
        refine jr_lload C dX12_nearest_211 2 rfl ?_
        refine jr_iconst (v := 1) C dX12_nearest_213 (by decide) ?_
        refine jr_lshl C dX12_nearest_214 ?_
        refine jr_lstore (lv' := [(11, .long (v11 <<< ((1 : Int32).toInt64 &&& 63))), (8, .long v8), (10, .int v10)]) C dX12_nearest_215 (by decide) rfl ?_
        exact jr_sub [1, 2, 0] rfl (tX12_nearest_217 C (fX12_nearest_193  q) ih v8 v10 (v11 <<< ((1 : Int32).toInt64 &&& 63)) hv)
set_option maxRecDepth 100000 in
theorem tX12_nearest_190 {p : Program} {l : Launch} {e : Env} {s : State} {m : MethodId} {args : Array Value} {below : List Frame} {meth : Method} {c : Code} (C : CC p s m args meth c yX12_nearest cX12_nearest 18 (some .long)) (r171 : Int64 → Int32 → Int64 → Option Int64) (h171 : ∀ (v8 : Int64) (v10 : Int32) (v11 : Int64) (w : Int64), r171 v8 v10 v11 = some w → PJ p l e s m args below meth c 18 1 (.long w) 171 [(8, .long v8), (10, .int v10), (11, .long v11)] []) (v8 : Int64) (v10 : Int32) (v11 : Int64) {w : Int64} (hv : fX12_nearest_190 r171 v8 v10 v11 = some w) : PJ p l e s m args below meth c 18 1 (.long w) 190 [(8, .long v8), (10, .int v10), (11, .long v11)] [] := by
  unfold fX12_nearest_190 at hv
  refine jr_goto (tgt := 171) C dX12_nearest_190 rfl ?_
  exact h171 v8 v10 v11 _ hv
set_option maxRecDepth 100000 in
theorem tX12_nearest_187 {p : Program} {l : Launch} {e : Env} {s : State} {m : MethodId} {args : Array Value} {below : List Frame} {meth : Method} {c : Code} (C : CC p s m args meth c yX12_nearest cX12_nearest 18 (some .long)) (r171 : Int64 → Int32 → Int64 → Option Int64) (h171 : ∀ (v8 : Int64) (v10 : Int32) (v11 : Int64) (w : Int64), r171 v8 v10 v11 = some w → PJ p l e s m args below meth c 18 1 (.long w) 171 [(8, .long v8), (10, .int v10), (11, .long v11)] []) (v8 : Int64) (v10 : Int32) (v11 : Int64) {w : Int64} (hv : fX12_nearest_187 r171 v8 v10 v11 = some w) : PJ p l e s m args below meth c 18 1 (.long w) 187 [(8, .long v8), (10, .int v10), (11, .long v11)] [] := by
  unfold fX12_nearest_187 at hv
  refine jr_iinc (v := (v10 + 1)) (lv' := [(10, .int (v10 + 1)), (8, .long v8), (11, .long v11)]) C dX12_nearest_187 1 rfl rfl (by decide) rfl ?_
  exact jr_sub [1, 0, 2] rfl (tX12_nearest_190 C r171 h171 v8 (v10 + 1) v11 hv)
set_option maxRecDepth 100000 in
theorem tX12_nearest_171 {p : Program} {l : Launch} {e : Env} {s : State} {m : MethodId} {args : Array Value} {below : List Frame} {meth : Method} {c : Code} (C : CC p s m args meth c yX12_nearest cX12_nearest 18 (some .long))  : ∀ (q : Nat) (v8 : Int64) (v10 : Int32) (v11 : Int64) (w : Int64), fX12_nearest_171  q v8 v10 v11 = some w → PJ p l e s m args below meth c 18 1 (.long w) 171 [(8, .long v8), (10, .int v10), (11, .long v11)] [] := by
  intro q
  induction q with
  | zero => intro v8 v10 v11 w hv; exact absurd hv (by simp [fX12_nearest_171])
  | succ q ih =>
    intro v8 v10 v11 w hv
    unfold fX12_nearest_171 at hv
    refine jr_lload C dX12_nearest_171 2 rfl ?_
    obtain ⟨c173, hc173, hv⟩ := Option.bind_eq_some_iff.mp hv
    refine jr_pcall (rest := []) C (pX12_bitsOf l v11 hc173) oX12_bitsOf kw_1225 rfl ⟨Nat.le_of_ble_eq_true rfl, Nat.le_of_ble_eq_true rfl⟩ rfl (Nat.le_of_ble_eq_true rfl) ⟨Nat.zero_le _, Nat.zero_le _⟩ dX12_nearest_173 ?_
    refine jr_bipush (v := 53) C dX12_nearest_176 (by decide) ?_
    refine jr_icmp_le (tgt := 193) C dX12_nearest_178 rfl (fun q178 => ?_) (fun q178 => ?_)
    · have hv := (if_pos q178).symm.trans hv
      exact tX12_nearest_193 C  70 v8 v10 v11 _ hv
    · have hv := (if_neg q178).symm.trans hv
      refine jr_lload C dX12_nearest_181 2 rfl ?_
      refine jr_iconst (v := 1) C dX12_nearest_183 (by decide) ?_
      refine jr_lshr C dX12_nearest_184 ?_
      refine jr_lstore (lv' := [(11, .long (v11 >>> ((1 : Int32).toInt64 &&& 63))), (8, .long v8), (10, .int v10)]) C dX12_nearest_185 (by decide) rfl ?_
      exact jr_sub [1, 2, 0] rfl (tX12_nearest_187 C (fX12_nearest_171  q) ih v8 v10 (v11 >>> ((1 : Int32).toInt64 &&& 63)) hv)
set_option maxRecDepth 100000 in
theorem tX12_nearest_141 {p : Program} {l : Launch} {e : Env} {s : State} {m : MethodId} {args : Array Value} {below : List Frame} {meth : Method} {c : Code} (C : CC p s m args meth c yX12_nearest cX12_nearest 18 (some .long))  (v7 : Int32) (v8 : Int64) (v10 : Int32) (v11 : Int64) {w : Int64} (hv : fX12_nearest_141 v7 v8 v10 v11 = some w) : PJ p l e s m args below meth c 18 1 (.long w) 141 [(7, .int v7), (8, .long v8), (10, .int v10), (11, .long v11)] [] := by
  unfold fX12_nearest_141 at hv
  refine jr_lload C dX12_nearest_141 3 rfl ?_
  refine jr_lconst (v := 0) C dX12_nearest_143 (by decide) ?_
  refine jr_lcmp_ne (tgt := 151) C dX12_nearest_144 dX12_nearest_145 rfl (fun q144 => ?_) (fun q144 => ?_)
  · have hv := (if_neg q144).symm.trans hv
    refine jr_lload C dX12_nearest_151 3 rfl ?_
    obtain ⟨c153, hc153, hv⟩ := Option.bind_eq_some_iff.mp hv
    refine jr_pcall (rest := []) C (pX12_bitsOf l v11 hc153) oX12_bitsOf kw_1225 rfl ⟨Nat.le_of_ble_eq_true rfl, Nat.le_of_ble_eq_true rfl⟩ rfl (Nat.le_of_ble_eq_true rfl) ⟨Nat.zero_le _, Nat.zero_le _⟩ dX12_nearest_153 ?_
    refine jr_iload C dX12_nearest_156 2 rfl ?_
    refine jr_iadd C dX12_nearest_158 ?_
    refine jr_iload C dX12_nearest_159 0 rfl ?_
    refine jr_icmp_le (tgt := 171) C dX12_nearest_161 rfl (fun q161 => ?_) (fun q161 => ?_)
    · have hv := (if_pos q161).symm.trans hv
      exact jr_sub [1, 2, 3] rfl (tX12_nearest_171 C  70 v8 v10 v11 _ hv)
    · have hv := (if_neg q161).symm.trans hv
      refine jr_lload C dX12_nearest_164 1 rfl ?_
      refine jr_ldc2 C kw_1207 dX12_nearest_166 ?_
      refine jr_lor C dX12_nearest_169 ?_
      exact jp_lret C dX12_nearest_170 (congrArg Value.long (Option.some.inj hv)).symm
  · have hv := (if_pos q144).symm.trans hv
    refine jr_lload C dX12_nearest_148 1 rfl ?_
    exact jp_lret C dX12_nearest_150 (congrArg Value.long (Option.some.inj hv)).symm
set_option maxRecDepth 100000 in
theorem tX12_nearest_135 {p : Program} {l : Launch} {e : Env} {s : State} {m : MethodId} {args : Array Value} {below : List Frame} {meth : Method} {c : Code} (C : CC p s m args meth c yX12_nearest cX12_nearest 18 (some .long))  (v7 : Int32) (v8 : Int64) (v10 : Int32) (v11 : Int64) {w : Int64} (hv : fX12_nearest_135 v7 v8 v10 v11 = some w) : PJ p l e s m args below meth c 18 1 (.long w) 135 [(7, .int v7), (8, .long v8), (10, .int v10), (11, .long v11)] [] := by
  unfold fX12_nearest_135 at hv
  refine jr_goto (tgt := 141) C dX12_nearest_135 rfl ?_
  exact tX12_nearest_141 C  v7 v8 v10 v11 hv
set_option maxRecDepth 100000 in
theorem tX12_nearest_129 {p : Program} {l : Launch} {e : Env} {s : State} {m : MethodId} {args : Array Value} {below : List Frame} {meth : Method} {c : Code} (C : CC p s m args meth c yX12_nearest cX12_nearest 18 (some .long))  (v7 : Int32) (v8 : Int64) (v10 : Int32) (v11 : Int64) {w : Int64} (hv : fX12_nearest_129 v7 v8 v10 v11 = some w) : PJ p l e s m args below meth c 18 1 (.long w) 129 [(7, .int v7), (8, .long v8), (10, .int v10), (11, .long v11)] [] := by
  unfold fX12_nearest_129 at hv
  refine jr_lload C dX12_nearest_129 3 rfl ?_
  refine jr_lconst (v := 1) C dX12_nearest_131 (by decide) ?_
  refine jr_ladd C dX12_nearest_132 ?_
  refine jr_lstore (lv' := [(11, .long (v11 + 1)), (7, .int v7), (8, .long v8), (10, .int v10)]) C dX12_nearest_133 (by decide) rfl ?_
  exact jr_sub [1, 2, 3, 0] rfl (tX12_nearest_135 C  v7 v8 v10 (v11 + 1) hv)
set_option maxRecDepth 100000 in
theorem tX12_nearest_99 {p : Program} {l : Launch} {e : Env} {s : State} {m : MethodId} {args : Array Value} {below : List Frame} {meth : Method} {c : Code} (C : CC p s m args meth c yX12_nearest cX12_nearest 18 (some .long))  (v4 : Int32) (v7 : Int32) (v8 : Int64) (v10 : Int32) (v11 : Int64) (v14 : Int64) (v16 : Int64) {w : Int64} (hv : fX12_nearest_99 v4 v7 v8 v10 v11 v14 v16 = some w) : PJ p l e s m args below meth c 18 1 (.long w) 99 [(4, .int v4), (7, .int v7), (8, .long v8), (10, .int v10), (11, .long v11), (14, .long v14), (16, .long v16)] [] := by
  unfold fX12_nearest_99 at hv
  refine jr_lload C dX12_nearest_99 5 rfl ?_
  refine jr_lload C dX12_nearest_101 6 rfl ?_
  refine jr_lcmp_gt (tgt := 129) C dX12_nearest_103 dX12_nearest_104 rfl (fun q103 => ?_) (fun q103 => ?_)
  · have hv := (if_pos q103).symm.trans hv
    exact jr_sub [1, 2, 3, 4] rfl (tX12_nearest_129 C  v7 v8 v10 v11 hv)
  · have hv := (if_neg q103).symm.trans hv
    refine jr_lload C dX12_nearest_107 5 rfl ?_
    refine jr_lload C dX12_nearest_109 6 rfl ?_
    refine jr_lcmp_ne (tgt := 135) C dX12_nearest_111 dX12_nearest_112 rfl (fun q111 => ?_) (fun q111 => ?_)
    · have hv := (if_neg q111).symm.trans hv
      exact jr_sub [1, 2, 3, 4] rfl (tX12_nearest_135 C  v7 v8 v10 v11 hv)
    · have hv := (if_pos q111).symm.trans hv
      refine jr_iload C dX12_nearest_115 0 rfl ?_
      refine jr_if_ne (tgt := 129) C dX12_nearest_117 rfl (fun q117 => ?_) (fun q117 => ?_)
      · have hv := (if_neg q117).symm.trans hv
        exact jr_sub [1, 2, 3, 4] rfl (tX12_nearest_129 C  v7 v8 v10 v11 hv)
      · have hv := (if_pos q117).symm.trans hv
        refine jr_lload C dX12_nearest_120 4 rfl ?_
        refine jr_lconst (v := 1) C dX12_nearest_122 (by decide) ?_
        refine jr_land C dX12_nearest_123 ?_
        refine jr_lconst (v := 1) C dX12_nearest_124 (by decide) ?_
        refine jr_lcmp_ne (tgt := 135) C dX12_nearest_125 dX12_nearest_126 rfl (fun q125 => ?_) (fun q125 => ?_)
        · have hv := (if_neg q125).symm.trans hv
          exact jr_sub [1, 2, 3, 4] rfl (tX12_nearest_135 C  v7 v8 v10 v11 hv)
        · have hv := (if_pos q125).symm.trans hv
          exact jr_sub [1, 2, 3, 4] rfl (tX12_nearest_129 C  v7 v8 v10 v11 hv)
set_option maxRecDepth 100000 in
theorem tX12_nearest_91 {p : Program} {l : Launch} {e : Env} {s : State} {m : MethodId} {args : Array Value} {below : List Frame} {meth : Method} {c : Code} (C : CC p s m args meth c yX12_nearest cX12_nearest 18 (some .long))  (v4 : Int32) (v7 : Int32) (v8 : Int64) (v10 : Int32) (v11 : Int64) (v13 : Int32) (v14 : Int64) {w : Int64} (hv : fX12_nearest_91 v4 v7 v8 v10 v11 v13 v14 = some w) : PJ p l e s m args below meth c 18 1 (.long w) 91 [(4, .int v4), (7, .int v7), (8, .long v8), (10, .int v10), (11, .long v11), (13, .int v13), (14, .long v14)] [] := by
  unfold fX12_nearest_91 at hv
  refine jr_lconst (v := 1) C dX12_nearest_91 (by decide) ?_
  refine jr_iload C dX12_nearest_92 5 rfl ?_
  refine jr_iconst (v := 1) C dX12_nearest_94 (by decide) ?_
  refine jr_isub C dX12_nearest_95 ?_
  refine jr_lshl C dX12_nearest_96 ?_
  refine jr_lstore (lv' := [(16, .long (1 <<< (((v13 - 1) : Int32).toInt64 &&& 63))), (4, .int v4), (7, .int v7), (8, .long v8), (10, .int v10), (11, .long v11), (13, .int v13), (14, .long v14)]) C dX12_nearest_97 (by decide) rfl ?_
  exact jr_sub [1, 2, 3, 4, 5, 7, 0] rfl (tX12_nearest_99 C  v4 v7 v8 v10 v11 v14 (1 <<< (((v13 - 1) : Int32).toInt64 &&& 63)) hv)
set_option maxRecDepth 100000 in
theorem tX12_nearest_82 {p : Program} {l : Launch} {e : Env} {s : State} {m : MethodId} {args : Array Value} {below : List Frame} {meth : Method} {c : Code} (C : CC p s m args meth c yX12_nearest cX12_nearest 18 (some .long))  (v1 : Int64) (v4 : Int32) (v7 : Int32) (v8 : Int64) (v10 : Int32) (v11 : Int64) (v13 : Int32) {w : Int64} (hv : fX12_nearest_82 v1 v4 v7 v8 v10 v11 v13 = some w) : PJ p l e s m args below meth c 18 1 (.long w) 82 [(1, .long v1), (4, .int v4), (7, .int v7), (8, .long v8), (10, .int v10), (11, .long v11), (13, .int v13)] [] := by
  unfold fX12_nearest_82 at hv
  refine jr_lload_n C dX12_nearest_82 rfl 0 rfl ?_
  refine jr_lload C dX12_nearest_83 5 rfl ?_
  refine jr_iload C dX12_nearest_85 6 rfl ?_
  refine jr_lshl C dX12_nearest_87 ?_
  refine jr_lsub C dX12_nearest_88 ?_
  refine jr_lstore (lv' := [(14, .long (v1 - (v11 <<< ((v13 : Int32).toInt64 &&& 63)))), (1, .long v1), (4, .int v4), (7, .int v7), (8, .long v8), (10, .int v10), (11, .long v11), (13, .int v13)]) C dX12_nearest_89 (by decide) rfl ?_
  exact jr_sub [2, 3, 4, 5, 6, 7, 0] rfl (tX12_nearest_91 C  v4 v7 v8 v10 v11 v13 (v1 - (v11 <<< ((v13 : Int32).toInt64 &&& 63))) hv)
set_option maxRecDepth 100000 in
theorem tX12_nearest_58 {p : Program} {l : Launch} {e : Env} {s : State} {m : MethodId} {args : Array Value} {below : List Frame} {meth : Method} {c : Code} (C : CC p s m args meth c yX12_nearest cX12_nearest 18 (some .long))  (v1 : Int64) (v3 : Int32) (v4 : Int32) (v7 : Int32) (v8 : Int64) (v10 : Int32) (v11 : Int64) (v13 : Int32) {w : Int64} (hv : fX12_nearest_58 v1 v3 v4 v7 v8 v10 v11 v13 = some w) : PJ p l e s m args below meth c 18 1 (.long w) 58 [(1, .long v1), (3, .int v3), (4, .int v4), (7, .int v7), (8, .long v8), (10, .int v10), (11, .long v11), (13, .int v13)] [] := by
  unfold fX12_nearest_58 at hv
  refine jr_iload C dX12_nearest_58 7 rfl ?_
  refine jr_bipush (v := 62) C dX12_nearest_60 (by decide) ?_
  refine jr_icmp_le (tgt := 71) C dX12_nearest_62 rfl (fun q62 => ?_) (fun q62 => ?_)
  · have hv := (if_pos q62).symm.trans hv
    refine jr_iload C dX12_nearest_71 7 rfl ?_
    refine jr_if_le (tgt := 138) C dX12_nearest_73 rfl (fun q73 => ?_) (fun q73 => ?_)
    · have hv := (if_pos q73).symm.trans hv
      refine jr_iload_n C dX12_nearest_138 rfl 1 rfl ?_
      refine jr_istore (lv' := [(10, .int v3), (1, .long v1), (3, .int v3), (4, .int v4), (7, .int v7), (8, .long v8), (11, .long v11), (13, .int v13)]) C dX12_nearest_139 (by decide) rfl ?_
      exact jr_sub [4, 5, 0, 6] rfl (tX12_nearest_141 C  v7 v8 v3 v11 hv)
    · have hv := (if_neg q73).symm.trans hv
      refine jr_lload_n C dX12_nearest_76 rfl 0 rfl ?_
      refine jr_iload C dX12_nearest_77 7 rfl ?_
      refine jr_lshr C dX12_nearest_79 ?_
      refine jr_lstore (lv' := [(11, .long (v1 >>> ((v13 : Int32).toInt64 &&& 63))), (1, .long v1), (3, .int v3), (4, .int v4), (7, .int v7), (8, .long v8), (10, .int v10), (13, .int v13)]) C dX12_nearest_80 (by decide) rfl ?_
      exact jr_sub [1, 3, 4, 5, 6, 0, 7] rfl (tX12_nearest_82 C  v1 v4 v7 v8 v10 (v1 >>> ((v13 : Int32).toInt64 &&& 63)) v13 hv)
  · have hv := (if_neg q62).symm.trans hv
    refine jr_lconst (v := 0) C dX12_nearest_65 (by decide) ?_
    refine jr_lstore (lv' := [(11, .long 0), (1, .long v1), (3, .int v3), (4, .int v4), (7, .int v7), (8, .long v8), (10, .int v10), (13, .int v13)]) C dX12_nearest_66 (by decide) rfl ?_
    refine jr_goto (tgt := 141) C dX12_nearest_68 rfl ?_
    exact jr_sub [4, 5, 6, 0] rfl (tX12_nearest_141 C  v7 v8 v10 0 hv)
set_option maxRecDepth 100000 in
theorem tX12_nearest_47 {p : Program} {l : Launch} {e : Env} {s : State} {m : MethodId} {args : Array Value} {below : List Frame} {meth : Method} {c : Code} (C : CC p s m args meth c yX12_nearest cX12_nearest 18 (some .long))  (v1 : Int64) (v3 : Int32) (v4 : Int32) (v7 : Int32) (v8 : Int64) (t0 : Int32) {w : Int64} (hv : fX12_nearest_47 v1 v3 v4 v7 v8 t0 = some w) : PJ p l e s m args below meth c 18 1 (.long w) 47 [(1, .long v1), (3, .int v3), (4, .int v4), (7, .int v7), (8, .long v8)] [.int t0] := by
  unfold fX12_nearest_47 at hv
  refine jr_istore (lv' := [(10, .int t0), (1, .long v1), (3, .int v3), (4, .int v4), (7, .int v7), (8, .long v8)]) C dX12_nearest_47 (by decide) rfl ?_
  refine jr_lload_n C dX12_nearest_49 rfl 1 rfl ?_
  refine jr_lstore (lv' := [(11, .long v1), (10, .int t0), (1, .long v1), (3, .int v3), (4, .int v4), (7, .int v7), (8, .long v8)]) C dX12_nearest_50 (by decide) rfl ?_
  refine jr_iload C dX12_nearest_52 1 rfl ?_
  refine jr_iload_n C dX12_nearest_54 rfl 3 rfl ?_
  refine jr_isub C dX12_nearest_55 ?_
  refine jr_istore (lv' := [(13, .int (t0 - v3)), (11, .long v1), (10, .int t0), (1, .long v1), (3, .int v3), (4, .int v4), (7, .int v7), (8, .long v8)]) C dX12_nearest_56 (by decide) rfl ?_
  exact jr_sub [3, 4, 5, 6, 7, 2, 1, 0] rfl (tX12_nearest_58 C  v1 v3 v4 v7 v8 t0 v1 (t0 - v3) hv)
set_option maxRecDepth 100000 in
theorem tX12_nearest_33 {p : Program} {l : Launch} {e : Env} {s : State} {m : MethodId} {args : Array Value} {below : List Frame} {meth : Method} {c : Code} (C : CC p s m args meth c yX12_nearest cX12_nearest 18 (some .long))  (v1 : Int64) (v3 : Int32) (v4 : Int32) (v6 : Int32) (v7 : Int32) (v8 : Int64) (v10 : Int32) {w : Int64} (hv : fX12_nearest_33 v1 v3 v4 v6 v7 v8 v10 = some w) : PJ p l e s m args below meth c 18 1 (.long w) 33 [(1, .long v1), (3, .int v3), (4, .int v4), (6, .int v6), (7, .int v7), (8, .long v8), (10, .int v10)] [] := by
  unfold fX12_nearest_33 at hv
  refine jr_iload C dX12_nearest_33 6 rfl ?_
  refine jr_iload C dX12_nearest_35 3 rfl ?_
  refine jr_icmp_ge (tgt := 45) C dX12_nearest_37 rfl (fun q37 => ?_) (fun q37 => ?_)
  · have hv := (if_pos q37).symm.trans hv
    refine jr_iload C dX12_nearest_45 6 rfl ?_
    exact jr_sub [0, 1, 2, 4, 5] rfl (tX12_nearest_47 C  v1 v3 v4 v7 v8 v10 hv)
  · have hv := (if_neg q37).symm.trans hv
    refine jr_iload C dX12_nearest_40 3 rfl ?_
    refine jr_goto (tgt := 47) C dX12_nearest_42 rfl ?_
    exact jr_sub [0, 1, 2, 4, 5] rfl (tX12_nearest_47 C  v1 v3 v4 v7 v8 v6 hv)
set_option maxRecDepth 100000 in
theorem tX12_nearest_11 {p : Program} {l : Launch} {e : Env} {s : State} {m : MethodId} {args : Array Value} {below : List Frame} {meth : Method} {c : Code} (C : CC p s m args meth c yX12_nearest cX12_nearest 18 (some .long))  (v1 : Int64) (v3 : Int32) (v4 : Int32) (v5 : Int32) (v6 : Int32) (v7 : Int32) (t0 : Int64) {w : Int64} (hv : fX12_nearest_11 v1 v3 v4 v5 v6 v7 t0 = some w) : PJ p l e s m args below meth c 18 1 (.long w) 11 [(1, .long v1), (3, .int v3), (4, .int v4), (5, .int v5), (6, .int v6), (7, .int v7)] [.long t0] := by
  unfold fX12_nearest_11 at hv
  refine jr_lstore (lv' := [(8, .long t0), (1, .long v1), (3, .int v3), (4, .int v4), (5, .int v5), (6, .int v6), (7, .int v7)]) C dX12_nearest_11 (by decide) rfl ?_
  refine jr_lload_n C dX12_nearest_13 rfl 1 rfl ?_
  refine jr_lconst (v := 0) C dX12_nearest_14 (by decide) ?_
  refine jr_lcmp_ne (tgt := 22) C dX12_nearest_15 dX12_nearest_16 rfl (fun q15 => ?_) (fun q15 => ?_)
  · have hv := (if_neg q15).symm.trans hv
    refine jr_iload_n C dX12_nearest_22 rfl 2 rfl ?_
    refine jr_lload_n C dX12_nearest_23 rfl 1 rfl ?_
    obtain ⟨c24, hc24, hv⟩ := Option.bind_eq_some_iff.mp hv
    refine jr_pcall (rest := [.int v3]) C (pX12_bitsOf l v1 hc24) oX12_bitsOf kw_1225 rfl ⟨Nat.le_of_ble_eq_true rfl, Nat.le_of_ble_eq_true rfl⟩ rfl (Nat.le_of_ble_eq_true rfl) ⟨Nat.zero_le _, Nat.zero_le _⟩ dX12_nearest_24 ?_
    refine jr_iadd C dX12_nearest_27 ?_
    refine jr_iload C dX12_nearest_28 4 rfl ?_
    refine jr_isub C dX12_nearest_30 ?_
    refine jr_istore (lv' := [(10, .int ((v3 + c24) - v5)), (8, .long t0), (1, .long v1), (3, .int v3), (4, .int v4), (5, .int v5), (6, .int v6), (7, .int v7)]) C dX12_nearest_31 (by decide) rfl ?_
    exact jr_sub [2, 3, 4, 6, 7, 1, 0] rfl (tX12_nearest_33 C  v1 v3 v4 v6 v7 t0 ((v3 + c24) - v5) hv)
  · have hv := (if_pos q15).symm.trans hv
    refine jr_lload C dX12_nearest_19 0 rfl ?_
    exact jp_lret C dX12_nearest_21 (congrArg Value.long (Option.some.inj hv)).symm
set_option maxRecDepth 100000 in
theorem tX12_nearest_0 {p : Program} {l : Launch} {e : Env} {s : State} {m : MethodId} {args : Array Value} {below : List Frame} {meth : Method} {c : Code} (C : CC p s m args meth c yX12_nearest cX12_nearest 18 (some .long))  (v0 : Int32) (v1 : Int64) (v3 : Int32) (v4 : Int32) (v5 : Int32) (v6 : Int32) (v7 : Int32) {w : Int64} (hv : fX12_nearest v0 v1 v3 v4 v5 v6 v7 = some w) : PJ p l e s m args below meth c 18 1 (.long w) 0 [(0, .int v0), (1, .long v1), (3, .int v3), (4, .int v4), (5, .int v5), (6, .int v6), (7, .int v7)] [] := by
  unfold fX12_nearest at hv
  refine jr_iload_n C dX12_nearest_0 rfl 0 rfl ?_
  refine jr_if_eq (tgt := 10) C dX12_nearest_1 rfl (fun q1 => ?_) (fun q1 => ?_)
  · have hv := (if_pos q1).symm.trans hv
    refine jr_lconst (v := 0) C dX12_nearest_10 (by decide) ?_
    exact jr_sub [1, 2, 3, 4, 5, 6] rfl (tX12_nearest_11 C  v1 v3 v4 v5 v6 v7 0 hv)
  · have hv := (if_neg q1).symm.trans hv
    refine jr_ldc2 C kw_1224 dX12_nearest_4 ?_
    refine jr_goto (tgt := 11) C dX12_nearest_7 rfl ?_
    exact jr_sub [1, 2, 3, 4, 5, 6] rfl (tX12_nearest_11 C  v1 v3 v4 v5 v6 v7 (-9223372036854775808) hv)
theorem pX12_nearest (l : Launch) (v0 : Int32) (v1 : Int64) (v3 : Int32) (v4 : Int32) (v5 : Int32) (v6 : Int32) (v7 : Int32) {w : Int64} (hw : fX12_nearest v0 v1 v3 v4 v5 v6 v7 = some w) : pu l yX12_nearest cX12_nearest 18 (some .long) 1 [.int v0, .long v1, .int v3, .int v4, .int v5, .int v6, .int v7] (.long w) := pu_of (by decide +kernel) (Nat.le_of_ble_eq_true rfl) rfl (fun C => tX12_nearest_0 C v0 v1 v3 v4 v5 v6 v7 hw)
/-! RobotCellModel.made(ZJIZ)J -/
def fX12_made (v0 : Int32) (v1 : Int64) (v3 : Int32) (v4 : Int32) : Option Int64 :=
  Option.bind (fX12_nearest v0 v1 v3 v4 53 (-1074) 1024) (fun c13 => some c13)
theorem oX12_made : ok_s yX12_made cX12_made 5 (some .long) 4 := ⟨kw_1252, kw_1251, kw_73, by decide +kernel⟩
set_option maxRecDepth 100000 in
theorem tX12_made_0 {p : Program} {l : Launch} {e : Env} {s : State} {m : MethodId} {args : Array Value} {below : List Frame} {meth : Method} {c : Code} (C : CC p s m args meth c yX12_made cX12_made 5 (some .long))  (v0 : Int32) (v1 : Int64) (v3 : Int32) (v4 : Int32) {w : Int64} (hv : fX12_made v0 v1 v3 v4 = some w) : PJ p l e s m args below meth c 5 2 (.long w) 0 [(0, .int v0), (1, .long v1), (3, .int v3), (4, .int v4)] [] := by
  unfold fX12_made at hv
  refine jr_iload_n C dX12_made_0 rfl 0 rfl ?_
  refine jr_lload_n C dX12_made_1 rfl 1 rfl ?_
  refine jr_iload_n C dX12_made_2 rfl 2 rfl ?_
  refine jr_iload C dX12_made_3 3 rfl ?_
  refine jr_bipush (v := 53) C dX12_made_5 (by decide) ?_
  refine jr_sipush (v := (-1074)) C dX12_made_7 (by decide) ?_
  refine jr_sipush (v := 1024) C dX12_made_10 (by decide) ?_
  obtain ⟨c13, hc13, hv⟩ := Option.bind_eq_some_iff.mp hv
  refine jr_pcall (rest := []) C (pX12_nearest l v0 v1 v3 v4 53 (-1074) 1024 hc13) oX12_nearest kw_1221 rfl ⟨Nat.le_of_ble_eq_true rfl, Nat.le_of_ble_eq_true rfl⟩ rfl (Nat.le_of_ble_eq_true rfl) ⟨Nat.zero_le _, Nat.zero_le _⟩ dX12_made_13 ?_
  exact jp_lret C dX12_made_16 (congrArg Value.long (Option.some.inj hv)).symm
theorem pX12_made (l : Launch) (v0 : Int32) (v1 : Int64) (v3 : Int32) (v4 : Int32) {w : Int64} (hw : fX12_made v0 v1 v3 v4 = some w) : pu l yX12_made cX12_made 5 (some .long) 2 [.int v0, .long v1, .int v3, .int v4] (.long w) := pu_of (by decide +kernel) (Nat.le_of_ble_eq_true rfl) rfl (fun C => tX12_made_0 C v0 v1 v3 v4 hw)
/-! RobotCellModel.small(J)J -/
def fX12_small_21 (v0 : Int64) : Option Int64 :=
  some (fX12_one v0)
def fX12_small_39 (v0 : Int64) (t0 : Int32) : Option Int64 :=
  Option.bind (fX12_nearest t0 (fX12_digits v0) (fX12_unit v0) 0 24 (-149) 128) (fun c56 => some c56)
def fX12_small (v0 : Int64) : Option Int64 :=
  if (fX12_isLost v0) = 0 then (if (fX12_isInfinite v0) = 0 then (if (fX12_isZero v0) = 0 then (if 0 ≤ v0 then fX12_small_39 v0 0 else fX12_small_39 v0 1) else fX12_small_21 v0) else fX12_small_21 v0) else fX12_small_21 v0
theorem oX12_small : ok_s yX12_small cX12_small 2 (some .long) 1 := ⟨kw_1295, kw_1294, kw_73, by decide +kernel⟩
set_option maxRecDepth 100000 in
theorem tX12_small_21 {p : Program} {l : Launch} {e : Env} {s : State} {m : MethodId} {args : Array Value} {below : List Frame} {meth : Method} {c : Code} (C : CC p s m args meth c yX12_small cX12_small 2 (some .long))  (v0 : Int64) {w : Int64} (hv : fX12_small_21 v0 = some w) : PJ p l e s m args below meth c 2 2 (.long w) 21 [(0, .long v0)] [] := by
  unfold fX12_small_21 at hv
  refine jr_lload_n C dX12_small_21 rfl 0 rfl ?_
  refine jr_pcall (rest := []) C (pX12_one l v0) oX12_one kw_1200 rfl ⟨Nat.le_of_ble_eq_true rfl, Nat.le_of_ble_eq_true rfl⟩ rfl (Nat.le_of_ble_eq_true rfl) ⟨Nat.zero_le _, Nat.zero_le _⟩ dX12_small_22 ?_
  refine jr_goto (tgt := 59) C dX12_small_25 rfl ?_
  exact jp_lret C dX12_small_59 (congrArg Value.long (Option.some.inj hv)).symm
set_option maxRecDepth 100000 in
theorem tX12_small_39 {p : Program} {l : Launch} {e : Env} {s : State} {m : MethodId} {args : Array Value} {below : List Frame} {meth : Method} {c : Code} (C : CC p s m args meth c yX12_small cX12_small 2 (some .long))  (v0 : Int64) (t0 : Int32) {w : Int64} (hv : fX12_small_39 v0 t0 = some w) : PJ p l e s m args below meth c 2 2 (.long w) 39 [(0, .long v0)] [.int t0] := by
  unfold fX12_small_39 at hv
  refine jr_lload_n C dX12_small_39 rfl 0 rfl ?_
  refine jr_pcall (rest := [.int t0]) C (pX12_digits l v0) oX12_digits kw_1239 rfl ⟨Nat.le_of_ble_eq_true rfl, Nat.le_of_ble_eq_true rfl⟩ rfl (Nat.le_of_ble_eq_true rfl) ⟨Nat.zero_le _, Nat.zero_le _⟩ dX12_small_40 ?_
  refine jr_lload_n C dX12_small_43 rfl 0 rfl ?_
  refine jr_pcall (rest := [.long (fX12_digits v0), .int t0]) C (pX12_unit l v0) oX12_unit kw_1246 rfl ⟨Nat.le_of_ble_eq_true rfl, Nat.le_of_ble_eq_true rfl⟩ rfl (Nat.le_of_ble_eq_true rfl) ⟨Nat.zero_le _, Nat.zero_le _⟩ dX12_small_44 ?_
  refine jr_iconst (v := 0) C dX12_small_47 (by decide) ?_
  refine jr_bipush (v := 24) C dX12_small_48 (by decide) ?_
  refine jr_sipush (v := (-149)) C dX12_small_50 (by decide) ?_
  refine jr_sipush (v := 128) C dX12_small_53 (by decide) ?_
  obtain ⟨c56, hc56, hv⟩ := Option.bind_eq_some_iff.mp hv
  refine jr_pcall (rest := []) C (pX12_nearest l t0 (fX12_digits v0) (fX12_unit v0) 0 24 (-149) 128 hc56) oX12_nearest kw_1221 rfl ⟨Nat.le_of_ble_eq_true rfl, Nat.le_of_ble_eq_true rfl⟩ rfl (Nat.le_of_ble_eq_true rfl) ⟨Nat.zero_le _, Nat.zero_le _⟩ dX12_small_56 ?_
  exact jp_lret C dX12_small_59 (congrArg Value.long (Option.some.inj hv)).symm
set_option maxRecDepth 100000 in
theorem tX12_small_0 {p : Program} {l : Launch} {e : Env} {s : State} {m : MethodId} {args : Array Value} {below : List Frame} {meth : Method} {c : Code} (C : CC p s m args meth c yX12_small cX12_small 2 (some .long))  (v0 : Int64) {w : Int64} (hv : fX12_small v0 = some w) : PJ p l e s m args below meth c 2 2 (.long w) 0 [(0, .long v0)] [] := by
  unfold fX12_small at hv
  refine jr_lload_n C dX12_small_0 rfl 0 rfl ?_
  refine jr_pcall (rest := []) C (pX12_isLost l v0) oX12_isLost kw_1203 rfl ⟨Nat.le_of_ble_eq_true rfl, Nat.le_of_ble_eq_true rfl⟩ rfl (Nat.le_of_ble_eq_true rfl) ⟨Nat.zero_le _, Nat.zero_le _⟩ dX12_small_1 ?_
  refine jr_if_ne (tgt := 21) C dX12_small_4 rfl (fun q4 => ?_) (fun q4 => ?_)
  · have hv := (if_neg q4).symm.trans hv
    exact tX12_small_21 C  v0 hv
  · have hv := (if_pos q4).symm.trans hv
    refine jr_lload_n C dX12_small_7 rfl 0 rfl ?_
    refine jr_pcall (rest := []) C (pX12_isInfinite l v0) oX12_isInfinite kw_1232 rfl ⟨Nat.le_of_ble_eq_true rfl, Nat.le_of_ble_eq_true rfl⟩ rfl (Nat.le_of_ble_eq_true rfl) ⟨Nat.zero_le _, Nat.zero_le _⟩ dX12_small_8 ?_
    refine jr_if_ne (tgt := 21) C dX12_small_11 rfl (fun q11 => ?_) (fun q11 => ?_)
    · have hv := (if_neg q11).symm.trans hv
      exact tX12_small_21 C  v0 hv
    · have hv := (if_pos q11).symm.trans hv
      refine jr_lload_n C dX12_small_14 rfl 0 rfl ?_
      refine jr_pcall (rest := []) C (pX12_isZero l v0) oX12_isZero kw_1235 rfl ⟨Nat.le_of_ble_eq_true rfl, Nat.le_of_ble_eq_true rfl⟩ rfl (Nat.le_of_ble_eq_true rfl) ⟨Nat.zero_le _, Nat.zero_le _⟩ dX12_small_15 ?_
      refine jr_if_eq (tgt := 28) C dX12_small_18 rfl (fun q18 => ?_) (fun q18 => ?_)
      · have hv := (if_pos q18).symm.trans hv
        refine jr_lload_n C dX12_small_28 rfl 0 rfl ?_
        refine jr_lconst (v := 0) C dX12_small_29 (by decide) ?_
        refine jr_lcmp_ge (tgt := 38) C dX12_small_30 dX12_small_31 rfl (fun q30 => ?_) (fun q30 => ?_)
        · have hv := (if_pos q30).symm.trans hv
          refine jr_iconst (v := 0) C dX12_small_38 (by decide) ?_
          exact tX12_small_39 C  v0 0 hv
        · have hv := (if_neg q30).symm.trans hv
          refine jr_iconst (v := 1) C dX12_small_34 (by decide) ?_
          refine jr_goto (tgt := 39) C dX12_small_35 rfl ?_
          exact tX12_small_39 C  v0 1 hv
      · have hv := (if_neg q18).symm.trans hv
        exact tX12_small_21 C  v0 hv
theorem pX12_small (l : Launch) (v0 : Int64) {w : Int64} (hw : fX12_small v0 = some w) : pu l yX12_small cX12_small 2 (some .long) 2 [.long v0] (.long w) := pu_of (by decide +kernel) (Nat.le_of_ble_eq_true rfl) rfl (fun C => tX12_small_0 C v0 hw)
/-! RobotCellModel.whole(JZ)J -/
def fX12_whole_142 (t0 : Int32) (t1 : Int64) (t2 : Int32) (t3 : Int32) (t4 : Int32) (t5 : Int32) (t6 : Int32) : Option Int64 :=
  Option.bind (fX12_nearest t0 t1 t2 t3 t4 t5 t6) (fun c142 => some c142)
def fX12_whole_129 (v2 : Int32) (t0 : Int32) (t1 : Int64) (t2 : Int32) (t3 : Int32) (t4 : Int32) (t5 : Int32) : Option Int64 :=
  if v2 = 0 then fX12_whole_142 t0 t1 t2 t3 t4 t5 1024 else fX12_whole_142 t0 t1 t2 t3 t4 t5 128
def fX12_whole_116 (v2 : Int32) (t0 : Int32) (t1 : Int64) (t2 : Int32) (t3 : Int32) (t4 : Int32) : Option Int64 :=
  if v2 = 0 then fX12_whole_129 v2 t0 t1 t2 t3 t4 (-1074) else fX12_whole_129 v2 t0 t1 t2 t3 t4 (-149)
def fX12_whole_105 (v2 : Int32) (t0 : Int32) (t1 : Int64) (t2 : Int32) (t3 : Int32) : Option Int64 :=
  if v2 = 0 then fX12_whole_116 v2 t0 t1 t2 t3 53 else fX12_whole_116 v2 t0 t1 t2 t3 24
def fX12_whole_104 (v2 : Int32) (t0 : Int32) (t1 : Int64) (t2 : Int32) : Option Int64 :=
  fX12_whole_105 v2 t0 t1 t2 0
def fX12_whole_90 (v2 : Int32) (v6 : Int32) (v7 : Int32) (t0 : Int32) (t1 : Int64) (t2 : Int32) : Option Int64 :=
  if v7 = 0 then fX12_whole_104 v2 t0 t1 t2 else (if v6 = 0 then fX12_whole_104 v2 t0 t1 t2 else fX12_whole_105 v2 t0 t1 t2 1)
def fX12_whole_80 (v2 : Int32) (v6 : Int32) (v7 : Int32) (t0 : Int32) (t1 : Int64) : Option Int64 :=
  if v7 = 0 then fX12_whole_90 v2 v6 v7 t0 t1 0 else fX12_whole_90 v2 v6 v7 t0 t1 2
def fX12_whole_63 (v2 : Int32) (v3 : Int32) (v4 : Int64) (v6 : Int32) (t0 : Int32) : Option Int64 :=
  if t0 = 0 then fX12_whole_80 v2 v6 t0 v3 v4 else fX12_whole_80 v2 v6 t0 v3 (((v4 : Int64).toUInt64 >>> ((2 : Int32).toInt64.toUInt64 &&& Int64.toUInt64 63)).toInt64)
def fX12_whole_58 (v2 : Int32) (v3 : Int32) (v4 : Int64) (v6 : Int32) : Option Int64 :=
  fX12_whole_63 v2 v3 v4 v6 1
def fX12_whole_40 (v2 : Int32) (v3 : Int32) (v4 : Int64) (t0 : Int32) : Option Int64 :=
  if v4 < 0 then fX12_whole_58 v2 v3 v4 t0 else (if v4 < 4611686018427387904 then fX12_whole_63 v2 v3 v4 t0 0 else fX12_whole_58 v2 v3 v4 t0)
def fX12_whole_22 (v2 : Int32) (v3 : Int32) (t0 : Int64) : Option Int64 :=
  if (t0 &&& 3) = 0 then fX12_whole_40 v2 v3 t0 0 else fX12_whole_40 v2 v3 t0 1
def fX12_whole_11 (v0 : Int64) (v2 : Int32) (t0 : Int32) : Option Int64 :=
  if t0 = 0 then fX12_whole_22 v2 t0 v0 else fX12_whole_22 v2 t0 (-v0)
def fX12_whole (v0 : Int64) (v2 : Int32) : Option Int64 :=
  if 0 ≤ v0 then fX12_whole_11 v0 v2 0 else fX12_whole_11 v0 v2 1
theorem oX12_whole : ok_s yX12_whole cX12_whole 8 (some .long) 2 := ⟨kw_1218, kw_1217, kw_73, by decide +kernel⟩
set_option maxRecDepth 100000 in
theorem tX12_whole_142 {p : Program} {l : Launch} {e : Env} {s : State} {m : MethodId} {args : Array Value} {below : List Frame} {meth : Method} {c : Code} (C : CC p s m args meth c yX12_whole cX12_whole 8 (some .long))  (t0 : Int32) (t1 : Int64) (t2 : Int32) (t3 : Int32) (t4 : Int32) (t5 : Int32) (t6 : Int32) {w : Int64} (hv : fX12_whole_142 t0 t1 t2 t3 t4 t5 t6 = some w) : PJ p l e s m args below meth c 8 2 (.long w) 142 [] [.int t6, .int t5, .int t4, .int t3, .int t2, .long t1, .int t0] := by
  unfold fX12_whole_142 at hv
  obtain ⟨c142, hc142, hv⟩ := Option.bind_eq_some_iff.mp hv
  refine jr_pcall (rest := []) C (pX12_nearest l t0 t1 t2 t3 t4 t5 t6 hc142) oX12_nearest kw_1221 rfl ⟨Nat.le_of_ble_eq_true rfl, Nat.le_of_ble_eq_true rfl⟩ rfl (Nat.le_of_ble_eq_true rfl) ⟨Nat.zero_le _, Nat.zero_le _⟩ dX12_whole_142 ?_
  exact jp_lret C dX12_whole_145 (congrArg Value.long (Option.some.inj hv)).symm
set_option maxRecDepth 100000 in
theorem tX12_whole_129 {p : Program} {l : Launch} {e : Env} {s : State} {m : MethodId} {args : Array Value} {below : List Frame} {meth : Method} {c : Code} (C : CC p s m args meth c yX12_whole cX12_whole 8 (some .long))  (v2 : Int32) (t0 : Int32) (t1 : Int64) (t2 : Int32) (t3 : Int32) (t4 : Int32) (t5 : Int32) {w : Int64} (hv : fX12_whole_129 v2 t0 t1 t2 t3 t4 t5 = some w) : PJ p l e s m args below meth c 8 2 (.long w) 129 [(2, .int v2)] [.int t5, .int t4, .int t3, .int t2, .long t1, .int t0] := by
  unfold fX12_whole_129 at hv
  refine jr_iload_n C dX12_whole_129 rfl 0 rfl ?_
  refine jr_if_eq (tgt := 139) C dX12_whole_130 rfl (fun q130 => ?_) (fun q130 => ?_)
  · have hv := (if_pos q130).symm.trans hv
    refine jr_sipush (v := 1024) C dX12_whole_139 (by decide) ?_
    exact jr_sub [] rfl (tX12_whole_142 C  t0 t1 t2 t3 t4 t5 1024 hv)
  · have hv := (if_neg q130).symm.trans hv
    refine jr_sipush (v := 128) C dX12_whole_133 (by decide) ?_
    refine jr_goto (tgt := 142) C dX12_whole_136 rfl ?_
    exact jr_sub [] rfl (tX12_whole_142 C  t0 t1 t2 t3 t4 t5 128 hv)
set_option maxRecDepth 100000 in
theorem tX12_whole_116 {p : Program} {l : Launch} {e : Env} {s : State} {m : MethodId} {args : Array Value} {below : List Frame} {meth : Method} {c : Code} (C : CC p s m args meth c yX12_whole cX12_whole 8 (some .long))  (v2 : Int32) (t0 : Int32) (t1 : Int64) (t2 : Int32) (t3 : Int32) (t4 : Int32) {w : Int64} (hv : fX12_whole_116 v2 t0 t1 t2 t3 t4 = some w) : PJ p l e s m args below meth c 8 2 (.long w) 116 [(2, .int v2)] [.int t4, .int t3, .int t2, .long t1, .int t0] := by
  unfold fX12_whole_116 at hv
  refine jr_iload_n C dX12_whole_116 rfl 0 rfl ?_
  refine jr_if_eq (tgt := 126) C dX12_whole_117 rfl (fun q117 => ?_) (fun q117 => ?_)
  · have hv := (if_pos q117).symm.trans hv
    refine jr_sipush (v := (-1074)) C dX12_whole_126 (by decide) ?_
    exact tX12_whole_129 C  v2 t0 t1 t2 t3 t4 (-1074) hv
  · have hv := (if_neg q117).symm.trans hv
    refine jr_sipush (v := (-149)) C dX12_whole_120 (by decide) ?_
    refine jr_goto (tgt := 129) C dX12_whole_123 rfl ?_
    exact tX12_whole_129 C  v2 t0 t1 t2 t3 t4 (-149) hv
set_option maxRecDepth 100000 in
theorem tX12_whole_105 {p : Program} {l : Launch} {e : Env} {s : State} {m : MethodId} {args : Array Value} {below : List Frame} {meth : Method} {c : Code} (C : CC p s m args meth c yX12_whole cX12_whole 8 (some .long))  (v2 : Int32) (t0 : Int32) (t1 : Int64) (t2 : Int32) (t3 : Int32) {w : Int64} (hv : fX12_whole_105 v2 t0 t1 t2 t3 = some w) : PJ p l e s m args below meth c 8 2 (.long w) 105 [(2, .int v2)] [.int t3, .int t2, .long t1, .int t0] := by
  unfold fX12_whole_105 at hv
  refine jr_iload_n C dX12_whole_105 rfl 0 rfl ?_
  refine jr_if_eq (tgt := 114) C dX12_whole_106 rfl (fun q106 => ?_) (fun q106 => ?_)
  · have hv := (if_pos q106).symm.trans hv
    refine jr_bipush (v := 53) C dX12_whole_114 (by decide) ?_
    exact tX12_whole_116 C  v2 t0 t1 t2 t3 53 hv
  · have hv := (if_neg q106).symm.trans hv
    refine jr_bipush (v := 24) C dX12_whole_109 (by decide) ?_
    refine jr_goto (tgt := 116) C dX12_whole_111 rfl ?_
    exact tX12_whole_116 C  v2 t0 t1 t2 t3 24 hv
set_option maxRecDepth 100000 in
theorem tX12_whole_104 {p : Program} {l : Launch} {e : Env} {s : State} {m : MethodId} {args : Array Value} {below : List Frame} {meth : Method} {c : Code} (C : CC p s m args meth c yX12_whole cX12_whole 8 (some .long))  (v2 : Int32) (t0 : Int32) (t1 : Int64) (t2 : Int32) {w : Int64} (hv : fX12_whole_104 v2 t0 t1 t2 = some w) : PJ p l e s m args below meth c 8 2 (.long w) 104 [(2, .int v2)] [.int t2, .long t1, .int t0] := by
  unfold fX12_whole_104 at hv
  refine jr_iconst (v := 0) C dX12_whole_104 (by decide) ?_
  exact tX12_whole_105 C  v2 t0 t1 t2 0 hv
set_option maxRecDepth 100000 in
theorem tX12_whole_90 {p : Program} {l : Launch} {e : Env} {s : State} {m : MethodId} {args : Array Value} {below : List Frame} {meth : Method} {c : Code} (C : CC p s m args meth c yX12_whole cX12_whole 8 (some .long))  (v2 : Int32) (v6 : Int32) (v7 : Int32) (t0 : Int32) (t1 : Int64) (t2 : Int32) {w : Int64} (hv : fX12_whole_90 v2 v6 v7 t0 t1 t2 = some w) : PJ p l e s m args below meth c 8 2 (.long w) 90 [(2, .int v2), (6, .int v6), (7, .int v7)] [.int t2, .long t1, .int t0] := by
  unfold fX12_whole_90 at hv
  refine jr_iload C dX12_whole_90 2 rfl ?_
  refine jr_if_eq (tgt := 104) C dX12_whole_92 rfl (fun q92 => ?_) (fun q92 => ?_)
  · have hv := (if_pos q92).symm.trans hv
    exact jr_sub [0] rfl (tX12_whole_104 C  v2 t0 t1 t2 hv)
  · have hv := (if_neg q92).symm.trans hv
    refine jr_iload C dX12_whole_95 1 rfl ?_
    refine jr_if_eq (tgt := 104) C dX12_whole_97 rfl (fun q97 => ?_) (fun q97 => ?_)
    · have hv := (if_pos q97).symm.trans hv
      exact jr_sub [0] rfl (tX12_whole_104 C  v2 t0 t1 t2 hv)
    · have hv := (if_neg q97).symm.trans hv
      refine jr_iconst (v := 1) C dX12_whole_100 (by decide) ?_
      refine jr_goto (tgt := 105) C dX12_whole_101 rfl ?_
      exact jr_sub [0] rfl (tX12_whole_105 C  v2 t0 t1 t2 1 hv)
set_option maxRecDepth 100000 in
theorem tX12_whole_80 {p : Program} {l : Launch} {e : Env} {s : State} {m : MethodId} {args : Array Value} {below : List Frame} {meth : Method} {c : Code} (C : CC p s m args meth c yX12_whole cX12_whole 8 (some .long))  (v2 : Int32) (v6 : Int32) (v7 : Int32) (t0 : Int32) (t1 : Int64) {w : Int64} (hv : fX12_whole_80 v2 v6 v7 t0 t1 = some w) : PJ p l e s m args below meth c 8 2 (.long w) 80 [(2, .int v2), (6, .int v6), (7, .int v7)] [.long t1, .int t0] := by
  unfold fX12_whole_80 at hv
  refine jr_iload C dX12_whole_80 2 rfl ?_
  refine jr_if_eq (tgt := 89) C dX12_whole_82 rfl (fun q82 => ?_) (fun q82 => ?_)
  · have hv := (if_pos q82).symm.trans hv
    refine jr_iconst (v := 0) C dX12_whole_89 (by decide) ?_
    exact tX12_whole_90 C  v2 v6 v7 t0 t1 0 hv
  · have hv := (if_neg q82).symm.trans hv
    refine jr_iconst (v := 2) C dX12_whole_85 (by decide) ?_
    refine jr_goto (tgt := 90) C dX12_whole_86 rfl ?_
    exact tX12_whole_90 C  v2 v6 v7 t0 t1 2 hv
set_option maxRecDepth 100000 in
theorem tX12_whole_63 {p : Program} {l : Launch} {e : Env} {s : State} {m : MethodId} {args : Array Value} {below : List Frame} {meth : Method} {c : Code} (C : CC p s m args meth c yX12_whole cX12_whole 8 (some .long))  (v2 : Int32) (v3 : Int32) (v4 : Int64) (v6 : Int32) (t0 : Int32) {w : Int64} (hv : fX12_whole_63 v2 v3 v4 v6 t0 = some w) : PJ p l e s m args below meth c 8 2 (.long w) 63 [(2, .int v2), (3, .int v3), (4, .long v4), (6, .int v6)] [.int t0] := by
  unfold fX12_whole_63 at hv
  refine jr_istore (lv' := [(7, .int t0), (2, .int v2), (3, .int v3), (4, .long v4), (6, .int v6)]) C dX12_whole_63 (by decide) rfl ?_
  refine jr_iload_n C dX12_whole_65 rfl 2 rfl ?_
  refine jr_iload C dX12_whole_66 0 rfl ?_
  refine jr_if_eq (tgt := 78) C dX12_whole_68 rfl (fun q68 => ?_) (fun q68 => ?_)
  · have hv := (if_pos q68).symm.trans hv
    refine jr_lload C dX12_whole_78 3 rfl ?_
    exact jr_sub [1, 4, 0] rfl (tX12_whole_80 C  v2 v6 t0 v3 v4 hv)
  · have hv := (if_neg q68).symm.trans hv
    refine jr_lload C dX12_whole_71 3 rfl ?_
    refine jr_iconst (v := 2) C dX12_whole_73 (by decide) ?_
    refine jr_lushr C dX12_whole_74 ?_
    refine jr_goto (tgt := 80) C dX12_whole_75 rfl ?_
    exact jr_sub [1, 4, 0] rfl (tX12_whole_80 C  v2 v6 t0 v3 (((v4 : Int64).toUInt64 >>> ((2 : Int32).toInt64.toUInt64 &&& Int64.toUInt64 63)).toInt64) hv)
set_option maxRecDepth 100000 in
theorem tX12_whole_58 {p : Program} {l : Launch} {e : Env} {s : State} {m : MethodId} {args : Array Value} {below : List Frame} {meth : Method} {c : Code} (C : CC p s m args meth c yX12_whole cX12_whole 8 (some .long))  (v2 : Int32) (v3 : Int32) (v4 : Int64) (v6 : Int32) {w : Int64} (hv : fX12_whole_58 v2 v3 v4 v6 = some w) : PJ p l e s m args below meth c 8 2 (.long w) 58 [(2, .int v2), (3, .int v3), (4, .long v4), (6, .int v6)] [] := by
  unfold fX12_whole_58 at hv
  refine jr_iconst (v := 1) C dX12_whole_58 (by decide) ?_
  refine jr_goto (tgt := 63) C dX12_whole_59 rfl ?_
  exact tX12_whole_63 C  v2 v3 v4 v6 1 hv
set_option maxRecDepth 100000 in
theorem tX12_whole_40 {p : Program} {l : Launch} {e : Env} {s : State} {m : MethodId} {args : Array Value} {below : List Frame} {meth : Method} {c : Code} (C : CC p s m args meth c yX12_whole cX12_whole 8 (some .long))  (v2 : Int32) (v3 : Int32) (v4 : Int64) (t0 : Int32) {w : Int64} (hv : fX12_whole_40 v2 v3 v4 t0 = some w) : PJ p l e s m args below meth c 8 2 (.long w) 40 [(2, .int v2), (3, .int v3), (4, .long v4)] [.int t0] := by
  unfold fX12_whole_40 at hv
  refine jr_istore (lv' := [(6, .int t0), (2, .int v2), (3, .int v3), (4, .long v4)]) C dX12_whole_40 (by decide) rfl ?_
  refine jr_lload C dX12_whole_42 3 rfl ?_
  refine jr_lconst (v := 0) C dX12_whole_44 (by decide) ?_
  refine jr_lcmp_lt (tgt := 58) C dX12_whole_45 dX12_whole_46 rfl (fun q45 => ?_) (fun q45 => ?_)
  · have hv := (if_pos q45).symm.trans hv
    exact jr_sub [1, 2, 3, 0] rfl (tX12_whole_58 C  v2 v3 v4 t0 hv)
  · have hv := (if_neg q45).symm.trans hv
    refine jr_lload C dX12_whole_49 3 rfl ?_
    refine jr_ldc2 C kw_1220 dX12_whole_51 ?_
    refine jr_lcmp_lt (tgt := 62) C dX12_whole_54 dX12_whole_55 rfl (fun q54 => ?_) (fun q54 => ?_)
    · have hv := (if_pos q54).symm.trans hv
      refine jr_iconst (v := 0) C dX12_whole_62 (by decide) ?_
      exact jr_sub [1, 2, 3, 0] rfl (tX12_whole_63 C  v2 v3 v4 t0 0 hv)
    · have hv := (if_neg q54).symm.trans hv
      exact jr_sub [1, 2, 3, 0] rfl (tX12_whole_58 C  v2 v3 v4 t0 hv)
set_option maxRecDepth 100000 in
theorem tX12_whole_22 {p : Program} {l : Launch} {e : Env} {s : State} {m : MethodId} {args : Array Value} {below : List Frame} {meth : Method} {c : Code} (C : CC p s m args meth c yX12_whole cX12_whole 8 (some .long))  (v2 : Int32) (v3 : Int32) (t0 : Int64) {w : Int64} (hv : fX12_whole_22 v2 v3 t0 = some w) : PJ p l e s m args below meth c 8 2 (.long w) 22 [(2, .int v2), (3, .int v3)] [.long t0] := by
  unfold fX12_whole_22 at hv
  refine jr_lstore (lv' := [(4, .long t0), (2, .int v2), (3, .int v3)]) C dX12_whole_22 (by decide) rfl ?_
  refine jr_lload C dX12_whole_24 0 rfl ?_
  refine jr_ldc2 C kw_1219 dX12_whole_26 ?_
  refine jr_land C dX12_whole_29 ?_
  refine jr_lconst (v := 0) C dX12_whole_30 (by decide) ?_
  refine jr_lcmp_eq (tgt := 39) C dX12_whole_31 dX12_whole_32 rfl (fun q31 => ?_) (fun q31 => ?_)
  · have hv := (if_pos q31).symm.trans hv
    refine jr_iconst (v := 0) C dX12_whole_39 (by decide) ?_
    exact jr_sub [1, 2, 0] rfl (tX12_whole_40 C  v2 v3 t0 0 hv)
  · have hv := (if_neg q31).symm.trans hv
    refine jr_iconst (v := 1) C dX12_whole_35 (by decide) ?_
    refine jr_goto (tgt := 40) C dX12_whole_36 rfl ?_
    exact jr_sub [1, 2, 0] rfl (tX12_whole_40 C  v2 v3 t0 1 hv)
set_option maxRecDepth 100000 in
theorem tX12_whole_11 {p : Program} {l : Launch} {e : Env} {s : State} {m : MethodId} {args : Array Value} {below : List Frame} {meth : Method} {c : Code} (C : CC p s m args meth c yX12_whole cX12_whole 8 (some .long))  (v0 : Int64) (v2 : Int32) (t0 : Int32) {w : Int64} (hv : fX12_whole_11 v0 v2 t0 = some w) : PJ p l e s m args below meth c 8 2 (.long w) 11 [(0, .long v0), (2, .int v2)] [.int t0] := by
  unfold fX12_whole_11 at hv
  refine jr_istore_n (lv' := [(3, .int t0), (0, .long v0), (2, .int v2)]) C dX12_whole_11 rfl (by decide) rfl ?_
  refine jr_iload_n C dX12_whole_12 rfl 0 rfl ?_
  refine jr_if_eq (tgt := 21) C dX12_whole_13 rfl (fun q13 => ?_) (fun q13 => ?_)
  · have hv := (if_pos q13).symm.trans hv
    refine jr_lload_n C dX12_whole_21 rfl 1 rfl ?_
    exact jr_sub [2, 0] rfl (tX12_whole_22 C  v2 t0 v0 hv)
  · have hv := (if_neg q13).symm.trans hv
    refine jr_lload_n C dX12_whole_16 rfl 1 rfl ?_
    refine jr_lneg C dX12_whole_17 ?_
    refine jr_goto (tgt := 22) C dX12_whole_18 rfl ?_
    exact jr_sub [2, 0] rfl (tX12_whole_22 C  v2 t0 (-v0) hv)
set_option maxRecDepth 100000 in
theorem tX12_whole_0 {p : Program} {l : Launch} {e : Env} {s : State} {m : MethodId} {args : Array Value} {below : List Frame} {meth : Method} {c : Code} (C : CC p s m args meth c yX12_whole cX12_whole 8 (some .long))  (v0 : Int64) (v2 : Int32) {w : Int64} (hv : fX12_whole v0 v2 = some w) : PJ p l e s m args below meth c 8 2 (.long w) 0 [(0, .long v0), (2, .int v2)] [] := by
  unfold fX12_whole at hv
  refine jr_lload_n C dX12_whole_0 rfl 0 rfl ?_
  refine jr_lconst (v := 0) C dX12_whole_1 (by decide) ?_
  refine jr_lcmp_ge (tgt := 10) C dX12_whole_2 dX12_whole_3 rfl (fun q2 => ?_) (fun q2 => ?_)
  · have hv := (if_pos q2).symm.trans hv
    refine jr_iconst (v := 0) C dX12_whole_10 (by decide) ?_
    exact tX12_whole_11 C  v0 v2 0 hv
  · have hv := (if_neg q2).symm.trans hv
    refine jr_iconst (v := 1) C dX12_whole_6 (by decide) ?_
    refine jr_goto (tgt := 11) C dX12_whole_7 rfl ?_
    exact tX12_whole_11 C  v0 v2 1 hv
theorem pX12_whole (l : Launch) (v0 : Int64) (v2 : Int32) {w : Int64} (hw : fX12_whole v0 v2 = some w) : pu l yX12_whole cX12_whole 8 (some .long) 2 [.long v0, .int v2] (.long w) := pu_of (by decide +kernel) (Nat.le_of_ble_eq_true rfl) rfl (fun C => tX12_whole_0 C v0 v2 hw)
/-! RobotCellModel.number(J)J -/
def fX12_number (v0 : Int64) : Option Int64 :=
  Option.bind (fX12_whole v0 0) (fun c2 => some c2)
theorem oX12_number : ok_s yX12_number cX12_number 2 (some .long) 1 := ⟨kw_1215, kw_1214, kw_73, by decide +kernel⟩
set_option maxRecDepth 100000 in
theorem tX12_number_0 {p : Program} {l : Launch} {e : Env} {s : State} {m : MethodId} {args : Array Value} {below : List Frame} {meth : Method} {c : Code} (C : CC p s m args meth c yX12_number cX12_number 2 (some .long))  (v0 : Int64) {w : Int64} (hv : fX12_number v0 = some w) : PJ p l e s m args below meth c 2 3 (.long w) 0 [(0, .long v0)] [] := by
  unfold fX12_number at hv
  refine jr_lload_n C dX12_number_0 rfl 0 rfl ?_
  refine jr_iconst (v := 0) C dX12_number_1 (by decide) ?_
  obtain ⟨c2, hc2, hv⟩ := Option.bind_eq_some_iff.mp hv
  refine jr_pcall (rest := []) C (pX12_whole l v0 0 hc2) oX12_whole kw_1216 rfl ⟨Nat.le_of_ble_eq_true rfl, Nat.le_of_ble_eq_true rfl⟩ rfl (Nat.le_of_ble_eq_true rfl) ⟨Nat.zero_le _, Nat.zero_le _⟩ dX12_number_2 ?_
  exact jp_lret C dX12_number_5 (congrArg Value.long (Option.some.inj hv)).symm
theorem pX12_number (l : Launch) (v0 : Int64) {w : Int64} (hw : fX12_number v0 = some w) : pu l yX12_number cX12_number 2 (some .long) 3 [.long v0] (.long w) := pu_of (by decide +kernel) (Nat.le_of_ble_eq_true rfl) rfl (fun C => tX12_number_0 C v0 hw)
/-! RobotCellModel.magnitude(J)J -/
def fX12_magnitude (v0 : Int64) : Int64 :=
  if (fX12_isLost v0) = 0 then v0 &&& 9223372036854775807 else 9221120237041090560
theorem oX12_magnitude : ok_s yX12_magnitude cX12_magnitude 2 (some .long) 1 := ⟨kw_1281, kw_1280, kw_73, by decide +kernel⟩
set_option maxRecDepth 100000 in
theorem tX12_magnitude_0 {p : Program} {l : Launch} {e : Env} {s : State} {m : MethodId} {args : Array Value} {below : List Frame} {meth : Method} {c : Code} (C : CC p s m args meth c yX12_magnitude cX12_magnitude 2 (some .long))  (v0 : Int64) {w : Int64} (hv : fX12_magnitude v0 = w) : PJ p l e s m args below meth c 2 1 (.long w) 0 [(0, .long v0)] [] := by
  unfold fX12_magnitude at hv
  refine jr_lload_n C dX12_magnitude_0 rfl 0 rfl ?_
  refine jr_pcall (rest := []) C (pX12_isLost l v0) oX12_isLost kw_1203 rfl ⟨Nat.le_of_ble_eq_true rfl, Nat.le_of_ble_eq_true rfl⟩ rfl (Nat.le_of_ble_eq_true rfl) ⟨Nat.zero_le _, Nat.zero_le _⟩ dX12_magnitude_1 ?_
  refine jr_if_eq (tgt := 13) C dX12_magnitude_4 rfl (fun q4 => ?_) (fun q4 => ?_)
  · have hv := (if_pos q4).symm.trans hv
    refine jr_lload_n C dX12_magnitude_13 rfl 0 rfl ?_
    refine jr_ldc2 C kw_1206 dX12_magnitude_14 ?_
    refine jr_land C dX12_magnitude_17 ?_
    exact jp_lret C dX12_magnitude_18 (congrArg Value.long hv).symm
  · have hv := (if_neg q4).symm.trans hv
    refine jr_ldc2 C kw_1208 dX12_magnitude_7 ?_
    refine jr_goto (tgt := 18) C dX12_magnitude_10 rfl ?_
    exact jp_lret C dX12_magnitude_18 (congrArg Value.long hv).symm
theorem pX12_magnitude (l : Launch) (v0 : Int64) : pu l yX12_magnitude cX12_magnitude 2 (some .long) 1 [.long v0] (.long (fX12_magnitude v0)) := pu_of (by decide +kernel) (Nat.le_of_ble_eq_true rfl) rfl (fun C => tX12_magnitude_0 C v0 rfl)
/-! RobotCellModel.opposite(J)J -/
def fX12_opposite (v0 : Int64) : Int64 :=
  if (fX12_isLost v0) = 0 then v0 ^^^ (-9223372036854775808) else 9221120237041090560
theorem oX12_opposite : ok_s yX12_opposite cX12_opposite 2 (some .long) 1 := ⟨kw_1261, kw_1260, kw_73, by decide +kernel⟩
set_option maxRecDepth 100000 in
theorem tX12_opposite_0 {p : Program} {l : Launch} {e : Env} {s : State} {m : MethodId} {args : Array Value} {below : List Frame} {meth : Method} {c : Code} (C : CC p s m args meth c yX12_opposite cX12_opposite 2 (some .long))  (v0 : Int64) {w : Int64} (hv : fX12_opposite v0 = w) : PJ p l e s m args below meth c 2 1 (.long w) 0 [(0, .long v0)] [] := by
  unfold fX12_opposite at hv
  refine jr_lload_n C dX12_opposite_0 rfl 0 rfl ?_
  refine jr_pcall (rest := []) C (pX12_isLost l v0) oX12_isLost kw_1203 rfl ⟨Nat.le_of_ble_eq_true rfl, Nat.le_of_ble_eq_true rfl⟩ rfl (Nat.le_of_ble_eq_true rfl) ⟨Nat.zero_le _, Nat.zero_le _⟩ dX12_opposite_1 ?_
  refine jr_if_eq (tgt := 13) C dX12_opposite_4 rfl (fun q4 => ?_) (fun q4 => ?_)
  · have hv := (if_pos q4).symm.trans hv
    refine jr_lload_n C dX12_opposite_13 rfl 0 rfl ?_
    refine jr_ldc2 C kw_1224 dX12_opposite_14 ?_
    refine jr_lxor C dX12_opposite_17 ?_
    exact jp_lret C dX12_opposite_18 (congrArg Value.long hv).symm
  · have hv := (if_neg q4).symm.trans hv
    refine jr_ldc2 C kw_1208 dX12_opposite_7 ?_
    refine jr_goto (tgt := 18) C dX12_opposite_10 rfl ?_
    exact jp_lret C dX12_opposite_18 (congrArg Value.long hv).symm
theorem pX12_opposite (l : Launch) (v0 : Int64) : pu l yX12_opposite cX12_opposite 2 (some .long) 1 [.long v0] (.long (fX12_opposite v0)) := pu_of (by decide +kernel) (Nat.le_of_ble_eq_true rfl) rfl (fun C => tX12_opposite_0 C v0 rfl)
/-! RobotCellModel.full(J)J -/
def fX12_full (v0 : Int64) : Option Int64 :=
  Option.bind (fX12_bitsOf v0) (fun c4 => some (v0 <<< (((53 - c4) : Int32).toInt64 &&& 63)))
theorem oX12_full : ok_s yX12_full cX12_full 2 (some .long) 1 := ⟨kw_1245, kw_1244, kw_73, by decide +kernel⟩
set_option maxRecDepth 100000 in
theorem tX12_full_0 {p : Program} {l : Launch} {e : Env} {s : State} {m : MethodId} {args : Array Value} {below : List Frame} {meth : Method} {c : Code} (C : CC p s m args meth c yX12_full cX12_full 2 (some .long))  (v0 : Int64) {w : Int64} (hv : fX12_full v0 = some w) : PJ p l e s m args below meth c 2 1 (.long w) 0 [(0, .long v0)] [] := by
  unfold fX12_full at hv
  refine jr_lload_n C dX12_full_0 rfl 0 rfl ?_
  refine jr_bipush (v := 53) C dX12_full_1 (by decide) ?_
  refine jr_lload_n C dX12_full_3 rfl 0 rfl ?_
  obtain ⟨c4, hc4, hv⟩ := Option.bind_eq_some_iff.mp hv
  refine jr_pcall (rest := [.int 53, .long v0]) C (pX12_bitsOf l v0 hc4) oX12_bitsOf kw_1225 rfl ⟨Nat.le_of_ble_eq_true rfl, Nat.le_of_ble_eq_true rfl⟩ rfl (Nat.le_of_ble_eq_true rfl) ⟨Nat.zero_le _, Nat.zero_le _⟩ dX12_full_4 ?_
  refine jr_isub C dX12_full_7 ?_
  refine jr_lshl C dX12_full_8 ?_
  exact jp_lret C dX12_full_9 (congrArg Value.long (Option.some.inj hv)).symm
theorem pX12_full (l : Launch) (v0 : Int64) {w : Int64} (hw : fX12_full v0 = some w) : pu l yX12_full cX12_full 2 (some .long) 1 [.long v0] (.long w) := pu_of (by decide +kernel) (Nat.le_of_ble_eq_true rfl) rfl (fun C => tX12_full_0 C v0 hw)
/-! RobotCellModel.sum(JJ)J -/
def fX12_sum_34  : Option Int64 :=
  some 9221120237041090560
def fX12_sum_52 (v0 : Int64) (v2 : Int64) : Option Int64 :=
  if (fX12_isInfinite v0) = 0 then some v2 else some v0
def fX12_sum_105 (v0 : Int64) (v2 : Int64) : Option Int64 :=
  if (fX12_isZero v0) = 0 then some v0 else some v2
def fX12_sum_401 (v5 : Int64) (v14 : Int32) (v16 : Int64) (t0 : Int32) : Option Int64 :=
  Option.bind (fX12_made t0 v16 ((fX12_unit v5) - 9) v14) (fun c413 => some c413)
def fX12_sum_371 (v5 : Int64) (v14 : Int32) (v16 : Int64) (t0 : Int32) : Option Int64 :=
  Option.bind (fX12_made t0 (v16 >>> ((1 : Int32).toInt64 &&& 63)) ((fX12_unit v5) - 8) v14) (fun c385 => some c385)
def fX12_sum_357 (v5 : Int64) (v16 : Int64) (t0 : Int32) : Option Int64 :=
  if 0 ≤ v5 then fX12_sum_371 v5 t0 v16 0 else fX12_sum_371 v5 t0 v16 1
def fX12_sum_352 (v5 : Int64) (v16 : Int64) : Option Int64 :=
  fX12_sum_357 v5 v16 1
def fX12_sum_328 (v5 : Int64) (v14 : Int32) (v16 : Int64) : Option Int64 :=
  Option.bind (fX12_bitsOf v16) (fun c330 => if c330 = 63 then (if v14 = 0 then (if (v16 &&& 1) = 1 then fX12_sum_352 v5 v16 else fX12_sum_357 v5 v16 0) else fX12_sum_352 v5 v16) else (if 0 ≤ v5 then fX12_sum_401 v5 v14 v16 0 else fX12_sum_401 v5 v14 v16 1))
def fX12_sum_312 (v5 : Int64) (v14 : Int32) (t0 : Int64) : Option Int64 :=
  if t0 = 0 then (if v14 = 0 then some 0 else fX12_sum_328 v5 v14 t0) else fX12_sum_328 v5 v14 t0
def fX12_sum_311 (v5 : Int64) (v14 : Int32) (t0 : Int64) (t1 : Int64) : Option Int64 :=
  fX12_sum_312 v5 v14 (t0 - t1)
def fX12_sum_281 (v5 : Int64) (v10 : Int64) (v12 : Int64) (v14 : Int32) (t0 : Int32) : Option Int64 :=
  if t0 = 0 then (if v14 = 0 then fX12_sum_311 v5 v14 (v10 - v12) 0 else fX12_sum_311 v5 v14 (v10 - v12) 1) else fX12_sum_312 v5 v14 (v10 + v12)
def fX12_sum_273 (v5 : Int64) (v10 : Int64) (v12 : Int64) (v14 : Int32) (t0 : Int32) (t1 : Int32) : Option Int64 :=
  if t0 = t1 then fX12_sum_281 v5 v10 v12 v14 1 else fX12_sum_281 v5 v10 v12 v14 0
def fX12_sum_261 (v5 : Int64) (v7 : Int64) (v10 : Int64) (v12 : Int64) (v14 : Int32) (t0 : Int32) : Option Int64 :=
  if 0 ≤ v7 then fX12_sum_273 v5 v10 v12 v14 t0 0 else fX12_sum_273 v5 v10 v12 v14 t0 1
def fX12_sum_247 (v5 : Int64) (v7 : Int64) (v10 : Int64) (v14 : Int32) (t0 : Int64) : Option Int64 :=
  if 0 ≤ v5 then fX12_sum_261 v5 v7 v10 t0 v14 0 else fX12_sum_261 v5 v7 v10 t0 v14 1
def fX12_sum_229 (v5 : Int64) (v7 : Int64) (v9 : Int32) (v10 : Int64) (v12 : Int64) (t0 : Int32) : Option Int64 :=
  if v9 ≤ 62 then fX12_sum_247 v5 v7 v10 t0 (v12 >>> ((v9 : Int32).toInt64 &&& 63)) else fX12_sum_247 v5 v7 v10 t0 0
def fX12_sum_228 (v5 : Int64) (v7 : Int64) (v9 : Int32) (v10 : Int64) (v12 : Int64) : Option Int64 :=
  fX12_sum_229 v5 v7 v9 v10 v12 0
def fX12_sum_224 (v5 : Int64) (v7 : Int64) (v9 : Int32) (v10 : Int64) (v12 : Int64) : Option Int64 :=
  fX12_sum_229 v5 v7 v9 v10 v12 1
def fX12_sum_196 (v5 : Int64) (v7 : Int64) (v9 : Int32) (v10 : Int64) (v12 : Int64) : Option Int64 :=
  if v9 ≤ 9 then fX12_sum_228 v5 v7 v9 v10 v12 else (if 62 < v9 then fX12_sum_224 v5 v7 v9 v10 v12 else (if v12 = ((v12 >>> ((v9 : Int32).toInt64 &&& 63)) <<< ((v9 : Int32).toInt64 &&& 63)) then fX12_sum_228 v5 v7 v9 v10 v12 else fX12_sum_224 v5 v7 v9 v10 v12))
def fX12_sum_186 (v5 : Int64) (v7 : Int64) (v9 : Int32) (v10 : Int64) : Option Int64 :=
  fX12_sum_196 v5 v7 v9 v10 ((fX12_digits v7) <<< ((9 : Int32).toInt64 &&& 63))
def fX12_sum_176 (v5 : Int64) (v7 : Int64) (v9 : Int32) : Option Int64 :=
  fX12_sum_186 v5 v7 v9 ((fX12_digits v5) <<< ((9 : Int32).toInt64 &&& 63))
def fX12_sum_161 (v5 : Int64) (t0 : Int64) : Option Int64 :=
  fX12_sum_176 v5 t0 ((fX12_unit v5) - (fX12_unit t0))
def fX12_sum_149 (v0 : Int64) (v2 : Int64) (v4 : Int32) (t0 : Int64) : Option Int64 :=
  if v4 = 0 then fX12_sum_161 t0 v2 else fX12_sum_161 t0 v0
def fX12_sum_137 (v0 : Int64) (v2 : Int64) (t0 : Int32) : Option Int64 :=
  if t0 = 0 then fX12_sum_149 v0 v2 t0 v0 else fX12_sum_149 v0 v2 t0 v2
def fX12_sum_91 (v0 : Int64) (v2 : Int64) : Option Int64 :=
  if (fX12_isZero v0) = 0 then (if (fX12_isZero v2) = 0 then (if (v2 &&& 9223372036854775807) ≤ (v0 &&& 9223372036854775807) then fX12_sum_137 v0 v2 0 else fX12_sum_137 v0 v2 1) else fX12_sum_105 v0 v2) else fX12_sum_105 v0 v2
def fX12_sum_38 (v0 : Int64) (v2 : Int64) : Option Int64 :=
  if (fX12_isInfinite v0) = 0 then (if (fX12_isInfinite v2) = 0 then (if (fX12_isZero v0) = 0 then fX12_sum_91 v0 v2 else (if (fX12_isZero v2) = 0 then fX12_sum_91 v0 v2 else (if v0 = v2 then some v0 else some 0))) else fX12_sum_52 v0 v2) else fX12_sum_52 v0 v2
def fX12_sum (v0 : Int64) (v2 : Int64) : Option Int64 :=
  if (fX12_isLost v0) = 0 then (if (fX12_isLost v2) = 0 then (if (fX12_isInfinite v0) = 0 then fX12_sum_38 v0 v2 else (if (fX12_isInfinite v2) = 0 then fX12_sum_38 v0 v2 else (if v0 = v2 then fX12_sum_38 v0 v2 else fX12_sum_34))) else fX12_sum_34) else fX12_sum_34
theorem oX12_sum : ok_s yX12_sum cX12_sum 18 (some .long) 2 := ⟨kw_1255, kw_1254, kw_73, by decide +kernel⟩
set_option maxRecDepth 100000 in
theorem tX12_sum_34 {p : Program} {l : Launch} {e : Env} {s : State} {m : MethodId} {args : Array Value} {below : List Frame} {meth : Method} {c : Code} (C : CC p s m args meth c yX12_sum cX12_sum 18 (some .long))   {w : Int64} (hv : fX12_sum_34  = some w) : PJ p l e s m args below meth c 18 3 (.long w) 34 [] [] := by
  unfold fX12_sum_34 at hv
  refine jr_ldc2 C kw_1208 dX12_sum_34 ?_
  exact jp_lret C dX12_sum_37 (congrArg Value.long (Option.some.inj hv)).symm
set_option maxRecDepth 100000 in
theorem tX12_sum_52 {p : Program} {l : Launch} {e : Env} {s : State} {m : MethodId} {args : Array Value} {below : List Frame} {meth : Method} {c : Code} (C : CC p s m args meth c yX12_sum cX12_sum 18 (some .long))  (v0 : Int64) (v2 : Int64) {w : Int64} (hv : fX12_sum_52 v0 v2 = some w) : PJ p l e s m args below meth c 18 3 (.long w) 52 [(0, .long v0), (2, .long v2)] [] := by
  unfold fX12_sum_52 at hv
  refine jr_lload_n C dX12_sum_52 rfl 0 rfl ?_
  refine jr_pcall (rest := []) C (pX12_isInfinite l v0) oX12_isInfinite kw_1232 rfl ⟨Nat.le_of_ble_eq_true rfl, Nat.le_of_ble_eq_true rfl⟩ rfl (Nat.le_of_ble_eq_true rfl) ⟨Nat.zero_le _, Nat.zero_le _⟩ dX12_sum_53 ?_
  refine jr_if_eq (tgt := 63) C dX12_sum_56 rfl (fun q56 => ?_) (fun q56 => ?_)
  · have hv := (if_pos q56).symm.trans hv
    refine jr_lload_n C dX12_sum_63 rfl 1 rfl ?_
    exact jp_lret C dX12_sum_64 (congrArg Value.long (Option.some.inj hv)).symm
  · have hv := (if_neg q56).symm.trans hv
    refine jr_lload_n C dX12_sum_59 rfl 0 rfl ?_
    refine jr_goto (tgt := 64) C dX12_sum_60 rfl ?_
    exact jp_lret C dX12_sum_64 (congrArg Value.long (Option.some.inj hv)).symm
set_option maxRecDepth 100000 in
theorem tX12_sum_105 {p : Program} {l : Launch} {e : Env} {s : State} {m : MethodId} {args : Array Value} {below : List Frame} {meth : Method} {c : Code} (C : CC p s m args meth c yX12_sum cX12_sum 18 (some .long))  (v0 : Int64) (v2 : Int64) {w : Int64} (hv : fX12_sum_105 v0 v2 = some w) : PJ p l e s m args below meth c 18 3 (.long w) 105 [(0, .long v0), (2, .long v2)] [] := by
  unfold fX12_sum_105 at hv
  refine jr_lload_n C dX12_sum_105 rfl 0 rfl ?_
  refine jr_pcall (rest := []) C (pX12_isZero l v0) oX12_isZero kw_1235 rfl ⟨Nat.le_of_ble_eq_true rfl, Nat.le_of_ble_eq_true rfl⟩ rfl (Nat.le_of_ble_eq_true rfl) ⟨Nat.zero_le _, Nat.zero_le _⟩ dX12_sum_106 ?_
  refine jr_if_eq (tgt := 116) C dX12_sum_109 rfl (fun q109 => ?_) (fun q109 => ?_)
  · have hv := (if_pos q109).symm.trans hv
    refine jr_lload_n C dX12_sum_116 rfl 0 rfl ?_
    exact jp_lret C dX12_sum_117 (congrArg Value.long (Option.some.inj hv)).symm
  · have hv := (if_neg q109).symm.trans hv
    refine jr_lload_n C dX12_sum_112 rfl 1 rfl ?_
    refine jr_goto (tgt := 117) C dX12_sum_113 rfl ?_
    exact jp_lret C dX12_sum_117 (congrArg Value.long (Option.some.inj hv)).symm
set_option maxRecDepth 100000 in
theorem tX12_sum_401 {p : Program} {l : Launch} {e : Env} {s : State} {m : MethodId} {args : Array Value} {below : List Frame} {meth : Method} {c : Code} (C : CC p s m args meth c yX12_sum cX12_sum 18 (some .long))  (v5 : Int64) (v14 : Int32) (v16 : Int64) (t0 : Int32) {w : Int64} (hv : fX12_sum_401 v5 v14 v16 t0 = some w) : PJ p l e s m args below meth c 18 3 (.long w) 401 [(5, .long v5), (14, .int v14), (16, .long v16)] [.int t0] := by
  unfold fX12_sum_401 at hv
  refine jr_lload C dX12_sum_401 2 rfl ?_
  refine jr_lload C dX12_sum_403 0 rfl ?_
  refine jr_pcall (rest := [.long v16, .int t0]) C (pX12_unit l v5) oX12_unit kw_1246 rfl ⟨Nat.le_of_ble_eq_true rfl, Nat.le_of_ble_eq_true rfl⟩ rfl (Nat.le_of_ble_eq_true rfl) ⟨Nat.zero_le _, Nat.zero_le _⟩ dX12_sum_405 ?_
  refine jr_bipush (v := 9) C dX12_sum_408 (by decide) ?_
  refine jr_isub C dX12_sum_410 ?_
  refine jr_iload C dX12_sum_411 1 rfl ?_
  obtain ⟨c413, hc413, hv⟩ := Option.bind_eq_some_iff.mp hv
  refine jr_pcall (rest := []) C (pX12_made l t0 v16 ((fX12_unit v5) - 9) v14 hc413) oX12_made kw_1250 rfl ⟨Nat.le_of_ble_eq_true rfl, Nat.le_of_ble_eq_true rfl⟩ rfl (Nat.le_of_ble_eq_true rfl) ⟨Nat.zero_le _, Nat.zero_le _⟩ dX12_sum_413 ?_
  exact jp_lret C dX12_sum_416 (congrArg Value.long (Option.some.inj hv)).symm
set_option maxRecDepth 100000 in
theorem tX12_sum_371 {p : Program} {l : Launch} {e : Env} {s : State} {m : MethodId} {args : Array Value} {below : List Frame} {meth : Method} {c : Code} (C : CC p s m args meth c yX12_sum cX12_sum 18 (some .long))  (v5 : Int64) (v14 : Int32) (v16 : Int64) (t0 : Int32) {w : Int64} (hv : fX12_sum_371 v5 v14 v16 t0 = some w) : PJ p l e s m args below meth c 18 3 (.long w) 371 [(5, .long v5), (14, .int v14), (16, .long v16)] [.int t0] := by
  unfold fX12_sum_371 at hv
  refine jr_lload C dX12_sum_371 2 rfl ?_
  refine jr_iconst (v := 1) C dX12_sum_373 (by decide) ?_
  refine jr_lshr C dX12_sum_374 ?_
  refine jr_lload C dX12_sum_375 0 rfl ?_
  refine jr_pcall (rest := [.long (v16 >>> ((1 : Int32).toInt64 &&& 63)), .int t0]) C (pX12_unit l v5) oX12_unit kw_1246 rfl ⟨Nat.le_of_ble_eq_true rfl, Nat.le_of_ble_eq_true rfl⟩ rfl (Nat.le_of_ble_eq_true rfl) ⟨Nat.zero_le _, Nat.zero_le _⟩ dX12_sum_377 ?_
  refine jr_bipush (v := 8) C dX12_sum_380 (by decide) ?_
  refine jr_isub C dX12_sum_382 ?_
  refine jr_iload C dX12_sum_383 1 rfl ?_
  obtain ⟨c385, hc385, hv⟩ := Option.bind_eq_some_iff.mp hv
  refine jr_pcall (rest := []) C (pX12_made l t0 (v16 >>> ((1 : Int32).toInt64 &&& 63)) ((fX12_unit v5) - 8) v14 hc385) oX12_made kw_1250 rfl ⟨Nat.le_of_ble_eq_true rfl, Nat.le_of_ble_eq_true rfl⟩ rfl (Nat.le_of_ble_eq_true rfl) ⟨Nat.zero_le _, Nat.zero_le _⟩ dX12_sum_385 ?_
  exact jp_lret C dX12_sum_388 (congrArg Value.long (Option.some.inj hv)).symm
set_option maxRecDepth 100000 in
theorem tX12_sum_357 {p : Program} {l : Launch} {e : Env} {s : State} {m : MethodId} {args : Array Value} {below : List Frame} {meth : Method} {c : Code} (C : CC p s m args meth c yX12_sum cX12_sum 18 (some .long))  (v5 : Int64) (v16 : Int64) (t0 : Int32) {w : Int64} (hv : fX12_sum_357 v5 v16 t0 = some w) : PJ p l e s m args below meth c 18 3 (.long w) 357 [(5, .long v5), (16, .long v16)] [.int t0] := by
  unfold fX12_sum_357 at hv
  refine jr_istore (lv' := [(14, .int t0), (5, .long v5), (16, .long v16)]) C dX12_sum_357 (by decide) rfl ?_
  refine jr_lload C dX12_sum_359 1 rfl ?_
  refine jr_lconst (v := 0) C dX12_sum_361 (by decide) ?_
  refine jr_lcmp_ge (tgt := 370) C dX12_sum_362 dX12_sum_363 rfl (fun q362 => ?_) (fun q362 => ?_)
  · have hv := (if_pos q362).symm.trans hv
    refine jr_iconst (v := 0) C dX12_sum_370 (by decide) ?_
    exact jr_sub [1, 0, 2] rfl (tX12_sum_371 C  v5 t0 v16 0 hv)
  · have hv := (if_neg q362).symm.trans hv
    refine jr_iconst (v := 1) C dX12_sum_366 (by decide) ?_
    refine jr_goto (tgt := 371) C dX12_sum_367 rfl ?_
    exact jr_sub [1, 0, 2] rfl (tX12_sum_371 C  v5 t0 v16 1 hv)
set_option maxRecDepth 100000 in
theorem tX12_sum_352 {p : Program} {l : Launch} {e : Env} {s : State} {m : MethodId} {args : Array Value} {below : List Frame} {meth : Method} {c : Code} (C : CC p s m args meth c yX12_sum cX12_sum 18 (some .long))  (v5 : Int64) (v16 : Int64) {w : Int64} (hv : fX12_sum_352 v5 v16 = some w) : PJ p l e s m args below meth c 18 3 (.long w) 352 [(5, .long v5), (16, .long v16)] [] := by
  unfold fX12_sum_352 at hv
  refine jr_iconst (v := 1) C dX12_sum_352 (by decide) ?_
  refine jr_goto (tgt := 357) C dX12_sum_353 rfl ?_
  exact tX12_sum_357 C  v5 v16 1 hv
set_option maxRecDepth 100000 in
theorem tX12_sum_328 {p : Program} {l : Launch} {e : Env} {s : State} {m : MethodId} {args : Array Value} {below : List Frame} {meth : Method} {c : Code} (C : CC p s m args meth c yX12_sum cX12_sum 18 (some .long))  (v5 : Int64) (v14 : Int32) (v16 : Int64) {w : Int64} (hv : fX12_sum_328 v5 v14 v16 = some w) : PJ p l e s m args below meth c 18 3 (.long w) 328 [(5, .long v5), (14, .int v14), (16, .long v16)] [] := by
  unfold fX12_sum_328 at hv
  refine jr_lload C dX12_sum_328 2 rfl ?_
  obtain ⟨c330, hc330, hv⟩ := Option.bind_eq_some_iff.mp hv
  refine jr_pcall (rest := []) C (pX12_bitsOf l v16 hc330) oX12_bitsOf kw_1225 rfl ⟨Nat.le_of_ble_eq_true rfl, Nat.le_of_ble_eq_true rfl⟩ rfl (Nat.le_of_ble_eq_true rfl) ⟨Nat.zero_le _, Nat.zero_le _⟩ dX12_sum_330 ?_
  refine jr_bipush (v := 63) C dX12_sum_333 (by decide) ?_
  refine jr_icmp_ne (tgt := 389) C dX12_sum_335 rfl (fun q335 => ?_) (fun q335 => ?_)
  · have hv := (if_neg q335).symm.trans hv
    refine jr_lload C dX12_sum_389 0 rfl ?_
    refine jr_lconst (v := 0) C dX12_sum_391 (by decide) ?_
    refine jr_lcmp_ge (tgt := 400) C dX12_sum_392 dX12_sum_393 rfl (fun q392 => ?_) (fun q392 => ?_)
    · have hv := (if_pos q392).symm.trans hv
      refine jr_iconst (v := 0) C dX12_sum_400 (by decide) ?_
      exact tX12_sum_401 C  v5 v14 v16 0 hv
    · have hv := (if_neg q392).symm.trans hv
      refine jr_iconst (v := 1) C dX12_sum_396 (by decide) ?_
      refine jr_goto (tgt := 401) C dX12_sum_397 rfl ?_
      exact tX12_sum_401 C  v5 v14 v16 1 hv
  · have hv := (if_pos q335).symm.trans hv
    refine jr_iload C dX12_sum_338 1 rfl ?_
    refine jr_if_ne (tgt := 352) C dX12_sum_340 rfl (fun q340 => ?_) (fun q340 => ?_)
    · have hv := (if_neg q340).symm.trans hv
      exact jr_sub [0, 2] rfl (tX12_sum_352 C  v5 v16 hv)
    · have hv := (if_pos q340).symm.trans hv
      refine jr_lload C dX12_sum_343 2 rfl ?_
      refine jr_lconst (v := 1) C dX12_sum_345 (by decide) ?_
      refine jr_land C dX12_sum_346 ?_
      refine jr_lconst (v := 1) C dX12_sum_347 (by decide) ?_
      refine jr_lcmp_ne (tgt := 356) C dX12_sum_348 dX12_sum_349 rfl (fun q348 => ?_) (fun q348 => ?_)
      · have hv := (if_neg q348).symm.trans hv
        refine jr_iconst (v := 0) C dX12_sum_356 (by decide) ?_
        exact jr_sub [0, 2] rfl (tX12_sum_357 C  v5 v16 0 hv)
      · have hv := (if_pos q348).symm.trans hv
        exact jr_sub [0, 2] rfl (tX12_sum_352 C  v5 v16 hv)
set_option maxRecDepth 100000 in
theorem tX12_sum_312 {p : Program} {l : Launch} {e : Env} {s : State} {m : MethodId} {args : Array Value} {below : List Frame} {meth : Method} {c : Code} (C : CC p s m args meth c yX12_sum cX12_sum 18 (some .long))  (v5 : Int64) (v14 : Int32) (t0 : Int64) {w : Int64} (hv : fX12_sum_312 v5 v14 t0 = some w) : PJ p l e s m args below meth c 18 3 (.long w) 312 [(5, .long v5), (14, .int v14)] [.long t0] := by
  unfold fX12_sum_312 at hv
  refine jr_lstore (lv' := [(16, .long t0), (5, .long v5), (14, .int v14)]) C dX12_sum_312 (by decide) rfl ?_
  refine jr_lload C dX12_sum_314 0 rfl ?_
  refine jr_lconst (v := 0) C dX12_sum_316 (by decide) ?_
  refine jr_lcmp_ne (tgt := 328) C dX12_sum_317 dX12_sum_318 rfl (fun q317 => ?_) (fun q317 => ?_)
  · have hv := (if_neg q317).symm.trans hv
    exact jr_sub [1, 2, 0] rfl (tX12_sum_328 C  v5 v14 t0 hv)
  · have hv := (if_pos q317).symm.trans hv
    refine jr_iload C dX12_sum_321 2 rfl ?_
    refine jr_if_ne (tgt := 328) C dX12_sum_323 rfl (fun q323 => ?_) (fun q323 => ?_)
    · have hv := (if_neg q323).symm.trans hv
      exact jr_sub [1, 2, 0] rfl (tX12_sum_328 C  v5 v14 t0 hv)
    · have hv := (if_pos q323).symm.trans hv
      refine jr_lconst (v := 0) C dX12_sum_326 (by decide) ?_
      exact jp_lret C dX12_sum_327 (congrArg Value.long (Option.some.inj hv)).symm
set_option maxRecDepth 100000 in
theorem tX12_sum_311 {p : Program} {l : Launch} {e : Env} {s : State} {m : MethodId} {args : Array Value} {below : List Frame} {meth : Method} {c : Code} (C : CC p s m args meth c yX12_sum cX12_sum 18 (some .long))  (v5 : Int64) (v14 : Int32) (t0 : Int64) (t1 : Int64) {w : Int64} (hv : fX12_sum_311 v5 v14 t0 t1 = some w) : PJ p l e s m args below meth c 18 3 (.long w) 311 [(5, .long v5), (14, .int v14)] [.long t1, .long t0] := by
  unfold fX12_sum_311 at hv
  refine jr_lsub C dX12_sum_311 ?_
  exact tX12_sum_312 C  v5 v14 (t0 - t1) hv
set_option maxRecDepth 100000 in
theorem tX12_sum_281 {p : Program} {l : Launch} {e : Env} {s : State} {m : MethodId} {args : Array Value} {below : List Frame} {meth : Method} {c : Code} (C : CC p s m args meth c yX12_sum cX12_sum 18 (some .long))  (v5 : Int64) (v10 : Int64) (v12 : Int64) (v14 : Int32) (t0 : Int32) {w : Int64} (hv : fX12_sum_281 v5 v10 v12 v14 t0 = some w) : PJ p l e s m args below meth c 18 3 (.long w) 281 [(5, .long v5), (10, .long v10), (12, .long v12), (14, .int v14)] [.int t0] := by
  unfold fX12_sum_281 at hv
  refine jr_istore (lv' := [(15, .int t0), (5, .long v5), (10, .long v10), (12, .long v12), (14, .int v14)]) C dX12_sum_281 (by decide) rfl ?_
  refine jr_iload C dX12_sum_283 0 rfl ?_
  refine jr_if_eq (tgt := 296) C dX12_sum_285 rfl (fun q285 => ?_) (fun q285 => ?_)
  · have hv := (if_pos q285).symm.trans hv
    refine jr_lload C dX12_sum_296 2 rfl ?_
    refine jr_lload C dX12_sum_298 3 rfl ?_
    refine jr_lsub C dX12_sum_300 ?_
    refine jr_iload C dX12_sum_301 4 rfl ?_
    refine jr_if_eq (tgt := 310) C dX12_sum_303 rfl (fun q303 => ?_) (fun q303 => ?_)
    · have hv := (if_pos q303).symm.trans hv
      refine jr_lconst (v := 0) C dX12_sum_310 (by decide) ?_
      exact jr_sub [1, 4] rfl (tX12_sum_311 C  v5 v14 (v10 - v12) 0 hv)
    · have hv := (if_neg q303).symm.trans hv
      refine jr_lconst (v := 1) C dX12_sum_306 (by decide) ?_
      refine jr_goto (tgt := 311) C dX12_sum_307 rfl ?_
      exact jr_sub [1, 4] rfl (tX12_sum_311 C  v5 v14 (v10 - v12) 1 hv)
  · have hv := (if_neg q285).symm.trans hv
    refine jr_lload C dX12_sum_288 2 rfl ?_
    refine jr_lload C dX12_sum_290 3 rfl ?_
    refine jr_ladd C dX12_sum_292 ?_
    refine jr_goto (tgt := 312) C dX12_sum_293 rfl ?_
    exact jr_sub [1, 4] rfl (tX12_sum_312 C  v5 v14 (v10 + v12) hv)
set_option maxRecDepth 100000 in
theorem tX12_sum_273 {p : Program} {l : Launch} {e : Env} {s : State} {m : MethodId} {args : Array Value} {below : List Frame} {meth : Method} {c : Code} (C : CC p s m args meth c yX12_sum cX12_sum 18 (some .long))  (v5 : Int64) (v10 : Int64) (v12 : Int64) (v14 : Int32) (t0 : Int32) (t1 : Int32) {w : Int64} (hv : fX12_sum_273 v5 v10 v12 v14 t0 t1 = some w) : PJ p l e s m args below meth c 18 3 (.long w) 273 [(5, .long v5), (10, .long v10), (12, .long v12), (14, .int v14)] [.int t1, .int t0] := by
  unfold fX12_sum_273 at hv
  refine jr_icmp_ne (tgt := 280) C dX12_sum_273 rfl (fun q273 => ?_) (fun q273 => ?_)
  · have hv := (if_neg q273).symm.trans hv
    refine jr_iconst (v := 0) C dX12_sum_280 (by decide) ?_
    exact tX12_sum_281 C  v5 v10 v12 v14 0 hv
  · have hv := (if_pos q273).symm.trans hv
    refine jr_iconst (v := 1) C dX12_sum_276 (by decide) ?_
    refine jr_goto (tgt := 281) C dX12_sum_277 rfl ?_
    exact tX12_sum_281 C  v5 v10 v12 v14 1 hv
set_option maxRecDepth 100000 in
theorem tX12_sum_261 {p : Program} {l : Launch} {e : Env} {s : State} {m : MethodId} {args : Array Value} {below : List Frame} {meth : Method} {c : Code} (C : CC p s m args meth c yX12_sum cX12_sum 18 (some .long))  (v5 : Int64) (v7 : Int64) (v10 : Int64) (v12 : Int64) (v14 : Int32) (t0 : Int32) {w : Int64} (hv : fX12_sum_261 v5 v7 v10 v12 v14 t0 = some w) : PJ p l e s m args below meth c 18 3 (.long w) 261 [(5, .long v5), (7, .long v7), (10, .long v10), (12, .long v12), (14, .int v14)] [.int t0] := by
  unfold fX12_sum_261 at hv
  refine jr_lload C dX12_sum_261 1 rfl ?_
  refine jr_lconst (v := 0) C dX12_sum_263 (by decide) ?_
  refine jr_lcmp_ge (tgt := 272) C dX12_sum_264 dX12_sum_265 rfl (fun q264 => ?_) (fun q264 => ?_)
  · have hv := (if_pos q264).symm.trans hv
    refine jr_iconst (v := 0) C dX12_sum_272 (by decide) ?_
    exact jr_sub [0, 2, 3, 4] rfl (tX12_sum_273 C  v5 v10 v12 v14 t0 0 hv)
  · have hv := (if_neg q264).symm.trans hv
    refine jr_iconst (v := 1) C dX12_sum_268 (by decide) ?_
    refine jr_goto (tgt := 273) C dX12_sum_269 rfl ?_
    exact jr_sub [0, 2, 3, 4] rfl (tX12_sum_273 C  v5 v10 v12 v14 t0 1 hv)
set_option maxRecDepth 100000 in
theorem tX12_sum_247 {p : Program} {l : Launch} {e : Env} {s : State} {m : MethodId} {args : Array Value} {below : List Frame} {meth : Method} {c : Code} (C : CC p s m args meth c yX12_sum cX12_sum 18 (some .long))  (v5 : Int64) (v7 : Int64) (v10 : Int64) (v14 : Int32) (t0 : Int64) {w : Int64} (hv : fX12_sum_247 v5 v7 v10 v14 t0 = some w) : PJ p l e s m args below meth c 18 3 (.long w) 247 [(5, .long v5), (7, .long v7), (10, .long v10), (14, .int v14)] [.long t0] := by
  unfold fX12_sum_247 at hv
  refine jr_lstore (lv' := [(12, .long t0), (5, .long v5), (7, .long v7), (10, .long v10), (14, .int v14)]) C dX12_sum_247 (by decide) rfl ?_
  refine jr_lload C dX12_sum_249 1 rfl ?_
  refine jr_lconst (v := 0) C dX12_sum_251 (by decide) ?_
  refine jr_lcmp_ge (tgt := 260) C dX12_sum_252 dX12_sum_253 rfl (fun q252 => ?_) (fun q252 => ?_)
  · have hv := (if_pos q252).symm.trans hv
    refine jr_iconst (v := 0) C dX12_sum_260 (by decide) ?_
    exact jr_sub [1, 2, 3, 0, 4] rfl (tX12_sum_261 C  v5 v7 v10 t0 v14 0 hv)
  · have hv := (if_neg q252).symm.trans hv
    refine jr_iconst (v := 1) C dX12_sum_256 (by decide) ?_
    refine jr_goto (tgt := 261) C dX12_sum_257 rfl ?_
    exact jr_sub [1, 2, 3, 0, 4] rfl (tX12_sum_261 C  v5 v7 v10 t0 v14 1 hv)
set_option maxRecDepth 100000 in
theorem tX12_sum_229 {p : Program} {l : Launch} {e : Env} {s : State} {m : MethodId} {args : Array Value} {below : List Frame} {meth : Method} {c : Code} (C : CC p s m args meth c yX12_sum cX12_sum 18 (some .long))  (v5 : Int64) (v7 : Int64) (v9 : Int32) (v10 : Int64) (v12 : Int64) (t0 : Int32) {w : Int64} (hv : fX12_sum_229 v5 v7 v9 v10 v12 t0 = some w) : PJ p l e s m args below meth c 18 3 (.long w) 229 [(5, .long v5), (7, .long v7), (9, .int v9), (10, .long v10), (12, .long v12)] [.int t0] := by
  unfold fX12_sum_229 at hv
  refine jr_istore (lv' := [(14, .int t0), (5, .long v5), (7, .long v7), (9, .int v9), (10, .long v10), (12, .long v12)]) C dX12_sum_229 (by decide) rfl ?_
  refine jr_iload C dX12_sum_231 3 rfl ?_
  refine jr_bipush (v := 62) C dX12_sum_233 (by decide) ?_
  refine jr_icmp_le (tgt := 242) C dX12_sum_235 rfl (fun q235 => ?_) (fun q235 => ?_)
  · have hv := (if_pos q235).symm.trans hv
    refine jr_lload C dX12_sum_242 5 rfl ?_
    refine jr_iload C dX12_sum_244 3 rfl ?_
    refine jr_lshr C dX12_sum_246 ?_
    exact jr_sub [1, 2, 4, 0] rfl (tX12_sum_247 C  v5 v7 v10 t0 (v12 >>> ((v9 : Int32).toInt64 &&& 63)) hv)
  · have hv := (if_neg q235).symm.trans hv
    refine jr_lconst (v := 0) C dX12_sum_238 (by decide) ?_
    refine jr_goto (tgt := 247) C dX12_sum_239 rfl ?_
    exact jr_sub [1, 2, 4, 0] rfl (tX12_sum_247 C  v5 v7 v10 t0 0 hv)
set_option maxRecDepth 100000 in
theorem tX12_sum_228 {p : Program} {l : Launch} {e : Env} {s : State} {m : MethodId} {args : Array Value} {below : List Frame} {meth : Method} {c : Code} (C : CC p s m args meth c yX12_sum cX12_sum 18 (some .long))  (v5 : Int64) (v7 : Int64) (v9 : Int32) (v10 : Int64) (v12 : Int64) {w : Int64} (hv : fX12_sum_228 v5 v7 v9 v10 v12 = some w) : PJ p l e s m args below meth c 18 3 (.long w) 228 [(5, .long v5), (7, .long v7), (9, .int v9), (10, .long v10), (12, .long v12)] [] := by
  unfold fX12_sum_228 at hv
  refine jr_iconst (v := 0) C dX12_sum_228 (by decide) ?_
  exact tX12_sum_229 C  v5 v7 v9 v10 v12 0 hv
set_option maxRecDepth 100000 in
theorem tX12_sum_224 {p : Program} {l : Launch} {e : Env} {s : State} {m : MethodId} {args : Array Value} {below : List Frame} {meth : Method} {c : Code} (C : CC p s m args meth c yX12_sum cX12_sum 18 (some .long))  (v5 : Int64) (v7 : Int64) (v9 : Int32) (v10 : Int64) (v12 : Int64) {w : Int64} (hv : fX12_sum_224 v5 v7 v9 v10 v12 = some w) : PJ p l e s m args below meth c 18 3 (.long w) 224 [(5, .long v5), (7, .long v7), (9, .int v9), (10, .long v10), (12, .long v12)] [] := by
  unfold fX12_sum_224 at hv
  refine jr_iconst (v := 1) C dX12_sum_224 (by decide) ?_
  refine jr_goto (tgt := 229) C dX12_sum_225 rfl ?_
  exact tX12_sum_229 C  v5 v7 v9 v10 v12 1 hv
set_option maxRecDepth 100000 in
theorem tX12_sum_196 {p : Program} {l : Launch} {e : Env} {s : State} {m : MethodId} {args : Array Value} {below : List Frame} {meth : Method} {c : Code} (C : CC p s m args meth c yX12_sum cX12_sum 18 (some .long))  (v5 : Int64) (v7 : Int64) (v9 : Int32) (v10 : Int64) (v12 : Int64) {w : Int64} (hv : fX12_sum_196 v5 v7 v9 v10 v12 = some w) : PJ p l e s m args below meth c 18 3 (.long w) 196 [(5, .long v5), (7, .long v7), (9, .int v9), (10, .long v10), (12, .long v12)] [] := by
  unfold fX12_sum_196 at hv
  refine jr_iload C dX12_sum_196 2 rfl ?_
  refine jr_bipush (v := 9) C dX12_sum_198 (by decide) ?_
  refine jr_icmp_le (tgt := 228) C dX12_sum_200 rfl (fun q200 => ?_) (fun q200 => ?_)
  · have hv := (if_pos q200).symm.trans hv
    exact tX12_sum_228 C  v5 v7 v9 v10 v12 hv
  · have hv := (if_neg q200).symm.trans hv
    refine jr_iload C dX12_sum_203 2 rfl ?_
    refine jr_bipush (v := 62) C dX12_sum_205 (by decide) ?_
    refine jr_icmp_gt (tgt := 224) C dX12_sum_207 rfl (fun q207 => ?_) (fun q207 => ?_)
    · have hv := (if_pos q207).symm.trans hv
      exact tX12_sum_224 C  v5 v7 v9 v10 v12 hv
    · have hv := (if_neg q207).symm.trans hv
      refine jr_lload C dX12_sum_210 4 rfl ?_
      refine jr_lload C dX12_sum_212 4 rfl ?_
      refine jr_iload C dX12_sum_214 2 rfl ?_
      refine jr_lshr C dX12_sum_216 ?_
      refine jr_iload C dX12_sum_217 2 rfl ?_
      refine jr_lshl C dX12_sum_219 ?_
      refine jr_lcmp_eq (tgt := 228) C dX12_sum_220 dX12_sum_221 rfl (fun q220 => ?_) (fun q220 => ?_)
      · have hv := (if_pos q220).symm.trans hv
        exact tX12_sum_228 C  v5 v7 v9 v10 v12 hv
      · have hv := (if_neg q220).symm.trans hv
        exact tX12_sum_224 C  v5 v7 v9 v10 v12 hv
set_option maxRecDepth 100000 in
theorem tX12_sum_186 {p : Program} {l : Launch} {e : Env} {s : State} {m : MethodId} {args : Array Value} {below : List Frame} {meth : Method} {c : Code} (C : CC p s m args meth c yX12_sum cX12_sum 18 (some .long))  (v5 : Int64) (v7 : Int64) (v9 : Int32) (v10 : Int64) {w : Int64} (hv : fX12_sum_186 v5 v7 v9 v10 = some w) : PJ p l e s m args below meth c 18 3 (.long w) 186 [(5, .long v5), (7, .long v7), (9, .int v9), (10, .long v10)] [] := by
  unfold fX12_sum_186 at hv
  refine jr_lload C dX12_sum_186 1 rfl ?_
  refine jr_pcall (rest := []) C (pX12_digits l v7) oX12_digits kw_1239 rfl ⟨Nat.le_of_ble_eq_true rfl, Nat.le_of_ble_eq_true rfl⟩ rfl (Nat.le_of_ble_eq_true rfl) ⟨Nat.zero_le _, Nat.zero_le _⟩ dX12_sum_188 ?_
  refine jr_bipush (v := 9) C dX12_sum_191 (by decide) ?_
  refine jr_lshl C dX12_sum_193 ?_
  refine jr_lstore (lv' := [(12, .long ((fX12_digits v7) <<< ((9 : Int32).toInt64 &&& 63))), (5, .long v5), (7, .long v7), (9, .int v9), (10, .long v10)]) C dX12_sum_194 (by decide) rfl ?_
  exact jr_sub [1, 2, 3, 4, 0] rfl (tX12_sum_196 C  v5 v7 v9 v10 ((fX12_digits v7) <<< ((9 : Int32).toInt64 &&& 63)) hv)
set_option maxRecDepth 100000 in
theorem tX12_sum_176 {p : Program} {l : Launch} {e : Env} {s : State} {m : MethodId} {args : Array Value} {below : List Frame} {meth : Method} {c : Code} (C : CC p s m args meth c yX12_sum cX12_sum 18 (some .long))  (v5 : Int64) (v7 : Int64) (v9 : Int32) {w : Int64} (hv : fX12_sum_176 v5 v7 v9 = some w) : PJ p l e s m args below meth c 18 3 (.long w) 176 [(5, .long v5), (7, .long v7), (9, .int v9)] [] := by
  unfold fX12_sum_176 at hv
  refine jr_lload C dX12_sum_176 0 rfl ?_
  refine jr_pcall (rest := []) C (pX12_digits l v5) oX12_digits kw_1239 rfl ⟨Nat.le_of_ble_eq_true rfl, Nat.le_of_ble_eq_true rfl⟩ rfl (Nat.le_of_ble_eq_true rfl) ⟨Nat.zero_le _, Nat.zero_le _⟩ dX12_sum_178 ?_
  refine jr_bipush (v := 9) C dX12_sum_181 (by decide) ?_
  refine jr_lshl C dX12_sum_183 ?_
  refine jr_lstore (lv' := [(10, .long ((fX12_digits v5) <<< ((9 : Int32).toInt64 &&& 63))), (5, .long v5), (7, .long v7), (9, .int v9)]) C dX12_sum_184 (by decide) rfl ?_
  exact jr_sub [1, 2, 3, 0] rfl (tX12_sum_186 C  v5 v7 v9 ((fX12_digits v5) <<< ((9 : Int32).toInt64 &&& 63)) hv)
set_option maxRecDepth 100000 in
theorem tX12_sum_161 {p : Program} {l : Launch} {e : Env} {s : State} {m : MethodId} {args : Array Value} {below : List Frame} {meth : Method} {c : Code} (C : CC p s m args meth c yX12_sum cX12_sum 18 (some .long))  (v5 : Int64) (t0 : Int64) {w : Int64} (hv : fX12_sum_161 v5 t0 = some w) : PJ p l e s m args below meth c 18 3 (.long w) 161 [(5, .long v5)] [.long t0] := by
  unfold fX12_sum_161 at hv
  refine jr_lstore (lv' := [(7, .long t0), (5, .long v5)]) C dX12_sum_161 (by decide) rfl ?_
  refine jr_lload C dX12_sum_163 1 rfl ?_
  refine jr_pcall (rest := []) C (pX12_unit l v5) oX12_unit kw_1246 rfl ⟨Nat.le_of_ble_eq_true rfl, Nat.le_of_ble_eq_true rfl⟩ rfl (Nat.le_of_ble_eq_true rfl) ⟨Nat.zero_le _, Nat.zero_le _⟩ dX12_sum_165 ?_
  refine jr_lload C dX12_sum_168 0 rfl ?_
  refine jr_pcall (rest := [.int (fX12_unit v5)]) C (pX12_unit l t0) oX12_unit kw_1246 rfl ⟨Nat.le_of_ble_eq_true rfl, Nat.le_of_ble_eq_true rfl⟩ rfl (Nat.le_of_ble_eq_true rfl) ⟨Nat.zero_le _, Nat.zero_le _⟩ dX12_sum_170 ?_
  refine jr_isub C dX12_sum_173 ?_
  refine jr_istore (lv' := [(9, .int ((fX12_unit v5) - (fX12_unit t0))), (7, .long t0), (5, .long v5)]) C dX12_sum_174 (by decide) rfl ?_
  exact jr_sub [2, 1, 0] rfl (tX12_sum_176 C  v5 t0 ((fX12_unit v5) - (fX12_unit t0)) hv)
set_option maxRecDepth 100000 in
theorem tX12_sum_149 {p : Program} {l : Launch} {e : Env} {s : State} {m : MethodId} {args : Array Value} {below : List Frame} {meth : Method} {c : Code} (C : CC p s m args meth c yX12_sum cX12_sum 18 (some .long))  (v0 : Int64) (v2 : Int64) (v4 : Int32) (t0 : Int64) {w : Int64} (hv : fX12_sum_149 v0 v2 v4 t0 = some w) : PJ p l e s m args below meth c 18 3 (.long w) 149 [(0, .long v0), (2, .long v2), (4, .int v4)] [.long t0] := by
  unfold fX12_sum_149 at hv
  refine jr_lstore (lv' := [(5, .long t0), (0, .long v0), (2, .long v2), (4, .int v4)]) C dX12_sum_149 (by decide) rfl ?_
  refine jr_iload C dX12_sum_151 3 rfl ?_
  refine jr_if_eq (tgt := 160) C dX12_sum_153 rfl (fun q153 => ?_) (fun q153 => ?_)
  · have hv := (if_pos q153).symm.trans hv
    refine jr_lload_n C dX12_sum_160 rfl 2 rfl ?_
    exact jr_sub [0] rfl (tX12_sum_161 C  t0 v2 hv)
  · have hv := (if_neg q153).symm.trans hv
    refine jr_lload_n C dX12_sum_156 rfl 1 rfl ?_
    refine jr_goto (tgt := 161) C dX12_sum_157 rfl ?_
    exact jr_sub [0] rfl (tX12_sum_161 C  t0 v0 hv)
set_option maxRecDepth 100000 in
theorem tX12_sum_137 {p : Program} {l : Launch} {e : Env} {s : State} {m : MethodId} {args : Array Value} {below : List Frame} {meth : Method} {c : Code} (C : CC p s m args meth c yX12_sum cX12_sum 18 (some .long))  (v0 : Int64) (v2 : Int64) (t0 : Int32) {w : Int64} (hv : fX12_sum_137 v0 v2 t0 = some w) : PJ p l e s m args below meth c 18 3 (.long w) 137 [(0, .long v0), (2, .long v2)] [.int t0] := by
  unfold fX12_sum_137 at hv
  refine jr_istore (lv' := [(4, .int t0), (0, .long v0), (2, .long v2)]) C dX12_sum_137 (by decide) rfl ?_
  refine jr_iload C dX12_sum_139 0 rfl ?_
  refine jr_if_eq (tgt := 148) C dX12_sum_141 rfl (fun q141 => ?_) (fun q141 => ?_)
  · have hv := (if_pos q141).symm.trans hv
    refine jr_lload_n C dX12_sum_148 rfl 1 rfl ?_
    exact jr_sub [1, 2, 0] rfl (tX12_sum_149 C  v0 v2 t0 v0 hv)
  · have hv := (if_neg q141).symm.trans hv
    refine jr_lload_n C dX12_sum_144 rfl 2 rfl ?_
    refine jr_goto (tgt := 149) C dX12_sum_145 rfl ?_
    exact jr_sub [1, 2, 0] rfl (tX12_sum_149 C  v0 v2 t0 v2 hv)
set_option maxRecDepth 100000 in
theorem tX12_sum_91 {p : Program} {l : Launch} {e : Env} {s : State} {m : MethodId} {args : Array Value} {below : List Frame} {meth : Method} {c : Code} (C : CC p s m args meth c yX12_sum cX12_sum 18 (some .long))  (v0 : Int64) (v2 : Int64) {w : Int64} (hv : fX12_sum_91 v0 v2 = some w) : PJ p l e s m args below meth c 18 3 (.long w) 91 [(0, .long v0), (2, .long v2)] [] := by
  unfold fX12_sum_91 at hv
  refine jr_lload_n C dX12_sum_91 rfl 0 rfl ?_
  refine jr_pcall (rest := []) C (pX12_isZero l v0) oX12_isZero kw_1235 rfl ⟨Nat.le_of_ble_eq_true rfl, Nat.le_of_ble_eq_true rfl⟩ rfl (Nat.le_of_ble_eq_true rfl) ⟨Nat.zero_le _, Nat.zero_le _⟩ dX12_sum_92 ?_
  refine jr_if_ne (tgt := 105) C dX12_sum_95 rfl (fun q95 => ?_) (fun q95 => ?_)
  · have hv := (if_neg q95).symm.trans hv
    exact tX12_sum_105 C  v0 v2 hv
  · have hv := (if_pos q95).symm.trans hv
    refine jr_lload_n C dX12_sum_98 rfl 1 rfl ?_
    refine jr_pcall (rest := []) C (pX12_isZero l v2) oX12_isZero kw_1235 rfl ⟨Nat.le_of_ble_eq_true rfl, Nat.le_of_ble_eq_true rfl⟩ rfl (Nat.le_of_ble_eq_true rfl) ⟨Nat.zero_le _, Nat.zero_le _⟩ dX12_sum_99 ?_
    refine jr_if_eq (tgt := 118) C dX12_sum_102 rfl (fun q102 => ?_) (fun q102 => ?_)
    · have hv := (if_pos q102).symm.trans hv
      refine jr_lload_n C dX12_sum_118 rfl 0 rfl ?_
      refine jr_ldc2 C kw_1206 dX12_sum_119 ?_
      refine jr_land C dX12_sum_122 ?_
      refine jr_lload_n C dX12_sum_123 rfl 1 rfl ?_
      refine jr_ldc2 C kw_1206 dX12_sum_124 ?_
      refine jr_land C dX12_sum_127 ?_
      refine jr_lcmp_ge (tgt := 136) C dX12_sum_128 dX12_sum_129 rfl (fun q128 => ?_) (fun q128 => ?_)
      · have hv := (if_pos q128).symm.trans hv
        refine jr_iconst (v := 0) C dX12_sum_136 (by decide) ?_
        exact tX12_sum_137 C  v0 v2 0 hv
      · have hv := (if_neg q128).symm.trans hv
        refine jr_iconst (v := 1) C dX12_sum_132 (by decide) ?_
        refine jr_goto (tgt := 137) C dX12_sum_133 rfl ?_
        exact tX12_sum_137 C  v0 v2 1 hv
    · have hv := (if_neg q102).symm.trans hv
      exact tX12_sum_105 C  v0 v2 hv
set_option maxRecDepth 100000 in
theorem tX12_sum_38 {p : Program} {l : Launch} {e : Env} {s : State} {m : MethodId} {args : Array Value} {below : List Frame} {meth : Method} {c : Code} (C : CC p s m args meth c yX12_sum cX12_sum 18 (some .long))  (v0 : Int64) (v2 : Int64) {w : Int64} (hv : fX12_sum_38 v0 v2 = some w) : PJ p l e s m args below meth c 18 3 (.long w) 38 [(0, .long v0), (2, .long v2)] [] := by
  unfold fX12_sum_38 at hv
  refine jr_lload_n C dX12_sum_38 rfl 0 rfl ?_
  refine jr_pcall (rest := []) C (pX12_isInfinite l v0) oX12_isInfinite kw_1232 rfl ⟨Nat.le_of_ble_eq_true rfl, Nat.le_of_ble_eq_true rfl⟩ rfl (Nat.le_of_ble_eq_true rfl) ⟨Nat.zero_le _, Nat.zero_le _⟩ dX12_sum_39 ?_
  refine jr_if_ne (tgt := 52) C dX12_sum_42 rfl (fun q42 => ?_) (fun q42 => ?_)
  · have hv := (if_neg q42).symm.trans hv
    exact tX12_sum_52 C  v0 v2 hv
  · have hv := (if_pos q42).symm.trans hv
    refine jr_lload_n C dX12_sum_45 rfl 1 rfl ?_
    refine jr_pcall (rest := []) C (pX12_isInfinite l v2) oX12_isInfinite kw_1232 rfl ⟨Nat.le_of_ble_eq_true rfl, Nat.le_of_ble_eq_true rfl⟩ rfl (Nat.le_of_ble_eq_true rfl) ⟨Nat.zero_le _, Nat.zero_le _⟩ dX12_sum_46 ?_
    refine jr_if_eq (tgt := 65) C dX12_sum_49 rfl (fun q49 => ?_) (fun q49 => ?_)
    · have hv := (if_pos q49).symm.trans hv
      refine jr_lload_n C dX12_sum_65 rfl 0 rfl ?_
      refine jr_pcall (rest := []) C (pX12_isZero l v0) oX12_isZero kw_1235 rfl ⟨Nat.le_of_ble_eq_true rfl, Nat.le_of_ble_eq_true rfl⟩ rfl (Nat.le_of_ble_eq_true rfl) ⟨Nat.zero_le _, Nat.zero_le _⟩ dX12_sum_66 ?_
      refine jr_if_eq (tgt := 91) C dX12_sum_69 rfl (fun q69 => ?_) (fun q69 => ?_)
      · have hv := (if_pos q69).symm.trans hv
        exact tX12_sum_91 C  v0 v2 hv
      · have hv := (if_neg q69).symm.trans hv
        refine jr_lload_n C dX12_sum_72 rfl 1 rfl ?_
        refine jr_pcall (rest := []) C (pX12_isZero l v2) oX12_isZero kw_1235 rfl ⟨Nat.le_of_ble_eq_true rfl, Nat.le_of_ble_eq_true rfl⟩ rfl (Nat.le_of_ble_eq_true rfl) ⟨Nat.zero_le _, Nat.zero_le _⟩ dX12_sum_73 ?_
        refine jr_if_eq (tgt := 91) C dX12_sum_76 rfl (fun q76 => ?_) (fun q76 => ?_)
        · have hv := (if_pos q76).symm.trans hv
          exact tX12_sum_91 C  v0 v2 hv
        · have hv := (if_neg q76).symm.trans hv
          refine jr_lload_n C dX12_sum_79 rfl 0 rfl ?_
          refine jr_lload_n C dX12_sum_80 rfl 1 rfl ?_
          refine jr_lcmp_ne (tgt := 89) C dX12_sum_81 dX12_sum_82 rfl (fun q81 => ?_) (fun q81 => ?_)
          · have hv := (if_neg q81).symm.trans hv
            refine jr_lconst (v := 0) C dX12_sum_89 (by decide) ?_
            exact jp_lret C dX12_sum_90 (congrArg Value.long (Option.some.inj hv)).symm
          · have hv := (if_pos q81).symm.trans hv
            refine jr_lload_n C dX12_sum_85 rfl 0 rfl ?_
            refine jr_goto (tgt := 90) C dX12_sum_86 rfl ?_
            exact jp_lret C dX12_sum_90 (congrArg Value.long (Option.some.inj hv)).symm
    · have hv := (if_neg q49).symm.trans hv
      exact tX12_sum_52 C  v0 v2 hv
set_option maxRecDepth 100000 in
theorem tX12_sum_0 {p : Program} {l : Launch} {e : Env} {s : State} {m : MethodId} {args : Array Value} {below : List Frame} {meth : Method} {c : Code} (C : CC p s m args meth c yX12_sum cX12_sum 18 (some .long))  (v0 : Int64) (v2 : Int64) {w : Int64} (hv : fX12_sum v0 v2 = some w) : PJ p l e s m args below meth c 18 3 (.long w) 0 [(0, .long v0), (2, .long v2)] [] := by
  unfold fX12_sum at hv
  refine jr_lload_n C dX12_sum_0 rfl 0 rfl ?_
  refine jr_pcall (rest := []) C (pX12_isLost l v0) oX12_isLost kw_1203 rfl ⟨Nat.le_of_ble_eq_true rfl, Nat.le_of_ble_eq_true rfl⟩ rfl (Nat.le_of_ble_eq_true rfl) ⟨Nat.zero_le _, Nat.zero_le _⟩ dX12_sum_1 ?_
  refine jr_if_ne (tgt := 34) C dX12_sum_4 rfl (fun q4 => ?_) (fun q4 => ?_)
  · have hv := (if_neg q4).symm.trans hv
    exact jr_sub [] rfl (tX12_sum_34 C   hv)
  · have hv := (if_pos q4).symm.trans hv
    refine jr_lload_n C dX12_sum_7 rfl 1 rfl ?_
    refine jr_pcall (rest := []) C (pX12_isLost l v2) oX12_isLost kw_1203 rfl ⟨Nat.le_of_ble_eq_true rfl, Nat.le_of_ble_eq_true rfl⟩ rfl (Nat.le_of_ble_eq_true rfl) ⟨Nat.zero_le _, Nat.zero_le _⟩ dX12_sum_8 ?_
    refine jr_if_ne (tgt := 34) C dX12_sum_11 rfl (fun q11 => ?_) (fun q11 => ?_)
    · have hv := (if_neg q11).symm.trans hv
      exact jr_sub [] rfl (tX12_sum_34 C   hv)
    · have hv := (if_pos q11).symm.trans hv
      refine jr_lload_n C dX12_sum_14 rfl 0 rfl ?_
      refine jr_pcall (rest := []) C (pX12_isInfinite l v0) oX12_isInfinite kw_1232 rfl ⟨Nat.le_of_ble_eq_true rfl, Nat.le_of_ble_eq_true rfl⟩ rfl (Nat.le_of_ble_eq_true rfl) ⟨Nat.zero_le _, Nat.zero_le _⟩ dX12_sum_15 ?_
      refine jr_if_eq (tgt := 38) C dX12_sum_18 rfl (fun q18 => ?_) (fun q18 => ?_)
      · have hv := (if_pos q18).symm.trans hv
        exact tX12_sum_38 C  v0 v2 hv
      · have hv := (if_neg q18).symm.trans hv
        refine jr_lload_n C dX12_sum_21 rfl 1 rfl ?_
        refine jr_pcall (rest := []) C (pX12_isInfinite l v2) oX12_isInfinite kw_1232 rfl ⟨Nat.le_of_ble_eq_true rfl, Nat.le_of_ble_eq_true rfl⟩ rfl (Nat.le_of_ble_eq_true rfl) ⟨Nat.zero_le _, Nat.zero_le _⟩ dX12_sum_22 ?_
        refine jr_if_eq (tgt := 38) C dX12_sum_25 rfl (fun q25 => ?_) (fun q25 => ?_)
        · have hv := (if_pos q25).symm.trans hv
          exact tX12_sum_38 C  v0 v2 hv
        · have hv := (if_neg q25).symm.trans hv
          refine jr_lload_n C dX12_sum_28 rfl 0 rfl ?_
          refine jr_lload_n C dX12_sum_29 rfl 1 rfl ?_
          refine jr_lcmp_eq (tgt := 38) C dX12_sum_30 dX12_sum_31 rfl (fun q30 => ?_) (fun q30 => ?_)
          · have hv := (if_pos q30).symm.trans hv
            exact tX12_sum_38 C  v0 v2 hv
          · have hv := (if_neg q30).symm.trans hv
            exact jr_sub [] rfl (tX12_sum_34 C   hv)
theorem pX12_sum (l : Launch) (v0 : Int64) (v2 : Int64) {w : Int64} (hw : fX12_sum v0 v2 = some w) : pu l yX12_sum cX12_sum 18 (some .long) 3 [.long v0, .long v2] (.long w) := pu_of (by decide +kernel) (Nat.le_of_ble_eq_true rfl) rfl (fun C => tX12_sum_0 C v0 v2 hw)
/-! RobotCellModel.less(JJ)J -/
def fX12_less (v0 : Int64) (v2 : Int64) : Option Int64 :=
  Option.bind (fX12_sum v0 (fX12_opposite v2)) (fun c5 => some c5)
theorem oX12_less : ok_s yX12_less cX12_less 4 (some .long) 2 := ⟨kw_1258, kw_1257, kw_73, by decide +kernel⟩
set_option maxRecDepth 100000 in
theorem tX12_less_0 {p : Program} {l : Launch} {e : Env} {s : State} {m : MethodId} {args : Array Value} {below : List Frame} {meth : Method} {c : Code} (C : CC p s m args meth c yX12_less cX12_less 4 (some .long))  (v0 : Int64) (v2 : Int64) {w : Int64} (hv : fX12_less v0 v2 = some w) : PJ p l e s m args below meth c 4 4 (.long w) 0 [(0, .long v0), (2, .long v2)] [] := by
  unfold fX12_less at hv
  refine jr_lload_n C dX12_less_0 rfl 0 rfl ?_
  refine jr_lload_n C dX12_less_1 rfl 1 rfl ?_
  refine jr_pcall (rest := [.long v0]) C (pX12_opposite l v2) oX12_opposite kw_1259 rfl ⟨Nat.le_of_ble_eq_true rfl, Nat.le_of_ble_eq_true rfl⟩ rfl (Nat.le_of_ble_eq_true rfl) ⟨Nat.zero_le _, Nat.zero_le _⟩ dX12_less_2 ?_
  obtain ⟨c5, hc5, hv⟩ := Option.bind_eq_some_iff.mp hv
  refine jr_pcall (rest := []) C (pX12_sum l v0 (fX12_opposite v2) hc5) oX12_sum kw_1253 rfl ⟨Nat.le_of_ble_eq_true rfl, Nat.le_of_ble_eq_true rfl⟩ rfl (Nat.le_of_ble_eq_true rfl) ⟨Nat.zero_le _, Nat.zero_le _⟩ dX12_less_5 ?_
  exact jp_lret C dX12_less_8 (congrArg Value.long (Option.some.inj hv)).symm
theorem pX12_less (l : Launch) (v0 : Int64) (v2 : Int64) {w : Int64} (hw : fX12_less v0 v2 = some w) : pu l yX12_less cX12_less 4 (some .long) 4 [.long v0, .long v2] (.long w) := pu_of (by decide +kernel) (Nat.le_of_ble_eq_true rfl) rfl (fun C => tX12_less_0 C v0 v2 hw)
/-! RobotCellModel.quotient(JJ)J -/
def fX12_quotient_74  : Option Int64 :=
  some 9221120237041090560
def fX12_quotient_92 (v4 : Int32) : Option Int64 :=
  if v4 = 0 then some 9218868437227405312 else some (-4503599627370496)
def fX12_quotient_121 (v4 : Int32) : Option Int64 :=
  if v4 = 0 then some 0 else some (-9223372036854775808)
def fX12_quotient_271 (t0 : Int32) (t1 : Int64) (t2 : Int32) (t3 : Int32) : Option Int64 :=
  Option.bind (fX12_made t0 t1 t2 t3) (fun c271 => some c271)
def fX12_quotient_247 (r191 : Int32 → Int64 → Int64 → Int32 → Int64 → Int32 → Option Int64) (v4 : Int32) (v5 : Int64) (v7 : Int64) (v9 : Int32) (v10 : Int64) (v12 : Int32) : Option Int64 :=
  r191 v4 v5 v7 v9 v10 v12
def fX12_quotient_244 (r191 : Int32 → Int64 → Int64 → Int32 → Int64 → Int32 → Option Int64) (v4 : Int32) (v5 : Int64) (v7 : Int64) (v9 : Int32) (v10 : Int64) (v12 : Int32) : Option Int64 :=
  fX12_quotient_247 r191 v4 v5 v7 v9 v10 (v12 + 1)
def fX12_quotient_241 (r191 : Int32 → Int64 → Int64 → Int32 → Int64 → Int32 → Option Int64) (v4 : Int32) (v7 : Int64) (v9 : Int32) (v10 : Int64) (v12 : Int32) (t0 : Int64) (t1 : Int64) : Option Int64 :=
  fX12_quotient_244 r191 v4 (t0 * t1) v7 v9 v10 v12
def fX12_quotient_220 (r191 : Int32 → Int64 → Int64 → Int32 → Int64 → Int32 → Option Int64) (v4 : Int32) (v5 : Int64) (v7 : Int64) (v9 : Int32) (v10 : Int64) (v12 : Int32) : Option Int64 :=
  if v5 < v7 then fX12_quotient_241 r191 v4 v7 v9 v10 v12 2 v5 else fX12_quotient_241 r191 v4 v7 v9 v10 v12 2 (v5 - v7)
def fX12_quotient_217 (r191 : Int32 → Int64 → Int64 → Int32 → Int64 → Int32 → Option Int64) (v4 : Int32) (v5 : Int64) (v7 : Int64) (v9 : Int32) (v12 : Int32) (t0 : Int64) (t1 : Int64) : Option Int64 :=
  fX12_quotient_220 r191 v4 v5 v7 v9 (t0 + t1) v12
def fX12_quotient_191  : Nat → Int32 → Int64 → Int64 → Int32 → Int64 → Int32 → Option Int64
  | 0, _, _, _, _, _, _ => none
  | q + 1, v4, v5, v7, v9, v10, v12 => if 58 ≤ v12 then (if v5 = 0 then fX12_quotient_271 v4 v10 (v9 - 57) 0 else fX12_quotient_271 v4 v10 (v9 - 57) 1) else (if v5 < v7 then fX12_quotient_217 (fX12_quotient_191  q) v4 v5 v7 v9 v12 (2 * v10) 0 else fX12_quotient_217 (fX12_quotient_191  q) v4 v5 v7 v9 v12 (2 * v10) 1)
def fX12_quotient_185 (v4 : Int32) (v5 : Int64) (v7 : Int64) (v9 : Int32) : Option Int64 :=
  fX12_quotient_191 60 v4 v5 v7 v9 0 0
def fX12_quotient_78 (v0 : Int64) (v2 : Int64) (v4 : Int32) : Option Int64 :=
  if (fX12_isInfinite v0) = 0 then (if (fX12_isZero v2) = 0 then (if (fX12_isZero v0) = 0 then (if (fX12_isInfinite v2) = 0 then (Option.bind (fX12_full (fX12_digits v0)) (fun c138 => Option.bind (fX12_full (fX12_digits v2)) (fun c147 => Option.bind (fX12_bitsOf (fX12_digits v0)) (fun c162 => Option.bind (fX12_bitsOf (fX12_digits v2)) (fun c178 => fX12_quotient_185 v4 c138 c147 ((((fX12_unit v0) - (53 - c162)) - (fX12_unit v2)) + (53 - c178))))))) else fX12_quotient_121 v4) else fX12_quotient_121 v4) else fX12_quotient_92 v4) else fX12_quotient_92 v4
def fX12_quotient_60 (v0 : Int64) (v2 : Int64) (v4 : Int32) : Option Int64 :=
  if (fX12_isZero v0) = 0 then fX12_quotient_78 v0 v2 v4 else (if (fX12_isZero v2) = 0 then fX12_quotient_78 v0 v2 v4 else fX12_quotient_74)
def fX12_quotient_30 (v0 : Int64) (v2 : Int64) (t0 : Int32) : Option Int64 :=
  if (fX12_isLost v0) = 0 then (if (fX12_isLost v2) = 0 then (if (fX12_isInfinite v0) = 0 then fX12_quotient_60 v0 v2 t0 else (if (fX12_isInfinite v2) = 0 then fX12_quotient_60 v0 v2 t0 else fX12_quotient_74)) else fX12_quotient_74) else fX12_quotient_74
def fX12_quotient_22 (v0 : Int64) (v2 : Int64) (t0 : Int32) (t1 : Int32) : Option Int64 :=
  if t0 = t1 then fX12_quotient_30 v0 v2 0 else fX12_quotient_30 v0 v2 1
def fX12_quotient_11 (v0 : Int64) (v2 : Int64) (t0 : Int32) : Option Int64 :=
  if 0 ≤ v2 then fX12_quotient_22 v0 v2 t0 0 else fX12_quotient_22 v0 v2 t0 1
def fX12_quotient (v0 : Int64) (v2 : Int64) : Option Int64 :=
  if 0 ≤ v0 then fX12_quotient_11 v0 v2 0 else fX12_quotient_11 v0 v2 1
theorem oX12_quotient : ok_s yX12_quotient cX12_quotient 13 (some .long) 2 := ⟨kw_1231, kw_1230, kw_73, by decide +kernel⟩
set_option maxRecDepth 100000 in
theorem tX12_quotient_74 {p : Program} {l : Launch} {e : Env} {s : State} {m : MethodId} {args : Array Value} {below : List Frame} {meth : Method} {c : Code} (C : CC p s m args meth c yX12_quotient cX12_quotient 13 (some .long))   {w : Int64} (hv : fX12_quotient_74  = some w) : PJ p l e s m args below meth c 13 3 (.long w) 74 [] [] := by
  unfold fX12_quotient_74 at hv
  refine jr_ldc2 C kw_1208 dX12_quotient_74 ?_
  exact jp_lret C dX12_quotient_77 (congrArg Value.long (Option.some.inj hv)).symm
set_option maxRecDepth 100000 in
theorem tX12_quotient_92 {p : Program} {l : Launch} {e : Env} {s : State} {m : MethodId} {args : Array Value} {below : List Frame} {meth : Method} {c : Code} (C : CC p s m args meth c yX12_quotient cX12_quotient 13 (some .long))  (v4 : Int32) {w : Int64} (hv : fX12_quotient_92 v4 = some w) : PJ p l e s m args below meth c 13 3 (.long w) 92 [(4, .int v4)] [] := by
  unfold fX12_quotient_92 at hv
  refine jr_iload C dX12_quotient_92 0 rfl ?_
  refine jr_if_eq (tgt := 103) C dX12_quotient_94 rfl (fun q94 => ?_) (fun q94 => ?_)
  · have hv := (if_pos q94).symm.trans hv
    refine jr_ldc2 C kw_1207 dX12_quotient_103 ?_
    exact jp_lret C dX12_quotient_106 (congrArg Value.long (Option.some.inj hv)).symm
  · have hv := (if_neg q94).symm.trans hv
    refine jr_ldc2 C kw_1238 dX12_quotient_97 ?_
    refine jr_goto (tgt := 106) C dX12_quotient_100 rfl ?_
    exact jp_lret C dX12_quotient_106 (congrArg Value.long (Option.some.inj hv)).symm
set_option maxRecDepth 100000 in
theorem tX12_quotient_121 {p : Program} {l : Launch} {e : Env} {s : State} {m : MethodId} {args : Array Value} {below : List Frame} {meth : Method} {c : Code} (C : CC p s m args meth c yX12_quotient cX12_quotient 13 (some .long))  (v4 : Int32) {w : Int64} (hv : fX12_quotient_121 v4 = some w) : PJ p l e s m args below meth c 13 3 (.long w) 121 [(4, .int v4)] [] := by
  unfold fX12_quotient_121 at hv
  refine jr_iload C dX12_quotient_121 0 rfl ?_
  refine jr_if_eq (tgt := 132) C dX12_quotient_123 rfl (fun q123 => ?_) (fun q123 => ?_)
  · have hv := (if_pos q123).symm.trans hv
    refine jr_lconst (v := 0) C dX12_quotient_132 (by decide) ?_
    exact jp_lret C dX12_quotient_133 (congrArg Value.long (Option.some.inj hv)).symm
  · have hv := (if_neg q123).symm.trans hv
    refine jr_ldc2 C kw_1224 dX12_quotient_126 ?_
    refine jr_goto (tgt := 133) C dX12_quotient_129 rfl ?_
    exact jp_lret C dX12_quotient_133 (congrArg Value.long (Option.some.inj hv)).symm
set_option maxRecDepth 100000 in
theorem tX12_quotient_271 {p : Program} {l : Launch} {e : Env} {s : State} {m : MethodId} {args : Array Value} {below : List Frame} {meth : Method} {c : Code} (C : CC p s m args meth c yX12_quotient cX12_quotient 13 (some .long))  (t0 : Int32) (t1 : Int64) (t2 : Int32) (t3 : Int32) {w : Int64} (hv : fX12_quotient_271 t0 t1 t2 t3 = some w) : PJ p l e s m args below meth c 13 3 (.long w) 271 [] [.int t3, .int t2, .long t1, .int t0] := by
  unfold fX12_quotient_271 at hv
  obtain ⟨c271, hc271, hv⟩ := Option.bind_eq_some_iff.mp hv
  refine jr_pcall (rest := []) C (pX12_made l t0 t1 t2 t3 hc271) oX12_made kw_1250 rfl ⟨Nat.le_of_ble_eq_true rfl, Nat.le_of_ble_eq_true rfl⟩ rfl (Nat.le_of_ble_eq_true rfl) ⟨Nat.zero_le _, Nat.zero_le _⟩ dX12_quotient_271 ?_
  exact jp_lret C dX12_quotient_274 (congrArg Value.long (Option.some.inj hv)).symm
set_option maxRecDepth 100000 in
theorem tX12_quotient_247 {p : Program} {l : Launch} {e : Env} {s : State} {m : MethodId} {args : Array Value} {below : List Frame} {meth : Method} {c : Code} (C : CC p s m args meth c yX12_quotient cX12_quotient 13 (some .long)) (r191 : Int32 → Int64 → Int64 → Int32 → Int64 → Int32 → Option Int64) (h191 : ∀ (v4 : Int32) (v5 : Int64) (v7 : Int64) (v9 : Int32) (v10 : Int64) (v12 : Int32) (w : Int64), r191 v4 v5 v7 v9 v10 v12 = some w → PJ p l e s m args below meth c 13 3 (.long w) 191 [(4, .int v4), (5, .long v5), (7, .long v7), (9, .int v9), (10, .long v10), (12, .int v12)] []) (v4 : Int32) (v5 : Int64) (v7 : Int64) (v9 : Int32) (v10 : Int64) (v12 : Int32) {w : Int64} (hv : fX12_quotient_247 r191 v4 v5 v7 v9 v10 v12 = some w) : PJ p l e s m args below meth c 13 3 (.long w) 247 [(4, .int v4), (5, .long v5), (7, .long v7), (9, .int v9), (10, .long v10), (12, .int v12)] [] := by
  unfold fX12_quotient_247 at hv
  refine jr_goto (tgt := 191) C dX12_quotient_247 rfl ?_
  exact h191 v4 v5 v7 v9 v10 v12 _ hv
set_option maxRecDepth 100000 in
theorem tX12_quotient_244 {p : Program} {l : Launch} {e : Env} {s : State} {m : MethodId} {args : Array Value} {below : List Frame} {meth : Method} {c : Code} (C : CC p s m args meth c yX12_quotient cX12_quotient 13 (some .long)) (r191 : Int32 → Int64 → Int64 → Int32 → Int64 → Int32 → Option Int64) (h191 : ∀ (v4 : Int32) (v5 : Int64) (v7 : Int64) (v9 : Int32) (v10 : Int64) (v12 : Int32) (w : Int64), r191 v4 v5 v7 v9 v10 v12 = some w → PJ p l e s m args below meth c 13 3 (.long w) 191 [(4, .int v4), (5, .long v5), (7, .long v7), (9, .int v9), (10, .long v10), (12, .int v12)] []) (v4 : Int32) (v5 : Int64) (v7 : Int64) (v9 : Int32) (v10 : Int64) (v12 : Int32) {w : Int64} (hv : fX12_quotient_244 r191 v4 v5 v7 v9 v10 v12 = some w) : PJ p l e s m args below meth c 13 3 (.long w) 244 [(4, .int v4), (5, .long v5), (7, .long v7), (9, .int v9), (10, .long v10), (12, .int v12)] [] := by
  unfold fX12_quotient_244 at hv
  refine jr_iinc (v := (v12 + 1)) (lv' := [(12, .int (v12 + 1)), (4, .int v4), (5, .long v5), (7, .long v7), (9, .int v9), (10, .long v10)]) C dX12_quotient_244 5 rfl rfl (by decide) rfl ?_
  exact jr_sub [1, 2, 3, 4, 5, 0] rfl (tX12_quotient_247 C r191 h191 v4 v5 v7 v9 v10 (v12 + 1) hv)
set_option maxRecDepth 100000 in
theorem tX12_quotient_241 {p : Program} {l : Launch} {e : Env} {s : State} {m : MethodId} {args : Array Value} {below : List Frame} {meth : Method} {c : Code} (C : CC p s m args meth c yX12_quotient cX12_quotient 13 (some .long)) (r191 : Int32 → Int64 → Int64 → Int32 → Int64 → Int32 → Option Int64) (h191 : ∀ (v4 : Int32) (v5 : Int64) (v7 : Int64) (v9 : Int32) (v10 : Int64) (v12 : Int32) (w : Int64), r191 v4 v5 v7 v9 v10 v12 = some w → PJ p l e s m args below meth c 13 3 (.long w) 191 [(4, .int v4), (5, .long v5), (7, .long v7), (9, .int v9), (10, .long v10), (12, .int v12)] []) (v4 : Int32) (v7 : Int64) (v9 : Int32) (v10 : Int64) (v12 : Int32) (t0 : Int64) (t1 : Int64) {w : Int64} (hv : fX12_quotient_241 r191 v4 v7 v9 v10 v12 t0 t1 = some w) : PJ p l e s m args below meth c 13 3 (.long w) 241 [(4, .int v4), (7, .long v7), (9, .int v9), (10, .long v10), (12, .int v12)] [.long t1, .long t0] := by
  unfold fX12_quotient_241 at hv
  refine jr_lmul C dX12_quotient_241 ?_
  refine jr_lstore (lv' := [(5, .long (t0 * t1)), (4, .int v4), (7, .long v7), (9, .int v9), (10, .long v10), (12, .int v12)]) C dX12_quotient_242 (by decide) rfl ?_
  exact jr_sub [1, 0, 2, 3, 4, 5] rfl (tX12_quotient_244 C r191 h191 v4 (t0 * t1) v7 v9 v10 v12 hv)
set_option maxRecDepth 100000 in
theorem tX12_quotient_220 {p : Program} {l : Launch} {e : Env} {s : State} {m : MethodId} {args : Array Value} {below : List Frame} {meth : Method} {c : Code} (C : CC p s m args meth c yX12_quotient cX12_quotient 13 (some .long)) (r191 : Int32 → Int64 → Int64 → Int32 → Int64 → Int32 → Option Int64) (h191 : ∀ (v4 : Int32) (v5 : Int64) (v7 : Int64) (v9 : Int32) (v10 : Int64) (v12 : Int32) (w : Int64), r191 v4 v5 v7 v9 v10 v12 = some w → PJ p l e s m args below meth c 13 3 (.long w) 191 [(4, .int v4), (5, .long v5), (7, .long v7), (9, .int v9), (10, .long v10), (12, .int v12)] []) (v4 : Int32) (v5 : Int64) (v7 : Int64) (v9 : Int32) (v10 : Int64) (v12 : Int32) {w : Int64} (hv : fX12_quotient_220 r191 v4 v5 v7 v9 v10 v12 = some w) : PJ p l e s m args below meth c 13 3 (.long w) 220 [(4, .int v4), (5, .long v5), (7, .long v7), (9, .int v9), (10, .long v10), (12, .int v12)] [] := by
  unfold fX12_quotient_220 at hv
  refine jr_ldc2 C kw_1249 dX12_quotient_220 ?_
  refine jr_lload C dX12_quotient_223 1 rfl ?_
  refine jr_lload C dX12_quotient_225 2 rfl ?_
  refine jr_lcmp_lt (tgt := 239) C dX12_quotient_227 dX12_quotient_228 rfl (fun q227 => ?_) (fun q227 => ?_)
  · have hv := (if_pos q227).symm.trans hv
    refine jr_lload C dX12_quotient_239 1 rfl ?_
    exact jr_sub [0, 2, 3, 4, 5] rfl (tX12_quotient_241 C r191 h191 v4 v7 v9 v10 v12 2 v5 hv)
  · have hv := (if_neg q227).symm.trans hv
    refine jr_lload C dX12_quotient_231 1 rfl ?_
    refine jr_lload C dX12_quotient_233 2 rfl ?_
    refine jr_lsub C dX12_quotient_235 ?_
    refine jr_goto (tgt := 241) C dX12_quotient_236 rfl ?_
    exact jr_sub [0, 2, 3, 4, 5] rfl (tX12_quotient_241 C r191 h191 v4 v7 v9 v10 v12 2 (v5 - v7) hv)
set_option maxRecDepth 100000 in
theorem tX12_quotient_217 {p : Program} {l : Launch} {e : Env} {s : State} {m : MethodId} {args : Array Value} {below : List Frame} {meth : Method} {c : Code} (C : CC p s m args meth c yX12_quotient cX12_quotient 13 (some .long)) (r191 : Int32 → Int64 → Int64 → Int32 → Int64 → Int32 → Option Int64) (h191 : ∀ (v4 : Int32) (v5 : Int64) (v7 : Int64) (v9 : Int32) (v10 : Int64) (v12 : Int32) (w : Int64), r191 v4 v5 v7 v9 v10 v12 = some w → PJ p l e s m args below meth c 13 3 (.long w) 191 [(4, .int v4), (5, .long v5), (7, .long v7), (9, .int v9), (10, .long v10), (12, .int v12)] []) (v4 : Int32) (v5 : Int64) (v7 : Int64) (v9 : Int32) (v12 : Int32) (t0 : Int64) (t1 : Int64) {w : Int64} (hv : fX12_quotient_217 r191 v4 v5 v7 v9 v12 t0 t1 = some w) : PJ p l e s m args below meth c 13 3 (.long w) 217 [(4, .int v4), (5, .long v5), (7, .long v7), (9, .int v9), (12, .int v12)] [.long t1, .long t0] := by
  unfold fX12_quotient_217 at hv
  refine jr_ladd C dX12_quotient_217 ?_
  refine jr_lstore (lv' := [(10, .long (t0 + t1)), (4, .int v4), (5, .long v5), (7, .long v7), (9, .int v9), (12, .int v12)]) C dX12_quotient_218 (by decide) rfl ?_
  exact jr_sub [1, 2, 3, 4, 0, 5] rfl (tX12_quotient_220 C r191 h191 v4 v5 v7 v9 (t0 + t1) v12 hv)
set_option maxRecDepth 100000 in
theorem tX12_quotient_191 {p : Program} {l : Launch} {e : Env} {s : State} {m : MethodId} {args : Array Value} {below : List Frame} {meth : Method} {c : Code} (C : CC p s m args meth c yX12_quotient cX12_quotient 13 (some .long))  : ∀ (q : Nat) (v4 : Int32) (v5 : Int64) (v7 : Int64) (v9 : Int32) (v10 : Int64) (v12 : Int32) (w : Int64), fX12_quotient_191  q v4 v5 v7 v9 v10 v12 = some w → PJ p l e s m args below meth c 13 3 (.long w) 191 [(4, .int v4), (5, .long v5), (7, .long v7), (9, .int v9), (10, .long v10), (12, .int v12)] [] := by
  intro q
  induction q with
  | zero => intro v4 v5 v7 v9 v10 v12 w hv; exact absurd hv (by simp [fX12_quotient_191])
  | succ q ih =>
    intro v4 v5 v7 v9 v10 v12 w hv
    unfold fX12_quotient_191 at hv
    refine jr_iload C dX12_quotient_191 5 rfl ?_
    refine jr_bipush (v := 58) C dX12_quotient_193 (by decide) ?_
    refine jr_icmp_ge (tgt := 250) C dX12_quotient_195 rfl (fun q195 => ?_) (fun q195 => ?_)
    · have hv := (if_pos q195).symm.trans hv
      refine jr_iload C dX12_quotient_250 0 rfl ?_
      refine jr_lload C dX12_quotient_252 4 rfl ?_
      refine jr_iload C dX12_quotient_254 3 rfl ?_
      refine jr_bipush (v := 57) C dX12_quotient_256 (by decide) ?_
      refine jr_isub C dX12_quotient_258 ?_
      refine jr_lload C dX12_quotient_259 1 rfl ?_
      refine jr_lconst (v := 0) C dX12_quotient_261 (by decide) ?_
      refine jr_lcmp_eq (tgt := 270) C dX12_quotient_262 dX12_quotient_263 rfl (fun q262 => ?_) (fun q262 => ?_)
      · have hv := (if_pos q262).symm.trans hv
        refine jr_iconst (v := 0) C dX12_quotient_270 (by decide) ?_
        exact jr_sub [] rfl (tX12_quotient_271 C  v4 v10 (v9 - 57) 0 hv)
      · have hv := (if_neg q262).symm.trans hv
        refine jr_iconst (v := 1) C dX12_quotient_266 (by decide) ?_
        refine jr_goto (tgt := 271) C dX12_quotient_267 rfl ?_
        exact jr_sub [] rfl (tX12_quotient_271 C  v4 v10 (v9 - 57) 1 hv)
    · have hv := (if_neg q195).symm.trans hv
      refine jr_ldc2 C kw_1249 dX12_quotient_198 ?_
      refine jr_lload C dX12_quotient_201 4 rfl ?_
      refine jr_lmul C dX12_quotient_203 ?_
      refine jr_lload C dX12_quotient_204 1 rfl ?_
      refine jr_lload C dX12_quotient_206 2 rfl ?_
      refine jr_lcmp_lt (tgt := 216) C dX12_quotient_208 dX12_quotient_209 rfl (fun q208 => ?_) (fun q208 => ?_)
      · have hv := (if_pos q208).symm.trans hv
        refine jr_lconst (v := 0) C dX12_quotient_216 (by decide) ?_
        exact jr_sub [0, 1, 2, 3, 5] rfl (tX12_quotient_217 C (fX12_quotient_191  q) ih v4 v5 v7 v9 v12 (2 * v10) 0 hv)
      · have hv := (if_neg q208).symm.trans hv
        refine jr_lconst (v := 1) C dX12_quotient_212 (by decide) ?_
        refine jr_goto (tgt := 217) C dX12_quotient_213 rfl ?_
        exact jr_sub [0, 1, 2, 3, 5] rfl (tX12_quotient_217 C (fX12_quotient_191  q) ih v4 v5 v7 v9 v12 (2 * v10) 1 hv)
set_option maxRecDepth 100000 in
theorem tX12_quotient_185 {p : Program} {l : Launch} {e : Env} {s : State} {m : MethodId} {args : Array Value} {below : List Frame} {meth : Method} {c : Code} (C : CC p s m args meth c yX12_quotient cX12_quotient 13 (some .long))  (v4 : Int32) (v5 : Int64) (v7 : Int64) (v9 : Int32) {w : Int64} (hv : fX12_quotient_185 v4 v5 v7 v9 = some w) : PJ p l e s m args below meth c 13 3 (.long w) 185 [(4, .int v4), (5, .long v5), (7, .long v7), (9, .int v9)] [] := by
  unfold fX12_quotient_185 at hv
  refine jr_lconst (v := 0) C dX12_quotient_185 (by decide) ?_
  refine jr_lstore (lv' := [(10, .long 0), (4, .int v4), (5, .long v5), (7, .long v7), (9, .int v9)]) C dX12_quotient_186 (by decide) rfl ?_
  refine jr_iconst (v := 0) C dX12_quotient_188 (by decide) ?_
  refine jr_istore (lv' := [(12, .int 0), (10, .long 0), (4, .int v4), (5, .long v5), (7, .long v7), (9, .int v9)]) C dX12_quotient_189 (by decide) rfl ?_
  exact jr_sub [2, 3, 4, 5, 1, 0] rfl (tX12_quotient_191 C  60 v4 v5 v7 v9 0 0 _ hv)
set_option maxRecDepth 100000 in
theorem tX12_quotient_78 {p : Program} {l : Launch} {e : Env} {s : State} {m : MethodId} {args : Array Value} {below : List Frame} {meth : Method} {c : Code} (C : CC p s m args meth c yX12_quotient cX12_quotient 13 (some .long))  (v0 : Int64) (v2 : Int64) (v4 : Int32) {w : Int64} (hv : fX12_quotient_78 v0 v2 v4 = some w) : PJ p l e s m args below meth c 13 3 (.long w) 78 [(0, .long v0), (2, .long v2), (4, .int v4)] [] := by
  unfold fX12_quotient_78 at hv
  refine jr_lload_n C dX12_quotient_78 rfl 0 rfl ?_
  refine jr_pcall (rest := []) C (pX12_isInfinite l v0) oX12_isInfinite kw_1232 rfl ⟨Nat.le_of_ble_eq_true rfl, Nat.le_of_ble_eq_true rfl⟩ rfl (Nat.le_of_ble_eq_true rfl) ⟨Nat.zero_le _, Nat.zero_le _⟩ dX12_quotient_79 ?_
  refine jr_if_ne (tgt := 92) C dX12_quotient_82 rfl (fun q82 => ?_) (fun q82 => ?_)
  · have hv := (if_neg q82).symm.trans hv
    exact jr_sub [2] rfl (tX12_quotient_92 C  v4 hv)
  · have hv := (if_pos q82).symm.trans hv
    refine jr_lload_n C dX12_quotient_85 rfl 1 rfl ?_
    refine jr_pcall (rest := []) C (pX12_isZero l v2) oX12_isZero kw_1235 rfl ⟨Nat.le_of_ble_eq_true rfl, Nat.le_of_ble_eq_true rfl⟩ rfl (Nat.le_of_ble_eq_true rfl) ⟨Nat.zero_le _, Nat.zero_le _⟩ dX12_quotient_86 ?_
    refine jr_if_eq (tgt := 107) C dX12_quotient_89 rfl (fun q89 => ?_) (fun q89 => ?_)
    · have hv := (if_pos q89).symm.trans hv
      refine jr_lload_n C dX12_quotient_107 rfl 0 rfl ?_
      refine jr_pcall (rest := []) C (pX12_isZero l v0) oX12_isZero kw_1235 rfl ⟨Nat.le_of_ble_eq_true rfl, Nat.le_of_ble_eq_true rfl⟩ rfl (Nat.le_of_ble_eq_true rfl) ⟨Nat.zero_le _, Nat.zero_le _⟩ dX12_quotient_108 ?_
      refine jr_if_ne (tgt := 121) C dX12_quotient_111 rfl (fun q111 => ?_) (fun q111 => ?_)
      · have hv := (if_neg q111).symm.trans hv
        exact jr_sub [2] rfl (tX12_quotient_121 C  v4 hv)
      · have hv := (if_pos q111).symm.trans hv
        refine jr_lload_n C dX12_quotient_114 rfl 1 rfl ?_
        refine jr_pcall (rest := []) C (pX12_isInfinite l v2) oX12_isInfinite kw_1232 rfl ⟨Nat.le_of_ble_eq_true rfl, Nat.le_of_ble_eq_true rfl⟩ rfl (Nat.le_of_ble_eq_true rfl) ⟨Nat.zero_le _, Nat.zero_le _⟩ dX12_quotient_115 ?_
        refine jr_if_eq (tgt := 134) C dX12_quotient_118 rfl (fun q118 => ?_) (fun q118 => ?_)
        · have hv := (if_pos q118).symm.trans hv
          refine jr_lload_n C dX12_quotient_134 rfl 0 rfl ?_
          refine jr_pcall (rest := []) C (pX12_digits l v0) oX12_digits kw_1239 rfl ⟨Nat.le_of_ble_eq_true rfl, Nat.le_of_ble_eq_true rfl⟩ rfl (Nat.le_of_ble_eq_true rfl) ⟨Nat.zero_le _, Nat.zero_le _⟩ dX12_quotient_135 ?_
          obtain ⟨c138, hc138, hv⟩ := Option.bind_eq_some_iff.mp hv
          refine jr_pcall (rest := []) C (pX12_full l (fX12_digits v0) hc138) oX12_full kw_1243 rfl ⟨Nat.le_of_ble_eq_true rfl, Nat.le_of_ble_eq_true rfl⟩ rfl (Nat.le_of_ble_eq_true rfl) ⟨Nat.zero_le _, Nat.zero_le _⟩ dX12_quotient_138 ?_
          refine jr_lstore (lv' := [(5, .long c138), (0, .long v0), (2, .long v2), (4, .int v4)]) C dX12_quotient_141 (by decide) rfl ?_
          refine jr_lload_n C dX12_quotient_143 rfl 2 rfl ?_
          refine jr_pcall (rest := []) C (pX12_digits l v2) oX12_digits kw_1239 rfl ⟨Nat.le_of_ble_eq_true rfl, Nat.le_of_ble_eq_true rfl⟩ rfl (Nat.le_of_ble_eq_true rfl) ⟨Nat.zero_le _, Nat.zero_le _⟩ dX12_quotient_144 ?_
          obtain ⟨c147, hc147, hv⟩ := Option.bind_eq_some_iff.mp hv
          refine jr_pcall (rest := []) C (pX12_full l (fX12_digits v2) hc147) oX12_full kw_1243 rfl ⟨Nat.le_of_ble_eq_true rfl, Nat.le_of_ble_eq_true rfl⟩ rfl (Nat.le_of_ble_eq_true rfl) ⟨Nat.zero_le _, Nat.zero_le _⟩ dX12_quotient_147 ?_
          refine jr_lstore (lv' := [(7, .long c147), (5, .long c138), (0, .long v0), (2, .long v2), (4, .int v4)]) C dX12_quotient_150 (by decide) rfl ?_
          refine jr_lload_n C dX12_quotient_152 rfl 2 rfl ?_
          refine jr_pcall (rest := []) C (pX12_unit l v0) oX12_unit kw_1246 rfl ⟨Nat.le_of_ble_eq_true rfl, Nat.le_of_ble_eq_true rfl⟩ rfl (Nat.le_of_ble_eq_true rfl) ⟨Nat.zero_le _, Nat.zero_le _⟩ dX12_quotient_153 ?_
          refine jr_bipush (v := 53) C dX12_quotient_156 (by decide) ?_
          refine jr_lload_n C dX12_quotient_158 rfl 2 rfl ?_
          refine jr_pcall (rest := [.int 53, .int (fX12_unit v0)]) C (pX12_digits l v0) oX12_digits kw_1239 rfl ⟨Nat.le_of_ble_eq_true rfl, Nat.le_of_ble_eq_true rfl⟩ rfl (Nat.le_of_ble_eq_true rfl) ⟨Nat.zero_le _, Nat.zero_le _⟩ dX12_quotient_159 ?_
          obtain ⟨c162, hc162, hv⟩ := Option.bind_eq_some_iff.mp hv
          refine jr_pcall (rest := [.int 53, .int (fX12_unit v0)]) C (pX12_bitsOf l (fX12_digits v0) hc162) oX12_bitsOf kw_1225 rfl ⟨Nat.le_of_ble_eq_true rfl, Nat.le_of_ble_eq_true rfl⟩ rfl (Nat.le_of_ble_eq_true rfl) ⟨Nat.zero_le _, Nat.zero_le _⟩ dX12_quotient_162 ?_
          refine jr_isub C dX12_quotient_165 ?_
          refine jr_isub C dX12_quotient_166 ?_
          refine jr_lload_n C dX12_quotient_167 rfl 3 rfl ?_
          refine jr_pcall (rest := [.int ((fX12_unit v0) - (53 - c162))]) C (pX12_unit l v2) oX12_unit kw_1246 rfl ⟨Nat.le_of_ble_eq_true rfl, Nat.le_of_ble_eq_true rfl⟩ rfl (Nat.le_of_ble_eq_true rfl) ⟨Nat.zero_le _, Nat.zero_le _⟩ dX12_quotient_168 ?_
          refine jr_isub C dX12_quotient_171 ?_
          refine jr_bipush (v := 53) C dX12_quotient_172 (by decide) ?_
          refine jr_lload_n C dX12_quotient_174 rfl 3 rfl ?_
          refine jr_pcall (rest := [.int 53, .int (((fX12_unit v0) - (53 - c162)) - (fX12_unit v2))]) C (pX12_digits l v2) oX12_digits kw_1239 rfl ⟨Nat.le_of_ble_eq_true rfl, Nat.le_of_ble_eq_true rfl⟩ rfl (Nat.le_of_ble_eq_true rfl) ⟨Nat.zero_le _, Nat.zero_le _⟩ dX12_quotient_175 ?_
          obtain ⟨c178, hc178, hv⟩ := Option.bind_eq_some_iff.mp hv
          refine jr_pcall (rest := [.int 53, .int (((fX12_unit v0) - (53 - c162)) - (fX12_unit v2))]) C (pX12_bitsOf l (fX12_digits v2) hc178) oX12_bitsOf kw_1225 rfl ⟨Nat.le_of_ble_eq_true rfl, Nat.le_of_ble_eq_true rfl⟩ rfl (Nat.le_of_ble_eq_true rfl) ⟨Nat.zero_le _, Nat.zero_le _⟩ dX12_quotient_178 ?_
          refine jr_isub C dX12_quotient_181 ?_
          refine jr_iadd C dX12_quotient_182 ?_
          refine jr_istore (lv' := [(9, .int ((((fX12_unit v0) - (53 - c162)) - (fX12_unit v2)) + (53 - c178))), (7, .long c147), (5, .long c138), (0, .long v0), (2, .long v2), (4, .int v4)]) C dX12_quotient_183 (by decide) rfl ?_
          exact jr_sub [5, 2, 1, 0] rfl (tX12_quotient_185 C  v4 c138 c147 ((((fX12_unit v0) - (53 - c162)) - (fX12_unit v2)) + (53 - c178)) hv)
        · have hv := (if_neg q118).symm.trans hv
          exact jr_sub [2] rfl (tX12_quotient_121 C  v4 hv)
    · have hv := (if_neg q89).symm.trans hv
      exact jr_sub [2] rfl (tX12_quotient_92 C  v4 hv)
set_option maxRecDepth 100000 in
theorem tX12_quotient_60 {p : Program} {l : Launch} {e : Env} {s : State} {m : MethodId} {args : Array Value} {below : List Frame} {meth : Method} {c : Code} (C : CC p s m args meth c yX12_quotient cX12_quotient 13 (some .long))  (v0 : Int64) (v2 : Int64) (v4 : Int32) {w : Int64} (hv : fX12_quotient_60 v0 v2 v4 = some w) : PJ p l e s m args below meth c 13 3 (.long w) 60 [(0, .long v0), (2, .long v2), (4, .int v4)] [] := by
  unfold fX12_quotient_60 at hv
  refine jr_lload_n C dX12_quotient_60 rfl 0 rfl ?_
  refine jr_pcall (rest := []) C (pX12_isZero l v0) oX12_isZero kw_1235 rfl ⟨Nat.le_of_ble_eq_true rfl, Nat.le_of_ble_eq_true rfl⟩ rfl (Nat.le_of_ble_eq_true rfl) ⟨Nat.zero_le _, Nat.zero_le _⟩ dX12_quotient_61 ?_
  refine jr_if_eq (tgt := 78) C dX12_quotient_64 rfl (fun q64 => ?_) (fun q64 => ?_)
  · have hv := (if_pos q64).symm.trans hv
    exact tX12_quotient_78 C  v0 v2 v4 hv
  · have hv := (if_neg q64).symm.trans hv
    refine jr_lload_n C dX12_quotient_67 rfl 1 rfl ?_
    refine jr_pcall (rest := []) C (pX12_isZero l v2) oX12_isZero kw_1235 rfl ⟨Nat.le_of_ble_eq_true rfl, Nat.le_of_ble_eq_true rfl⟩ rfl (Nat.le_of_ble_eq_true rfl) ⟨Nat.zero_le _, Nat.zero_le _⟩ dX12_quotient_68 ?_
    refine jr_if_eq (tgt := 78) C dX12_quotient_71 rfl (fun q71 => ?_) (fun q71 => ?_)
    · have hv := (if_pos q71).symm.trans hv
      exact tX12_quotient_78 C  v0 v2 v4 hv
    · have hv := (if_neg q71).symm.trans hv
      exact jr_sub [] rfl (tX12_quotient_74 C   hv)
set_option maxRecDepth 100000 in
theorem tX12_quotient_30 {p : Program} {l : Launch} {e : Env} {s : State} {m : MethodId} {args : Array Value} {below : List Frame} {meth : Method} {c : Code} (C : CC p s m args meth c yX12_quotient cX12_quotient 13 (some .long))  (v0 : Int64) (v2 : Int64) (t0 : Int32) {w : Int64} (hv : fX12_quotient_30 v0 v2 t0 = some w) : PJ p l e s m args below meth c 13 3 (.long w) 30 [(0, .long v0), (2, .long v2)] [.int t0] := by
  unfold fX12_quotient_30 at hv
  refine jr_istore (lv' := [(4, .int t0), (0, .long v0), (2, .long v2)]) C dX12_quotient_30 (by decide) rfl ?_
  refine jr_lload_n C dX12_quotient_32 rfl 1 rfl ?_
  refine jr_pcall (rest := []) C (pX12_isLost l v0) oX12_isLost kw_1203 rfl ⟨Nat.le_of_ble_eq_true rfl, Nat.le_of_ble_eq_true rfl⟩ rfl (Nat.le_of_ble_eq_true rfl) ⟨Nat.zero_le _, Nat.zero_le _⟩ dX12_quotient_33 ?_
  refine jr_if_ne (tgt := 74) C dX12_quotient_36 rfl (fun q36 => ?_) (fun q36 => ?_)
  · have hv := (if_neg q36).symm.trans hv
    exact jr_sub [] rfl (tX12_quotient_74 C   hv)
  · have hv := (if_pos q36).symm.trans hv
    refine jr_lload_n C dX12_quotient_39 rfl 2 rfl ?_
    refine jr_pcall (rest := []) C (pX12_isLost l v2) oX12_isLost kw_1203 rfl ⟨Nat.le_of_ble_eq_true rfl, Nat.le_of_ble_eq_true rfl⟩ rfl (Nat.le_of_ble_eq_true rfl) ⟨Nat.zero_le _, Nat.zero_le _⟩ dX12_quotient_40 ?_
    refine jr_if_ne (tgt := 74) C dX12_quotient_43 rfl (fun q43 => ?_) (fun q43 => ?_)
    · have hv := (if_neg q43).symm.trans hv
      exact jr_sub [] rfl (tX12_quotient_74 C   hv)
    · have hv := (if_pos q43).symm.trans hv
      refine jr_lload_n C dX12_quotient_46 rfl 1 rfl ?_
      refine jr_pcall (rest := []) C (pX12_isInfinite l v0) oX12_isInfinite kw_1232 rfl ⟨Nat.le_of_ble_eq_true rfl, Nat.le_of_ble_eq_true rfl⟩ rfl (Nat.le_of_ble_eq_true rfl) ⟨Nat.zero_le _, Nat.zero_le _⟩ dX12_quotient_47 ?_
      refine jr_if_eq (tgt := 60) C dX12_quotient_50 rfl (fun q50 => ?_) (fun q50 => ?_)
      · have hv := (if_pos q50).symm.trans hv
        exact jr_sub [1, 2, 0] rfl (tX12_quotient_60 C  v0 v2 t0 hv)
      · have hv := (if_neg q50).symm.trans hv
        refine jr_lload_n C dX12_quotient_53 rfl 2 rfl ?_
        refine jr_pcall (rest := []) C (pX12_isInfinite l v2) oX12_isInfinite kw_1232 rfl ⟨Nat.le_of_ble_eq_true rfl, Nat.le_of_ble_eq_true rfl⟩ rfl (Nat.le_of_ble_eq_true rfl) ⟨Nat.zero_le _, Nat.zero_le _⟩ dX12_quotient_54 ?_
        refine jr_if_ne (tgt := 74) C dX12_quotient_57 rfl (fun q57 => ?_) (fun q57 => ?_)
        · have hv := (if_neg q57).symm.trans hv
          exact jr_sub [] rfl (tX12_quotient_74 C   hv)
        · have hv := (if_pos q57).symm.trans hv
          exact jr_sub [1, 2, 0] rfl (tX12_quotient_60 C  v0 v2 t0 hv)
set_option maxRecDepth 100000 in
theorem tX12_quotient_22 {p : Program} {l : Launch} {e : Env} {s : State} {m : MethodId} {args : Array Value} {below : List Frame} {meth : Method} {c : Code} (C : CC p s m args meth c yX12_quotient cX12_quotient 13 (some .long))  (v0 : Int64) (v2 : Int64) (t0 : Int32) (t1 : Int32) {w : Int64} (hv : fX12_quotient_22 v0 v2 t0 t1 = some w) : PJ p l e s m args below meth c 13 3 (.long w) 22 [(0, .long v0), (2, .long v2)] [.int t1, .int t0] := by
  unfold fX12_quotient_22 at hv
  refine jr_icmp_eq (tgt := 29) C dX12_quotient_22 rfl (fun q22 => ?_) (fun q22 => ?_)
  · have hv := (if_pos q22).symm.trans hv
    refine jr_iconst (v := 0) C dX12_quotient_29 (by decide) ?_
    exact tX12_quotient_30 C  v0 v2 0 hv
  · have hv := (if_neg q22).symm.trans hv
    refine jr_iconst (v := 1) C dX12_quotient_25 (by decide) ?_
    refine jr_goto (tgt := 30) C dX12_quotient_26 rfl ?_
    exact tX12_quotient_30 C  v0 v2 1 hv
set_option maxRecDepth 100000 in
theorem tX12_quotient_11 {p : Program} {l : Launch} {e : Env} {s : State} {m : MethodId} {args : Array Value} {below : List Frame} {meth : Method} {c : Code} (C : CC p s m args meth c yX12_quotient cX12_quotient 13 (some .long))  (v0 : Int64) (v2 : Int64) (t0 : Int32) {w : Int64} (hv : fX12_quotient_11 v0 v2 t0 = some w) : PJ p l e s m args below meth c 13 3 (.long w) 11 [(0, .long v0), (2, .long v2)] [.int t0] := by
  unfold fX12_quotient_11 at hv
  refine jr_lload_n C dX12_quotient_11 rfl 1 rfl ?_
  refine jr_lconst (v := 0) C dX12_quotient_12 (by decide) ?_
  refine jr_lcmp_ge (tgt := 21) C dX12_quotient_13 dX12_quotient_14 rfl (fun q13 => ?_) (fun q13 => ?_)
  · have hv := (if_pos q13).symm.trans hv
    refine jr_iconst (v := 0) C dX12_quotient_21 (by decide) ?_
    exact tX12_quotient_22 C  v0 v2 t0 0 hv
  · have hv := (if_neg q13).symm.trans hv
    refine jr_iconst (v := 1) C dX12_quotient_17 (by decide) ?_
    refine jr_goto (tgt := 22) C dX12_quotient_18 rfl ?_
    exact tX12_quotient_22 C  v0 v2 t0 1 hv
set_option maxRecDepth 100000 in
theorem tX12_quotient_0 {p : Program} {l : Launch} {e : Env} {s : State} {m : MethodId} {args : Array Value} {below : List Frame} {meth : Method} {c : Code} (C : CC p s m args meth c yX12_quotient cX12_quotient 13 (some .long))  (v0 : Int64) (v2 : Int64) {w : Int64} (hv : fX12_quotient v0 v2 = some w) : PJ p l e s m args below meth c 13 3 (.long w) 0 [(0, .long v0), (2, .long v2)] [] := by
  unfold fX12_quotient at hv
  refine jr_lload_n C dX12_quotient_0 rfl 0 rfl ?_
  refine jr_lconst (v := 0) C dX12_quotient_1 (by decide) ?_
  refine jr_lcmp_ge (tgt := 10) C dX12_quotient_2 dX12_quotient_3 rfl (fun q2 => ?_) (fun q2 => ?_)
  · have hv := (if_pos q2).symm.trans hv
    refine jr_iconst (v := 0) C dX12_quotient_10 (by decide) ?_
    exact tX12_quotient_11 C  v0 v2 0 hv
  · have hv := (if_neg q2).symm.trans hv
    refine jr_iconst (v := 1) C dX12_quotient_6 (by decide) ?_
    refine jr_goto (tgt := 11) C dX12_quotient_7 rfl ?_
    exact tX12_quotient_11 C  v0 v2 1 hv
theorem pX12_quotient (l : Launch) (v0 : Int64) (v2 : Int64) {w : Int64} (hw : fX12_quotient v0 v2 = some w) : pu l yX12_quotient cX12_quotient 13 (some .long) 3 [.long v0, .long v2] (.long w) := pu_of (by decide +kernel) (Nat.le_of_ble_eq_true rfl) rfl (fun C => tX12_quotient_0 C v0 v2 hw)
/-! RobotCellModel.remainder(JJ)J -/
def fX12_remainder_28  : Option Int64 :=
  some 9221120237041090560
def fX12_remainder_46 (v0 : Int64) : Option Int64 :=
  some v0
def fX12_remainder_165 (v2 : Int64) (v9 : Int64) (t0 : Int32) : Option Int64 :=
  Option.bind (fX12_made t0 v9 (fX12_unit v2) 0) (fun c172 => some c172)
def fX12_remainder_151 (r130 : Int64 → Int64 → Int64 → Int32 → Int64 → Int32 → Option Int64) (v0 : Int64) (v2 : Int64) (v6 : Int64) (v8 : Int32) (v9 : Int64) (v11 : Int32) : Option Int64 :=
  r130 v0 v2 v6 v8 v9 v11
def fX12_remainder_148 (r130 : Int64 → Int64 → Int64 → Int32 → Int64 → Int32 → Option Int64) (v0 : Int64) (v2 : Int64) (v6 : Int64) (v8 : Int32) (v9 : Int64) (v11 : Int32) : Option Int64 :=
  fX12_remainder_151 r130 v0 v2 v6 v8 v9 (v11 + 1)
def fX12_remainder_130  : Nat → Int64 → Int64 → Int64 → Int32 → Int64 → Int32 → Option Int64
  | 0, _, _, _, _, _, _ => none
  | q + 1, v0, v2, v6, v8, v9, v11 => if v8 ≤ v11 then (if 0 ≤ v0 then fX12_remainder_165 v2 v9 0 else fX12_remainder_165 v2 v9 1) else (if v6 = 0 then none else fX12_remainder_148 (fX12_remainder_130  q) v0 v2 v6 v8 ((2 * v9) - (2 * v9) / v6 * v6) v11)
def fX12_remainder_127 (v0 : Int64) (v2 : Int64) (v6 : Int64) (v8 : Int32) (v9 : Int64) : Option Int64 :=
  fX12_remainder_130 2200 v0 v2 v6 v8 v9 0
def fX12_remainder_102 (v0 : Int64) (v4 : Int64) (v6 : Int64) (v8 : Int32) (t0 : Int32) : Option Int64 :=
  if (v6 <<< (((-v8) : Int32).toInt64 &&& 63)) = 0 then none else Option.bind (fX12_made t0 (v4 - v4 / (v6 <<< (((-v8) : Int32).toInt64 &&& 63)) * (v6 <<< (((-v8) : Int32).toInt64 &&& 63))) (fX12_unit v0) 0) (fun c116 => some c116)
def fX12_remainder_71 (v0 : Int64) (v2 : Int64) (v4 : Int64) (v6 : Int64) (v8 : Int32) : Option Int64 :=
  if 0 ≤ v8 then (if v6 = 0 then none else fX12_remainder_127 v0 v2 v6 v8 (v4 - v4 / v6 * v6)) else (Option.bind (fX12_bitsOf v6) (fun c78 => if (c78 - v8) ≤ 53 then (if 0 ≤ v0 then fX12_remainder_102 v0 v4 v6 v8 0 else fX12_remainder_102 v0 v4 v6 v8 1) else some v0))
def fX12_remainder_60 (v0 : Int64) (v2 : Int64) (v4 : Int64) (v6 : Int64) : Option Int64 :=
  fX12_remainder_71 v0 v2 v4 v6 ((fX12_unit v0) - (fX12_unit v2))
def fX12_remainder_54 (v0 : Int64) (v2 : Int64) (v4 : Int64) : Option Int64 :=
  fX12_remainder_60 v0 v2 v4 (fX12_digits v2)
def fX12_remainder (v0 : Int64) (v2 : Int64) : Option Int64 :=
  if (fX12_isLost v0) = 0 then (if (fX12_isLost v2) = 0 then (if (fX12_isInfinite v0) = 0 then (if (fX12_isZero v2) = 0 then (if (fX12_isZero v0) = 0 then (if (fX12_isInfinite v2) = 0 then fX12_remainder_54 v0 v2 (fX12_digits v0) else fX12_remainder_46 v0) else fX12_remainder_46 v0) else fX12_remainder_28) else fX12_remainder_28) else fX12_remainder_28) else fX12_remainder_28
theorem oX12_remainder : ok_s yX12_remainder cX12_remainder 12 (some .long) 2 := ⟨kw_1275, kw_1274, kw_73, by decide +kernel⟩
set_option maxRecDepth 100000 in
theorem tX12_remainder_28 {p : Program} {l : Launch} {e : Env} {s : State} {m : MethodId} {args : Array Value} {below : List Frame} {meth : Method} {c : Code} (C : CC p s m args meth c yX12_remainder cX12_remainder 12 (some .long))   {w : Int64} (hv : fX12_remainder_28  = some w) : PJ p l e s m args below meth c 12 3 (.long w) 28 [] [] := by
  unfold fX12_remainder_28 at hv
  refine jr_ldc2 C kw_1208 dX12_remainder_28 ?_
  exact jp_lret C dX12_remainder_31 (congrArg Value.long (Option.some.inj hv)).symm
set_option maxRecDepth 100000 in
theorem tX12_remainder_46 {p : Program} {l : Launch} {e : Env} {s : State} {m : MethodId} {args : Array Value} {below : List Frame} {meth : Method} {c : Code} (C : CC p s m args meth c yX12_remainder cX12_remainder 12 (some .long))  (v0 : Int64) {w : Int64} (hv : fX12_remainder_46 v0 = some w) : PJ p l e s m args below meth c 12 3 (.long w) 46 [(0, .long v0)] [] := by
  unfold fX12_remainder_46 at hv
  refine jr_lload_n C dX12_remainder_46 rfl 0 rfl ?_
  exact jp_lret C dX12_remainder_47 (congrArg Value.long (Option.some.inj hv)).symm
set_option maxRecDepth 100000 in
theorem tX12_remainder_165 {p : Program} {l : Launch} {e : Env} {s : State} {m : MethodId} {args : Array Value} {below : List Frame} {meth : Method} {c : Code} (C : CC p s m args meth c yX12_remainder cX12_remainder 12 (some .long))  (v2 : Int64) (v9 : Int64) (t0 : Int32) {w : Int64} (hv : fX12_remainder_165 v2 v9 t0 = some w) : PJ p l e s m args below meth c 12 3 (.long w) 165 [(2, .long v2), (9, .long v9)] [.int t0] := by
  unfold fX12_remainder_165 at hv
  refine jr_lload C dX12_remainder_165 1 rfl ?_
  refine jr_lload_n C dX12_remainder_167 rfl 0 rfl ?_
  refine jr_pcall (rest := [.long v9, .int t0]) C (pX12_unit l v2) oX12_unit kw_1246 rfl ⟨Nat.le_of_ble_eq_true rfl, Nat.le_of_ble_eq_true rfl⟩ rfl (Nat.le_of_ble_eq_true rfl) ⟨Nat.zero_le _, Nat.zero_le _⟩ dX12_remainder_168 ?_
  refine jr_iconst (v := 0) C dX12_remainder_171 (by decide) ?_
  obtain ⟨c172, hc172, hv⟩ := Option.bind_eq_some_iff.mp hv
  refine jr_pcall (rest := []) C (pX12_made l t0 v9 (fX12_unit v2) 0 hc172) oX12_made kw_1250 rfl ⟨Nat.le_of_ble_eq_true rfl, Nat.le_of_ble_eq_true rfl⟩ rfl (Nat.le_of_ble_eq_true rfl) ⟨Nat.zero_le _, Nat.zero_le _⟩ dX12_remainder_172 ?_
  exact jp_lret C dX12_remainder_175 (congrArg Value.long (Option.some.inj hv)).symm
set_option maxRecDepth 100000 in
theorem tX12_remainder_151 {p : Program} {l : Launch} {e : Env} {s : State} {m : MethodId} {args : Array Value} {below : List Frame} {meth : Method} {c : Code} (C : CC p s m args meth c yX12_remainder cX12_remainder 12 (some .long)) (r130 : Int64 → Int64 → Int64 → Int32 → Int64 → Int32 → Option Int64) (h130 : ∀ (v0 : Int64) (v2 : Int64) (v6 : Int64) (v8 : Int32) (v9 : Int64) (v11 : Int32) (w : Int64), r130 v0 v2 v6 v8 v9 v11 = some w → PJ p l e s m args below meth c 12 3 (.long w) 130 [(0, .long v0), (2, .long v2), (6, .long v6), (8, .int v8), (9, .long v9), (11, .int v11)] []) (v0 : Int64) (v2 : Int64) (v6 : Int64) (v8 : Int32) (v9 : Int64) (v11 : Int32) {w : Int64} (hv : fX12_remainder_151 r130 v0 v2 v6 v8 v9 v11 = some w) : PJ p l e s m args below meth c 12 3 (.long w) 151 [(0, .long v0), (2, .long v2), (6, .long v6), (8, .int v8), (9, .long v9), (11, .int v11)] [] := by
  unfold fX12_remainder_151 at hv
  refine jr_goto (tgt := 130) C dX12_remainder_151 rfl ?_
  exact h130 v0 v2 v6 v8 v9 v11 _ hv
set_option maxRecDepth 100000 in
theorem tX12_remainder_148 {p : Program} {l : Launch} {e : Env} {s : State} {m : MethodId} {args : Array Value} {below : List Frame} {meth : Method} {c : Code} (C : CC p s m args meth c yX12_remainder cX12_remainder 12 (some .long)) (r130 : Int64 → Int64 → Int64 → Int32 → Int64 → Int32 → Option Int64) (h130 : ∀ (v0 : Int64) (v2 : Int64) (v6 : Int64) (v8 : Int32) (v9 : Int64) (v11 : Int32) (w : Int64), r130 v0 v2 v6 v8 v9 v11 = some w → PJ p l e s m args below meth c 12 3 (.long w) 130 [(0, .long v0), (2, .long v2), (6, .long v6), (8, .int v8), (9, .long v9), (11, .int v11)] []) (v0 : Int64) (v2 : Int64) (v6 : Int64) (v8 : Int32) (v9 : Int64) (v11 : Int32) {w : Int64} (hv : fX12_remainder_148 r130 v0 v2 v6 v8 v9 v11 = some w) : PJ p l e s m args below meth c 12 3 (.long w) 148 [(0, .long v0), (2, .long v2), (6, .long v6), (8, .int v8), (9, .long v9), (11, .int v11)] [] := by
  unfold fX12_remainder_148 at hv
  refine jr_iinc (v := (v11 + 1)) (lv' := [(11, .int (v11 + 1)), (0, .long v0), (2, .long v2), (6, .long v6), (8, .int v8), (9, .long v9)]) C dX12_remainder_148 5 rfl rfl (by decide) rfl ?_
  exact jr_sub [1, 2, 3, 4, 5, 0] rfl (tX12_remainder_151 C r130 h130 v0 v2 v6 v8 v9 (v11 + 1) hv)
set_option maxRecDepth 100000 in
theorem tX12_remainder_130 {p : Program} {l : Launch} {e : Env} {s : State} {m : MethodId} {args : Array Value} {below : List Frame} {meth : Method} {c : Code} (C : CC p s m args meth c yX12_remainder cX12_remainder 12 (some .long))  : ∀ (q : Nat) (v0 : Int64) (v2 : Int64) (v6 : Int64) (v8 : Int32) (v9 : Int64) (v11 : Int32) (w : Int64), fX12_remainder_130  q v0 v2 v6 v8 v9 v11 = some w → PJ p l e s m args below meth c 12 3 (.long w) 130 [(0, .long v0), (2, .long v2), (6, .long v6), (8, .int v8), (9, .long v9), (11, .int v11)] [] := by
  intro q
  induction q with
  | zero => intro v0 v2 v6 v8 v9 v11 w hv; exact absurd hv (by simp [fX12_remainder_130])
  | succ q ih =>
    intro v0 v2 v6 v8 v9 v11 w hv
    unfold fX12_remainder_130 at hv
    refine jr_iload C dX12_remainder_130 5 rfl ?_
    refine jr_iload C dX12_remainder_132 3 rfl ?_
    refine jr_icmp_ge (tgt := 154) C dX12_remainder_134 rfl (fun q134 => ?_) (fun q134 => ?_)
    · have hv := (if_pos q134).symm.trans hv
      refine jr_lload_n C dX12_remainder_154 rfl 0 rfl ?_
      refine jr_lconst (v := 0) C dX12_remainder_155 (by decide) ?_
      refine jr_lcmp_ge (tgt := 164) C dX12_remainder_156 dX12_remainder_157 rfl (fun q156 => ?_) (fun q156 => ?_)
      · have hv := (if_pos q156).symm.trans hv
        refine jr_iconst (v := 0) C dX12_remainder_164 (by decide) ?_
        exact jr_sub [1, 4] rfl (tX12_remainder_165 C  v2 v9 0 hv)
      · have hv := (if_neg q156).symm.trans hv
        refine jr_iconst (v := 1) C dX12_remainder_160 (by decide) ?_
        refine jr_goto (tgt := 165) C dX12_remainder_161 rfl ?_
        exact jr_sub [1, 4] rfl (tX12_remainder_165 C  v2 v9 1 hv)
    · have hv := (if_neg q134).symm.trans hv
      refine jr_ldc2 C kw_1249 dX12_remainder_137 ?_
      refine jr_lload C dX12_remainder_140 4 rfl ?_
      refine jr_lmul C dX12_remainder_142 ?_
      refine jr_lload C dX12_remainder_143 2 rfl ?_
      by_cases z145 : v6 = 0
      · exact absurd ((if_pos z145).symm.trans hv) (by simp)
      have hv := (if_neg z145).symm.trans hv
      refine jr_lrem C dX12_remainder_145 z145 ?_
      refine jr_lstore (lv' := [(9, .long ((2 * v9) - (2 * v9) / v6 * v6)), (0, .long v0), (2, .long v2), (6, .long v6), (8, .int v8), (11, .int v11)]) C dX12_remainder_146 (by decide) rfl ?_
      exact jr_sub [1, 2, 3, 4, 0, 5] rfl (tX12_remainder_148 C (fX12_remainder_130  q) ih v0 v2 v6 v8 ((2 * v9) - (2 * v9) / v6 * v6) v11 hv)
set_option maxRecDepth 100000 in
theorem tX12_remainder_127 {p : Program} {l : Launch} {e : Env} {s : State} {m : MethodId} {args : Array Value} {below : List Frame} {meth : Method} {c : Code} (C : CC p s m args meth c yX12_remainder cX12_remainder 12 (some .long))  (v0 : Int64) (v2 : Int64) (v6 : Int64) (v8 : Int32) (v9 : Int64) {w : Int64} (hv : fX12_remainder_127 v0 v2 v6 v8 v9 = some w) : PJ p l e s m args below meth c 12 3 (.long w) 127 [(0, .long v0), (2, .long v2), (6, .long v6), (8, .int v8), (9, .long v9)] [] := by
  unfold fX12_remainder_127 at hv
  refine jr_iconst (v := 0) C dX12_remainder_127 (by decide) ?_
  refine jr_istore (lv' := [(11, .int 0), (0, .long v0), (2, .long v2), (6, .long v6), (8, .int v8), (9, .long v9)]) C dX12_remainder_128 (by decide) rfl ?_
  exact jr_sub [1, 2, 3, 4, 5, 0] rfl (tX12_remainder_130 C  2200 v0 v2 v6 v8 v9 0 _ hv)
set_option maxRecDepth 100000 in
theorem tX12_remainder_102 {p : Program} {l : Launch} {e : Env} {s : State} {m : MethodId} {args : Array Value} {below : List Frame} {meth : Method} {c : Code} (C : CC p s m args meth c yX12_remainder cX12_remainder 12 (some .long))  (v0 : Int64) (v4 : Int64) (v6 : Int64) (v8 : Int32) (t0 : Int32) {w : Int64} (hv : fX12_remainder_102 v0 v4 v6 v8 t0 = some w) : PJ p l e s m args below meth c 12 3 (.long w) 102 [(0, .long v0), (4, .long v4), (6, .long v6), (8, .int v8)] [.int t0] := by
  unfold fX12_remainder_102 at hv
  refine jr_lload C dX12_remainder_102 1 rfl ?_
  refine jr_lload C dX12_remainder_104 2 rfl ?_
  refine jr_iload C dX12_remainder_106 3 rfl ?_
  refine jr_ineg C dX12_remainder_108 ?_
  refine jr_lshl C dX12_remainder_109 ?_
  by_cases z110 : (v6 <<< (((-v8) : Int32).toInt64 &&& 63)) = 0
  · exact absurd ((if_pos z110).symm.trans hv) (by simp)
  have hv := (if_neg z110).symm.trans hv
  refine jr_lrem C dX12_remainder_110 z110 ?_
  refine jr_lload_n C dX12_remainder_111 rfl 0 rfl ?_
  refine jr_pcall (rest := [.long (v4 - v4 / (v6 <<< (((-v8) : Int32).toInt64 &&& 63)) * (v6 <<< (((-v8) : Int32).toInt64 &&& 63))), .int t0]) C (pX12_unit l v0) oX12_unit kw_1246 rfl ⟨Nat.le_of_ble_eq_true rfl, Nat.le_of_ble_eq_true rfl⟩ rfl (Nat.le_of_ble_eq_true rfl) ⟨Nat.zero_le _, Nat.zero_le _⟩ dX12_remainder_112 ?_
  refine jr_iconst (v := 0) C dX12_remainder_115 (by decide) ?_
  obtain ⟨c116, hc116, hv⟩ := Option.bind_eq_some_iff.mp hv
  refine jr_pcall (rest := []) C (pX12_made l t0 (v4 - v4 / (v6 <<< (((-v8) : Int32).toInt64 &&& 63)) * (v6 <<< (((-v8) : Int32).toInt64 &&& 63))) (fX12_unit v0) 0 hc116) oX12_made kw_1250 rfl ⟨Nat.le_of_ble_eq_true rfl, Nat.le_of_ble_eq_true rfl⟩ rfl (Nat.le_of_ble_eq_true rfl) ⟨Nat.zero_le _, Nat.zero_le _⟩ dX12_remainder_116 ?_
  exact jp_lret C dX12_remainder_119 (congrArg Value.long (Option.some.inj hv)).symm
set_option maxRecDepth 100000 in
theorem tX12_remainder_71 {p : Program} {l : Launch} {e : Env} {s : State} {m : MethodId} {args : Array Value} {below : List Frame} {meth : Method} {c : Code} (C : CC p s m args meth c yX12_remainder cX12_remainder 12 (some .long))  (v0 : Int64) (v2 : Int64) (v4 : Int64) (v6 : Int64) (v8 : Int32) {w : Int64} (hv : fX12_remainder_71 v0 v2 v4 v6 v8 = some w) : PJ p l e s m args below meth c 12 3 (.long w) 71 [(0, .long v0), (2, .long v2), (4, .long v4), (6, .long v6), (8, .int v8)] [] := by
  unfold fX12_remainder_71 at hv
  refine jr_iload C dX12_remainder_71 4 rfl ?_
  refine jr_if_ge (tgt := 120) C dX12_remainder_73 rfl (fun q73 => ?_) (fun q73 => ?_)
  · have hv := (if_pos q73).symm.trans hv
    refine jr_lload C dX12_remainder_120 2 rfl ?_
    refine jr_lload C dX12_remainder_122 3 rfl ?_
    by_cases z124 : v6 = 0
    · exact absurd ((if_pos z124).symm.trans hv) (by simp)
    have hv := (if_neg z124).symm.trans hv
    refine jr_lrem C dX12_remainder_124 z124 ?_
    refine jr_lstore (lv' := [(9, .long (v4 - v4 / v6 * v6)), (0, .long v0), (2, .long v2), (4, .long v4), (6, .long v6), (8, .int v8)]) C dX12_remainder_125 (by decide) rfl ?_
    exact jr_sub [1, 2, 4, 5, 0] rfl (tX12_remainder_127 C  v0 v2 v6 v8 (v4 - v4 / v6 * v6) hv)
  · have hv := (if_neg q73).symm.trans hv
    refine jr_lload C dX12_remainder_76 3 rfl ?_
    obtain ⟨c78, hc78, hv⟩ := Option.bind_eq_some_iff.mp hv
    refine jr_pcall (rest := []) C (pX12_bitsOf l v6 hc78) oX12_bitsOf kw_1225 rfl ⟨Nat.le_of_ble_eq_true rfl, Nat.le_of_ble_eq_true rfl⟩ rfl (Nat.le_of_ble_eq_true rfl) ⟨Nat.zero_le _, Nat.zero_le _⟩ dX12_remainder_78 ?_
    refine jr_iload C dX12_remainder_81 4 rfl ?_
    refine jr_isub C dX12_remainder_83 ?_
    refine jr_bipush (v := 53) C dX12_remainder_84 (by decide) ?_
    refine jr_icmp_le (tgt := 91) C dX12_remainder_86 rfl (fun q86 => ?_) (fun q86 => ?_)
    · have hv := (if_pos q86).symm.trans hv
      refine jr_lload_n C dX12_remainder_91 rfl 0 rfl ?_
      refine jr_lconst (v := 0) C dX12_remainder_92 (by decide) ?_
      refine jr_lcmp_ge (tgt := 101) C dX12_remainder_93 dX12_remainder_94 rfl (fun q93 => ?_) (fun q93 => ?_)
      · have hv := (if_pos q93).symm.trans hv
        refine jr_iconst (v := 0) C dX12_remainder_101 (by decide) ?_
        exact jr_sub [0, 2, 3, 4] rfl (tX12_remainder_102 C  v0 v4 v6 v8 0 hv)
      · have hv := (if_neg q93).symm.trans hv
        refine jr_iconst (v := 1) C dX12_remainder_97 (by decide) ?_
        refine jr_goto (tgt := 102) C dX12_remainder_98 rfl ?_
        exact jr_sub [0, 2, 3, 4] rfl (tX12_remainder_102 C  v0 v4 v6 v8 1 hv)
    · have hv := (if_neg q86).symm.trans hv
      refine jr_lload_n C dX12_remainder_89 rfl 0 rfl ?_
      exact jp_lret C dX12_remainder_90 (congrArg Value.long (Option.some.inj hv)).symm
set_option maxRecDepth 100000 in
theorem tX12_remainder_60 {p : Program} {l : Launch} {e : Env} {s : State} {m : MethodId} {args : Array Value} {below : List Frame} {meth : Method} {c : Code} (C : CC p s m args meth c yX12_remainder cX12_remainder 12 (some .long))  (v0 : Int64) (v2 : Int64) (v4 : Int64) (v6 : Int64) {w : Int64} (hv : fX12_remainder_60 v0 v2 v4 v6 = some w) : PJ p l e s m args below meth c 12 3 (.long w) 60 [(0, .long v0), (2, .long v2), (4, .long v4), (6, .long v6)] [] := by
  unfold fX12_remainder_60 at hv
  refine jr_lload_n C dX12_remainder_60 rfl 0 rfl ?_
  refine jr_pcall (rest := []) C (pX12_unit l v0) oX12_unit kw_1246 rfl ⟨Nat.le_of_ble_eq_true rfl, Nat.le_of_ble_eq_true rfl⟩ rfl (Nat.le_of_ble_eq_true rfl) ⟨Nat.zero_le _, Nat.zero_le _⟩ dX12_remainder_61 ?_
  refine jr_lload_n C dX12_remainder_64 rfl 1 rfl ?_
  refine jr_pcall (rest := [.int (fX12_unit v0)]) C (pX12_unit l v2) oX12_unit kw_1246 rfl ⟨Nat.le_of_ble_eq_true rfl, Nat.le_of_ble_eq_true rfl⟩ rfl (Nat.le_of_ble_eq_true rfl) ⟨Nat.zero_le _, Nat.zero_le _⟩ dX12_remainder_65 ?_
  refine jr_isub C dX12_remainder_68 ?_
  refine jr_istore (lv' := [(8, .int ((fX12_unit v0) - (fX12_unit v2))), (0, .long v0), (2, .long v2), (4, .long v4), (6, .long v6)]) C dX12_remainder_69 (by decide) rfl ?_
  exact jr_sub [1, 2, 3, 4, 0] rfl (tX12_remainder_71 C  v0 v2 v4 v6 ((fX12_unit v0) - (fX12_unit v2)) hv)
set_option maxRecDepth 100000 in
theorem tX12_remainder_54 {p : Program} {l : Launch} {e : Env} {s : State} {m : MethodId} {args : Array Value} {below : List Frame} {meth : Method} {c : Code} (C : CC p s m args meth c yX12_remainder cX12_remainder 12 (some .long))  (v0 : Int64) (v2 : Int64) (v4 : Int64) {w : Int64} (hv : fX12_remainder_54 v0 v2 v4 = some w) : PJ p l e s m args below meth c 12 3 (.long w) 54 [(0, .long v0), (2, .long v2), (4, .long v4)] [] := by
  unfold fX12_remainder_54 at hv
  refine jr_lload_n C dX12_remainder_54 rfl 1 rfl ?_
  refine jr_pcall (rest := []) C (pX12_digits l v2) oX12_digits kw_1239 rfl ⟨Nat.le_of_ble_eq_true rfl, Nat.le_of_ble_eq_true rfl⟩ rfl (Nat.le_of_ble_eq_true rfl) ⟨Nat.zero_le _, Nat.zero_le _⟩ dX12_remainder_55 ?_
  refine jr_lstore (lv' := [(6, .long (fX12_digits v2)), (0, .long v0), (2, .long v2), (4, .long v4)]) C dX12_remainder_58 (by decide) rfl ?_
  exact jr_sub [1, 2, 3, 0] rfl (tX12_remainder_60 C  v0 v2 v4 (fX12_digits v2) hv)
set_option maxRecDepth 100000 in
theorem tX12_remainder_0 {p : Program} {l : Launch} {e : Env} {s : State} {m : MethodId} {args : Array Value} {below : List Frame} {meth : Method} {c : Code} (C : CC p s m args meth c yX12_remainder cX12_remainder 12 (some .long))  (v0 : Int64) (v2 : Int64) {w : Int64} (hv : fX12_remainder v0 v2 = some w) : PJ p l e s m args below meth c 12 3 (.long w) 0 [(0, .long v0), (2, .long v2)] [] := by
  unfold fX12_remainder at hv
  refine jr_lload_n C dX12_remainder_0 rfl 0 rfl ?_
  refine jr_pcall (rest := []) C (pX12_isLost l v0) oX12_isLost kw_1203 rfl ⟨Nat.le_of_ble_eq_true rfl, Nat.le_of_ble_eq_true rfl⟩ rfl (Nat.le_of_ble_eq_true rfl) ⟨Nat.zero_le _, Nat.zero_le _⟩ dX12_remainder_1 ?_
  refine jr_if_ne (tgt := 28) C dX12_remainder_4 rfl (fun q4 => ?_) (fun q4 => ?_)
  · have hv := (if_neg q4).symm.trans hv
    exact jr_sub [] rfl (tX12_remainder_28 C   hv)
  · have hv := (if_pos q4).symm.trans hv
    refine jr_lload_n C dX12_remainder_7 rfl 1 rfl ?_
    refine jr_pcall (rest := []) C (pX12_isLost l v2) oX12_isLost kw_1203 rfl ⟨Nat.le_of_ble_eq_true rfl, Nat.le_of_ble_eq_true rfl⟩ rfl (Nat.le_of_ble_eq_true rfl) ⟨Nat.zero_le _, Nat.zero_le _⟩ dX12_remainder_8 ?_
    refine jr_if_ne (tgt := 28) C dX12_remainder_11 rfl (fun q11 => ?_) (fun q11 => ?_)
    · have hv := (if_neg q11).symm.trans hv
      exact jr_sub [] rfl (tX12_remainder_28 C   hv)
    · have hv := (if_pos q11).symm.trans hv
      refine jr_lload_n C dX12_remainder_14 rfl 0 rfl ?_
      refine jr_pcall (rest := []) C (pX12_isInfinite l v0) oX12_isInfinite kw_1232 rfl ⟨Nat.le_of_ble_eq_true rfl, Nat.le_of_ble_eq_true rfl⟩ rfl (Nat.le_of_ble_eq_true rfl) ⟨Nat.zero_le _, Nat.zero_le _⟩ dX12_remainder_15 ?_
      refine jr_if_ne (tgt := 28) C dX12_remainder_18 rfl (fun q18 => ?_) (fun q18 => ?_)
      · have hv := (if_neg q18).symm.trans hv
        exact jr_sub [] rfl (tX12_remainder_28 C   hv)
      · have hv := (if_pos q18).symm.trans hv
        refine jr_lload_n C dX12_remainder_21 rfl 1 rfl ?_
        refine jr_pcall (rest := []) C (pX12_isZero l v2) oX12_isZero kw_1235 rfl ⟨Nat.le_of_ble_eq_true rfl, Nat.le_of_ble_eq_true rfl⟩ rfl (Nat.le_of_ble_eq_true rfl) ⟨Nat.zero_le _, Nat.zero_le _⟩ dX12_remainder_22 ?_
        refine jr_if_eq (tgt := 32) C dX12_remainder_25 rfl (fun q25 => ?_) (fun q25 => ?_)
        · have hv := (if_pos q25).symm.trans hv
          refine jr_lload_n C dX12_remainder_32 rfl 0 rfl ?_
          refine jr_pcall (rest := []) C (pX12_isZero l v0) oX12_isZero kw_1235 rfl ⟨Nat.le_of_ble_eq_true rfl, Nat.le_of_ble_eq_true rfl⟩ rfl (Nat.le_of_ble_eq_true rfl) ⟨Nat.zero_le _, Nat.zero_le _⟩ dX12_remainder_33 ?_
          refine jr_if_ne (tgt := 46) C dX12_remainder_36 rfl (fun q36 => ?_) (fun q36 => ?_)
          · have hv := (if_neg q36).symm.trans hv
            exact jr_sub [0] rfl (tX12_remainder_46 C  v0 hv)
          · have hv := (if_pos q36).symm.trans hv
            refine jr_lload_n C dX12_remainder_39 rfl 1 rfl ?_
            refine jr_pcall (rest := []) C (pX12_isInfinite l v2) oX12_isInfinite kw_1232 rfl ⟨Nat.le_of_ble_eq_true rfl, Nat.le_of_ble_eq_true rfl⟩ rfl (Nat.le_of_ble_eq_true rfl) ⟨Nat.zero_le _, Nat.zero_le _⟩ dX12_remainder_40 ?_
            refine jr_if_eq (tgt := 48) C dX12_remainder_43 rfl (fun q43 => ?_) (fun q43 => ?_)
            · have hv := (if_pos q43).symm.trans hv
              refine jr_lload_n C dX12_remainder_48 rfl 0 rfl ?_
              refine jr_pcall (rest := []) C (pX12_digits l v0) oX12_digits kw_1239 rfl ⟨Nat.le_of_ble_eq_true rfl, Nat.le_of_ble_eq_true rfl⟩ rfl (Nat.le_of_ble_eq_true rfl) ⟨Nat.zero_le _, Nat.zero_le _⟩ dX12_remainder_49 ?_
              refine jr_lstore (lv' := [(4, .long (fX12_digits v0)), (0, .long v0), (2, .long v2)]) C dX12_remainder_52 (by decide) rfl ?_
              exact jr_sub [1, 2, 0] rfl (tX12_remainder_54 C  v0 v2 (fX12_digits v0) hv)
            · have hv := (if_neg q43).symm.trans hv
              exact jr_sub [0] rfl (tX12_remainder_46 C  v0 hv)
        · have hv := (if_neg q25).symm.trans hv
          exact jr_sub [] rfl (tX12_remainder_28 C   hv)
theorem pX12_remainder (l : Launch) (v0 : Int64) (v2 : Int64) {w : Int64} (hw : fX12_remainder v0 v2 = some w) : pu l yX12_remainder cX12_remainder 12 (some .long) 3 [.long v0, .long v2] (.long w) := pu_of (by decide +kernel) (Nat.le_of_ble_eq_true rfl) rfl (fun C => tX12_remainder_0 C v0 v2 hw)
/-! RobotCellModel.root(J)J -/
def fX12_root_20  : Option Int64 :=
  some 9221120237041090560
def fX12_root_38 (v0 : Int64) : Option Int64 :=
  some v0
def fX12_root_225 (t0 : Int32) (t1 : Int64) (t2 : Int32) (t3 : Int32) : Option Int64 :=
  Option.bind (fX12_made t0 t1 t2 t3) (fun c225 => some c225)
def fX12_root_200 (r120 : Int64 → Int32 → Int64 → Int64 → Int32 → Option Int64) (v2 : Int64) (v4 : Int32) (v6 : Int64) (v8 : Int64) (v10 : Int32) : Option Int64 :=
  r120 v2 v4 v6 v8 v10
def fX12_root_197 (r120 : Int64 → Int32 → Int64 → Int64 → Int32 → Option Int64) (v2 : Int64) (v4 : Int32) (v6 : Int64) (v8 : Int64) (v10 : Int32) : Option Int64 :=
  fX12_root_200 r120 v2 v4 v6 v8 (v10 + 1)
def fX12_root_191 (r120 : Int64 → Int32 → Int64 → Int64 → Int32 → Option Int64) (v2 : Int64) (v4 : Int32) (v6 : Int64) (v8 : Int64) (v10 : Int32) : Option Int64 :=
  fX12_root_197 r120 v2 v4 (v6 ||| 1) v8 v10
def fX12_root_176 (r120 : Int64 → Int32 → Int64 → Int64 → Int32 → Option Int64) (v2 : Int64) (v4 : Int32) (v6 : Int64) (v8 : Int64) (v10 : Int32) (v13 : Int64) : Option Int64 :=
  if v8 < v13 then fX12_root_197 r120 v2 v4 v6 v8 v10 else fX12_root_191 r120 v2 v4 v6 (v8 - v13) v10
def fX12_root_170 (r120 : Int64 → Int32 → Int64 → Int64 → Int32 → Option Int64) (v2 : Int64) (v4 : Int32) (v6 : Int64) (v8 : Int64) (v10 : Int32) (v13 : Int64) : Option Int64 :=
  fX12_root_176 r120 v2 v4 (v6 <<< ((1 : Int32).toInt64 &&& 63)) v8 v10 v13
def fX12_root_162 (r120 : Int64 → Int32 → Int64 → Int64 → Int32 → Option Int64) (v2 : Int64) (v4 : Int32) (v6 : Int64) (v8 : Int64) (v10 : Int32) : Option Int64 :=
  fX12_root_170 r120 v2 v4 v6 v8 v10 ((v6 <<< ((2 : Int32).toInt64 &&& 63)) ||| 1)
def fX12_root_151 (r120 : Int64 → Int32 → Int64 → Int64 → Int32 → Option Int64) (v2 : Int64) (v4 : Int32) (v6 : Int64) (v8 : Int64) (v10 : Int32) (t0 : Int64) : Option Int64 :=
  fX12_root_162 r120 v2 v4 v6 ((v8 <<< ((2 : Int32).toInt64 &&& 63)) ||| t0) v10
def fX12_root_120  : Nat → Int64 → Int32 → Int64 → Int64 → Int32 → Option Int64
  | 0, _, _, _, _, _ => none
  | q + 1, v2, v4, v6, v8, v10 => if 57 ≤ v10 then (if v8 = 0 then fX12_root_225 0 v6 ((v4 / 2) - 30) 0 else fX12_root_225 0 v6 ((v4 / 2) - 30) 1) else (if 27 ≤ v10 then fX12_root_151 (fX12_root_120  q) v2 v4 v6 v8 v10 0 else fX12_root_151 (fX12_root_120  q) v2 v4 v6 v8 v10 ((v2 >>> (((52 - (2 * v10)) : Int32).toInt64 &&& 63)) &&& 3))
def fX12_root_109 (v2 : Int64) (t0 : Int32) : Option Int64 :=
  fX12_root_120 60 v2 t0 0 0 0
def fX12_root_94 (v4 : Int32) (v5 : Int32) (t0 : Int64) : Option Int64 :=
  if v5 = 0 then fX12_root_109 t0 v4 else fX12_root_109 t0 (v4 - 1)
def fX12_root_78 (v2 : Int64) (v4 : Int32) (t0 : Int32) : Option Int64 :=
  if t0 = 0 then fX12_root_94 v4 t0 v2 else fX12_root_94 v4 t0 (2 * v2)
def fX12_root_65 (v2 : Int64) (v4 : Int32) : Option Int64 :=
  if (v4 &&& 1) = 1 then fX12_root_78 v2 v4 1 else fX12_root_78 v2 v4 0
def fX12_root_24 (v0 : Int64) : Option Int64 :=
  if (fX12_isZero v0) = 0 then (if (fX12_isInfinite v0) = 0 then (Option.bind (fX12_full (fX12_digits v0)) (fun c44 => Option.bind (fX12_bitsOf (fX12_digits v0)) (fun c58 => fX12_root_65 c44 ((fX12_unit v0) - (53 - c58))))) else fX12_root_38 v0) else fX12_root_38 v0
def fX12_root (v0 : Int64) : Option Int64 :=
  if (fX12_isLost v0) = 0 then (if 0 ≤ v0 then fX12_root_24 v0 else (if (fX12_isZero v0) = 0 then fX12_root_20 else fX12_root_24 v0)) else fX12_root_20
theorem oX12_root : ok_s yX12_root cX12_root 15 (some .long) 1 := ⟨kw_1289, kw_1288, kw_73, by decide +kernel⟩
set_option maxRecDepth 100000 in
theorem tX12_root_20 {p : Program} {l : Launch} {e : Env} {s : State} {m : MethodId} {args : Array Value} {below : List Frame} {meth : Method} {c : Code} (C : CC p s m args meth c yX12_root cX12_root 15 (some .long))   {w : Int64} (hv : fX12_root_20  = some w) : PJ p l e s m args below meth c 15 3 (.long w) 20 [] [] := by
  unfold fX12_root_20 at hv
  refine jr_ldc2 C kw_1208 dX12_root_20 ?_
  exact jp_lret C dX12_root_23 (congrArg Value.long (Option.some.inj hv)).symm
set_option maxRecDepth 100000 in
theorem tX12_root_38 {p : Program} {l : Launch} {e : Env} {s : State} {m : MethodId} {args : Array Value} {below : List Frame} {meth : Method} {c : Code} (C : CC p s m args meth c yX12_root cX12_root 15 (some .long))  (v0 : Int64) {w : Int64} (hv : fX12_root_38 v0 = some w) : PJ p l e s m args below meth c 15 3 (.long w) 38 [(0, .long v0)] [] := by
  unfold fX12_root_38 at hv
  refine jr_lload_n C dX12_root_38 rfl 0 rfl ?_
  exact jp_lret C dX12_root_39 (congrArg Value.long (Option.some.inj hv)).symm
set_option maxRecDepth 100000 in
theorem tX12_root_225 {p : Program} {l : Launch} {e : Env} {s : State} {m : MethodId} {args : Array Value} {below : List Frame} {meth : Method} {c : Code} (C : CC p s m args meth c yX12_root cX12_root 15 (some .long))  (t0 : Int32) (t1 : Int64) (t2 : Int32) (t3 : Int32) {w : Int64} (hv : fX12_root_225 t0 t1 t2 t3 = some w) : PJ p l e s m args below meth c 15 3 (.long w) 225 [] [.int t3, .int t2, .long t1, .int t0] := by
  unfold fX12_root_225 at hv
  obtain ⟨c225, hc225, hv⟩ := Option.bind_eq_some_iff.mp hv
  refine jr_pcall (rest := []) C (pX12_made l t0 t1 t2 t3 hc225) oX12_made kw_1250 rfl ⟨Nat.le_of_ble_eq_true rfl, Nat.le_of_ble_eq_true rfl⟩ rfl (Nat.le_of_ble_eq_true rfl) ⟨Nat.zero_le _, Nat.zero_le _⟩ dX12_root_225 ?_
  exact jp_lret C dX12_root_228 (congrArg Value.long (Option.some.inj hv)).symm
set_option maxRecDepth 100000 in
theorem tX12_root_200 {p : Program} {l : Launch} {e : Env} {s : State} {m : MethodId} {args : Array Value} {below : List Frame} {meth : Method} {c : Code} (C : CC p s m args meth c yX12_root cX12_root 15 (some .long)) (r120 : Int64 → Int32 → Int64 → Int64 → Int32 → Option Int64) (h120 : ∀ (v2 : Int64) (v4 : Int32) (v6 : Int64) (v8 : Int64) (v10 : Int32) (w : Int64), r120 v2 v4 v6 v8 v10 = some w → PJ p l e s m args below meth c 15 3 (.long w) 120 [(2, .long v2), (4, .int v4), (6, .long v6), (8, .long v8), (10, .int v10)] []) (v2 : Int64) (v4 : Int32) (v6 : Int64) (v8 : Int64) (v10 : Int32) {w : Int64} (hv : fX12_root_200 r120 v2 v4 v6 v8 v10 = some w) : PJ p l e s m args below meth c 15 3 (.long w) 200 [(2, .long v2), (4, .int v4), (6, .long v6), (8, .long v8), (10, .int v10)] [] := by
  unfold fX12_root_200 at hv
  refine jr_goto (tgt := 120) C dX12_root_200 rfl ?_
  exact h120 v2 v4 v6 v8 v10 _ hv
set_option maxRecDepth 100000 in
theorem tX12_root_197 {p : Program} {l : Launch} {e : Env} {s : State} {m : MethodId} {args : Array Value} {below : List Frame} {meth : Method} {c : Code} (C : CC p s m args meth c yX12_root cX12_root 15 (some .long)) (r120 : Int64 → Int32 → Int64 → Int64 → Int32 → Option Int64) (h120 : ∀ (v2 : Int64) (v4 : Int32) (v6 : Int64) (v8 : Int64) (v10 : Int32) (w : Int64), r120 v2 v4 v6 v8 v10 = some w → PJ p l e s m args below meth c 15 3 (.long w) 120 [(2, .long v2), (4, .int v4), (6, .long v6), (8, .long v8), (10, .int v10)] []) (v2 : Int64) (v4 : Int32) (v6 : Int64) (v8 : Int64) (v10 : Int32) {w : Int64} (hv : fX12_root_197 r120 v2 v4 v6 v8 v10 = some w) : PJ p l e s m args below meth c 15 3 (.long w) 197 [(2, .long v2), (4, .int v4), (6, .long v6), (8, .long v8), (10, .int v10)] [] := by
  unfold fX12_root_197 at hv
  refine jr_iinc (v := (v10 + 1)) (lv' := [(10, .int (v10 + 1)), (2, .long v2), (4, .int v4), (6, .long v6), (8, .long v8)]) C dX12_root_197 4 rfl rfl (by decide) rfl ?_
  exact jr_sub [1, 2, 3, 4, 0] rfl (tX12_root_200 C r120 h120 v2 v4 v6 v8 (v10 + 1) hv)
set_option maxRecDepth 100000 in
theorem tX12_root_191 {p : Program} {l : Launch} {e : Env} {s : State} {m : MethodId} {args : Array Value} {below : List Frame} {meth : Method} {c : Code} (C : CC p s m args meth c yX12_root cX12_root 15 (some .long)) (r120 : Int64 → Int32 → Int64 → Int64 → Int32 → Option Int64) (h120 : ∀ (v2 : Int64) (v4 : Int32) (v6 : Int64) (v8 : Int64) (v10 : Int32) (w : Int64), r120 v2 v4 v6 v8 v10 = some w → PJ p l e s m args below meth c 15 3 (.long w) 120 [(2, .long v2), (4, .int v4), (6, .long v6), (8, .long v8), (10, .int v10)] []) (v2 : Int64) (v4 : Int32) (v6 : Int64) (v8 : Int64) (v10 : Int32) {w : Int64} (hv : fX12_root_191 r120 v2 v4 v6 v8 v10 = some w) : PJ p l e s m args below meth c 15 3 (.long w) 191 [(2, .long v2), (4, .int v4), (6, .long v6), (8, .long v8), (10, .int v10)] [] := by
  unfold fX12_root_191 at hv
  refine jr_lload C dX12_root_191 2 rfl ?_
  refine jr_lconst (v := 1) C dX12_root_193 (by decide) ?_
  refine jr_lor C dX12_root_194 ?_
  refine jr_lstore (lv' := [(6, .long (v6 ||| 1)), (2, .long v2), (4, .int v4), (8, .long v8), (10, .int v10)]) C dX12_root_195 (by decide) rfl ?_
  exact jr_sub [1, 2, 0, 3, 4] rfl (tX12_root_197 C r120 h120 v2 v4 (v6 ||| 1) v8 v10 hv)
set_option maxRecDepth 100000 in
theorem tX12_root_176 {p : Program} {l : Launch} {e : Env} {s : State} {m : MethodId} {args : Array Value} {below : List Frame} {meth : Method} {c : Code} (C : CC p s m args meth c yX12_root cX12_root 15 (some .long)) (r120 : Int64 → Int32 → Int64 → Int64 → Int32 → Option Int64) (h120 : ∀ (v2 : Int64) (v4 : Int32) (v6 : Int64) (v8 : Int64) (v10 : Int32) (w : Int64), r120 v2 v4 v6 v8 v10 = some w → PJ p l e s m args below meth c 15 3 (.long w) 120 [(2, .long v2), (4, .int v4), (6, .long v6), (8, .long v8), (10, .int v10)] []) (v2 : Int64) (v4 : Int32) (v6 : Int64) (v8 : Int64) (v10 : Int32) (v13 : Int64) {w : Int64} (hv : fX12_root_176 r120 v2 v4 v6 v8 v10 v13 = some w) : PJ p l e s m args below meth c 15 3 (.long w) 176 [(2, .long v2), (4, .int v4), (6, .long v6), (8, .long v8), (10, .int v10), (13, .long v13)] [] := by
  unfold fX12_root_176 at hv
  refine jr_lload C dX12_root_176 3 rfl ?_
  refine jr_lload C dX12_root_178 5 rfl ?_
  refine jr_lcmp_lt (tgt := 197) C dX12_root_180 dX12_root_181 rfl (fun q180 => ?_) (fun q180 => ?_)
  · have hv := (if_pos q180).symm.trans hv
    exact jr_sub [0, 1, 2, 3, 4] rfl (tX12_root_197 C r120 h120 v2 v4 v6 v8 v10 hv)
  · have hv := (if_neg q180).symm.trans hv
    refine jr_lload C dX12_root_184 3 rfl ?_
    refine jr_lload C dX12_root_186 5 rfl ?_
    refine jr_lsub C dX12_root_188 ?_
    refine jr_lstore (lv' := [(8, .long (v8 - v13)), (2, .long v2), (4, .int v4), (6, .long v6), (10, .int v10), (13, .long v13)]) C dX12_root_189 (by decide) rfl ?_
    exact jr_sub [1, 2, 3, 0, 4] rfl (tX12_root_191 C r120 h120 v2 v4 v6 (v8 - v13) v10 hv)
set_option maxRecDepth 100000 in
theorem tX12_root_170 {p : Program} {l : Launch} {e : Env} {s : State} {m : MethodId} {args : Array Value} {below : List Frame} {meth : Method} {c : Code} (C : CC p s m args meth c yX12_root cX12_root 15 (some .long)) (r120 : Int64 → Int32 → Int64 → Int64 → Int32 → Option Int64) (h120 : ∀ (v2 : Int64) (v4 : Int32) (v6 : Int64) (v8 : Int64) (v10 : Int32) (w : Int64), r120 v2 v4 v6 v8 v10 = some w → PJ p l e s m args below meth c 15 3 (.long w) 120 [(2, .long v2), (4, .int v4), (6, .long v6), (8, .long v8), (10, .int v10)] []) (v2 : Int64) (v4 : Int32) (v6 : Int64) (v8 : Int64) (v10 : Int32) (v13 : Int64) {w : Int64} (hv : fX12_root_170 r120 v2 v4 v6 v8 v10 v13 = some w) : PJ p l e s m args below meth c 15 3 (.long w) 170 [(2, .long v2), (4, .int v4), (6, .long v6), (8, .long v8), (10, .int v10), (13, .long v13)] [] := by
  unfold fX12_root_170 at hv
  refine jr_lload C dX12_root_170 2 rfl ?_
  refine jr_iconst (v := 1) C dX12_root_172 (by decide) ?_
  refine jr_lshl C dX12_root_173 ?_
  refine jr_lstore (lv' := [(6, .long (v6 <<< ((1 : Int32).toInt64 &&& 63))), (2, .long v2), (4, .int v4), (8, .long v8), (10, .int v10), (13, .long v13)]) C dX12_root_174 (by decide) rfl ?_
  exact jr_sub [1, 2, 0, 3, 4, 5] rfl (tX12_root_176 C r120 h120 v2 v4 (v6 <<< ((1 : Int32).toInt64 &&& 63)) v8 v10 v13 hv)
set_option maxRecDepth 100000 in
theorem tX12_root_162 {p : Program} {l : Launch} {e : Env} {s : State} {m : MethodId} {args : Array Value} {below : List Frame} {meth : Method} {c : Code} (C : CC p s m args meth c yX12_root cX12_root 15 (some .long)) (r120 : Int64 → Int32 → Int64 → Int64 → Int32 → Option Int64) (h120 : ∀ (v2 : Int64) (v4 : Int32) (v6 : Int64) (v8 : Int64) (v10 : Int32) (w : Int64), r120 v2 v4 v6 v8 v10 = some w → PJ p l e s m args below meth c 15 3 (.long w) 120 [(2, .long v2), (4, .int v4), (6, .long v6), (8, .long v8), (10, .int v10)] []) (v2 : Int64) (v4 : Int32) (v6 : Int64) (v8 : Int64) (v10 : Int32) {w : Int64} (hv : fX12_root_162 r120 v2 v4 v6 v8 v10 = some w) : PJ p l e s m args below meth c 15 3 (.long w) 162 [(2, .long v2), (4, .int v4), (6, .long v6), (8, .long v8), (10, .int v10)] [] := by
  unfold fX12_root_162 at hv
  refine jr_lload C dX12_root_162 2 rfl ?_
  refine jr_iconst (v := 2) C dX12_root_164 (by decide) ?_
  refine jr_lshl C dX12_root_165 ?_
  refine jr_lconst (v := 1) C dX12_root_166 (by decide) ?_
  refine jr_lor C dX12_root_167 ?_
  refine jr_lstore (lv' := [(13, .long ((v6 <<< ((2 : Int32).toInt64 &&& 63)) ||| 1)), (2, .long v2), (4, .int v4), (6, .long v6), (8, .long v8), (10, .int v10)]) C dX12_root_168 (by decide) rfl ?_
  exact jr_sub [1, 2, 3, 4, 5, 0] rfl (tX12_root_170 C r120 h120 v2 v4 v6 v8 v10 ((v6 <<< ((2 : Int32).toInt64 &&& 63)) ||| 1) hv)
set_option maxRecDepth 100000 in
theorem tX12_root_151 {p : Program} {l : Launch} {e : Env} {s : State} {m : MethodId} {args : Array Value} {below : List Frame} {meth : Method} {c : Code} (C : CC p s m args meth c yX12_root cX12_root 15 (some .long)) (r120 : Int64 → Int32 → Int64 → Int64 → Int32 → Option Int64) (h120 : ∀ (v2 : Int64) (v4 : Int32) (v6 : Int64) (v8 : Int64) (v10 : Int32) (w : Int64), r120 v2 v4 v6 v8 v10 = some w → PJ p l e s m args below meth c 15 3 (.long w) 120 [(2, .long v2), (4, .int v4), (6, .long v6), (8, .long v8), (10, .int v10)] []) (v2 : Int64) (v4 : Int32) (v6 : Int64) (v8 : Int64) (v10 : Int32) (t0 : Int64) {w : Int64} (hv : fX12_root_151 r120 v2 v4 v6 v8 v10 t0 = some w) : PJ p l e s m args below meth c 15 3 (.long w) 151 [(2, .long v2), (4, .int v4), (6, .long v6), (8, .long v8), (10, .int v10)] [.long t0] := by
  unfold fX12_root_151 at hv
  refine jr_lstore (lv' := [(11, .long t0), (2, .long v2), (4, .int v4), (6, .long v6), (8, .long v8), (10, .int v10)]) C dX12_root_151 (by decide) rfl ?_
  refine jr_lload C dX12_root_153 4 rfl ?_
  refine jr_iconst (v := 2) C dX12_root_155 (by decide) ?_
  refine jr_lshl C dX12_root_156 ?_
  refine jr_lload C dX12_root_157 0 rfl ?_
  refine jr_lor C dX12_root_159 ?_
  refine jr_lstore (lv' := [(8, .long ((v8 <<< ((2 : Int32).toInt64 &&& 63)) ||| t0)), (11, .long t0), (2, .long v2), (4, .int v4), (6, .long v6), (10, .int v10)]) C dX12_root_160 (by decide) rfl ?_
  exact jr_sub [2, 3, 4, 0, 5] rfl (tX12_root_162 C r120 h120 v2 v4 v6 ((v8 <<< ((2 : Int32).toInt64 &&& 63)) ||| t0) v10 hv)
set_option maxRecDepth 100000 in
theorem tX12_root_120 {p : Program} {l : Launch} {e : Env} {s : State} {m : MethodId} {args : Array Value} {below : List Frame} {meth : Method} {c : Code} (C : CC p s m args meth c yX12_root cX12_root 15 (some .long))  : ∀ (q : Nat) (v2 : Int64) (v4 : Int32) (v6 : Int64) (v8 : Int64) (v10 : Int32) (w : Int64), fX12_root_120  q v2 v4 v6 v8 v10 = some w → PJ p l e s m args below meth c 15 3 (.long w) 120 [(2, .long v2), (4, .int v4), (6, .long v6), (8, .long v8), (10, .int v10)] [] := by
  intro q
  induction q with
  | zero => intro v2 v4 v6 v8 v10 w hv; exact absurd hv (by simp [fX12_root_120])
  | succ q ih =>
    intro v2 v4 v6 v8 v10 w hv
    unfold fX12_root_120 at hv
    refine jr_iload C dX12_root_120 4 rfl ?_
    refine jr_bipush (v := 57) C dX12_root_122 (by decide) ?_
    refine jr_icmp_ge (tgt := 203) C dX12_root_124 rfl (fun q124 => ?_) (fun q124 => ?_)
    · have hv := (if_pos q124).symm.trans hv
      refine jr_iconst (v := 0) C dX12_root_203 (by decide) ?_
      refine jr_lload C dX12_root_204 2 rfl ?_
      refine jr_iload C dX12_root_206 1 rfl ?_
      refine jr_iconst (v := 2) C dX12_root_208 (by decide) ?_
      refine jr_idiv C dX12_root_209 (by decide) ?_
      refine jr_bipush (v := 30) C dX12_root_210 (by decide) ?_
      refine jr_isub C dX12_root_212 ?_
      refine jr_lload C dX12_root_213 3 rfl ?_
      refine jr_lconst (v := 0) C dX12_root_215 (by decide) ?_
      refine jr_lcmp_eq (tgt := 224) C dX12_root_216 dX12_root_217 rfl (fun q216 => ?_) (fun q216 => ?_)
      · have hv := (if_pos q216).symm.trans hv
        refine jr_iconst (v := 0) C dX12_root_224 (by decide) ?_
        exact jr_sub [] rfl (tX12_root_225 C  0 v6 ((v4 / 2) - 30) 0 hv)
      · have hv := (if_neg q216).symm.trans hv
        refine jr_iconst (v := 1) C dX12_root_220 (by decide) ?_
        refine jr_goto (tgt := 225) C dX12_root_221 rfl ?_
        exact jr_sub [] rfl (tX12_root_225 C  0 v6 ((v4 / 2) - 30) 1 hv)
    · have hv := (if_neg q124).symm.trans hv
      refine jr_iload C dX12_root_127 4 rfl ?_
      refine jr_bipush (v := 27) C dX12_root_129 (by decide) ?_
      refine jr_icmp_ge (tgt := 150) C dX12_root_131 rfl (fun q131 => ?_) (fun q131 => ?_)
      · have hv := (if_pos q131).symm.trans hv
        refine jr_lconst (v := 0) C dX12_root_150 (by decide) ?_
        exact tX12_root_151 C (fX12_root_120  q) ih v2 v4 v6 v8 v10 0 hv
      · have hv := (if_neg q131).symm.trans hv
        refine jr_lload_n C dX12_root_134 rfl 0 rfl ?_
        refine jr_bipush (v := 52) C dX12_root_135 (by decide) ?_
        refine jr_iconst (v := 2) C dX12_root_137 (by decide) ?_
        refine jr_iload C dX12_root_138 4 rfl ?_
        refine jr_imul C dX12_root_140 ?_
        refine jr_isub C dX12_root_141 ?_
        refine jr_lshr C dX12_root_142 ?_
        refine jr_ldc2 C kw_1219 dX12_root_143 ?_
        refine jr_land C dX12_root_146 ?_
        refine jr_goto (tgt := 151) C dX12_root_147 rfl ?_
        exact tX12_root_151 C (fX12_root_120  q) ih v2 v4 v6 v8 v10 ((v2 >>> (((52 - (2 * v10)) : Int32).toInt64 &&& 63)) &&& 3) hv
set_option maxRecDepth 100000 in
theorem tX12_root_109 {p : Program} {l : Launch} {e : Env} {s : State} {m : MethodId} {args : Array Value} {below : List Frame} {meth : Method} {c : Code} (C : CC p s m args meth c yX12_root cX12_root 15 (some .long))  (v2 : Int64) (t0 : Int32) {w : Int64} (hv : fX12_root_109 v2 t0 = some w) : PJ p l e s m args below meth c 15 3 (.long w) 109 [(2, .long v2)] [.int t0] := by
  unfold fX12_root_109 at hv
  refine jr_istore (lv' := [(4, .int t0), (2, .long v2)]) C dX12_root_109 (by decide) rfl ?_
  refine jr_lconst (v := 0) C dX12_root_111 (by decide) ?_
  refine jr_lstore (lv' := [(6, .long 0), (4, .int t0), (2, .long v2)]) C dX12_root_112 (by decide) rfl ?_
  refine jr_lconst (v := 0) C dX12_root_114 (by decide) ?_
  refine jr_lstore (lv' := [(8, .long 0), (6, .long 0), (4, .int t0), (2, .long v2)]) C dX12_root_115 (by decide) rfl ?_
  refine jr_iconst (v := 0) C dX12_root_117 (by decide) ?_
  refine jr_istore (lv' := [(10, .int 0), (8, .long 0), (6, .long 0), (4, .int t0), (2, .long v2)]) C dX12_root_118 (by decide) rfl ?_
  exact jr_sub [4, 3, 2, 1, 0] rfl (tX12_root_120 C  60 v2 t0 0 0 0 _ hv)
set_option maxRecDepth 100000 in
theorem tX12_root_94 {p : Program} {l : Launch} {e : Env} {s : State} {m : MethodId} {args : Array Value} {below : List Frame} {meth : Method} {c : Code} (C : CC p s m args meth c yX12_root cX12_root 15 (some .long))  (v4 : Int32) (v5 : Int32) (t0 : Int64) {w : Int64} (hv : fX12_root_94 v4 v5 t0 = some w) : PJ p l e s m args below meth c 15 3 (.long w) 94 [(4, .int v4), (5, .int v5)] [.long t0] := by
  unfold fX12_root_94 at hv
  refine jr_lstore_n (lv' := [(2, .long t0), (4, .int v4), (5, .int v5)]) C dX12_root_94 rfl (by decide) rfl ?_
  refine jr_iload C dX12_root_95 2 rfl ?_
  refine jr_if_eq (tgt := 107) C dX12_root_97 rfl (fun q97 => ?_) (fun q97 => ?_)
  · have hv := (if_pos q97).symm.trans hv
    refine jr_iload C dX12_root_107 1 rfl ?_
    exact jr_sub [0] rfl (tX12_root_109 C  t0 v4 hv)
  · have hv := (if_neg q97).symm.trans hv
    refine jr_iload C dX12_root_100 1 rfl ?_
    refine jr_iconst (v := 1) C dX12_root_102 (by decide) ?_
    refine jr_isub C dX12_root_103 ?_
    refine jr_goto (tgt := 109) C dX12_root_104 rfl ?_
    exact jr_sub [0] rfl (tX12_root_109 C  t0 (v4 - 1) hv)
set_option maxRecDepth 100000 in
theorem tX12_root_78 {p : Program} {l : Launch} {e : Env} {s : State} {m : MethodId} {args : Array Value} {below : List Frame} {meth : Method} {c : Code} (C : CC p s m args meth c yX12_root cX12_root 15 (some .long))  (v2 : Int64) (v4 : Int32) (t0 : Int32) {w : Int64} (hv : fX12_root_78 v2 v4 t0 = some w) : PJ p l e s m args below meth c 15 3 (.long w) 78 [(2, .long v2), (4, .int v4)] [.int t0] := by
  unfold fX12_root_78 at hv
  refine jr_istore (lv' := [(5, .int t0), (2, .long v2), (4, .int v4)]) C dX12_root_78 (by decide) rfl ?_
  refine jr_iload C dX12_root_80 0 rfl ?_
  refine jr_if_eq (tgt := 93) C dX12_root_82 rfl (fun q82 => ?_) (fun q82 => ?_)
  · have hv := (if_pos q82).symm.trans hv
    refine jr_lload_n C dX12_root_93 rfl 1 rfl ?_
    exact jr_sub [2, 0] rfl (tX12_root_94 C  v4 t0 v2 hv)
  · have hv := (if_neg q82).symm.trans hv
    refine jr_ldc2 C kw_1249 dX12_root_85 ?_
    refine jr_lload_n C dX12_root_88 rfl 1 rfl ?_
    refine jr_lmul C dX12_root_89 ?_
    refine jr_goto (tgt := 94) C dX12_root_90 rfl ?_
    exact jr_sub [2, 0] rfl (tX12_root_94 C  v4 t0 (2 * v2) hv)
set_option maxRecDepth 100000 in
theorem tX12_root_65 {p : Program} {l : Launch} {e : Env} {s : State} {m : MethodId} {args : Array Value} {below : List Frame} {meth : Method} {c : Code} (C : CC p s m args meth c yX12_root cX12_root 15 (some .long))  (v2 : Int64) (v4 : Int32) {w : Int64} (hv : fX12_root_65 v2 v4 = some w) : PJ p l e s m args below meth c 15 3 (.long w) 65 [(2, .long v2), (4, .int v4)] [] := by
  unfold fX12_root_65 at hv
  refine jr_iload C dX12_root_65 1 rfl ?_
  refine jr_iconst (v := 1) C dX12_root_67 (by decide) ?_
  refine jr_iand C dX12_root_68 ?_
  refine jr_iconst (v := 1) C dX12_root_69 (by decide) ?_
  refine jr_icmp_ne (tgt := 77) C dX12_root_70 rfl (fun q70 => ?_) (fun q70 => ?_)
  · have hv := (if_neg q70).symm.trans hv
    refine jr_iconst (v := 0) C dX12_root_77 (by decide) ?_
    exact tX12_root_78 C  v2 v4 0 hv
  · have hv := (if_pos q70).symm.trans hv
    refine jr_iconst (v := 1) C dX12_root_73 (by decide) ?_
    refine jr_goto (tgt := 78) C dX12_root_74 rfl ?_
    exact tX12_root_78 C  v2 v4 1 hv
set_option maxRecDepth 100000 in
theorem tX12_root_24 {p : Program} {l : Launch} {e : Env} {s : State} {m : MethodId} {args : Array Value} {below : List Frame} {meth : Method} {c : Code} (C : CC p s m args meth c yX12_root cX12_root 15 (some .long))  (v0 : Int64) {w : Int64} (hv : fX12_root_24 v0 = some w) : PJ p l e s m args below meth c 15 3 (.long w) 24 [(0, .long v0)] [] := by
  unfold fX12_root_24 at hv
  refine jr_lload_n C dX12_root_24 rfl 0 rfl ?_
  refine jr_pcall (rest := []) C (pX12_isZero l v0) oX12_isZero kw_1235 rfl ⟨Nat.le_of_ble_eq_true rfl, Nat.le_of_ble_eq_true rfl⟩ rfl (Nat.le_of_ble_eq_true rfl) ⟨Nat.zero_le _, Nat.zero_le _⟩ dX12_root_25 ?_
  refine jr_if_ne (tgt := 38) C dX12_root_28 rfl (fun q28 => ?_) (fun q28 => ?_)
  · have hv := (if_neg q28).symm.trans hv
    exact tX12_root_38 C  v0 hv
  · have hv := (if_pos q28).symm.trans hv
    refine jr_lload_n C dX12_root_31 rfl 0 rfl ?_
    refine jr_pcall (rest := []) C (pX12_isInfinite l v0) oX12_isInfinite kw_1232 rfl ⟨Nat.le_of_ble_eq_true rfl, Nat.le_of_ble_eq_true rfl⟩ rfl (Nat.le_of_ble_eq_true rfl) ⟨Nat.zero_le _, Nat.zero_le _⟩ dX12_root_32 ?_
    refine jr_if_eq (tgt := 40) C dX12_root_35 rfl (fun q35 => ?_) (fun q35 => ?_)
    · have hv := (if_pos q35).symm.trans hv
      refine jr_lload_n C dX12_root_40 rfl 0 rfl ?_
      refine jr_pcall (rest := []) C (pX12_digits l v0) oX12_digits kw_1239 rfl ⟨Nat.le_of_ble_eq_true rfl, Nat.le_of_ble_eq_true rfl⟩ rfl (Nat.le_of_ble_eq_true rfl) ⟨Nat.zero_le _, Nat.zero_le _⟩ dX12_root_41 ?_
      obtain ⟨c44, hc44, hv⟩ := Option.bind_eq_some_iff.mp hv
      refine jr_pcall (rest := []) C (pX12_full l (fX12_digits v0) hc44) oX12_full kw_1243 rfl ⟨Nat.le_of_ble_eq_true rfl, Nat.le_of_ble_eq_true rfl⟩ rfl (Nat.le_of_ble_eq_true rfl) ⟨Nat.zero_le _, Nat.zero_le _⟩ dX12_root_44 ?_
      refine jr_lstore_n (lv' := [(2, .long c44), (0, .long v0)]) C dX12_root_47 rfl (by decide) rfl ?_
      refine jr_lload_n C dX12_root_48 rfl 1 rfl ?_
      refine jr_pcall (rest := []) C (pX12_unit l v0) oX12_unit kw_1246 rfl ⟨Nat.le_of_ble_eq_true rfl, Nat.le_of_ble_eq_true rfl⟩ rfl (Nat.le_of_ble_eq_true rfl) ⟨Nat.zero_le _, Nat.zero_le _⟩ dX12_root_49 ?_
      refine jr_bipush (v := 53) C dX12_root_52 (by decide) ?_
      refine jr_lload_n C dX12_root_54 rfl 1 rfl ?_
      refine jr_pcall (rest := [.int 53, .int (fX12_unit v0)]) C (pX12_digits l v0) oX12_digits kw_1239 rfl ⟨Nat.le_of_ble_eq_true rfl, Nat.le_of_ble_eq_true rfl⟩ rfl (Nat.le_of_ble_eq_true rfl) ⟨Nat.zero_le _, Nat.zero_le _⟩ dX12_root_55 ?_
      obtain ⟨c58, hc58, hv⟩ := Option.bind_eq_some_iff.mp hv
      refine jr_pcall (rest := [.int 53, .int (fX12_unit v0)]) C (pX12_bitsOf l (fX12_digits v0) hc58) oX12_bitsOf kw_1225 rfl ⟨Nat.le_of_ble_eq_true rfl, Nat.le_of_ble_eq_true rfl⟩ rfl (Nat.le_of_ble_eq_true rfl) ⟨Nat.zero_le _, Nat.zero_le _⟩ dX12_root_58 ?_
      refine jr_isub C dX12_root_61 ?_
      refine jr_isub C dX12_root_62 ?_
      refine jr_istore (lv' := [(4, .int ((fX12_unit v0) - (53 - c58))), (2, .long c44), (0, .long v0)]) C dX12_root_63 (by decide) rfl ?_
      exact jr_sub [1, 0] rfl (tX12_root_65 C  c44 ((fX12_unit v0) - (53 - c58)) hv)
    · have hv := (if_neg q35).symm.trans hv
      exact tX12_root_38 C  v0 hv
set_option maxRecDepth 100000 in
theorem tX12_root_0 {p : Program} {l : Launch} {e : Env} {s : State} {m : MethodId} {args : Array Value} {below : List Frame} {meth : Method} {c : Code} (C : CC p s m args meth c yX12_root cX12_root 15 (some .long))  (v0 : Int64) {w : Int64} (hv : fX12_root v0 = some w) : PJ p l e s m args below meth c 15 3 (.long w) 0 [(0, .long v0)] [] := by
  unfold fX12_root at hv
  refine jr_lload_n C dX12_root_0 rfl 0 rfl ?_
  refine jr_pcall (rest := []) C (pX12_isLost l v0) oX12_isLost kw_1203 rfl ⟨Nat.le_of_ble_eq_true rfl, Nat.le_of_ble_eq_true rfl⟩ rfl (Nat.le_of_ble_eq_true rfl) ⟨Nat.zero_le _, Nat.zero_le _⟩ dX12_root_1 ?_
  refine jr_if_ne (tgt := 20) C dX12_root_4 rfl (fun q4 => ?_) (fun q4 => ?_)
  · have hv := (if_neg q4).symm.trans hv
    exact jr_sub [] rfl (tX12_root_20 C   hv)
  · have hv := (if_pos q4).symm.trans hv
    refine jr_lload_n C dX12_root_7 rfl 0 rfl ?_
    refine jr_lconst (v := 0) C dX12_root_8 (by decide) ?_
    refine jr_lcmp_ge (tgt := 24) C dX12_root_9 dX12_root_10 rfl (fun q9 => ?_) (fun q9 => ?_)
    · have hv := (if_pos q9).symm.trans hv
      exact tX12_root_24 C  v0 hv
    · have hv := (if_neg q9).symm.trans hv
      refine jr_lload_n C dX12_root_13 rfl 0 rfl ?_
      refine jr_pcall (rest := []) C (pX12_isZero l v0) oX12_isZero kw_1235 rfl ⟨Nat.le_of_ble_eq_true rfl, Nat.le_of_ble_eq_true rfl⟩ rfl (Nat.le_of_ble_eq_true rfl) ⟨Nat.zero_le _, Nat.zero_le _⟩ dX12_root_14 ?_
      refine jr_if_ne (tgt := 24) C dX12_root_17 rfl (fun q17 => ?_) (fun q17 => ?_)
      · have hv := (if_neg q17).symm.trans hv
        exact tX12_root_24 C  v0 hv
      · have hv := (if_pos q17).symm.trans hv
        exact jr_sub [] rfl (tX12_root_20 C   hv)
theorem pX12_root (l : Launch) (v0 : Int64) {w : Int64} (hw : fX12_root v0 = some w) : pu l yX12_root cX12_root 15 (some .long) 3 [.long v0] (.long w) := pu_of (by decide +kernel) (Nat.le_of_ble_eq_true rfl) rfl (fun C => tX12_root_0 C v0 hw)
/-! RobotCellModel.scaled(JI)J -/
def fX12_scaled_21 (v0 : Int64) : Option Int64 :=
  some (fX12_one v0)
def fX12_scaled_39 (v0 : Int64) (v2 : Int32) (t0 : Int32) : Option Int64 :=
  Option.bind (fX12_made t0 (fX12_digits v0) ((fX12_unit v0) + v2) 0) (fun c50 => some c50)
def fX12_scaled (v0 : Int64) (v2 : Int32) : Option Int64 :=
  if (fX12_isLost v0) = 0 then (if (fX12_isInfinite v0) = 0 then (if (fX12_isZero v0) = 0 then (if 0 ≤ v0 then fX12_scaled_39 v0 v2 0 else fX12_scaled_39 v0 v2 1) else fX12_scaled_21 v0) else fX12_scaled_21 v0) else fX12_scaled_21 v0
theorem oX12_scaled : ok_s yX12_scaled cX12_scaled 3 (some .long) 2 := ⟨kw_1307, kw_1306, kw_73, by decide +kernel⟩
set_option maxRecDepth 100000 in
theorem tX12_scaled_21 {p : Program} {l : Launch} {e : Env} {s : State} {m : MethodId} {args : Array Value} {below : List Frame} {meth : Method} {c : Code} (C : CC p s m args meth c yX12_scaled cX12_scaled 3 (some .long))  (v0 : Int64) {w : Int64} (hv : fX12_scaled_21 v0 = some w) : PJ p l e s m args below meth c 3 3 (.long w) 21 [(0, .long v0)] [] := by
  unfold fX12_scaled_21 at hv
  refine jr_lload_n C dX12_scaled_21 rfl 0 rfl ?_
  refine jr_pcall (rest := []) C (pX12_one l v0) oX12_one kw_1200 rfl ⟨Nat.le_of_ble_eq_true rfl, Nat.le_of_ble_eq_true rfl⟩ rfl (Nat.le_of_ble_eq_true rfl) ⟨Nat.zero_le _, Nat.zero_le _⟩ dX12_scaled_22 ?_
  refine jr_goto (tgt := 53) C dX12_scaled_25 rfl ?_
  exact jp_lret C dX12_scaled_53 (congrArg Value.long (Option.some.inj hv)).symm
set_option maxRecDepth 100000 in
theorem tX12_scaled_39 {p : Program} {l : Launch} {e : Env} {s : State} {m : MethodId} {args : Array Value} {below : List Frame} {meth : Method} {c : Code} (C : CC p s m args meth c yX12_scaled cX12_scaled 3 (some .long))  (v0 : Int64) (v2 : Int32) (t0 : Int32) {w : Int64} (hv : fX12_scaled_39 v0 v2 t0 = some w) : PJ p l e s m args below meth c 3 3 (.long w) 39 [(0, .long v0), (2, .int v2)] [.int t0] := by
  unfold fX12_scaled_39 at hv
  refine jr_lload_n C dX12_scaled_39 rfl 0 rfl ?_
  refine jr_pcall (rest := [.int t0]) C (pX12_digits l v0) oX12_digits kw_1239 rfl ⟨Nat.le_of_ble_eq_true rfl, Nat.le_of_ble_eq_true rfl⟩ rfl (Nat.le_of_ble_eq_true rfl) ⟨Nat.zero_le _, Nat.zero_le _⟩ dX12_scaled_40 ?_
  refine jr_lload_n C dX12_scaled_43 rfl 0 rfl ?_
  refine jr_pcall (rest := [.long (fX12_digits v0), .int t0]) C (pX12_unit l v0) oX12_unit kw_1246 rfl ⟨Nat.le_of_ble_eq_true rfl, Nat.le_of_ble_eq_true rfl⟩ rfl (Nat.le_of_ble_eq_true rfl) ⟨Nat.zero_le _, Nat.zero_le _⟩ dX12_scaled_44 ?_
  refine jr_iload_n C dX12_scaled_47 rfl 1 rfl ?_
  refine jr_iadd C dX12_scaled_48 ?_
  refine jr_iconst (v := 0) C dX12_scaled_49 (by decide) ?_
  obtain ⟨c50, hc50, hv⟩ := Option.bind_eq_some_iff.mp hv
  refine jr_pcall (rest := []) C (pX12_made l t0 (fX12_digits v0) ((fX12_unit v0) + v2) 0 hc50) oX12_made kw_1250 rfl ⟨Nat.le_of_ble_eq_true rfl, Nat.le_of_ble_eq_true rfl⟩ rfl (Nat.le_of_ble_eq_true rfl) ⟨Nat.zero_le _, Nat.zero_le _⟩ dX12_scaled_50 ?_
  exact jp_lret C dX12_scaled_53 (congrArg Value.long (Option.some.inj hv)).symm
set_option maxRecDepth 100000 in
theorem tX12_scaled_0 {p : Program} {l : Launch} {e : Env} {s : State} {m : MethodId} {args : Array Value} {below : List Frame} {meth : Method} {c : Code} (C : CC p s m args meth c yX12_scaled cX12_scaled 3 (some .long))  (v0 : Int64) (v2 : Int32) {w : Int64} (hv : fX12_scaled v0 v2 = some w) : PJ p l e s m args below meth c 3 3 (.long w) 0 [(0, .long v0), (2, .int v2)] [] := by
  unfold fX12_scaled at hv
  refine jr_lload_n C dX12_scaled_0 rfl 0 rfl ?_
  refine jr_pcall (rest := []) C (pX12_isLost l v0) oX12_isLost kw_1203 rfl ⟨Nat.le_of_ble_eq_true rfl, Nat.le_of_ble_eq_true rfl⟩ rfl (Nat.le_of_ble_eq_true rfl) ⟨Nat.zero_le _, Nat.zero_le _⟩ dX12_scaled_1 ?_
  refine jr_if_ne (tgt := 21) C dX12_scaled_4 rfl (fun q4 => ?_) (fun q4 => ?_)
  · have hv := (if_neg q4).symm.trans hv
    exact jr_sub [0] rfl (tX12_scaled_21 C  v0 hv)
  · have hv := (if_pos q4).symm.trans hv
    refine jr_lload_n C dX12_scaled_7 rfl 0 rfl ?_
    refine jr_pcall (rest := []) C (pX12_isInfinite l v0) oX12_isInfinite kw_1232 rfl ⟨Nat.le_of_ble_eq_true rfl, Nat.le_of_ble_eq_true rfl⟩ rfl (Nat.le_of_ble_eq_true rfl) ⟨Nat.zero_le _, Nat.zero_le _⟩ dX12_scaled_8 ?_
    refine jr_if_ne (tgt := 21) C dX12_scaled_11 rfl (fun q11 => ?_) (fun q11 => ?_)
    · have hv := (if_neg q11).symm.trans hv
      exact jr_sub [0] rfl (tX12_scaled_21 C  v0 hv)
    · have hv := (if_pos q11).symm.trans hv
      refine jr_lload_n C dX12_scaled_14 rfl 0 rfl ?_
      refine jr_pcall (rest := []) C (pX12_isZero l v0) oX12_isZero kw_1235 rfl ⟨Nat.le_of_ble_eq_true rfl, Nat.le_of_ble_eq_true rfl⟩ rfl (Nat.le_of_ble_eq_true rfl) ⟨Nat.zero_le _, Nat.zero_le _⟩ dX12_scaled_15 ?_
      refine jr_if_eq (tgt := 28) C dX12_scaled_18 rfl (fun q18 => ?_) (fun q18 => ?_)
      · have hv := (if_pos q18).symm.trans hv
        refine jr_lload_n C dX12_scaled_28 rfl 0 rfl ?_
        refine jr_lconst (v := 0) C dX12_scaled_29 (by decide) ?_
        refine jr_lcmp_ge (tgt := 38) C dX12_scaled_30 dX12_scaled_31 rfl (fun q30 => ?_) (fun q30 => ?_)
        · have hv := (if_pos q30).symm.trans hv
          refine jr_iconst (v := 0) C dX12_scaled_38 (by decide) ?_
          exact tX12_scaled_39 C  v0 v2 0 hv
        · have hv := (if_neg q30).symm.trans hv
          refine jr_iconst (v := 1) C dX12_scaled_34 (by decide) ?_
          refine jr_goto (tgt := 39) C dX12_scaled_35 rfl ?_
          exact tX12_scaled_39 C  v0 v2 1 hv
      · have hv := (if_neg q18).symm.trans hv
        exact jr_sub [0] rfl (tX12_scaled_21 C  v0 hv)
theorem pX12_scaled (l : Launch) (v0 : Int64) (v2 : Int32) {w : Int64} (hw : fX12_scaled v0 v2 = some w) : pu l yX12_scaled cX12_scaled 3 (some .long) 3 [.long v0, .int v2] (.long w) := pu_of (by decide +kernel) (Nat.le_of_ble_eq_true rfl) rfl (fun C => tX12_scaled_0 C v0 v2 hw)
/-! RobotCellModel.cut(JI)J -/
def fX12_cut_32 (v0 : Int64) : Option Int64 :=
  some v0
def fX12_cut_205 (t0 : Int32) (t1 : Int64) : Option Int64 :=
  Option.bind (fX12_made t0 t1 0 0) (fun c207 => some c207)
def fX12_cut_187 (v6 : Int64) (v10 : Int32) (t0 : Int32) : Option Int64 :=
  if t0 = 0 then fX12_cut_205 v10 v6 else fX12_cut_205 v10 (v6 + 1)
def fX12_cut_186 (v6 : Int64) (v10 : Int32) : Option Int64 :=
  fX12_cut_187 v6 v10 0
def fX12_cut_182 (v6 : Int64) (v10 : Int32) : Option Int64 :=
  fX12_cut_187 v6 v10 1
def fX12_cut_141 (v6 : Int64) (v10 : Int32) : Option Int64 :=
  fX12_cut_187 v6 v10 0
def fX12_cut_116 (v6 : Int64) (v10 : Int32) : Option Int64 :=
  fX12_cut_187 v6 v10 0
def fX12_cut_93 (v2 : Int32) (v3 : Int32) (v6 : Int64) (v8 : Int64) (t0 : Int32) : Option Int64 :=
  if v2 = 1 then (if t0 = 0 then fX12_cut_116 v6 t0 else (if v8 ≤ 0 then fX12_cut_116 v6 t0 else fX12_cut_187 v6 t0 1)) else (if v2 = 2 then (if t0 = 0 then (if v8 ≤ 0 then fX12_cut_141 v6 t0 else fX12_cut_187 v6 t0 1) else fX12_cut_141 v6 t0) else (if 60 < v3 then fX12_cut_186 v6 t0 else (if (1 <<< (((v3 - 1) : Int32).toInt64 &&& 63)) < v8 then fX12_cut_182 v6 t0 else (if v8 = (1 <<< (((v3 - 1) : Int32).toInt64 &&& 63)) then (if (v6 &&& 1) = 1 then fX12_cut_182 v6 t0 else fX12_cut_186 v6 t0) else fX12_cut_186 v6 t0))))
def fX12_cut_80 (v0 : Int64) (v2 : Int32) (v3 : Int32) (v6 : Int64) (t0 : Int64) : Option Int64 :=
  if 0 ≤ v0 then fX12_cut_93 v2 v3 v6 t0 0 else fX12_cut_93 v2 v3 v6 t0 1
def fX12_cut_60 (v0 : Int64) (v2 : Int32) (v3 : Int32) (v4 : Int64) (t0 : Int64) : Option Int64 :=
  if v3 ≤ 60 then fX12_cut_80 v0 v2 v3 t0 (v4 - (t0 <<< ((v3 : Int32).toInt64 &&& 63))) else fX12_cut_80 v0 v2 v3 t0 v4
def fX12_cut_46 (v0 : Int64) (v2 : Int32) (v3 : Int32) (v4 : Int64) : Option Int64 :=
  if v3 ≤ 60 then fX12_cut_60 v0 v2 v3 v4 (v4 >>> ((v3 : Int32).toInt64 &&& 63)) else fX12_cut_60 v0 v2 v3 v4 0
def fX12_cut_40 (v0 : Int64) (v2 : Int32) (v3 : Int32) : Option Int64 :=
  fX12_cut_46 v0 v2 v3 (fX12_digits v0)
def fX12_cut (v0 : Int64) (v2 : Int32) : Option Int64 :=
  if (fX12_isLost v0) = 0 then (if (fX12_isInfinite v0) = 0 then (if (fX12_isZero v0) = 0 then (if (fX12_unit v0) < 0 then fX12_cut_40 v0 v2 (-(fX12_unit v0)) else fX12_cut_32 v0) else fX12_cut_32 v0) else fX12_cut_32 v0) else some 9221120237041090560
theorem oX12_cut : ok_s yX12_cut cX12_cut 12 (some .long) 2 := ⟨kw_1284, kw_1283, kw_73, by decide +kernel⟩
set_option maxRecDepth 100000 in
theorem tX12_cut_32 {p : Program} {l : Launch} {e : Env} {s : State} {m : MethodId} {args : Array Value} {below : List Frame} {meth : Method} {c : Code} (C : CC p s m args meth c yX12_cut cX12_cut 12 (some .long))  (v0 : Int64) {w : Int64} (hv : fX12_cut_32 v0 = some w) : PJ p l e s m args below meth c 12 3 (.long w) 32 [(0, .long v0)] [] := by
  unfold fX12_cut_32 at hv
  refine jr_lload_n C dX12_cut_32 rfl 0 rfl ?_
  exact jp_lret C dX12_cut_33 (congrArg Value.long (Option.some.inj hv)).symm
set_option maxRecDepth 100000 in
theorem tX12_cut_205 {p : Program} {l : Launch} {e : Env} {s : State} {m : MethodId} {args : Array Value} {below : List Frame} {meth : Method} {c : Code} (C : CC p s m args meth c yX12_cut cX12_cut 12 (some .long))  (t0 : Int32) (t1 : Int64) {w : Int64} (hv : fX12_cut_205 t0 t1 = some w) : PJ p l e s m args below meth c 12 3 (.long w) 205 [] [.long t1, .int t0] := by
  unfold fX12_cut_205 at hv
  refine jr_iconst (v := 0) C dX12_cut_205 (by decide) ?_
  refine jr_iconst (v := 0) C dX12_cut_206 (by decide) ?_
  obtain ⟨c207, hc207, hv⟩ := Option.bind_eq_some_iff.mp hv
  refine jr_pcall (rest := []) C (pX12_made l t0 t1 0 0 hc207) oX12_made kw_1250 rfl ⟨Nat.le_of_ble_eq_true rfl, Nat.le_of_ble_eq_true rfl⟩ rfl (Nat.le_of_ble_eq_true rfl) ⟨Nat.zero_le _, Nat.zero_le _⟩ dX12_cut_207 ?_
  exact jp_lret C dX12_cut_210 (congrArg Value.long (Option.some.inj hv)).symm
set_option maxRecDepth 100000 in
theorem tX12_cut_187 {p : Program} {l : Launch} {e : Env} {s : State} {m : MethodId} {args : Array Value} {below : List Frame} {meth : Method} {c : Code} (C : CC p s m args meth c yX12_cut cX12_cut 12 (some .long))  (v6 : Int64) (v10 : Int32) (t0 : Int32) {w : Int64} (hv : fX12_cut_187 v6 v10 t0 = some w) : PJ p l e s m args below meth c 12 3 (.long w) 187 [(6, .long v6), (10, .int v10)] [.int t0] := by
  unfold fX12_cut_187 at hv
  refine jr_istore (lv' := [(11, .int t0), (6, .long v6), (10, .int v10)]) C dX12_cut_187 (by decide) rfl ?_
  refine jr_iload C dX12_cut_189 2 rfl ?_
  refine jr_iload C dX12_cut_191 0 rfl ?_
  refine jr_if_eq (tgt := 203) C dX12_cut_193 rfl (fun q193 => ?_) (fun q193 => ?_)
  · have hv := (if_pos q193).symm.trans hv
    refine jr_lload C dX12_cut_203 1 rfl ?_
    exact jr_sub [] rfl (tX12_cut_205 C  v10 v6 hv)
  · have hv := (if_neg q193).symm.trans hv
    refine jr_lload C dX12_cut_196 1 rfl ?_
    refine jr_lconst (v := 1) C dX12_cut_198 (by decide) ?_
    refine jr_ladd C dX12_cut_199 ?_
    refine jr_goto (tgt := 205) C dX12_cut_200 rfl ?_
    exact jr_sub [] rfl (tX12_cut_205 C  v10 (v6 + 1) hv)
set_option maxRecDepth 100000 in
theorem tX12_cut_186 {p : Program} {l : Launch} {e : Env} {s : State} {m : MethodId} {args : Array Value} {below : List Frame} {meth : Method} {c : Code} (C : CC p s m args meth c yX12_cut cX12_cut 12 (some .long))  (v6 : Int64) (v10 : Int32) {w : Int64} (hv : fX12_cut_186 v6 v10 = some w) : PJ p l e s m args below meth c 12 3 (.long w) 186 [(6, .long v6), (10, .int v10)] [] := by
  unfold fX12_cut_186 at hv
  refine jr_iconst (v := 0) C dX12_cut_186 (by decide) ?_
  exact tX12_cut_187 C  v6 v10 0 hv
set_option maxRecDepth 100000 in
theorem tX12_cut_182 {p : Program} {l : Launch} {e : Env} {s : State} {m : MethodId} {args : Array Value} {below : List Frame} {meth : Method} {c : Code} (C : CC p s m args meth c yX12_cut cX12_cut 12 (some .long))  (v6 : Int64) (v10 : Int32) {w : Int64} (hv : fX12_cut_182 v6 v10 = some w) : PJ p l e s m args below meth c 12 3 (.long w) 182 [(6, .long v6), (10, .int v10)] [] := by
  unfold fX12_cut_182 at hv
  refine jr_iconst (v := 1) C dX12_cut_182 (by decide) ?_
  refine jr_goto (tgt := 187) C dX12_cut_183 rfl ?_
  exact tX12_cut_187 C  v6 v10 1 hv
set_option maxRecDepth 100000 in
theorem tX12_cut_141 {p : Program} {l : Launch} {e : Env} {s : State} {m : MethodId} {args : Array Value} {below : List Frame} {meth : Method} {c : Code} (C : CC p s m args meth c yX12_cut cX12_cut 12 (some .long))  (v6 : Int64) (v10 : Int32) {w : Int64} (hv : fX12_cut_141 v6 v10 = some w) : PJ p l e s m args below meth c 12 3 (.long w) 141 [(6, .long v6), (10, .int v10)] [] := by
  unfold fX12_cut_141 at hv
  refine jr_iconst (v := 0) C dX12_cut_141 (by decide) ?_
  refine jr_goto (tgt := 187) C dX12_cut_142 rfl ?_
  exact tX12_cut_187 C  v6 v10 0 hv
set_option maxRecDepth 100000 in
theorem tX12_cut_116 {p : Program} {l : Launch} {e : Env} {s : State} {m : MethodId} {args : Array Value} {below : List Frame} {meth : Method} {c : Code} (C : CC p s m args meth c yX12_cut cX12_cut 12 (some .long))  (v6 : Int64) (v10 : Int32) {w : Int64} (hv : fX12_cut_116 v6 v10 = some w) : PJ p l e s m args below meth c 12 3 (.long w) 116 [(6, .long v6), (10, .int v10)] [] := by
  unfold fX12_cut_116 at hv
  refine jr_iconst (v := 0) C dX12_cut_116 (by decide) ?_
  refine jr_goto (tgt := 187) C dX12_cut_117 rfl ?_
  exact tX12_cut_187 C  v6 v10 0 hv
set_option maxRecDepth 100000 in
theorem tX12_cut_93 {p : Program} {l : Launch} {e : Env} {s : State} {m : MethodId} {args : Array Value} {below : List Frame} {meth : Method} {c : Code} (C : CC p s m args meth c yX12_cut cX12_cut 12 (some .long))  (v2 : Int32) (v3 : Int32) (v6 : Int64) (v8 : Int64) (t0 : Int32) {w : Int64} (hv : fX12_cut_93 v2 v3 v6 v8 t0 = some w) : PJ p l e s m args below meth c 12 3 (.long w) 93 [(2, .int v2), (3, .int v3), (6, .long v6), (8, .long v8)] [.int t0] := by
  unfold fX12_cut_93 at hv
  refine jr_istore (lv' := [(10, .int t0), (2, .int v2), (3, .int v3), (6, .long v6), (8, .long v8)]) C dX12_cut_93 (by decide) rfl ?_
  refine jr_iload_n C dX12_cut_95 rfl 1 rfl ?_
  refine jr_iconst (v := 1) C dX12_cut_96 (by decide) ?_
  refine jr_icmp_ne (tgt := 120) C dX12_cut_97 rfl (fun q97 => ?_) (fun q97 => ?_)
  · have hv := (if_neg q97).symm.trans hv
    refine jr_iload_n C dX12_cut_120 rfl 1 rfl ?_
    refine jr_iconst (v := 2) C dX12_cut_121 (by decide) ?_
    refine jr_icmp_ne (tgt := 145) C dX12_cut_122 rfl (fun q122 => ?_) (fun q122 => ?_)
    · have hv := (if_neg q122).symm.trans hv
      refine jr_iload_n C dX12_cut_145 rfl 2 rfl ?_
      refine jr_bipush (v := 60) C dX12_cut_146 (by decide) ?_
      refine jr_icmp_gt (tgt := 186) C dX12_cut_148 rfl (fun q148 => ?_) (fun q148 => ?_)
      · have hv := (if_pos q148).symm.trans hv
        exact jr_sub [3, 0] rfl (tX12_cut_186 C  v6 t0 hv)
      · have hv := (if_neg q148).symm.trans hv
        refine jr_lload C dX12_cut_151 4 rfl ?_
        refine jr_lconst (v := 1) C dX12_cut_153 (by decide) ?_
        refine jr_iload_n C dX12_cut_154 rfl 2 rfl ?_
        refine jr_iconst (v := 1) C dX12_cut_155 (by decide) ?_
        refine jr_isub C dX12_cut_156 ?_
        refine jr_lshl C dX12_cut_157 ?_
        refine jr_lcmp_gt (tgt := 182) C dX12_cut_158 dX12_cut_159 rfl (fun q158 => ?_) (fun q158 => ?_)
        · have hv := (if_pos q158).symm.trans hv
          exact jr_sub [3, 0] rfl (tX12_cut_182 C  v6 t0 hv)
        · have hv := (if_neg q158).symm.trans hv
          refine jr_lload C dX12_cut_162 4 rfl ?_
          refine jr_lconst (v := 1) C dX12_cut_164 (by decide) ?_
          refine jr_iload_n C dX12_cut_165 rfl 2 rfl ?_
          refine jr_iconst (v := 1) C dX12_cut_166 (by decide) ?_
          refine jr_isub C dX12_cut_167 ?_
          refine jr_lshl C dX12_cut_168 ?_
          refine jr_lcmp_ne (tgt := 186) C dX12_cut_169 dX12_cut_170 rfl (fun q169 => ?_) (fun q169 => ?_)
          · have hv := (if_neg q169).symm.trans hv
            exact jr_sub [3, 0] rfl (tX12_cut_186 C  v6 t0 hv)
          · have hv := (if_pos q169).symm.trans hv
            refine jr_lload C dX12_cut_173 3 rfl ?_
            refine jr_lconst (v := 1) C dX12_cut_175 (by decide) ?_
            refine jr_land C dX12_cut_176 ?_
            refine jr_lconst (v := 1) C dX12_cut_177 (by decide) ?_
            refine jr_lcmp_ne (tgt := 186) C dX12_cut_178 dX12_cut_179 rfl (fun q178 => ?_) (fun q178 => ?_)
            · have hv := (if_neg q178).symm.trans hv
              exact jr_sub [3, 0] rfl (tX12_cut_186 C  v6 t0 hv)
            · have hv := (if_pos q178).symm.trans hv
              exact jr_sub [3, 0] rfl (tX12_cut_182 C  v6 t0 hv)
    · have hv := (if_pos q122).symm.trans hv
      refine jr_iload C dX12_cut_125 0 rfl ?_
      refine jr_if_ne (tgt := 141) C dX12_cut_127 rfl (fun q127 => ?_) (fun q127 => ?_)
      · have hv := (if_neg q127).symm.trans hv
        exact jr_sub [3, 0] rfl (tX12_cut_141 C  v6 t0 hv)
      · have hv := (if_pos q127).symm.trans hv
        refine jr_lload C dX12_cut_130 4 rfl ?_
        refine jr_lconst (v := 0) C dX12_cut_132 (by decide) ?_
        refine jr_lcmp_le (tgt := 141) C dX12_cut_133 dX12_cut_134 rfl (fun q133 => ?_) (fun q133 => ?_)
        · have hv := (if_pos q133).symm.trans hv
          exact jr_sub [3, 0] rfl (tX12_cut_141 C  v6 t0 hv)
        · have hv := (if_neg q133).symm.trans hv
          refine jr_iconst (v := 1) C dX12_cut_137 (by decide) ?_
          refine jr_goto (tgt := 187) C dX12_cut_138 rfl ?_
          exact jr_sub [3, 0] rfl (tX12_cut_187 C  v6 t0 1 hv)
  · have hv := (if_pos q97).symm.trans hv
    refine jr_iload C dX12_cut_100 0 rfl ?_
    refine jr_if_eq (tgt := 116) C dX12_cut_102 rfl (fun q102 => ?_) (fun q102 => ?_)
    · have hv := (if_pos q102).symm.trans hv
      exact jr_sub [3, 0] rfl (tX12_cut_116 C  v6 t0 hv)
    · have hv := (if_neg q102).symm.trans hv
      refine jr_lload C dX12_cut_105 4 rfl ?_
      refine jr_lconst (v := 0) C dX12_cut_107 (by decide) ?_
      refine jr_lcmp_le (tgt := 116) C dX12_cut_108 dX12_cut_109 rfl (fun q108 => ?_) (fun q108 => ?_)
      · have hv := (if_pos q108).symm.trans hv
        exact jr_sub [3, 0] rfl (tX12_cut_116 C  v6 t0 hv)
      · have hv := (if_neg q108).symm.trans hv
        refine jr_iconst (v := 1) C dX12_cut_112 (by decide) ?_
        refine jr_goto (tgt := 187) C dX12_cut_113 rfl ?_
        exact jr_sub [3, 0] rfl (tX12_cut_187 C  v6 t0 1 hv)
set_option maxRecDepth 100000 in
theorem tX12_cut_80 {p : Program} {l : Launch} {e : Env} {s : State} {m : MethodId} {args : Array Value} {below : List Frame} {meth : Method} {c : Code} (C : CC p s m args meth c yX12_cut cX12_cut 12 (some .long))  (v0 : Int64) (v2 : Int32) (v3 : Int32) (v6 : Int64) (t0 : Int64) {w : Int64} (hv : fX12_cut_80 v0 v2 v3 v6 t0 = some w) : PJ p l e s m args below meth c 12 3 (.long w) 80 [(0, .long v0), (2, .int v2), (3, .int v3), (6, .long v6)] [.long t0] := by
  unfold fX12_cut_80 at hv
  refine jr_lstore (lv' := [(8, .long t0), (0, .long v0), (2, .int v2), (3, .int v3), (6, .long v6)]) C dX12_cut_80 (by decide) rfl ?_
  refine jr_lload_n C dX12_cut_82 rfl 1 rfl ?_
  refine jr_lconst (v := 0) C dX12_cut_83 (by decide) ?_
  refine jr_lcmp_ge (tgt := 92) C dX12_cut_84 dX12_cut_85 rfl (fun q84 => ?_) (fun q84 => ?_)
  · have hv := (if_pos q84).symm.trans hv
    refine jr_iconst (v := 0) C dX12_cut_92 (by decide) ?_
    exact jr_sub [2, 3, 4, 0] rfl (tX12_cut_93 C  v2 v3 v6 t0 0 hv)
  · have hv := (if_neg q84).symm.trans hv
    refine jr_iconst (v := 1) C dX12_cut_88 (by decide) ?_
    refine jr_goto (tgt := 93) C dX12_cut_89 rfl ?_
    exact jr_sub [2, 3, 4, 0] rfl (tX12_cut_93 C  v2 v3 v6 t0 1 hv)
set_option maxRecDepth 100000 in
theorem tX12_cut_60 {p : Program} {l : Launch} {e : Env} {s : State} {m : MethodId} {args : Array Value} {below : List Frame} {meth : Method} {c : Code} (C : CC p s m args meth c yX12_cut cX12_cut 12 (some .long))  (v0 : Int64) (v2 : Int32) (v3 : Int32) (v4 : Int64) (t0 : Int64) {w : Int64} (hv : fX12_cut_60 v0 v2 v3 v4 t0 = some w) : PJ p l e s m args below meth c 12 3 (.long w) 60 [(0, .long v0), (2, .int v2), (3, .int v3), (4, .long v4)] [.long t0] := by
  unfold fX12_cut_60 at hv
  refine jr_lstore (lv' := [(6, .long t0), (0, .long v0), (2, .int v2), (3, .int v3), (4, .long v4)]) C dX12_cut_60 (by decide) rfl ?_
  refine jr_iload_n C dX12_cut_62 rfl 3 rfl ?_
  refine jr_bipush (v := 60) C dX12_cut_63 (by decide) ?_
  refine jr_icmp_le (tgt := 73) C dX12_cut_65 rfl (fun q65 => ?_) (fun q65 => ?_)
  · have hv := (if_pos q65).symm.trans hv
    refine jr_lload C dX12_cut_73 4 rfl ?_
    refine jr_lload C dX12_cut_75 0 rfl ?_
    refine jr_iload_n C dX12_cut_77 rfl 3 rfl ?_
    refine jr_lshl C dX12_cut_78 ?_
    refine jr_lsub C dX12_cut_79 ?_
    exact jr_sub [1, 2, 3, 0] rfl (tX12_cut_80 C  v0 v2 v3 t0 (v4 - (t0 <<< ((v3 : Int32).toInt64 &&& 63))) hv)
  · have hv := (if_neg q65).symm.trans hv
    refine jr_lload C dX12_cut_68 4 rfl ?_
    refine jr_goto (tgt := 80) C dX12_cut_70 rfl ?_
    exact jr_sub [1, 2, 3, 0] rfl (tX12_cut_80 C  v0 v2 v3 t0 v4 hv)
set_option maxRecDepth 100000 in
theorem tX12_cut_46 {p : Program} {l : Launch} {e : Env} {s : State} {m : MethodId} {args : Array Value} {below : List Frame} {meth : Method} {c : Code} (C : CC p s m args meth c yX12_cut cX12_cut 12 (some .long))  (v0 : Int64) (v2 : Int32) (v3 : Int32) (v4 : Int64) {w : Int64} (hv : fX12_cut_46 v0 v2 v3 v4 = some w) : PJ p l e s m args below meth c 12 3 (.long w) 46 [(0, .long v0), (2, .int v2), (3, .int v3), (4, .long v4)] [] := by
  unfold fX12_cut_46 at hv
  refine jr_iload_n C dX12_cut_46 rfl 2 rfl ?_
  refine jr_bipush (v := 60) C dX12_cut_47 (by decide) ?_
  refine jr_icmp_le (tgt := 56) C dX12_cut_49 rfl (fun q49 => ?_) (fun q49 => ?_)
  · have hv := (if_pos q49).symm.trans hv
    refine jr_lload C dX12_cut_56 3 rfl ?_
    refine jr_iload_n C dX12_cut_58 rfl 2 rfl ?_
    refine jr_lshr C dX12_cut_59 ?_
    exact tX12_cut_60 C  v0 v2 v3 v4 (v4 >>> ((v3 : Int32).toInt64 &&& 63)) hv
  · have hv := (if_neg q49).symm.trans hv
    refine jr_lconst (v := 0) C dX12_cut_52 (by decide) ?_
    refine jr_goto (tgt := 60) C dX12_cut_53 rfl ?_
    exact tX12_cut_60 C  v0 v2 v3 v4 0 hv
set_option maxRecDepth 100000 in
theorem tX12_cut_40 {p : Program} {l : Launch} {e : Env} {s : State} {m : MethodId} {args : Array Value} {below : List Frame} {meth : Method} {c : Code} (C : CC p s m args meth c yX12_cut cX12_cut 12 (some .long))  (v0 : Int64) (v2 : Int32) (v3 : Int32) {w : Int64} (hv : fX12_cut_40 v0 v2 v3 = some w) : PJ p l e s m args below meth c 12 3 (.long w) 40 [(0, .long v0), (2, .int v2), (3, .int v3)] [] := by
  unfold fX12_cut_40 at hv
  refine jr_lload_n C dX12_cut_40 rfl 0 rfl ?_
  refine jr_pcall (rest := []) C (pX12_digits l v0) oX12_digits kw_1239 rfl ⟨Nat.le_of_ble_eq_true rfl, Nat.le_of_ble_eq_true rfl⟩ rfl (Nat.le_of_ble_eq_true rfl) ⟨Nat.zero_le _, Nat.zero_le _⟩ dX12_cut_41 ?_
  refine jr_lstore (lv' := [(4, .long (fX12_digits v0)), (0, .long v0), (2, .int v2), (3, .int v3)]) C dX12_cut_44 (by decide) rfl ?_
  exact jr_sub [1, 2, 3, 0] rfl (tX12_cut_46 C  v0 v2 v3 (fX12_digits v0) hv)
set_option maxRecDepth 100000 in
theorem tX12_cut_0 {p : Program} {l : Launch} {e : Env} {s : State} {m : MethodId} {args : Array Value} {below : List Frame} {meth : Method} {c : Code} (C : CC p s m args meth c yX12_cut cX12_cut 12 (some .long))  (v0 : Int64) (v2 : Int32) {w : Int64} (hv : fX12_cut v0 v2 = some w) : PJ p l e s m args below meth c 12 3 (.long w) 0 [(0, .long v0), (2, .int v2)] [] := by
  unfold fX12_cut at hv
  refine jr_lload_n C dX12_cut_0 rfl 0 rfl ?_
  refine jr_pcall (rest := []) C (pX12_isLost l v0) oX12_isLost kw_1203 rfl ⟨Nat.le_of_ble_eq_true rfl, Nat.le_of_ble_eq_true rfl⟩ rfl (Nat.le_of_ble_eq_true rfl) ⟨Nat.zero_le _, Nat.zero_le _⟩ dX12_cut_1 ?_
  refine jr_if_eq (tgt := 11) C dX12_cut_4 rfl (fun q4 => ?_) (fun q4 => ?_)
  · have hv := (if_pos q4).symm.trans hv
    refine jr_lload_n C dX12_cut_11 rfl 0 rfl ?_
    refine jr_pcall (rest := []) C (pX12_isInfinite l v0) oX12_isInfinite kw_1232 rfl ⟨Nat.le_of_ble_eq_true rfl, Nat.le_of_ble_eq_true rfl⟩ rfl (Nat.le_of_ble_eq_true rfl) ⟨Nat.zero_le _, Nat.zero_le _⟩ dX12_cut_12 ?_
    refine jr_if_ne (tgt := 32) C dX12_cut_15 rfl (fun q15 => ?_) (fun q15 => ?_)
    · have hv := (if_neg q15).symm.trans hv
      exact jr_sub [0] rfl (tX12_cut_32 C  v0 hv)
    · have hv := (if_pos q15).symm.trans hv
      refine jr_lload_n C dX12_cut_18 rfl 0 rfl ?_
      refine jr_pcall (rest := []) C (pX12_isZero l v0) oX12_isZero kw_1235 rfl ⟨Nat.le_of_ble_eq_true rfl, Nat.le_of_ble_eq_true rfl⟩ rfl (Nat.le_of_ble_eq_true rfl) ⟨Nat.zero_le _, Nat.zero_le _⟩ dX12_cut_19 ?_
      refine jr_if_ne (tgt := 32) C dX12_cut_22 rfl (fun q22 => ?_) (fun q22 => ?_)
      · have hv := (if_neg q22).symm.trans hv
        exact jr_sub [0] rfl (tX12_cut_32 C  v0 hv)
      · have hv := (if_pos q22).symm.trans hv
        refine jr_lload_n C dX12_cut_25 rfl 0 rfl ?_
        refine jr_pcall (rest := []) C (pX12_unit l v0) oX12_unit kw_1246 rfl ⟨Nat.le_of_ble_eq_true rfl, Nat.le_of_ble_eq_true rfl⟩ rfl (Nat.le_of_ble_eq_true rfl) ⟨Nat.zero_le _, Nat.zero_le _⟩ dX12_cut_26 ?_
        refine jr_if_lt (tgt := 34) C dX12_cut_29 rfl (fun q29 => ?_) (fun q29 => ?_)
        · have hv := (if_pos q29).symm.trans hv
          refine jr_lload_n C dX12_cut_34 rfl 0 rfl ?_
          refine jr_pcall (rest := []) C (pX12_unit l v0) oX12_unit kw_1246 rfl ⟨Nat.le_of_ble_eq_true rfl, Nat.le_of_ble_eq_true rfl⟩ rfl (Nat.le_of_ble_eq_true rfl) ⟨Nat.zero_le _, Nat.zero_le _⟩ dX12_cut_35 ?_
          refine jr_ineg C dX12_cut_38 ?_
          refine jr_istore_n (lv' := [(3, .int (-(fX12_unit v0))), (0, .long v0), (2, .int v2)]) C dX12_cut_39 rfl (by decide) rfl ?_
          exact jr_sub [1, 2, 0] rfl (tX12_cut_40 C  v0 v2 (-(fX12_unit v0)) hv)
        · have hv := (if_neg q29).symm.trans hv
          exact jr_sub [0] rfl (tX12_cut_32 C  v0 hv)
  · have hv := (if_neg q4).symm.trans hv
    refine jr_ldc2 C kw_1208 dX12_cut_7 ?_
    exact jp_lret C dX12_cut_10 (congrArg Value.long (Option.some.inj hv)).symm
theorem pX12_cut (l : Launch) (v0 : Int64) (v2 : Int32) {w : Int64} (hw : fX12_cut v0 v2 = some w) : pu l yX12_cut cX12_cut 12 (some .long) 3 [.long v0, .int v2] (.long w) := pu_of (by decide +kernel) (Nat.le_of_ble_eq_true rfl) rfl (fun C => tX12_cut_0 C v0 v2 hw)
/-! RobotCellModel.total(JJ)I -/
def fX12_total_14 (v0 : Int64) (v2 : Int64) : Int32 :=
  if (fX12_isLost v0) = 0 then (-1) else (if (fX12_isLost v2) = 0 then 1 else 0)
def fX12_total_74 (v4 : Int64) (t0 : Int64) : Int32 :=
  if t0 ≤ v4 then (if v4 ≤ t0 then 0 else 1) else (-1)
def fX12_total_55 (v2 : Int64) (t0 : Int64) : Int32 :=
  if 0 ≤ v2 then fX12_total_74 t0 v2 else fX12_total_74 t0 (((-9223372036854775808) - v2) - 1)
def fX12_total (v0 : Int64) (v2 : Int64) : Int32 :=
  if (fX12_isLost v0) = 0 then (if (fX12_isLost v2) = 0 then (if 0 ≤ v0 then fX12_total_55 v2 v0 else fX12_total_55 v2 (((-9223372036854775808) - v0) - 1)) else fX12_total_14 v0 v2) else fX12_total_14 v0 v2
theorem oX12_total : ok_s yX12_total cX12_total 8 (some .int) 2 := ⟨kw_1302, kw_1301, kw_73, by decide +kernel⟩
set_option maxRecDepth 100000 in
theorem tX12_total_14 {p : Program} {l : Launch} {e : Env} {s : State} {m : MethodId} {args : Array Value} {below : List Frame} {meth : Method} {c : Code} (C : CC p s m args meth c yX12_total cX12_total 8 (some .int))  (v0 : Int64) (v2 : Int64) {w : Int32} (hv : fX12_total_14 v0 v2 = w) : PJ p l e s m args below meth c 8 1 (.int w) 14 [(0, .long v0), (2, .long v2)] [] := by
  unfold fX12_total_14 at hv
  refine jr_lload_n C dX12_total_14 rfl 0 rfl ?_
  refine jr_pcall (rest := []) C (pX12_isLost l v0) oX12_isLost kw_1203 rfl ⟨Nat.le_of_ble_eq_true rfl, Nat.le_of_ble_eq_true rfl⟩ rfl (Nat.le_of_ble_eq_true rfl) ⟨Nat.zero_le _, Nat.zero_le _⟩ dX12_total_15 ?_
  refine jr_if_eq (tgt := 36) C dX12_total_18 rfl (fun q18 => ?_) (fun q18 => ?_)
  · have hv := (if_pos q18).symm.trans hv
    refine jr_iconst (v := (-1)) C dX12_total_36 (by decide) ?_
    exact jp_iret C dX12_total_37 (congrArg Value.int hv).symm
  · have hv := (if_neg q18).symm.trans hv
    refine jr_lload_n C dX12_total_21 rfl 1 rfl ?_
    refine jr_pcall (rest := []) C (pX12_isLost l v2) oX12_isLost kw_1203 rfl ⟨Nat.le_of_ble_eq_true rfl, Nat.le_of_ble_eq_true rfl⟩ rfl (Nat.le_of_ble_eq_true rfl) ⟨Nat.zero_le _, Nat.zero_le _⟩ dX12_total_22 ?_
    refine jr_if_eq (tgt := 32) C dX12_total_25 rfl (fun q25 => ?_) (fun q25 => ?_)
    · have hv := (if_pos q25).symm.trans hv
      refine jr_iconst (v := 1) C dX12_total_32 (by decide) ?_
      refine jr_goto (tgt := 37) C dX12_total_33 rfl ?_
      exact jp_iret C dX12_total_37 (congrArg Value.int hv).symm
    · have hv := (if_neg q25).symm.trans hv
      refine jr_iconst (v := 0) C dX12_total_28 (by decide) ?_
      refine jr_goto (tgt := 37) C dX12_total_29 rfl ?_
      exact jp_iret C dX12_total_37 (congrArg Value.int hv).symm
set_option maxRecDepth 100000 in
theorem tX12_total_74 {p : Program} {l : Launch} {e : Env} {s : State} {m : MethodId} {args : Array Value} {below : List Frame} {meth : Method} {c : Code} (C : CC p s m args meth c yX12_total cX12_total 8 (some .int))  (v4 : Int64) (t0 : Int64) {w : Int32} (hv : fX12_total_74 v4 t0 = w) : PJ p l e s m args below meth c 8 1 (.int w) 74 [(4, .long v4)] [.long t0] := by
  unfold fX12_total_74 at hv
  refine jr_lstore (lv' := [(6, .long t0), (4, .long v4)]) C dX12_total_74 (by decide) rfl ?_
  refine jr_lload C dX12_total_76 1 rfl ?_
  refine jr_lload C dX12_total_78 0 rfl ?_
  refine jr_lcmp_ge (tgt := 88) C dX12_total_80 dX12_total_81 rfl (fun q80 => ?_) (fun q80 => ?_)
  · have hv := (if_pos q80).symm.trans hv
    refine jr_lload C dX12_total_88 1 rfl ?_
    refine jr_lload C dX12_total_90 0 rfl ?_
    refine jr_lcmp_le (tgt := 100) C dX12_total_92 dX12_total_93 rfl (fun q92 => ?_) (fun q92 => ?_)
    · have hv := (if_pos q92).symm.trans hv
      refine jr_iconst (v := 0) C dX12_total_100 (by decide) ?_
      exact jp_iret C dX12_total_101 (congrArg Value.int hv).symm
    · have hv := (if_neg q92).symm.trans hv
      refine jr_iconst (v := 1) C dX12_total_96 (by decide) ?_
      refine jr_goto (tgt := 101) C dX12_total_97 rfl ?_
      exact jp_iret C dX12_total_101 (congrArg Value.int hv).symm
  · have hv := (if_neg q80).symm.trans hv
    refine jr_iconst (v := (-1)) C dX12_total_84 (by decide) ?_
    refine jr_goto (tgt := 101) C dX12_total_85 rfl ?_
    exact jp_iret C dX12_total_101 (congrArg Value.int hv).symm
set_option maxRecDepth 100000 in
theorem tX12_total_55 {p : Program} {l : Launch} {e : Env} {s : State} {m : MethodId} {args : Array Value} {below : List Frame} {meth : Method} {c : Code} (C : CC p s m args meth c yX12_total cX12_total 8 (some .int))  (v2 : Int64) (t0 : Int64) {w : Int32} (hv : fX12_total_55 v2 t0 = w) : PJ p l e s m args below meth c 8 1 (.int w) 55 [(2, .long v2)] [.long t0] := by
  unfold fX12_total_55 at hv
  refine jr_lstore (lv' := [(4, .long t0), (2, .long v2)]) C dX12_total_55 (by decide) rfl ?_
  refine jr_lload_n C dX12_total_57 rfl 1 rfl ?_
  refine jr_lconst (v := 0) C dX12_total_58 (by decide) ?_
  refine jr_lcmp_ge (tgt := 73) C dX12_total_59 dX12_total_60 rfl (fun q59 => ?_) (fun q59 => ?_)
  · have hv := (if_pos q59).symm.trans hv
    refine jr_lload_n C dX12_total_73 rfl 1 rfl ?_
    exact jr_sub [0] rfl (tX12_total_74 C  t0 v2 hv)
  · have hv := (if_neg q59).symm.trans hv
    refine jr_ldc2 C kw_1224 dX12_total_63 ?_
    refine jr_lload_n C dX12_total_66 rfl 1 rfl ?_
    refine jr_lsub C dX12_total_67 ?_
    refine jr_lconst (v := 1) C dX12_total_68 (by decide) ?_
    refine jr_lsub C dX12_total_69 ?_
    refine jr_goto (tgt := 74) C dX12_total_70 rfl ?_
    exact jr_sub [0] rfl (tX12_total_74 C  t0 (((-9223372036854775808) - v2) - 1) hv)
set_option maxRecDepth 100000 in
theorem tX12_total_0 {p : Program} {l : Launch} {e : Env} {s : State} {m : MethodId} {args : Array Value} {below : List Frame} {meth : Method} {c : Code} (C : CC p s m args meth c yX12_total cX12_total 8 (some .int))  (v0 : Int64) (v2 : Int64) {w : Int32} (hv : fX12_total v0 v2 = w) : PJ p l e s m args below meth c 8 1 (.int w) 0 [(0, .long v0), (2, .long v2)] [] := by
  unfold fX12_total at hv
  refine jr_lload_n C dX12_total_0 rfl 0 rfl ?_
  refine jr_pcall (rest := []) C (pX12_isLost l v0) oX12_isLost kw_1203 rfl ⟨Nat.le_of_ble_eq_true rfl, Nat.le_of_ble_eq_true rfl⟩ rfl (Nat.le_of_ble_eq_true rfl) ⟨Nat.zero_le _, Nat.zero_le _⟩ dX12_total_1 ?_
  refine jr_if_ne (tgt := 14) C dX12_total_4 rfl (fun q4 => ?_) (fun q4 => ?_)
  · have hv := (if_neg q4).symm.trans hv
    exact tX12_total_14 C  v0 v2 hv
  · have hv := (if_pos q4).symm.trans hv
    refine jr_lload_n C dX12_total_7 rfl 1 rfl ?_
    refine jr_pcall (rest := []) C (pX12_isLost l v2) oX12_isLost kw_1203 rfl ⟨Nat.le_of_ble_eq_true rfl, Nat.le_of_ble_eq_true rfl⟩ rfl (Nat.le_of_ble_eq_true rfl) ⟨Nat.zero_le _, Nat.zero_le _⟩ dX12_total_8 ?_
    refine jr_if_eq (tgt := 38) C dX12_total_11 rfl (fun q11 => ?_) (fun q11 => ?_)
    · have hv := (if_pos q11).symm.trans hv
      refine jr_lload_n C dX12_total_38 rfl 0 rfl ?_
      refine jr_lconst (v := 0) C dX12_total_39 (by decide) ?_
      refine jr_lcmp_ge (tgt := 54) C dX12_total_40 dX12_total_41 rfl (fun q40 => ?_) (fun q40 => ?_)
      · have hv := (if_pos q40).symm.trans hv
        refine jr_lload_n C dX12_total_54 rfl 0 rfl ?_
        exact jr_sub [1] rfl (tX12_total_55 C  v2 v0 hv)
      · have hv := (if_neg q40).symm.trans hv
        refine jr_ldc2 C kw_1224 dX12_total_44 ?_
        refine jr_lload_n C dX12_total_47 rfl 0 rfl ?_
        refine jr_lsub C dX12_total_48 ?_
        refine jr_lconst (v := 1) C dX12_total_49 (by decide) ?_
        refine jr_lsub C dX12_total_50 ?_
        refine jr_goto (tgt := 55) C dX12_total_51 rfl ?_
        exact jr_sub [1] rfl (tX12_total_55 C  v2 (((-9223372036854775808) - v0) - 1) hv)
    · have hv := (if_neg q11).symm.trans hv
      exact tX12_total_14 C  v0 v2 hv
theorem pX12_total (l : Launch) (v0 : Int64) (v2 : Int64) : pu l yX12_total cX12_total 8 (some .int) 1 [.long v0, .long v2] (.int (fX12_total v0 v2)) := pu_of (by decide +kernel) (Nat.le_of_ble_eq_true rfl) rfl (fun C => tX12_total_0 C v0 v2 rfl)
/-! RobotCellModel.byValue(JJ)I -/
def fX12_byValue_18 (v0 : Int64) (v2 : Int64) : Int32 :=
  fX12_total v0 v2
def fX12_byValue (v0 : Int64) (v2 : Int64) : Int32 :=
  if (fX12_isZero v0) = 0 then fX12_byValue_18 v0 v2 else (if (fX12_isZero v2) = 0 then fX12_byValue_18 v0 v2 else 0)
theorem oX12_byValue : ok_s yX12_byValue cX12_byValue 4 (some .int) 2 := ⟨kw_1314, kw_1313, kw_73, by decide +kernel⟩
set_option maxRecDepth 100000 in
theorem tX12_byValue_18 {p : Program} {l : Launch} {e : Env} {s : State} {m : MethodId} {args : Array Value} {below : List Frame} {meth : Method} {c : Code} (C : CC p s m args meth c yX12_byValue cX12_byValue 4 (some .int))  (v0 : Int64) (v2 : Int64) {w : Int32} (hv : fX12_byValue_18 v0 v2 = w) : PJ p l e s m args below meth c 4 2 (.int w) 18 [(0, .long v0), (2, .long v2)] [] := by
  unfold fX12_byValue_18 at hv
  refine jr_lload_n C dX12_byValue_18 rfl 0 rfl ?_
  refine jr_lload_n C dX12_byValue_19 rfl 1 rfl ?_
  refine jr_pcall (rest := []) C (pX12_total l v0 v2) oX12_total kw_1300 rfl ⟨Nat.le_of_ble_eq_true rfl, Nat.le_of_ble_eq_true rfl⟩ rfl (Nat.le_of_ble_eq_true rfl) ⟨Nat.zero_le _, Nat.zero_le _⟩ dX12_byValue_20 ?_
  exact jp_iret C dX12_byValue_23 (congrArg Value.int hv).symm
set_option maxRecDepth 100000 in
theorem tX12_byValue_0 {p : Program} {l : Launch} {e : Env} {s : State} {m : MethodId} {args : Array Value} {below : List Frame} {meth : Method} {c : Code} (C : CC p s m args meth c yX12_byValue cX12_byValue 4 (some .int))  (v0 : Int64) (v2 : Int64) {w : Int32} (hv : fX12_byValue v0 v2 = w) : PJ p l e s m args below meth c 4 2 (.int w) 0 [(0, .long v0), (2, .long v2)] [] := by
  unfold fX12_byValue at hv
  refine jr_lload_n C dX12_byValue_0 rfl 0 rfl ?_
  refine jr_pcall (rest := []) C (pX12_isZero l v0) oX12_isZero kw_1235 rfl ⟨Nat.le_of_ble_eq_true rfl, Nat.le_of_ble_eq_true rfl⟩ rfl (Nat.le_of_ble_eq_true rfl) ⟨Nat.zero_le _, Nat.zero_le _⟩ dX12_byValue_1 ?_
  refine jr_if_eq (tgt := 18) C dX12_byValue_4 rfl (fun q4 => ?_) (fun q4 => ?_)
  · have hv := (if_pos q4).symm.trans hv
    exact tX12_byValue_18 C  v0 v2 hv
  · have hv := (if_neg q4).symm.trans hv
    refine jr_lload_n C dX12_byValue_7 rfl 1 rfl ?_
    refine jr_pcall (rest := []) C (pX12_isZero l v2) oX12_isZero kw_1235 rfl ⟨Nat.le_of_ble_eq_true rfl, Nat.le_of_ble_eq_true rfl⟩ rfl (Nat.le_of_ble_eq_true rfl) ⟨Nat.zero_le _, Nat.zero_le _⟩ dX12_byValue_8 ?_
    refine jr_if_eq (tgt := 18) C dX12_byValue_11 rfl (fun q11 => ?_) (fun q11 => ?_)
    · have hv := (if_pos q11).symm.trans hv
      exact tX12_byValue_18 C  v0 v2 hv
    · have hv := (if_neg q11).symm.trans hv
      refine jr_iconst (v := 0) C dX12_byValue_14 (by decide) ?_
      refine jr_goto (tgt := 23) C dX12_byValue_15 rfl ?_
      exact jp_iret C dX12_byValue_23 (congrArg Value.int hv).symm
theorem pX12_byValue (l : Launch) (v0 : Int64) (v2 : Int64) : pu l yX12_byValue cX12_byValue 4 (some .int) 2 [.long v0, .long v2] (.int (fX12_byValue v0 v2)) := pu_of (by decide +kernel) (Nat.le_of_ble_eq_true rfl) rfl (fun C => tX12_byValue_0 C v0 v2 rfl)
/-! RobotCellModel.isLess(JJ)Z -/
def fX12_isLess_26  : Int32 :=
  0
def fX12_isLess (v0 : Int64) (v2 : Int64) : Int32 :=
  if (fX12_isLost v0) = 0 then (if (fX12_isLost v2) = 0 then (if 0 ≤ (fX12_byValue v0 v2) then fX12_isLess_26 else 1) else fX12_isLess_26) else fX12_isLess_26
theorem oX12_isLess : ok_s yX12_isLess cX12_isLess 4 (some .boolean) 2 := ⟨kw_1413, kw_1412, kw_73, by decide +kernel⟩
set_option maxRecDepth 100000 in
theorem tX12_isLess_26 {p : Program} {l : Launch} {e : Env} {s : State} {m : MethodId} {args : Array Value} {below : List Frame} {meth : Method} {c : Code} (C : CC p s m args meth c yX12_isLess cX12_isLess 4 (some .boolean))   {w : Int32} (hv : fX12_isLess_26  = w) : PJ p l e s m args below meth c 4 3 (.int w) 26 [] [] := by
  unfold fX12_isLess_26 at hv
  refine jr_iconst (v := 0) C dX12_isLess_26 (by decide) ?_
  exact jp_zret C dX12_isLess_27 rfl (congrArg Value.int hv).symm
set_option maxRecDepth 100000 in
theorem tX12_isLess_0 {p : Program} {l : Launch} {e : Env} {s : State} {m : MethodId} {args : Array Value} {below : List Frame} {meth : Method} {c : Code} (C : CC p s m args meth c yX12_isLess cX12_isLess 4 (some .boolean))  (v0 : Int64) (v2 : Int64) {w : Int32} (hv : fX12_isLess v0 v2 = w) : PJ p l e s m args below meth c 4 3 (.int w) 0 [(0, .long v0), (2, .long v2)] [] := by
  unfold fX12_isLess at hv
  refine jr_lload_n C dX12_isLess_0 rfl 0 rfl ?_
  refine jr_pcall (rest := []) C (pX12_isLost l v0) oX12_isLost kw_1203 rfl ⟨Nat.le_of_ble_eq_true rfl, Nat.le_of_ble_eq_true rfl⟩ rfl (Nat.le_of_ble_eq_true rfl) ⟨Nat.zero_le _, Nat.zero_le _⟩ dX12_isLess_1 ?_
  refine jr_if_ne (tgt := 26) C dX12_isLess_4 rfl (fun q4 => ?_) (fun q4 => ?_)
  · have hv := (if_neg q4).symm.trans hv
    exact jr_sub [] rfl (tX12_isLess_26 C   hv)
  · have hv := (if_pos q4).symm.trans hv
    refine jr_lload_n C dX12_isLess_7 rfl 1 rfl ?_
    refine jr_pcall (rest := []) C (pX12_isLost l v2) oX12_isLost kw_1203 rfl ⟨Nat.le_of_ble_eq_true rfl, Nat.le_of_ble_eq_true rfl⟩ rfl (Nat.le_of_ble_eq_true rfl) ⟨Nat.zero_le _, Nat.zero_le _⟩ dX12_isLess_8 ?_
    refine jr_if_ne (tgt := 26) C dX12_isLess_11 rfl (fun q11 => ?_) (fun q11 => ?_)
    · have hv := (if_neg q11).symm.trans hv
      exact jr_sub [] rfl (tX12_isLess_26 C   hv)
    · have hv := (if_pos q11).symm.trans hv
      refine jr_lload_n C dX12_isLess_14 rfl 0 rfl ?_
      refine jr_lload_n C dX12_isLess_15 rfl 1 rfl ?_
      refine jr_pcall (rest := []) C (pX12_byValue l v0 v2) oX12_byValue kw_1312 rfl ⟨Nat.le_of_ble_eq_true rfl, Nat.le_of_ble_eq_true rfl⟩ rfl (Nat.le_of_ble_eq_true rfl) ⟨Nat.zero_le _, Nat.zero_le _⟩ dX12_isLess_16 ?_
      refine jr_if_ge (tgt := 26) C dX12_isLess_19 rfl (fun q19 => ?_) (fun q19 => ?_)
      · have hv := (if_pos q19).symm.trans hv
        exact jr_sub [] rfl (tX12_isLess_26 C   hv)
      · have hv := (if_neg q19).symm.trans hv
        refine jr_iconst (v := 1) C dX12_isLess_22 (by decide) ?_
        refine jr_goto (tgt := 27) C dX12_isLess_23 rfl ?_
        exact jp_zret C dX12_isLess_27 rfl (congrArg Value.int hv).symm
theorem pX12_isLess (l : Launch) (v0 : Int64) (v2 : Int64) : pu l yX12_isLess cX12_isLess 4 (some .boolean) 3 [.long v0, .long v2] (.int (fX12_isLess v0 v2)) := pu_of (by decide +kernel) (Nat.le_of_ble_eq_true rfl) rfl (fun C => tX12_isLess_0 C v0 v2 rfl)
/-! RobotCellModel.upwards(J)J -/
def fX12_upwards (v0 : Int64) : Int64 :=
  if (fX12_isLost v0) = 0 then (if v0 = 9218868437227405312 then v0 else (if (fX12_isZero v0) = 0 then (if 0 ≤ v0 then v0 + 1 else v0 - 1) else 1)) else 9221120237041090560
theorem oX12_upwards : ok_s yX12_upwards cX12_upwards 2 (some .long) 1 := ⟨kw_1292, kw_1291, kw_73, by decide +kernel⟩
set_option maxRecDepth 100000 in
theorem tX12_upwards_0 {p : Program} {l : Launch} {e : Env} {s : State} {m : MethodId} {args : Array Value} {below : List Frame} {meth : Method} {c : Code} (C : CC p s m args meth c yX12_upwards cX12_upwards 2 (some .long))  (v0 : Int64) {w : Int64} (hv : fX12_upwards v0 = w) : PJ p l e s m args below meth c 2 1 (.long w) 0 [(0, .long v0)] [] := by
  unfold fX12_upwards at hv
  refine jr_lload_n C dX12_upwards_0 rfl 0 rfl ?_
  refine jr_pcall (rest := []) C (pX12_isLost l v0) oX12_isLost kw_1203 rfl ⟨Nat.le_of_ble_eq_true rfl, Nat.le_of_ble_eq_true rfl⟩ rfl (Nat.le_of_ble_eq_true rfl) ⟨Nat.zero_le _, Nat.zero_le _⟩ dX12_upwards_1 ?_
  refine jr_if_eq (tgt := 11) C dX12_upwards_4 rfl (fun q4 => ?_) (fun q4 => ?_)
  · have hv := (if_pos q4).symm.trans hv
    refine jr_lload_n C dX12_upwards_11 rfl 0 rfl ?_
    refine jr_ldc2 C kw_1207 dX12_upwards_12 ?_
    refine jr_lcmp_ne (tgt := 21) C dX12_upwards_15 dX12_upwards_16 rfl (fun q15 => ?_) (fun q15 => ?_)
    · have hv := (if_neg q15).symm.trans hv
      refine jr_lload_n C dX12_upwards_21 rfl 0 rfl ?_
      refine jr_pcall (rest := []) C (pX12_isZero l v0) oX12_isZero kw_1235 rfl ⟨Nat.le_of_ble_eq_true rfl, Nat.le_of_ble_eq_true rfl⟩ rfl (Nat.le_of_ble_eq_true rfl) ⟨Nat.zero_le _, Nat.zero_le _⟩ dX12_upwards_22 ?_
      refine jr_if_eq (tgt := 32) C dX12_upwards_25 rfl (fun q25 => ?_) (fun q25 => ?_)
      · have hv := (if_pos q25).symm.trans hv
        refine jr_lload_n C dX12_upwards_32 rfl 0 rfl ?_
        refine jr_lconst (v := 0) C dX12_upwards_33 (by decide) ?_
        refine jr_lcmp_ge (tgt := 44) C dX12_upwards_34 dX12_upwards_35 rfl (fun q34 => ?_) (fun q34 => ?_)
        · have hv := (if_pos q34).symm.trans hv
          refine jr_lload_n C dX12_upwards_44 rfl 0 rfl ?_
          refine jr_lconst (v := 1) C dX12_upwards_45 (by decide) ?_
          refine jr_ladd C dX12_upwards_46 ?_
          exact jp_lret C dX12_upwards_47 (congrArg Value.long hv).symm
        · have hv := (if_neg q34).symm.trans hv
          refine jr_lload_n C dX12_upwards_38 rfl 0 rfl ?_
          refine jr_lconst (v := 1) C dX12_upwards_39 (by decide) ?_
          refine jr_lsub C dX12_upwards_40 ?_
          refine jr_goto (tgt := 47) C dX12_upwards_41 rfl ?_
          exact jp_lret C dX12_upwards_47 (congrArg Value.long hv).symm
      · have hv := (if_neg q25).symm.trans hv
        refine jr_lconst (v := 1) C dX12_upwards_28 (by decide) ?_
        refine jr_goto (tgt := 47) C dX12_upwards_29 rfl ?_
        exact jp_lret C dX12_upwards_47 (congrArg Value.long hv).symm
    · have hv := (if_pos q15).symm.trans hv
      refine jr_lload_n C dX12_upwards_19 rfl 0 rfl ?_
      exact jp_lret C dX12_upwards_20 (congrArg Value.long hv).symm
  · have hv := (if_neg q4).symm.trans hv
    refine jr_ldc2 C kw_1208 dX12_upwards_7 ?_
    exact jp_lret C dX12_upwards_10 (congrArg Value.long hv).symm
theorem pX12_upwards (l : Launch) (v0 : Int64) : pu l yX12_upwards cX12_upwards 2 (some .long) 1 [.long v0] (.long (fX12_upwards v0)) := pu_of (by decide +kernel) (Nat.le_of_ble_eq_true rfl) rfl (fun C => tX12_upwards_0 C v0 rfl)
/-! RobotCellModel.singled(IJ)J -/
def fX12_singled_69 (v0 : Int32) (v1 : Int64) : Option Int64 :=
  Option.bind (fX12_cut v1 v0) (fun c71 => some c71)
def fX12_singled_89 (v1 : Int64) : Option Int64 :=
  some (fX12_one v1)
def fX12_singled (v0 : Int32) (v1 : Int64) : Option Int64 :=
  if v0 = 0 then some (fX12_magnitude v1) else if v0 = 1 then fX12_singled_69 v0 v1 else if v0 = 2 then fX12_singled_69 v0 v1 else if v0 = 3 then fX12_singled_69 v0 v1 else if v0 = 4 then (if (fX12_isLost v1) = 0 then (if (fX12_isZero v1) = 0 then (if 0 ≤ v1 then some 4607182418800017408 else some (-4616189618054758400)) else fX12_singled_89 v1) else fX12_singled_89 v1) else if v0 = 5 then (Option.bind (fX12_root v1) (fun c113 => some c113)) else if v0 = 6 then (if (fX12_isLost v1) = 0 then (if (fX12_isInfinite v1) = 0 then (Option.bind (fX12_made 0 1 (fX12_unit v1) 0) (fun c150 => some c150)) else some 9218868437227405312) else some 9221120237041090560) else if v0 = 7 then some (fX12_upwards v1) else if v0 = 8 then some (fX12_opposite (fX12_upwards (fX12_opposite v1))) else if v0 = 9 then some (fX12_opposite v1) else if v0 = 10 then (Option.bind (fX12_number (((((v1 >>> ((52 : Int32).toInt64 &&& 63)).toInt32) &&& 2047) - 1023).toInt64)) (fun c189 => some c189)) else if v0 = 11 then (Option.bind (fX12_small v1) (fun c194 => some c194)) else some v1
theorem oX12_singled : ok_s yX12_singled cX12_singled 3 (some .long) 2 := ⟨kw_1278, kw_1277, kw_73, by decide +kernel⟩
set_option maxRecDepth 100000 in
theorem tX12_singled_69 {p : Program} {l : Launch} {e : Env} {s : State} {m : MethodId} {args : Array Value} {below : List Frame} {meth : Method} {c : Code} (C : CC p s m args meth c yX12_singled cX12_singled 3 (some .long))  (v0 : Int32) (v1 : Int64) {w : Int64} (hv : fX12_singled_69 v0 v1 = some w) : PJ p l e s m args below meth c 3 4 (.long w) 69 [(0, .int v0), (1, .long v1)] [] := by
  unfold fX12_singled_69 at hv
  refine jr_lload_n C dX12_singled_69 rfl 1 rfl ?_
  refine jr_iload_n C dX12_singled_70 rfl 0 rfl ?_
  obtain ⟨c71, hc71, hv⟩ := Option.bind_eq_some_iff.mp hv
  refine jr_pcall (rest := []) C (pX12_cut l v1 v0 hc71) oX12_cut kw_1282 rfl ⟨Nat.le_of_ble_eq_true rfl, Nat.le_of_ble_eq_true rfl⟩ rfl (Nat.le_of_ble_eq_true rfl) ⟨Nat.zero_le _, Nat.zero_le _⟩ dX12_singled_71 ?_
  exact jp_lret C dX12_singled_74 (congrArg Value.long (Option.some.inj hv)).symm
set_option maxRecDepth 100000 in
theorem tX12_singled_89 {p : Program} {l : Launch} {e : Env} {s : State} {m : MethodId} {args : Array Value} {below : List Frame} {meth : Method} {c : Code} (C : CC p s m args meth c yX12_singled cX12_singled 3 (some .long))  (v1 : Int64) {w : Int64} (hv : fX12_singled_89 v1 = some w) : PJ p l e s m args below meth c 3 4 (.long w) 89 [(1, .long v1)] [] := by
  unfold fX12_singled_89 at hv
  refine jr_lload_n C dX12_singled_89 rfl 0 rfl ?_
  refine jr_pcall (rest := []) C (pX12_one l v1) oX12_one kw_1200 rfl ⟨Nat.le_of_ble_eq_true rfl, Nat.le_of_ble_eq_true rfl⟩ rfl (Nat.le_of_ble_eq_true rfl) ⟨Nat.zero_le _, Nat.zero_le _⟩ dX12_singled_90 ?_
  refine jr_goto (tgt := 111) C dX12_singled_93 rfl ?_
  exact jp_lret C dX12_singled_111 (congrArg Value.long (Option.some.inj hv)).symm
set_option maxRecDepth 100000 in
theorem tX12_singled_0 {p : Program} {l : Launch} {e : Env} {s : State} {m : MethodId} {args : Array Value} {below : List Frame} {meth : Method} {c : Code} (C : CC p s m args meth c yX12_singled cX12_singled 3 (some .long))  (v0 : Int32) (v1 : Int64) {w : Int64} (hv : fX12_singled v0 v1 = some w) : PJ p l e s m args below meth c 3 4 (.long w) 0 [(0, .int v0), (1, .long v1)] [] := by
  unfold fX12_singled at hv
  refine jr_iload_n C dX12_singled_0 rfl 0 rfl ?_
  by_cases q1_0 : v0 = 0
  · have hv := (if_pos q1_0).symm.trans hv
    refine jr_tableIn (off := 63) (tgt := 64) C dX12_singled_1 (by rw [q1_0]; decide) (by rw [q1_0]; decide) (by rw [q1_0]; rfl) rfl ?_
    refine jr_lload_n C dX12_singled_64 rfl 1 rfl ?_
    refine jr_pcall (rest := []) C (pX12_magnitude l v1) oX12_magnitude kw_1279 rfl ⟨Nat.le_of_ble_eq_true rfl, Nat.le_of_ble_eq_true rfl⟩ rfl (Nat.le_of_ble_eq_true rfl) ⟨Nat.zero_le _, Nat.zero_le _⟩ dX12_singled_65 ?_
    exact jp_lret C dX12_singled_68 (congrArg Value.long (Option.some.inj hv)).symm
  have hv := (if_neg q1_0).symm.trans hv
  by_cases q1_1 : v0 = 1
  · have hv := (if_pos q1_1).symm.trans hv
    refine jr_tableIn (off := 68) (tgt := 69) C dX12_singled_1 (by rw [q1_1]; decide) (by rw [q1_1]; decide) (by rw [q1_1]; rfl) rfl ?_
    exact tX12_singled_69 C  v0 v1 hv
  have hv := (if_neg q1_1).symm.trans hv
  by_cases q1_2 : v0 = 2
  · have hv := (if_pos q1_2).symm.trans hv
    refine jr_tableIn (off := 68) (tgt := 69) C dX12_singled_1 (by rw [q1_2]; decide) (by rw [q1_2]; decide) (by rw [q1_2]; rfl) rfl ?_
    exact tX12_singled_69 C  v0 v1 hv
  have hv := (if_neg q1_2).symm.trans hv
  by_cases q1_3 : v0 = 3
  · have hv := (if_pos q1_3).symm.trans hv
    refine jr_tableIn (off := 68) (tgt := 69) C dX12_singled_1 (by rw [q1_3]; decide) (by rw [q1_3]; decide) (by rw [q1_3]; rfl) rfl ?_
    exact tX12_singled_69 C  v0 v1 hv
  have hv := (if_neg q1_3).symm.trans hv
  by_cases q1_4 : v0 = 4
  · have hv := (if_pos q1_4).symm.trans hv
    refine jr_tableIn (off := 74) (tgt := 75) C dX12_singled_1 (by rw [q1_4]; decide) (by rw [q1_4]; decide) (by rw [q1_4]; rfl) rfl ?_
    refine jr_lload_n C dX12_singled_75 rfl 1 rfl ?_
    refine jr_pcall (rest := []) C (pX12_isLost l v1) oX12_isLost kw_1203 rfl ⟨Nat.le_of_ble_eq_true rfl, Nat.le_of_ble_eq_true rfl⟩ rfl (Nat.le_of_ble_eq_true rfl) ⟨Nat.zero_le _, Nat.zero_le _⟩ dX12_singled_76 ?_
    refine jr_if_ne (tgt := 89) C dX12_singled_79 rfl (fun q79 => ?_) (fun q79 => ?_)
    · have hv := (if_neg q79).symm.trans hv
      exact jr_sub [1] rfl (tX12_singled_89 C  v1 hv)
    · have hv := (if_pos q79).symm.trans hv
      refine jr_lload_n C dX12_singled_82 rfl 1 rfl ?_
      refine jr_pcall (rest := []) C (pX12_isZero l v1) oX12_isZero kw_1235 rfl ⟨Nat.le_of_ble_eq_true rfl, Nat.le_of_ble_eq_true rfl⟩ rfl (Nat.le_of_ble_eq_true rfl) ⟨Nat.zero_le _, Nat.zero_le _⟩ dX12_singled_83 ?_
      refine jr_if_eq (tgt := 96) C dX12_singled_86 rfl (fun q86 => ?_) (fun q86 => ?_)
      · have hv := (if_pos q86).symm.trans hv
        refine jr_lload_n C dX12_singled_96 rfl 1 rfl ?_
        refine jr_lconst (v := 0) C dX12_singled_97 (by decide) ?_
        refine jr_lcmp_ge (tgt := 108) C dX12_singled_98 dX12_singled_99 rfl (fun q98 => ?_) (fun q98 => ?_)
        · have hv := (if_pos q98).symm.trans hv
          refine jr_ldc2 C kw_1286 dX12_singled_108 ?_
          exact jp_lret C dX12_singled_111 (congrArg Value.long (Option.some.inj hv)).symm
        · have hv := (if_neg q98).symm.trans hv
          refine jr_ldc2 C kw_1285 dX12_singled_102 ?_
          refine jr_goto (tgt := 111) C dX12_singled_105 rfl ?_
          exact jp_lret C dX12_singled_111 (congrArg Value.long (Option.some.inj hv)).symm
      · have hv := (if_neg q86).symm.trans hv
        exact jr_sub [1] rfl (tX12_singled_89 C  v1 hv)
  have hv := (if_neg q1_4).symm.trans hv
  by_cases q1_5 : v0 = 5
  · have hv := (if_pos q1_5).symm.trans hv
    refine jr_tableIn (off := 111) (tgt := 112) C dX12_singled_1 (by rw [q1_5]; decide) (by rw [q1_5]; decide) (by rw [q1_5]; rfl) rfl ?_
    refine jr_lload_n C dX12_singled_112 rfl 1 rfl ?_
    obtain ⟨c113, hc113, hv⟩ := Option.bind_eq_some_iff.mp hv
    refine jr_pcall (rest := []) C (pX12_root l v1 hc113) oX12_root kw_1287 rfl ⟨Nat.le_of_ble_eq_true rfl, Nat.le_of_ble_eq_true rfl⟩ rfl (Nat.le_of_ble_eq_true rfl) ⟨Nat.zero_le _, Nat.zero_le _⟩ dX12_singled_113 ?_
    exact jp_lret C dX12_singled_116 (congrArg Value.long (Option.some.inj hv)).symm
  have hv := (if_neg q1_5).symm.trans hv
  by_cases q1_6 : v0 = 6
  · have hv := (if_pos q1_6).symm.trans hv
    refine jr_tableIn (off := 116) (tgt := 117) C dX12_singled_1 (by rw [q1_6]; decide) (by rw [q1_6]; decide) (by rw [q1_6]; rfl) rfl ?_
    refine jr_lload_n C dX12_singled_117 rfl 1 rfl ?_
    refine jr_pcall (rest := []) C (pX12_isLost l v1) oX12_isLost kw_1203 rfl ⟨Nat.le_of_ble_eq_true rfl, Nat.le_of_ble_eq_true rfl⟩ rfl (Nat.le_of_ble_eq_true rfl) ⟨Nat.zero_le _, Nat.zero_le _⟩ dX12_singled_118 ?_
    refine jr_if_eq (tgt := 130) C dX12_singled_121 rfl (fun q121 => ?_) (fun q121 => ?_)
    · have hv := (if_pos q121).symm.trans hv
      refine jr_lload_n C dX12_singled_130 rfl 1 rfl ?_
      refine jr_pcall (rest := []) C (pX12_isInfinite l v1) oX12_isInfinite kw_1232 rfl ⟨Nat.le_of_ble_eq_true rfl, Nat.le_of_ble_eq_true rfl⟩ rfl (Nat.le_of_ble_eq_true rfl) ⟨Nat.zero_le _, Nat.zero_le _⟩ dX12_singled_131 ?_
      refine jr_if_eq (tgt := 143) C dX12_singled_134 rfl (fun q134 => ?_) (fun q134 => ?_)
      · have hv := (if_pos q134).symm.trans hv
        refine jr_iconst (v := 0) C dX12_singled_143 (by decide) ?_
        refine jr_lconst (v := 1) C dX12_singled_144 (by decide) ?_
        refine jr_lload_n C dX12_singled_145 rfl 1 rfl ?_
        refine jr_pcall (rest := [.long 1, .int 0]) C (pX12_unit l v1) oX12_unit kw_1246 rfl ⟨Nat.le_of_ble_eq_true rfl, Nat.le_of_ble_eq_true rfl⟩ rfl (Nat.le_of_ble_eq_true rfl) ⟨Nat.zero_le _, Nat.zero_le _⟩ dX12_singled_146 ?_
        refine jr_iconst (v := 0) C dX12_singled_149 (by decide) ?_
        obtain ⟨c150, hc150, hv⟩ := Option.bind_eq_some_iff.mp hv
        refine jr_pcall (rest := []) C (pX12_made l 0 1 (fX12_unit v1) 0 hc150) oX12_made kw_1250 rfl ⟨Nat.le_of_ble_eq_true rfl, Nat.le_of_ble_eq_true rfl⟩ rfl (Nat.le_of_ble_eq_true rfl) ⟨Nat.zero_le _, Nat.zero_le _⟩ dX12_singled_150 ?_
        exact jp_lret C dX12_singled_153 (congrArg Value.long (Option.some.inj hv)).symm
      · have hv := (if_neg q134).symm.trans hv
        refine jr_ldc2 C kw_1207 dX12_singled_137 ?_
        refine jr_goto (tgt := 153) C dX12_singled_140 rfl ?_
        exact jp_lret C dX12_singled_153 (congrArg Value.long (Option.some.inj hv)).symm
    · have hv := (if_neg q121).symm.trans hv
      refine jr_ldc2 C kw_1208 dX12_singled_124 ?_
      refine jr_goto (tgt := 153) C dX12_singled_127 rfl ?_
      exact jp_lret C dX12_singled_153 (congrArg Value.long (Option.some.inj hv)).symm
  have hv := (if_neg q1_6).symm.trans hv
  by_cases q1_7 : v0 = 7
  · have hv := (if_pos q1_7).symm.trans hv
    refine jr_tableIn (off := 153) (tgt := 154) C dX12_singled_1 (by rw [q1_7]; decide) (by rw [q1_7]; decide) (by rw [q1_7]; rfl) rfl ?_
    refine jr_lload_n C dX12_singled_154 rfl 1 rfl ?_
    refine jr_pcall (rest := []) C (pX12_upwards l v1) oX12_upwards kw_1290 rfl ⟨Nat.le_of_ble_eq_true rfl, Nat.le_of_ble_eq_true rfl⟩ rfl (Nat.le_of_ble_eq_true rfl) ⟨Nat.zero_le _, Nat.zero_le _⟩ dX12_singled_155 ?_
    exact jp_lret C dX12_singled_158 (congrArg Value.long (Option.some.inj hv)).symm
  have hv := (if_neg q1_7).symm.trans hv
  by_cases q1_8 : v0 = 8
  · have hv := (if_pos q1_8).symm.trans hv
    refine jr_tableIn (off := 158) (tgt := 159) C dX12_singled_1 (by rw [q1_8]; decide) (by rw [q1_8]; decide) (by rw [q1_8]; rfl) rfl ?_
    refine jr_lload_n C dX12_singled_159 rfl 1 rfl ?_
    refine jr_pcall (rest := []) C (pX12_opposite l v1) oX12_opposite kw_1259 rfl ⟨Nat.le_of_ble_eq_true rfl, Nat.le_of_ble_eq_true rfl⟩ rfl (Nat.le_of_ble_eq_true rfl) ⟨Nat.zero_le _, Nat.zero_le _⟩ dX12_singled_160 ?_
    refine jr_pcall (rest := []) C (pX12_upwards l (fX12_opposite v1)) oX12_upwards kw_1290 rfl ⟨Nat.le_of_ble_eq_true rfl, Nat.le_of_ble_eq_true rfl⟩ rfl (Nat.le_of_ble_eq_true rfl) ⟨Nat.zero_le _, Nat.zero_le _⟩ dX12_singled_163 ?_
    refine jr_pcall (rest := []) C (pX12_opposite l (fX12_upwards (fX12_opposite v1))) oX12_opposite kw_1259 rfl ⟨Nat.le_of_ble_eq_true rfl, Nat.le_of_ble_eq_true rfl⟩ rfl (Nat.le_of_ble_eq_true rfl) ⟨Nat.zero_le _, Nat.zero_le _⟩ dX12_singled_166 ?_
    exact jp_lret C dX12_singled_169 (congrArg Value.long (Option.some.inj hv)).symm
  have hv := (if_neg q1_8).symm.trans hv
  by_cases q1_9 : v0 = 9
  · have hv := (if_pos q1_9).symm.trans hv
    refine jr_tableIn (off := 169) (tgt := 170) C dX12_singled_1 (by rw [q1_9]; decide) (by rw [q1_9]; decide) (by rw [q1_9]; rfl) rfl ?_
    refine jr_lload_n C dX12_singled_170 rfl 1 rfl ?_
    refine jr_pcall (rest := []) C (pX12_opposite l v1) oX12_opposite kw_1259 rfl ⟨Nat.le_of_ble_eq_true rfl, Nat.le_of_ble_eq_true rfl⟩ rfl (Nat.le_of_ble_eq_true rfl) ⟨Nat.zero_le _, Nat.zero_le _⟩ dX12_singled_171 ?_
    exact jp_lret C dX12_singled_174 (congrArg Value.long (Option.some.inj hv)).symm
  have hv := (if_neg q1_9).symm.trans hv
  by_cases q1_10 : v0 = 10
  · have hv := (if_pos q1_10).symm.trans hv
    refine jr_tableIn (off := 174) (tgt := 175) C dX12_singled_1 (by rw [q1_10]; decide) (by rw [q1_10]; decide) (by rw [q1_10]; rfl) rfl ?_
    refine jr_lload_n C dX12_singled_175 rfl 1 rfl ?_
    refine jr_bipush (v := 52) C dX12_singled_176 (by decide) ?_
    refine jr_lshr C dX12_singled_178 ?_
    refine jr_l2i C dX12_singled_179 ?_
    refine jr_sipush (v := 2047) C dX12_singled_180 (by decide) ?_
    refine jr_iand C dX12_singled_183 ?_
    refine jr_sipush (v := 1023) C dX12_singled_184 (by decide) ?_
    refine jr_isub C dX12_singled_187 ?_
    refine jr_i2l C dX12_singled_188 ?_
    obtain ⟨c189, hc189, hv⟩ := Option.bind_eq_some_iff.mp hv
    refine jr_pcall (rest := []) C (pX12_number l (((((v1 >>> ((52 : Int32).toInt64 &&& 63)).toInt32) &&& 2047) - 1023).toInt64) hc189) oX12_number kw_1213 rfl ⟨Nat.le_of_ble_eq_true rfl, Nat.le_of_ble_eq_true rfl⟩ rfl (Nat.le_of_ble_eq_true rfl) ⟨Nat.zero_le _, Nat.zero_le _⟩ dX12_singled_189 ?_
    exact jp_lret C dX12_singled_192 (congrArg Value.long (Option.some.inj hv)).symm
  have hv := (if_neg q1_10).symm.trans hv
  by_cases q1_11 : v0 = 11
  · have hv := (if_pos q1_11).symm.trans hv
    refine jr_tableIn (off := 192) (tgt := 193) C dX12_singled_1 (by rw [q1_11]; decide) (by rw [q1_11]; decide) (by rw [q1_11]; rfl) rfl ?_
    refine jr_lload_n C dX12_singled_193 rfl 1 rfl ?_
    obtain ⟨c194, hc194, hv⟩ := Option.bind_eq_some_iff.mp hv
    refine jr_pcall (rest := []) C (pX12_small l v1 hc194) oX12_small kw_1293 rfl ⟨Nat.le_of_ble_eq_true rfl, Nat.le_of_ble_eq_true rfl⟩ rfl (Nat.le_of_ble_eq_true rfl) ⟨Nat.zero_le _, Nat.zero_le _⟩ dX12_singled_194 ?_
    exact jp_lret C dX12_singled_197 (congrArg Value.long (Option.some.inj hv)).symm
  have hv := (if_neg q1_11).symm.trans hv
  refine jr_tableOut (tgt := 198) C dX12_singled_1 (by have := sw_ne (a := 0) q1_0 (by decide); have := sw_ne (a := 1) q1_1 (by decide); have := sw_ne (a := 2) q1_2 (by decide); have := sw_ne (a := 3) q1_3 (by decide); have := sw_ne (a := 4) q1_4 (by decide); have := sw_ne (a := 5) q1_5 (by decide); have := sw_ne (a := 6) q1_6 (by decide); have := sw_ne (a := 7) q1_7 (by decide); have := sw_ne (a := 8) q1_8 (by decide); have := sw_ne (a := 9) q1_9 (by decide); have := sw_ne (a := 10) q1_10 (by decide); have := sw_ne (a := 11) q1_11 (by decide); omega) rfl ?_
  refine jr_lload_n C dX12_singled_198 rfl 1 rfl ?_
  exact jp_lret C dX12_singled_199 (congrArg Value.long (Option.some.inj hv)).symm
theorem pX12_singled (l : Launch) (v0 : Int32) (v1 : Int64) {w : Int64} (hw : fX12_singled v0 v1 = some w) : pu l yX12_singled cX12_singled 3 (some .long) 4 [.int v0, .long v1] (.long w) := pu_of (by decide +kernel) (Nat.le_of_ble_eq_true rfl) rfl (fun C => tX12_singled_0 C v0 v1 hw)
/-! RobotCellModel.test(IJJ)Z -/
def fX12_test_14 (v0 : Int32) : Int32 :=
  if v0 ≤ 4 then 0 else 1
def fX12_test_32 (v0 : Int32) (v5 : Int32) : Int32 :=
  if v0 = 0 then (if 0 ≤ v5 then 0 else 1) else (if v0 = 1 then (if 0 < v5 then 0 else 1) else (if v0 = 2 then (if v5 ≤ 0 then 0 else 1) else (if v0 = 3 then (if v5 < 0 then 0 else 1) else (if v0 = 4 then (if v5 = 0 then 1 else 0) else (if v5 = 0 then 0 else 1)))))
def fX12_test (v0 : Int32) (v1 : Int64) (v3 : Int64) : Int32 :=
  if (fX12_isLost v1) = 0 then (if (fX12_isLost v3) = 0 then fX12_test_32 v0 (fX12_byValue v1 v3) else fX12_test_14 v0) else fX12_test_14 v0
theorem oX12_test : ok_s yX12_test cX12_test 6 (some .boolean) 3 := ⟨kw_1311, kw_1310, kw_73, by decide +kernel⟩
set_option maxRecDepth 100000 in
theorem tX12_test_14 {p : Program} {l : Launch} {e : Env} {s : State} {m : MethodId} {args : Array Value} {below : List Frame} {meth : Method} {c : Code} (C : CC p s m args meth c yX12_test cX12_test 6 (some .boolean))  (v0 : Int32) {w : Int32} (hv : fX12_test_14 v0 = w) : PJ p l e s m args below meth c 6 3 (.int w) 14 [(0, .int v0)] [] := by
  unfold fX12_test_14 at hv
  refine jr_iload_n C dX12_test_14 rfl 0 rfl ?_
  refine jr_iconst (v := 4) C dX12_test_15 (by decide) ?_
  refine jr_icmp_le (tgt := 23) C dX12_test_16 rfl (fun q16 => ?_) (fun q16 => ?_)
  · have hv := (if_pos q16).symm.trans hv
    refine jr_iconst (v := 0) C dX12_test_23 (by decide) ?_
    exact jp_zret C dX12_test_24 rfl (congrArg Value.int hv).symm
  · have hv := (if_neg q16).symm.trans hv
    refine jr_iconst (v := 1) C dX12_test_19 (by decide) ?_
    refine jr_goto (tgt := 24) C dX12_test_20 rfl ?_
    exact jp_zret C dX12_test_24 rfl (congrArg Value.int hv).symm
set_option maxRecDepth 100000 in
theorem tX12_test_32 {p : Program} {l : Launch} {e : Env} {s : State} {m : MethodId} {args : Array Value} {below : List Frame} {meth : Method} {c : Code} (C : CC p s m args meth c yX12_test cX12_test 6 (some .boolean))  (v0 : Int32) (v5 : Int32) {w : Int32} (hv : fX12_test_32 v0 v5 = w) : PJ p l e s m args below meth c 6 3 (.int w) 32 [(0, .int v0), (5, .int v5)] [] := by
  unfold fX12_test_32 at hv
  refine jr_iload_n C dX12_test_32 rfl 0 rfl ?_
  refine jr_if_ne (tgt := 49) C dX12_test_33 rfl (fun q33 => ?_) (fun q33 => ?_)
  · have hv := (if_neg q33).symm.trans hv
    refine jr_iload_n C dX12_test_49 rfl 0 rfl ?_
    refine jr_iconst (v := 1) C dX12_test_50 (by decide) ?_
    refine jr_icmp_ne (tgt := 67) C dX12_test_51 rfl (fun q51 => ?_) (fun q51 => ?_)
    · have hv := (if_neg q51).symm.trans hv
      refine jr_iload_n C dX12_test_67 rfl 0 rfl ?_
      refine jr_iconst (v := 2) C dX12_test_68 (by decide) ?_
      refine jr_icmp_ne (tgt := 85) C dX12_test_69 rfl (fun q69 => ?_) (fun q69 => ?_)
      · have hv := (if_neg q69).symm.trans hv
        refine jr_iload_n C dX12_test_85 rfl 0 rfl ?_
        refine jr_iconst (v := 3) C dX12_test_86 (by decide) ?_
        refine jr_icmp_ne (tgt := 103) C dX12_test_87 rfl (fun q87 => ?_) (fun q87 => ?_)
        · have hv := (if_neg q87).symm.trans hv
          refine jr_iload_n C dX12_test_103 rfl 0 rfl ?_
          refine jr_iconst (v := 4) C dX12_test_104 (by decide) ?_
          refine jr_icmp_ne (tgt := 121) C dX12_test_105 rfl (fun q105 => ?_) (fun q105 => ?_)
          · have hv := (if_neg q105).symm.trans hv
            refine jr_iload C dX12_test_121 1 rfl ?_
            refine jr_if_eq (tgt := 130) C dX12_test_123 rfl (fun q123 => ?_) (fun q123 => ?_)
            · have hv := (if_pos q123).symm.trans hv
              refine jr_iconst (v := 0) C dX12_test_130 (by decide) ?_
              exact jp_zret C dX12_test_131 rfl (congrArg Value.int hv).symm
            · have hv := (if_neg q123).symm.trans hv
              refine jr_iconst (v := 1) C dX12_test_126 (by decide) ?_
              refine jr_goto (tgt := 131) C dX12_test_127 rfl ?_
              exact jp_zret C dX12_test_131 rfl (congrArg Value.int hv).symm
          · have hv := (if_pos q105).symm.trans hv
            refine jr_iload C dX12_test_108 1 rfl ?_
            refine jr_if_ne (tgt := 117) C dX12_test_110 rfl (fun q110 => ?_) (fun q110 => ?_)
            · have hv := (if_neg q110).symm.trans hv
              refine jr_iconst (v := 0) C dX12_test_117 (by decide) ?_
              refine jr_goto (tgt := 131) C dX12_test_118 rfl ?_
              exact jp_zret C dX12_test_131 rfl (congrArg Value.int hv).symm
            · have hv := (if_pos q110).symm.trans hv
              refine jr_iconst (v := 1) C dX12_test_113 (by decide) ?_
              refine jr_goto (tgt := 131) C dX12_test_114 rfl ?_
              exact jp_zret C dX12_test_131 rfl (congrArg Value.int hv).symm
        · have hv := (if_pos q87).symm.trans hv
          refine jr_iload C dX12_test_90 1 rfl ?_
          refine jr_if_lt (tgt := 99) C dX12_test_92 rfl (fun q92 => ?_) (fun q92 => ?_)
          · have hv := (if_pos q92).symm.trans hv
            refine jr_iconst (v := 0) C dX12_test_99 (by decide) ?_
            refine jr_goto (tgt := 131) C dX12_test_100 rfl ?_
            exact jp_zret C dX12_test_131 rfl (congrArg Value.int hv).symm
          · have hv := (if_neg q92).symm.trans hv
            refine jr_iconst (v := 1) C dX12_test_95 (by decide) ?_
            refine jr_goto (tgt := 131) C dX12_test_96 rfl ?_
            exact jp_zret C dX12_test_131 rfl (congrArg Value.int hv).symm
      · have hv := (if_pos q69).symm.trans hv
        refine jr_iload C dX12_test_72 1 rfl ?_
        refine jr_if_le (tgt := 81) C dX12_test_74 rfl (fun q74 => ?_) (fun q74 => ?_)
        · have hv := (if_pos q74).symm.trans hv
          refine jr_iconst (v := 0) C dX12_test_81 (by decide) ?_
          refine jr_goto (tgt := 131) C dX12_test_82 rfl ?_
          exact jp_zret C dX12_test_131 rfl (congrArg Value.int hv).symm
        · have hv := (if_neg q74).symm.trans hv
          refine jr_iconst (v := 1) C dX12_test_77 (by decide) ?_
          refine jr_goto (tgt := 131) C dX12_test_78 rfl ?_
          exact jp_zret C dX12_test_131 rfl (congrArg Value.int hv).symm
    · have hv := (if_pos q51).symm.trans hv
      refine jr_iload C dX12_test_54 1 rfl ?_
      refine jr_if_gt (tgt := 63) C dX12_test_56 rfl (fun q56 => ?_) (fun q56 => ?_)
      · have hv := (if_pos q56).symm.trans hv
        refine jr_iconst (v := 0) C dX12_test_63 (by decide) ?_
        refine jr_goto (tgt := 131) C dX12_test_64 rfl ?_
        exact jp_zret C dX12_test_131 rfl (congrArg Value.int hv).symm
      · have hv := (if_neg q56).symm.trans hv
        refine jr_iconst (v := 1) C dX12_test_59 (by decide) ?_
        refine jr_goto (tgt := 131) C dX12_test_60 rfl ?_
        exact jp_zret C dX12_test_131 rfl (congrArg Value.int hv).symm
  · have hv := (if_pos q33).symm.trans hv
    refine jr_iload C dX12_test_36 1 rfl ?_
    refine jr_if_ge (tgt := 45) C dX12_test_38 rfl (fun q38 => ?_) (fun q38 => ?_)
    · have hv := (if_pos q38).symm.trans hv
      refine jr_iconst (v := 0) C dX12_test_45 (by decide) ?_
      refine jr_goto (tgt := 131) C dX12_test_46 rfl ?_
      exact jp_zret C dX12_test_131 rfl (congrArg Value.int hv).symm
    · have hv := (if_neg q38).symm.trans hv
      refine jr_iconst (v := 1) C dX12_test_41 (by decide) ?_
      refine jr_goto (tgt := 131) C dX12_test_42 rfl ?_
      exact jp_zret C dX12_test_131 rfl (congrArg Value.int hv).symm
set_option maxRecDepth 100000 in
theorem tX12_test_0 {p : Program} {l : Launch} {e : Env} {s : State} {m : MethodId} {args : Array Value} {below : List Frame} {meth : Method} {c : Code} (C : CC p s m args meth c yX12_test cX12_test 6 (some .boolean))  (v0 : Int32) (v1 : Int64) (v3 : Int64) {w : Int32} (hv : fX12_test v0 v1 v3 = w) : PJ p l e s m args below meth c 6 3 (.int w) 0 [(0, .int v0), (1, .long v1), (3, .long v3)] [] := by
  unfold fX12_test at hv
  refine jr_lload_n C dX12_test_0 rfl 1 rfl ?_
  refine jr_pcall (rest := []) C (pX12_isLost l v1) oX12_isLost kw_1203 rfl ⟨Nat.le_of_ble_eq_true rfl, Nat.le_of_ble_eq_true rfl⟩ rfl (Nat.le_of_ble_eq_true rfl) ⟨Nat.zero_le _, Nat.zero_le _⟩ dX12_test_1 ?_
  refine jr_if_ne (tgt := 14) C dX12_test_4 rfl (fun q4 => ?_) (fun q4 => ?_)
  · have hv := (if_neg q4).symm.trans hv
    exact jr_sub [0] rfl (tX12_test_14 C  v0 hv)
  · have hv := (if_pos q4).symm.trans hv
    refine jr_lload_n C dX12_test_7 rfl 2 rfl ?_
    refine jr_pcall (rest := []) C (pX12_isLost l v3) oX12_isLost kw_1203 rfl ⟨Nat.le_of_ble_eq_true rfl, Nat.le_of_ble_eq_true rfl⟩ rfl (Nat.le_of_ble_eq_true rfl) ⟨Nat.zero_le _, Nat.zero_le _⟩ dX12_test_8 ?_
    refine jr_if_eq (tgt := 25) C dX12_test_11 rfl (fun q11 => ?_) (fun q11 => ?_)
    · have hv := (if_pos q11).symm.trans hv
      refine jr_lload_n C dX12_test_25 rfl 1 rfl ?_
      refine jr_lload_n C dX12_test_26 rfl 2 rfl ?_
      refine jr_pcall (rest := []) C (pX12_byValue l v1 v3) oX12_byValue kw_1312 rfl ⟨Nat.le_of_ble_eq_true rfl, Nat.le_of_ble_eq_true rfl⟩ rfl (Nat.le_of_ble_eq_true rfl) ⟨Nat.zero_le _, Nat.zero_le _⟩ dX12_test_27 ?_
      refine jr_istore (lv' := [(5, .int (fX12_byValue v1 v3)), (0, .int v0), (1, .long v1), (3, .long v3)]) C dX12_test_30 (by decide) rfl ?_
      exact jr_sub [1, 0] rfl (tX12_test_32 C  v0 (fX12_byValue v1 v3) hv)
    · have hv := (if_neg q11).symm.trans hv
      exact jr_sub [0] rfl (tX12_test_14 C  v0 hv)
theorem pX12_test (l : Launch) (v0 : Int32) (v1 : Int64) (v3 : Int64) : pu l yX12_test cX12_test 6 (some .boolean) 3 [.int v0, .long v1, .long v3] (.int (fX12_test v0 v1 v3)) := pu_of (by decide +kernel) (Nat.le_of_ble_eq_true rfl) rfl (fun C => tX12_test_0 C v0 v1 v3 rfl)
/-! RobotCellModel.towards(JJJ)J -/
def fX12_towards_106 (v2 : Int64) (v4 : Int64) (t0 : Int64) : Int64 :=
  if v2 ≤ t0 then (if t0 ≤ v4 then t0 else v4) else v2
def fX12_towards_72 (v0 : Int64) (v2 : Int64) (v4 : Int64) (v9 : Int32) (t0 : Int64) : Int64 :=
  if v9 = 0 then (if 0 ≤ v0 then fX12_towards_106 v2 v4 t0 else fX12_towards_106 v2 v4 (-t0)) else (if 0 ≤ v0 then v4 else v2)
def fX12_towards_31 (v0 : Int64) (v2 : Int64) (v4 : Int64) (v6 : Int64) (v8 : Int32) (t0 : Int32) : Int64 :=
  if t0 = 0 then (if v8 < 0 then (if (-60) ≤ v8 then fX12_towards_72 v0 v2 v4 t0 (v6 >>> (((-v8) : Int32).toInt64 &&& 63)) else fX12_towards_72 v0 v2 v4 t0 0) else fX12_towards_72 v0 v2 v4 t0 (v6 <<< ((v8 : Int32).toInt64 &&& 63))) else fX12_towards_72 v0 v2 v4 t0 0
def fX12_towards_26 (v0 : Int64) (v2 : Int64) (v4 : Int64) (v6 : Int64) (v8 : Int32) : Int64 :=
  fX12_towards_31 v0 v2 v4 v6 v8 1
def fX12_towards_12 (v0 : Int64) (v2 : Int64) (v4 : Int64) (v6 : Int64) (v8 : Int32) : Int64 :=
  if (fX12_isInfinite v0) = 0 then (if v8 ≤ 10 then fX12_towards_31 v0 v2 v4 v6 v8 0 else fX12_towards_26 v0 v2 v4 v6 v8) else fX12_towards_26 v0 v2 v4 v6 v8
def fX12_towards_6 (v0 : Int64) (v2 : Int64) (v4 : Int64) (v6 : Int64) : Int64 :=
  fX12_towards_12 v0 v2 v4 v6 (fX12_unit v0)
def fX12_towards (v0 : Int64) (v2 : Int64) (v4 : Int64) : Int64 :=
  fX12_towards_6 v0 v2 v4 (fX12_digits v0)
theorem oX12_towards : ok_s yX12_towards cX12_towards 12 (some .long) 3 := ⟨kw_1321, kw_1320, kw_73, by decide +kernel⟩
set_option maxRecDepth 100000 in
theorem tX12_towards_106 {p : Program} {l : Launch} {e : Env} {s : State} {m : MethodId} {args : Array Value} {below : List Frame} {meth : Method} {c : Code} (C : CC p s m args meth c yX12_towards cX12_towards 12 (some .long))  (v2 : Int64) (v4 : Int64) (t0 : Int64) {w : Int64} (hv : fX12_towards_106 v2 v4 t0 = w) : PJ p l e s m args below meth c 12 1 (.long w) 106 [(2, .long v2), (4, .long v4)] [.long t0] := by
  unfold fX12_towards_106 at hv
  refine jr_lstore (lv' := [(10, .long t0), (2, .long v2), (4, .long v4)]) C dX12_towards_106 (by decide) rfl ?_
  refine jr_lload C dX12_towards_108 0 rfl ?_
  refine jr_lload_n C dX12_towards_110 rfl 1 rfl ?_
  refine jr_lcmp_ge (tgt := 119) C dX12_towards_111 dX12_towards_112 rfl (fun q111 => ?_) (fun q111 => ?_)
  · have hv := (if_pos q111).symm.trans hv
    refine jr_lload C dX12_towards_119 0 rfl ?_
    refine jr_lload C dX12_towards_121 2 rfl ?_
    refine jr_lcmp_le (tgt := 132) C dX12_towards_123 dX12_towards_124 rfl (fun q123 => ?_) (fun q123 => ?_)
    · have hv := (if_pos q123).symm.trans hv
      refine jr_lload C dX12_towards_132 0 rfl ?_
      exact jp_lret C dX12_towards_134 (congrArg Value.long hv).symm
    · have hv := (if_neg q123).symm.trans hv
      refine jr_lload C dX12_towards_127 2 rfl ?_
      refine jr_goto (tgt := 134) C dX12_towards_129 rfl ?_
      exact jp_lret C dX12_towards_134 (congrArg Value.long hv).symm
  · have hv := (if_neg q111).symm.trans hv
    refine jr_lload_n C dX12_towards_115 rfl 1 rfl ?_
    refine jr_goto (tgt := 134) C dX12_towards_116 rfl ?_
    exact jp_lret C dX12_towards_134 (congrArg Value.long hv).symm
set_option maxRecDepth 100000 in
theorem tX12_towards_72 {p : Program} {l : Launch} {e : Env} {s : State} {m : MethodId} {args : Array Value} {below : List Frame} {meth : Method} {c : Code} (C : CC p s m args meth c yX12_towards cX12_towards 12 (some .long))  (v0 : Int64) (v2 : Int64) (v4 : Int64) (v9 : Int32) (t0 : Int64) {w : Int64} (hv : fX12_towards_72 v0 v2 v4 v9 t0 = w) : PJ p l e s m args below meth c 12 1 (.long w) 72 [(0, .long v0), (2, .long v2), (4, .long v4), (9, .int v9)] [.long t0] := by
  unfold fX12_towards_72 at hv
  refine jr_lstore (lv' := [(10, .long t0), (0, .long v0), (2, .long v2), (4, .long v4), (9, .int v9)]) C dX12_towards_72 (by decide) rfl ?_
  refine jr_iload C dX12_towards_74 4 rfl ?_
  refine jr_if_eq (tgt := 92) C dX12_towards_76 rfl (fun q76 => ?_) (fun q76 => ?_)
  · have hv := (if_pos q76).symm.trans hv
    refine jr_lload_n C dX12_towards_92 rfl 1 rfl ?_
    refine jr_lconst (v := 0) C dX12_towards_93 (by decide) ?_
    refine jr_lcmp_ge (tgt := 104) C dX12_towards_94 dX12_towards_95 rfl (fun q94 => ?_) (fun q94 => ?_)
    · have hv := (if_pos q94).symm.trans hv
      refine jr_lload C dX12_towards_104 0 rfl ?_
      exact jr_sub [2, 3] rfl (tX12_towards_106 C  v2 v4 t0 hv)
    · have hv := (if_neg q94).symm.trans hv
      refine jr_lload C dX12_towards_98 0 rfl ?_
      refine jr_lneg C dX12_towards_100 ?_
      refine jr_goto (tgt := 106) C dX12_towards_101 rfl ?_
      exact jr_sub [2, 3] rfl (tX12_towards_106 C  v2 v4 (-t0) hv)
  · have hv := (if_neg q76).symm.trans hv
    refine jr_lload_n C dX12_towards_79 rfl 1 rfl ?_
    refine jr_lconst (v := 0) C dX12_towards_80 (by decide) ?_
    refine jr_lcmp_ge (tgt := 89) C dX12_towards_81 dX12_towards_82 rfl (fun q81 => ?_) (fun q81 => ?_)
    · have hv := (if_pos q81).symm.trans hv
      refine jr_lload C dX12_towards_89 3 rfl ?_
      exact jp_lret C dX12_towards_91 (congrArg Value.long hv).symm
    · have hv := (if_neg q81).symm.trans hv
      refine jr_lload_n C dX12_towards_85 rfl 2 rfl ?_
      refine jr_goto (tgt := 91) C dX12_towards_86 rfl ?_
      exact jp_lret C dX12_towards_91 (congrArg Value.long hv).symm
set_option maxRecDepth 100000 in
theorem tX12_towards_31 {p : Program} {l : Launch} {e : Env} {s : State} {m : MethodId} {args : Array Value} {below : List Frame} {meth : Method} {c : Code} (C : CC p s m args meth c yX12_towards cX12_towards 12 (some .long))  (v0 : Int64) (v2 : Int64) (v4 : Int64) (v6 : Int64) (v8 : Int32) (t0 : Int32) {w : Int64} (hv : fX12_towards_31 v0 v2 v4 v6 v8 t0 = w) : PJ p l e s m args below meth c 12 1 (.long w) 31 [(0, .long v0), (2, .long v2), (4, .long v4), (6, .long v6), (8, .int v8)] [.int t0] := by
  unfold fX12_towards_31 at hv
  refine jr_istore (lv' := [(9, .int t0), (0, .long v0), (2, .long v2), (4, .long v4), (6, .long v6), (8, .int v8)]) C dX12_towards_31 (by decide) rfl ?_
  refine jr_iload C dX12_towards_33 0 rfl ?_
  refine jr_if_eq (tgt := 42) C dX12_towards_35 rfl (fun q35 => ?_) (fun q35 => ?_)
  · have hv := (if_pos q35).symm.trans hv
    refine jr_iload C dX12_towards_42 5 rfl ?_
    refine jr_if_lt (tgt := 55) C dX12_towards_44 rfl (fun q44 => ?_) (fun q44 => ?_)
    · have hv := (if_pos q44).symm.trans hv
      refine jr_iload C dX12_towards_55 5 rfl ?_
      refine jr_bipush (v := (-60)) C dX12_towards_57 (by decide) ?_
      refine jr_icmp_ge (tgt := 66) C dX12_towards_59 rfl (fun q59 => ?_) (fun q59 => ?_)
      · have hv := (if_pos q59).symm.trans hv
        refine jr_lload C dX12_towards_66 4 rfl ?_
        refine jr_iload C dX12_towards_68 5 rfl ?_
        refine jr_ineg C dX12_towards_70 ?_
        refine jr_lshr C dX12_towards_71 ?_
        exact jr_sub [1, 2, 3, 0] rfl (tX12_towards_72 C  v0 v2 v4 t0 (v6 >>> (((-v8) : Int32).toInt64 &&& 63)) hv)
      · have hv := (if_neg q59).symm.trans hv
        refine jr_lconst (v := 0) C dX12_towards_62 (by decide) ?_
        refine jr_goto (tgt := 72) C dX12_towards_63 rfl ?_
        exact jr_sub [1, 2, 3, 0] rfl (tX12_towards_72 C  v0 v2 v4 t0 0 hv)
    · have hv := (if_neg q44).symm.trans hv
      refine jr_lload C dX12_towards_47 4 rfl ?_
      refine jr_iload C dX12_towards_49 5 rfl ?_
      refine jr_lshl C dX12_towards_51 ?_
      refine jr_goto (tgt := 72) C dX12_towards_52 rfl ?_
      exact jr_sub [1, 2, 3, 0] rfl (tX12_towards_72 C  v0 v2 v4 t0 (v6 <<< ((v8 : Int32).toInt64 &&& 63)) hv)
  · have hv := (if_neg q35).symm.trans hv
    refine jr_lconst (v := 0) C dX12_towards_38 (by decide) ?_
    refine jr_goto (tgt := 72) C dX12_towards_39 rfl ?_
    exact jr_sub [1, 2, 3, 0] rfl (tX12_towards_72 C  v0 v2 v4 t0 0 hv)
set_option maxRecDepth 100000 in
theorem tX12_towards_26 {p : Program} {l : Launch} {e : Env} {s : State} {m : MethodId} {args : Array Value} {below : List Frame} {meth : Method} {c : Code} (C : CC p s m args meth c yX12_towards cX12_towards 12 (some .long))  (v0 : Int64) (v2 : Int64) (v4 : Int64) (v6 : Int64) (v8 : Int32) {w : Int64} (hv : fX12_towards_26 v0 v2 v4 v6 v8 = w) : PJ p l e s m args below meth c 12 1 (.long w) 26 [(0, .long v0), (2, .long v2), (4, .long v4), (6, .long v6), (8, .int v8)] [] := by
  unfold fX12_towards_26 at hv
  refine jr_iconst (v := 1) C dX12_towards_26 (by decide) ?_
  refine jr_goto (tgt := 31) C dX12_towards_27 rfl ?_
  exact tX12_towards_31 C  v0 v2 v4 v6 v8 1 hv
set_option maxRecDepth 100000 in
theorem tX12_towards_12 {p : Program} {l : Launch} {e : Env} {s : State} {m : MethodId} {args : Array Value} {below : List Frame} {meth : Method} {c : Code} (C : CC p s m args meth c yX12_towards cX12_towards 12 (some .long))  (v0 : Int64) (v2 : Int64) (v4 : Int64) (v6 : Int64) (v8 : Int32) {w : Int64} (hv : fX12_towards_12 v0 v2 v4 v6 v8 = w) : PJ p l e s m args below meth c 12 1 (.long w) 12 [(0, .long v0), (2, .long v2), (4, .long v4), (6, .long v6), (8, .int v8)] [] := by
  unfold fX12_towards_12 at hv
  refine jr_lload_n C dX12_towards_12 rfl 0 rfl ?_
  refine jr_pcall (rest := []) C (pX12_isInfinite l v0) oX12_isInfinite kw_1232 rfl ⟨Nat.le_of_ble_eq_true rfl, Nat.le_of_ble_eq_true rfl⟩ rfl (Nat.le_of_ble_eq_true rfl) ⟨Nat.zero_le _, Nat.zero_le _⟩ dX12_towards_13 ?_
  refine jr_if_ne (tgt := 26) C dX12_towards_16 rfl (fun q16 => ?_) (fun q16 => ?_)
  · have hv := (if_neg q16).symm.trans hv
    exact tX12_towards_26 C  v0 v2 v4 v6 v8 hv
  · have hv := (if_pos q16).symm.trans hv
    refine jr_iload C dX12_towards_19 4 rfl ?_
    refine jr_bipush (v := 10) C dX12_towards_21 (by decide) ?_
    refine jr_icmp_le (tgt := 30) C dX12_towards_23 rfl (fun q23 => ?_) (fun q23 => ?_)
    · have hv := (if_pos q23).symm.trans hv
      refine jr_iconst (v := 0) C dX12_towards_30 (by decide) ?_
      exact tX12_towards_31 C  v0 v2 v4 v6 v8 0 hv
    · have hv := (if_neg q23).symm.trans hv
      exact tX12_towards_26 C  v0 v2 v4 v6 v8 hv
set_option maxRecDepth 100000 in
theorem tX12_towards_6 {p : Program} {l : Launch} {e : Env} {s : State} {m : MethodId} {args : Array Value} {below : List Frame} {meth : Method} {c : Code} (C : CC p s m args meth c yX12_towards cX12_towards 12 (some .long))  (v0 : Int64) (v2 : Int64) (v4 : Int64) (v6 : Int64) {w : Int64} (hv : fX12_towards_6 v0 v2 v4 v6 = w) : PJ p l e s m args below meth c 12 1 (.long w) 6 [(0, .long v0), (2, .long v2), (4, .long v4), (6, .long v6)] [] := by
  unfold fX12_towards_6 at hv
  refine jr_lload_n C dX12_towards_6 rfl 0 rfl ?_
  refine jr_pcall (rest := []) C (pX12_unit l v0) oX12_unit kw_1246 rfl ⟨Nat.le_of_ble_eq_true rfl, Nat.le_of_ble_eq_true rfl⟩ rfl (Nat.le_of_ble_eq_true rfl) ⟨Nat.zero_le _, Nat.zero_le _⟩ dX12_towards_7 ?_
  refine jr_istore (lv' := [(8, .int (fX12_unit v0)), (0, .long v0), (2, .long v2), (4, .long v4), (6, .long v6)]) C dX12_towards_10 (by decide) rfl ?_
  exact jr_sub [1, 2, 3, 4, 0] rfl (tX12_towards_12 C  v0 v2 v4 v6 (fX12_unit v0) hv)
set_option maxRecDepth 100000 in
theorem tX12_towards_0 {p : Program} {l : Launch} {e : Env} {s : State} {m : MethodId} {args : Array Value} {below : List Frame} {meth : Method} {c : Code} (C : CC p s m args meth c yX12_towards cX12_towards 12 (some .long))  (v0 : Int64) (v2 : Int64) (v4 : Int64) {w : Int64} (hv : fX12_towards v0 v2 v4 = w) : PJ p l e s m args below meth c 12 1 (.long w) 0 [(0, .long v0), (2, .long v2), (4, .long v4)] [] := by
  unfold fX12_towards at hv
  refine jr_lload_n C dX12_towards_0 rfl 0 rfl ?_
  refine jr_pcall (rest := []) C (pX12_digits l v0) oX12_digits kw_1239 rfl ⟨Nat.le_of_ble_eq_true rfl, Nat.le_of_ble_eq_true rfl⟩ rfl (Nat.le_of_ble_eq_true rfl) ⟨Nat.zero_le _, Nat.zero_le _⟩ dX12_towards_1 ?_
  refine jr_lstore (lv' := [(6, .long (fX12_digits v0)), (0, .long v0), (2, .long v2), (4, .long v4)]) C dX12_towards_4 (by decide) rfl ?_
  exact jr_sub [1, 2, 3, 0] rfl (tX12_towards_6 C  v0 v2 v4 (fX12_digits v0) hv)
theorem pX12_towards (l : Launch) (v0 : Int64) (v2 : Int64) (v4 : Int64) : pu l yX12_towards cX12_towards 12 (some .long) 1 [.long v0, .long v2, .long v4] (.long (fX12_towards v0 v2 v4)) := pu_of (by decide +kernel) (Nat.le_of_ble_eq_true rfl) rfl (fun C => tX12_towards_0 C v0 v2 v4 rfl)
/-! RobotCellModel.rounded(J)J -/
def fX12_rounded_14 (v0 : Int64) : Int64 :=
  fX12_towards v0 (-9223372036854775808) 9223372036854775807
def fX12_rounded_60 (v2 : Int32) (t0 : Int64) : Int64 :=
  (t0 + (1 <<< ((v2 : Int32).toInt64 &&& 63))) >>> (((v2 + 1) : Int32).toInt64 &&& 63)
def fX12_rounded_48 (v0 : Int64) (v2 : Int32) (v3 : Int64) : Int64 :=
  if 0 ≤ v0 then fX12_rounded_60 v2 v3 else fX12_rounded_60 v2 (-v3)
def fX12_rounded_31 (v0 : Int64) (v2 : Int32) : Int64 :=
  if v2 ≤ 54 then fX12_rounded_48 v0 v2 (2 * (fX12_digits v0)) else 0
def fX12_rounded (v0 : Int64) : Int64 :=
  if (fX12_isInfinite v0) = 0 then (if (fX12_unit v0) < 0 then fX12_rounded_31 v0 (-(fX12_unit v0)) else fX12_rounded_14 v0) else fX12_rounded_14 v0
theorem oX12_rounded : ok_s yX12_rounded cX12_rounded 5 (some .long) 1 := ⟨kw_1326, kw_1325, kw_73, by decide +kernel⟩
set_option maxRecDepth 100000 in
theorem tX12_rounded_14 {p : Program} {l : Launch} {e : Env} {s : State} {m : MethodId} {args : Array Value} {below : List Frame} {meth : Method} {c : Code} (C : CC p s m args meth c yX12_rounded cX12_rounded 5 (some .long))  (v0 : Int64) {w : Int64} (hv : fX12_rounded_14 v0 = w) : PJ p l e s m args below meth c 5 2 (.long w) 14 [(0, .long v0)] [] := by
  unfold fX12_rounded_14 at hv
  refine jr_lload_n C dX12_rounded_14 rfl 0 rfl ?_
  refine jr_ldc2 C kw_1224 dX12_rounded_15 ?_
  refine jr_ldc2 C kw_1206 dX12_rounded_18 ?_
  refine jr_pcall (rest := []) C (pX12_towards l v0 (-9223372036854775808) 9223372036854775807) oX12_towards kw_1319 rfl ⟨Nat.le_of_ble_eq_true rfl, Nat.le_of_ble_eq_true rfl⟩ rfl (Nat.le_of_ble_eq_true rfl) ⟨Nat.zero_le _, Nat.zero_le _⟩ dX12_rounded_21 ?_
  exact jp_lret C dX12_rounded_24 (congrArg Value.long hv).symm
set_option maxRecDepth 100000 in
theorem tX12_rounded_60 {p : Program} {l : Launch} {e : Env} {s : State} {m : MethodId} {args : Array Value} {below : List Frame} {meth : Method} {c : Code} (C : CC p s m args meth c yX12_rounded cX12_rounded 5 (some .long))  (v2 : Int32) (t0 : Int64) {w : Int64} (hv : fX12_rounded_60 v2 t0 = w) : PJ p l e s m args below meth c 5 2 (.long w) 60 [(2, .int v2)] [.long t0] := by
  unfold fX12_rounded_60 at hv
  refine jr_lconst (v := 1) C dX12_rounded_60 (by decide) ?_
  refine jr_iload_n C dX12_rounded_61 rfl 0 rfl ?_
  refine jr_lshl C dX12_rounded_62 ?_
  refine jr_ladd C dX12_rounded_63 ?_
  refine jr_iload_n C dX12_rounded_64 rfl 0 rfl ?_
  refine jr_iconst (v := 1) C dX12_rounded_65 (by decide) ?_
  refine jr_iadd C dX12_rounded_66 ?_
  refine jr_lshr C dX12_rounded_67 ?_
  exact jp_lret C dX12_rounded_68 (congrArg Value.long hv).symm
set_option maxRecDepth 100000 in
theorem tX12_rounded_48 {p : Program} {l : Launch} {e : Env} {s : State} {m : MethodId} {args : Array Value} {below : List Frame} {meth : Method} {c : Code} (C : CC p s m args meth c yX12_rounded cX12_rounded 5 (some .long))  (v0 : Int64) (v2 : Int32) (v3 : Int64) {w : Int64} (hv : fX12_rounded_48 v0 v2 v3 = w) : PJ p l e s m args below meth c 5 2 (.long w) 48 [(0, .long v0), (2, .int v2), (3, .long v3)] [] := by
  unfold fX12_rounded_48 at hv
  refine jr_lload_n C dX12_rounded_48 rfl 0 rfl ?_
  refine jr_lconst (v := 0) C dX12_rounded_49 (by decide) ?_
  refine jr_lcmp_ge (tgt := 59) C dX12_rounded_50 dX12_rounded_51 rfl (fun q50 => ?_) (fun q50 => ?_)
  · have hv := (if_pos q50).symm.trans hv
    refine jr_lload_n C dX12_rounded_59 rfl 2 rfl ?_
    exact jr_sub [1] rfl (tX12_rounded_60 C  v2 v3 hv)
  · have hv := (if_neg q50).symm.trans hv
    refine jr_lload_n C dX12_rounded_54 rfl 2 rfl ?_
    refine jr_lneg C dX12_rounded_55 ?_
    refine jr_goto (tgt := 60) C dX12_rounded_56 rfl ?_
    exact jr_sub [1] rfl (tX12_rounded_60 C  v2 (-v3) hv)
set_option maxRecDepth 100000 in
theorem tX12_rounded_31 {p : Program} {l : Launch} {e : Env} {s : State} {m : MethodId} {args : Array Value} {below : List Frame} {meth : Method} {c : Code} (C : CC p s m args meth c yX12_rounded cX12_rounded 5 (some .long))  (v0 : Int64) (v2 : Int32) {w : Int64} (hv : fX12_rounded_31 v0 v2 = w) : PJ p l e s m args below meth c 5 2 (.long w) 31 [(0, .long v0), (2, .int v2)] [] := by
  unfold fX12_rounded_31 at hv
  refine jr_iload_n C dX12_rounded_31 rfl 1 rfl ?_
  refine jr_bipush (v := 54) C dX12_rounded_32 (by decide) ?_
  refine jr_icmp_le (tgt := 39) C dX12_rounded_34 rfl (fun q34 => ?_) (fun q34 => ?_)
  · have hv := (if_pos q34).symm.trans hv
    refine jr_ldc2 C kw_1249 dX12_rounded_39 ?_
    refine jr_lload_n C dX12_rounded_42 rfl 0 rfl ?_
    refine jr_pcall (rest := [.long 2]) C (pX12_digits l v0) oX12_digits kw_1239 rfl ⟨Nat.le_of_ble_eq_true rfl, Nat.le_of_ble_eq_true rfl⟩ rfl (Nat.le_of_ble_eq_true rfl) ⟨Nat.zero_le _, Nat.zero_le _⟩ dX12_rounded_43 ?_
    refine jr_lmul C dX12_rounded_46 ?_
    refine jr_lstore_n (lv' := [(3, .long (2 * (fX12_digits v0))), (0, .long v0), (2, .int v2)]) C dX12_rounded_47 rfl (by decide) rfl ?_
    exact jr_sub [1, 2, 0] rfl (tX12_rounded_48 C  v0 v2 (2 * (fX12_digits v0)) hv)
  · have hv := (if_neg q34).symm.trans hv
    refine jr_lconst (v := 0) C dX12_rounded_37 (by decide) ?_
    exact jp_lret C dX12_rounded_38 (congrArg Value.long hv).symm
set_option maxRecDepth 100000 in
theorem tX12_rounded_0 {p : Program} {l : Launch} {e : Env} {s : State} {m : MethodId} {args : Array Value} {below : List Frame} {meth : Method} {c : Code} (C : CC p s m args meth c yX12_rounded cX12_rounded 5 (some .long))  (v0 : Int64) {w : Int64} (hv : fX12_rounded v0 = w) : PJ p l e s m args below meth c 5 2 (.long w) 0 [(0, .long v0)] [] := by
  unfold fX12_rounded at hv
  refine jr_lload_n C dX12_rounded_0 rfl 0 rfl ?_
  refine jr_pcall (rest := []) C (pX12_isInfinite l v0) oX12_isInfinite kw_1232 rfl ⟨Nat.le_of_ble_eq_true rfl, Nat.le_of_ble_eq_true rfl⟩ rfl (Nat.le_of_ble_eq_true rfl) ⟨Nat.zero_le _, Nat.zero_le _⟩ dX12_rounded_1 ?_
  refine jr_if_ne (tgt := 14) C dX12_rounded_4 rfl (fun q4 => ?_) (fun q4 => ?_)
  · have hv := (if_neg q4).symm.trans hv
    exact tX12_rounded_14 C  v0 hv
  · have hv := (if_pos q4).symm.trans hv
    refine jr_lload_n C dX12_rounded_7 rfl 0 rfl ?_
    refine jr_pcall (rest := []) C (pX12_unit l v0) oX12_unit kw_1246 rfl ⟨Nat.le_of_ble_eq_true rfl, Nat.le_of_ble_eq_true rfl⟩ rfl (Nat.le_of_ble_eq_true rfl) ⟨Nat.zero_le _, Nat.zero_le _⟩ dX12_rounded_8 ?_
    refine jr_if_lt (tgt := 25) C dX12_rounded_11 rfl (fun q11 => ?_) (fun q11 => ?_)
    · have hv := (if_pos q11).symm.trans hv
      refine jr_lload_n C dX12_rounded_25 rfl 0 rfl ?_
      refine jr_pcall (rest := []) C (pX12_unit l v0) oX12_unit kw_1246 rfl ⟨Nat.le_of_ble_eq_true rfl, Nat.le_of_ble_eq_true rfl⟩ rfl (Nat.le_of_ble_eq_true rfl) ⟨Nat.zero_le _, Nat.zero_le _⟩ dX12_rounded_26 ?_
      refine jr_ineg C dX12_rounded_29 ?_
      refine jr_istore_n (lv' := [(2, .int (-(fX12_unit v0))), (0, .long v0)]) C dX12_rounded_30 rfl (by decide) rfl ?_
      exact jr_sub [1, 0] rfl (tX12_rounded_31 C  v0 (-(fX12_unit v0)) hv)
    · have hv := (if_neg q11).symm.trans hv
      exact tX12_rounded_14 C  v0 hv
theorem pX12_rounded (l : Launch) (v0 : Int64) : pu l yX12_rounded cX12_rounded 5 (some .long) 2 [.long v0] (.long (fX12_rounded v0)) := pu_of (by decide +kernel) (Nat.le_of_ble_eq_true rfl) rfl (fun C => tX12_rounded_0 C v0 rfl)
/-! RobotCellModel.smallBits(J)J -/
def fX12_smallBits_133 (t0 : Int64) (t1 : Int64) : Option Int64 :=
  some (t0 ||| t1)
def fX12_smallBits_88 (v4 : Int64) (v6 : Int64) (v9 : Int32) : Option Int64 :=
  if (-149) ≤ v9 then fX12_smallBits_133 v4 ((((v9 + 150).toInt64) <<< ((23 : Int32).toInt64 &&& 63)) ||| ((v6 >>> ((29 : Int32).toInt64 &&& 63)) - 8388608)) else fX12_smallBits_133 v4 (v6 >>> (((29 + ((-149) - v9)) : Int32).toInt64 &&& 63))
def fX12_smallBits_81 (v4 : Int64) (v6 : Int64) (v8 : Int32) : Option Int64 :=
  fX12_smallBits_88 v4 v6 (v8 + 29)
def fX12_smallBits_29 (v2 : Int64) (t0 : Int64) : Option Int64 :=
  if (fX12_isInfinite v2) = 0 then (if (fX12_isZero v2) = 0 then (Option.bind (fX12_full (fX12_digits v2)) (fun c59 => Option.bind (fX12_bitsOf (fX12_digits v2)) (fun c74 => fX12_smallBits_81 t0 c59 ((fX12_unit v2) - (53 - c74))))) else some t0) else some (t0 ||| 2139095040)
def fX12_smallBits (v0 : Int64) : Option Int64 :=
  Option.bind (fX12_small v0) (fun c1 => if (fX12_isLost c1) = 0 then (if 0 ≤ c1 then fX12_smallBits_29 c1 0 else fX12_smallBits_29 c1 (-2147483648)) else some 2143289344)
theorem oX12_smallBits : ok_s yX12_smallBits cX12_smallBits 10 (some .long) 1 := ⟨kw_1329, kw_1328, kw_73, by decide +kernel⟩
set_option maxRecDepth 100000 in
theorem tX12_smallBits_133 {p : Program} {l : Launch} {e : Env} {s : State} {m : MethodId} {args : Array Value} {below : List Frame} {meth : Method} {c : Code} (C : CC p s m args meth c yX12_smallBits cX12_smallBits 10 (some .long))  (t0 : Int64) (t1 : Int64) {w : Int64} (hv : fX12_smallBits_133 t0 t1 = some w) : PJ p l e s m args below meth c 10 3 (.long w) 133 [] [.long t1, .long t0] := by
  unfold fX12_smallBits_133 at hv
  refine jr_lor C dX12_smallBits_133 ?_
  exact jp_lret C dX12_smallBits_134 (congrArg Value.long (Option.some.inj hv)).symm
set_option maxRecDepth 100000 in
theorem tX12_smallBits_88 {p : Program} {l : Launch} {e : Env} {s : State} {m : MethodId} {args : Array Value} {below : List Frame} {meth : Method} {c : Code} (C : CC p s m args meth c yX12_smallBits cX12_smallBits 10 (some .long))  (v4 : Int64) (v6 : Int64) (v9 : Int32) {w : Int64} (hv : fX12_smallBits_88 v4 v6 v9 = some w) : PJ p l e s m args below meth c 10 3 (.long w) 88 [(4, .long v4), (6, .long v6), (9, .int v9)] [] := by
  unfold fX12_smallBits_88 at hv
  refine jr_lload C dX12_smallBits_88 0 rfl ?_
  refine jr_iload C dX12_smallBits_90 2 rfl ?_
  refine jr_sipush (v := (-149)) C dX12_smallBits_92 (by decide) ?_
  refine jr_icmp_ge (tgt := 113) C dX12_smallBits_95 rfl (fun q95 => ?_) (fun q95 => ?_)
  · have hv := (if_pos q95).symm.trans hv
    refine jr_iload C dX12_smallBits_113 2 rfl ?_
    refine jr_sipush (v := 150) C dX12_smallBits_115 (by decide) ?_
    refine jr_iadd C dX12_smallBits_118 ?_
    refine jr_i2l C dX12_smallBits_119 ?_
    refine jr_bipush (v := 23) C dX12_smallBits_120 (by decide) ?_
    refine jr_lshl C dX12_smallBits_122 ?_
    refine jr_lload C dX12_smallBits_123 1 rfl ?_
    refine jr_bipush (v := 29) C dX12_smallBits_125 (by decide) ?_
    refine jr_lshr C dX12_smallBits_127 ?_
    refine jr_ldc2 C kw_1332 dX12_smallBits_128 ?_
    refine jr_lsub C dX12_smallBits_131 ?_
    refine jr_lor C dX12_smallBits_132 ?_
    exact jr_sub [] rfl (tX12_smallBits_133 C  v4 ((((v9 + 150).toInt64) <<< ((23 : Int32).toInt64 &&& 63)) ||| ((v6 >>> ((29 : Int32).toInt64 &&& 63)) - 8388608)) hv)
  · have hv := (if_neg q95).symm.trans hv
    refine jr_lload C dX12_smallBits_98 1 rfl ?_
    refine jr_bipush (v := 29) C dX12_smallBits_100 (by decide) ?_
    refine jr_sipush (v := (-149)) C dX12_smallBits_102 (by decide) ?_
    refine jr_iload C dX12_smallBits_105 2 rfl ?_
    refine jr_isub C dX12_smallBits_107 ?_
    refine jr_iadd C dX12_smallBits_108 ?_
    refine jr_lshr C dX12_smallBits_109 ?_
    refine jr_goto (tgt := 133) C dX12_smallBits_110 rfl ?_
    exact jr_sub [] rfl (tX12_smallBits_133 C  v4 (v6 >>> (((29 + ((-149) - v9)) : Int32).toInt64 &&& 63)) hv)
set_option maxRecDepth 100000 in
theorem tX12_smallBits_81 {p : Program} {l : Launch} {e : Env} {s : State} {m : MethodId} {args : Array Value} {below : List Frame} {meth : Method} {c : Code} (C : CC p s m args meth c yX12_smallBits cX12_smallBits 10 (some .long))  (v4 : Int64) (v6 : Int64) (v8 : Int32) {w : Int64} (hv : fX12_smallBits_81 v4 v6 v8 = some w) : PJ p l e s m args below meth c 10 3 (.long w) 81 [(4, .long v4), (6, .long v6), (8, .int v8)] [] := by
  unfold fX12_smallBits_81 at hv
  refine jr_iload C dX12_smallBits_81 2 rfl ?_
  refine jr_bipush (v := 29) C dX12_smallBits_83 (by decide) ?_
  refine jr_iadd C dX12_smallBits_85 ?_
  refine jr_istore (lv' := [(9, .int (v8 + 29)), (4, .long v4), (6, .long v6), (8, .int v8)]) C dX12_smallBits_86 (by decide) rfl ?_
  exact jr_sub [1, 2, 0] rfl (tX12_smallBits_88 C  v4 v6 (v8 + 29) hv)
set_option maxRecDepth 100000 in
theorem tX12_smallBits_29 {p : Program} {l : Launch} {e : Env} {s : State} {m : MethodId} {args : Array Value} {below : List Frame} {meth : Method} {c : Code} (C : CC p s m args meth c yX12_smallBits cX12_smallBits 10 (some .long))  (v2 : Int64) (t0 : Int64) {w : Int64} (hv : fX12_smallBits_29 v2 t0 = some w) : PJ p l e s m args below meth c 10 3 (.long w) 29 [(2, .long v2)] [.long t0] := by
  unfold fX12_smallBits_29 at hv
  refine jr_lstore (lv' := [(4, .long t0), (2, .long v2)]) C dX12_smallBits_29 (by decide) rfl ?_
  refine jr_lload_n C dX12_smallBits_31 rfl 1 rfl ?_
  refine jr_pcall (rest := []) C (pX12_isInfinite l v2) oX12_isInfinite kw_1232 rfl ⟨Nat.le_of_ble_eq_true rfl, Nat.le_of_ble_eq_true rfl⟩ rfl (Nat.le_of_ble_eq_true rfl) ⟨Nat.zero_le _, Nat.zero_le _⟩ dX12_smallBits_32 ?_
  refine jr_if_eq (tgt := 45) C dX12_smallBits_35 rfl (fun q35 => ?_) (fun q35 => ?_)
  · have hv := (if_pos q35).symm.trans hv
    refine jr_lload_n C dX12_smallBits_45 rfl 1 rfl ?_
    refine jr_pcall (rest := []) C (pX12_isZero l v2) oX12_isZero kw_1235 rfl ⟨Nat.le_of_ble_eq_true rfl, Nat.le_of_ble_eq_true rfl⟩ rfl (Nat.le_of_ble_eq_true rfl) ⟨Nat.zero_le _, Nat.zero_le _⟩ dX12_smallBits_46 ?_
    refine jr_if_eq (tgt := 55) C dX12_smallBits_49 rfl (fun q49 => ?_) (fun q49 => ?_)
    · have hv := (if_pos q49).symm.trans hv
      refine jr_lload_n C dX12_smallBits_55 rfl 1 rfl ?_
      refine jr_pcall (rest := []) C (pX12_digits l v2) oX12_digits kw_1239 rfl ⟨Nat.le_of_ble_eq_true rfl, Nat.le_of_ble_eq_true rfl⟩ rfl (Nat.le_of_ble_eq_true rfl) ⟨Nat.zero_le _, Nat.zero_le _⟩ dX12_smallBits_56 ?_
      obtain ⟨c59, hc59, hv⟩ := Option.bind_eq_some_iff.mp hv
      refine jr_pcall (rest := []) C (pX12_full l (fX12_digits v2) hc59) oX12_full kw_1243 rfl ⟨Nat.le_of_ble_eq_true rfl, Nat.le_of_ble_eq_true rfl⟩ rfl (Nat.le_of_ble_eq_true rfl) ⟨Nat.zero_le _, Nat.zero_le _⟩ dX12_smallBits_59 ?_
      refine jr_lstore (lv' := [(6, .long c59), (4, .long t0), (2, .long v2)]) C dX12_smallBits_62 (by decide) rfl ?_
      refine jr_lload_n C dX12_smallBits_64 rfl 2 rfl ?_
      refine jr_pcall (rest := []) C (pX12_unit l v2) oX12_unit kw_1246 rfl ⟨Nat.le_of_ble_eq_true rfl, Nat.le_of_ble_eq_true rfl⟩ rfl (Nat.le_of_ble_eq_true rfl) ⟨Nat.zero_le _, Nat.zero_le _⟩ dX12_smallBits_65 ?_
      refine jr_bipush (v := 53) C dX12_smallBits_68 (by decide) ?_
      refine jr_lload_n C dX12_smallBits_70 rfl 2 rfl ?_
      refine jr_pcall (rest := [.int 53, .int (fX12_unit v2)]) C (pX12_digits l v2) oX12_digits kw_1239 rfl ⟨Nat.le_of_ble_eq_true rfl, Nat.le_of_ble_eq_true rfl⟩ rfl (Nat.le_of_ble_eq_true rfl) ⟨Nat.zero_le _, Nat.zero_le _⟩ dX12_smallBits_71 ?_
      obtain ⟨c74, hc74, hv⟩ := Option.bind_eq_some_iff.mp hv
      refine jr_pcall (rest := [.int 53, .int (fX12_unit v2)]) C (pX12_bitsOf l (fX12_digits v2) hc74) oX12_bitsOf kw_1225 rfl ⟨Nat.le_of_ble_eq_true rfl, Nat.le_of_ble_eq_true rfl⟩ rfl (Nat.le_of_ble_eq_true rfl) ⟨Nat.zero_le _, Nat.zero_le _⟩ dX12_smallBits_74 ?_
      refine jr_isub C dX12_smallBits_77 ?_
      refine jr_isub C dX12_smallBits_78 ?_
      refine jr_istore (lv' := [(8, .int ((fX12_unit v2) - (53 - c74))), (6, .long c59), (4, .long t0), (2, .long v2)]) C dX12_smallBits_79 (by decide) rfl ?_
      exact jr_sub [2, 1, 0] rfl (tX12_smallBits_81 C  t0 c59 ((fX12_unit v2) - (53 - c74)) hv)
    · have hv := (if_neg q49).symm.trans hv
      refine jr_lload C dX12_smallBits_52 0 rfl ?_
      exact jp_lret C dX12_smallBits_54 (congrArg Value.long (Option.some.inj hv)).symm
  · have hv := (if_neg q35).symm.trans hv
    refine jr_lload C dX12_smallBits_38 0 rfl ?_
    refine jr_ldc2 C kw_1331 dX12_smallBits_40 ?_
    refine jr_lor C dX12_smallBits_43 ?_
    exact jp_lret C dX12_smallBits_44 (congrArg Value.long (Option.some.inj hv)).symm
set_option maxRecDepth 100000 in
theorem tX12_smallBits_0 {p : Program} {l : Launch} {e : Env} {s : State} {m : MethodId} {args : Array Value} {below : List Frame} {meth : Method} {c : Code} (C : CC p s m args meth c yX12_smallBits cX12_smallBits 10 (some .long))  (v0 : Int64) {w : Int64} (hv : fX12_smallBits v0 = some w) : PJ p l e s m args below meth c 10 3 (.long w) 0 [(0, .long v0)] [] := by
  unfold fX12_smallBits at hv
  refine jr_lload_n C dX12_smallBits_0 rfl 0 rfl ?_
  obtain ⟨c1, hc1, hv⟩ := Option.bind_eq_some_iff.mp hv
  refine jr_pcall (rest := []) C (pX12_small l v0 hc1) oX12_small kw_1293 rfl ⟨Nat.le_of_ble_eq_true rfl, Nat.le_of_ble_eq_true rfl⟩ rfl (Nat.le_of_ble_eq_true rfl) ⟨Nat.zero_le _, Nat.zero_le _⟩ dX12_smallBits_1 ?_
  refine jr_lstore_n (lv' := [(2, .long c1), (0, .long v0)]) C dX12_smallBits_4 rfl (by decide) rfl ?_
  refine jr_lload_n C dX12_smallBits_5 rfl 0 rfl ?_
  refine jr_pcall (rest := []) C (pX12_isLost l c1) oX12_isLost kw_1203 rfl ⟨Nat.le_of_ble_eq_true rfl, Nat.le_of_ble_eq_true rfl⟩ rfl (Nat.le_of_ble_eq_true rfl) ⟨Nat.zero_le _, Nat.zero_le _⟩ dX12_smallBits_6 ?_
  refine jr_if_eq (tgt := 16) C dX12_smallBits_9 rfl (fun q9 => ?_) (fun q9 => ?_)
  · have hv := (if_pos q9).symm.trans hv
    refine jr_lload_n C dX12_smallBits_16 rfl 0 rfl ?_
    refine jr_lconst (v := 0) C dX12_smallBits_17 (by decide) ?_
    refine jr_lcmp_ge (tgt := 28) C dX12_smallBits_18 dX12_smallBits_19 rfl (fun q18 => ?_) (fun q18 => ?_)
    · have hv := (if_pos q18).symm.trans hv
      refine jr_lconst (v := 0) C dX12_smallBits_28 (by decide) ?_
      exact jr_sub [0] rfl (tX12_smallBits_29 C  c1 0 hv)
    · have hv := (if_neg q18).symm.trans hv
      refine jr_ldc2 C kw_1322 dX12_smallBits_22 ?_
      refine jr_goto (tgt := 29) C dX12_smallBits_25 rfl ?_
      exact jr_sub [0] rfl (tX12_smallBits_29 C  c1 (-2147483648) hv)
  · have hv := (if_neg q9).symm.trans hv
    refine jr_ldc2 C kw_1330 dX12_smallBits_12 ?_
    exact jp_lret C dX12_smallBits_15 (congrArg Value.long (Option.some.inj hv)).symm
theorem pX12_smallBits (l : Launch) (v0 : Int64) {w : Int64} (hw : fX12_smallBits v0 = some w) : pu l yX12_smallBits cX12_smallBits 10 (some .long) 3 [.long v0] (.long w) := pu_of (by decide +kernel) (Nat.le_of_ble_eq_true rfl) rfl (fun C => tX12_smallBits_0 C v0 hw)
/-! RobotCellModel.fromSmall(I)J -/
def fX12_fromSmall_85 (t0 : Int32) (t1 : Int64) (t2 : Int32) : Option Int64 :=
  Option.bind (fX12_made t0 t1 t2 0) (fun c86 => some c86)
def fX12_fromSmall_70 (v1 : Int32) (t0 : Int32) (t1 : Int64) : Option Int64 :=
  if v1 = 0 then fX12_fromSmall_85 t0 t1 (-149) else fX12_fromSmall_85 t0 t1 (v1 - 150)
def fX12_fromSmall_57 (v1 : Int32) (v2 : Int64) (t0 : Int32) : Option Int64 :=
  if v1 = 0 then fX12_fromSmall_70 v1 t0 v2 else fX12_fromSmall_70 v1 t0 (v2 ||| 8388608)
def fX12_fromSmall_15 (v0 : Int32) (v1 : Int32) (v2 : Int64) : Option Int64 :=
  if v1 = 255 then (if v2 = 0 then (if 0 ≤ v0 then some 9218868437227405312 else some (-4503599627370496)) else some 9221120237041090560) else (if 0 ≤ v0 then fX12_fromSmall_57 v1 v2 0 else fX12_fromSmall_57 v1 v2 1)
def fX12_fromSmall_9 (v0 : Int32) (v1 : Int32) : Option Int64 :=
  fX12_fromSmall_15 v0 v1 ((v0 &&& 8388607).toInt64)
def fX12_fromSmall (v0 : Int32) : Option Int64 :=
  fX12_fromSmall_9 v0 ((v0 >>> (23 &&& 31)) &&& 255)
theorem oX12_fromSmall : ok_s yX12_fromSmall cX12_fromSmall 4 (some .long) 1 := ⟨kw_1335, kw_1334, kw_73, by decide +kernel⟩
set_option maxRecDepth 100000 in
theorem tX12_fromSmall_85 {p : Program} {l : Launch} {e : Env} {s : State} {m : MethodId} {args : Array Value} {below : List Frame} {meth : Method} {c : Code} (C : CC p s m args meth c yX12_fromSmall cX12_fromSmall 4 (some .long))  (t0 : Int32) (t1 : Int64) (t2 : Int32) {w : Int64} (hv : fX12_fromSmall_85 t0 t1 t2 = some w) : PJ p l e s m args below meth c 4 3 (.long w) 85 [] [.int t2, .long t1, .int t0] := by
  unfold fX12_fromSmall_85 at hv
  refine jr_iconst (v := 0) C dX12_fromSmall_85 (by decide) ?_
  obtain ⟨c86, hc86, hv⟩ := Option.bind_eq_some_iff.mp hv
  refine jr_pcall (rest := []) C (pX12_made l t0 t1 t2 0 hc86) oX12_made kw_1250 rfl ⟨Nat.le_of_ble_eq_true rfl, Nat.le_of_ble_eq_true rfl⟩ rfl (Nat.le_of_ble_eq_true rfl) ⟨Nat.zero_le _, Nat.zero_le _⟩ dX12_fromSmall_86 ?_
  exact jp_lret C dX12_fromSmall_89 (congrArg Value.long (Option.some.inj hv)).symm
set_option maxRecDepth 100000 in
theorem tX12_fromSmall_70 {p : Program} {l : Launch} {e : Env} {s : State} {m : MethodId} {args : Array Value} {below : List Frame} {meth : Method} {c : Code} (C : CC p s m args meth c yX12_fromSmall cX12_fromSmall 4 (some .long))  (v1 : Int32) (t0 : Int32) (t1 : Int64) {w : Int64} (hv : fX12_fromSmall_70 v1 t0 t1 = some w) : PJ p l e s m args below meth c 4 3 (.long w) 70 [(1, .int v1)] [.long t1, .int t0] := by
  unfold fX12_fromSmall_70 at hv
  refine jr_iload_n C dX12_fromSmall_70 rfl 0 rfl ?_
  refine jr_if_ne (tgt := 80) C dX12_fromSmall_71 rfl (fun q71 => ?_) (fun q71 => ?_)
  · have hv := (if_neg q71).symm.trans hv
    refine jr_iload_n C dX12_fromSmall_80 rfl 0 rfl ?_
    refine jr_sipush (v := 150) C dX12_fromSmall_81 (by decide) ?_
    refine jr_isub C dX12_fromSmall_84 ?_
    exact jr_sub [] rfl (tX12_fromSmall_85 C  t0 t1 (v1 - 150) hv)
  · have hv := (if_pos q71).symm.trans hv
    refine jr_sipush (v := (-149)) C dX12_fromSmall_74 (by decide) ?_
    refine jr_goto (tgt := 85) C dX12_fromSmall_77 rfl ?_
    exact jr_sub [] rfl (tX12_fromSmall_85 C  t0 t1 (-149) hv)
set_option maxRecDepth 100000 in
theorem tX12_fromSmall_57 {p : Program} {l : Launch} {e : Env} {s : State} {m : MethodId} {args : Array Value} {below : List Frame} {meth : Method} {c : Code} (C : CC p s m args meth c yX12_fromSmall cX12_fromSmall 4 (some .long))  (v1 : Int32) (v2 : Int64) (t0 : Int32) {w : Int64} (hv : fX12_fromSmall_57 v1 v2 t0 = some w) : PJ p l e s m args below meth c 4 3 (.long w) 57 [(1, .int v1), (2, .long v2)] [.int t0] := by
  unfold fX12_fromSmall_57 at hv
  refine jr_iload_n C dX12_fromSmall_57 rfl 0 rfl ?_
  refine jr_if_ne (tgt := 65) C dX12_fromSmall_58 rfl (fun q58 => ?_) (fun q58 => ?_)
  · have hv := (if_neg q58).symm.trans hv
    refine jr_lload_n C dX12_fromSmall_65 rfl 1 rfl ?_
    refine jr_ldc2 C kw_1332 dX12_fromSmall_66 ?_
    refine jr_lor C dX12_fromSmall_69 ?_
    exact jr_sub [0] rfl (tX12_fromSmall_70 C  v1 t0 (v2 ||| 8388608) hv)
  · have hv := (if_pos q58).symm.trans hv
    refine jr_lload_n C dX12_fromSmall_61 rfl 1 rfl ?_
    refine jr_goto (tgt := 70) C dX12_fromSmall_62 rfl ?_
    exact jr_sub [0] rfl (tX12_fromSmall_70 C  v1 t0 v2 hv)
set_option maxRecDepth 100000 in
theorem tX12_fromSmall_15 {p : Program} {l : Launch} {e : Env} {s : State} {m : MethodId} {args : Array Value} {below : List Frame} {meth : Method} {c : Code} (C : CC p s m args meth c yX12_fromSmall cX12_fromSmall 4 (some .long))  (v0 : Int32) (v1 : Int32) (v2 : Int64) {w : Int64} (hv : fX12_fromSmall_15 v0 v1 v2 = some w) : PJ p l e s m args below meth c 4 3 (.long w) 15 [(0, .int v0), (1, .int v1), (2, .long v2)] [] := by
  unfold fX12_fromSmall_15 at hv
  refine jr_iload_n C dX12_fromSmall_15 rfl 1 rfl ?_
  refine jr_sipush (v := 255) C dX12_fromSmall_16 (by decide) ?_
  refine jr_icmp_ne (tgt := 48) C dX12_fromSmall_19 rfl (fun q19 => ?_) (fun q19 => ?_)
  · have hv := (if_neg q19).symm.trans hv
    refine jr_iload_n C dX12_fromSmall_48 rfl 0 rfl ?_
    refine jr_if_ge (tgt := 56) C dX12_fromSmall_49 rfl (fun q49 => ?_) (fun q49 => ?_)
    · have hv := (if_pos q49).symm.trans hv
      refine jr_iconst (v := 0) C dX12_fromSmall_56 (by decide) ?_
      exact jr_sub [1, 2] rfl (tX12_fromSmall_57 C  v1 v2 0 hv)
    · have hv := (if_neg q49).symm.trans hv
      refine jr_iconst (v := 1) C dX12_fromSmall_52 (by decide) ?_
      refine jr_goto (tgt := 57) C dX12_fromSmall_53 rfl ?_
      exact jr_sub [1, 2] rfl (tX12_fromSmall_57 C  v1 v2 1 hv)
  · have hv := (if_pos q19).symm.trans hv
    refine jr_lload_n C dX12_fromSmall_22 rfl 2 rfl ?_
    refine jr_lconst (v := 0) C dX12_fromSmall_23 (by decide) ?_
    refine jr_lcmp_eq (tgt := 34) C dX12_fromSmall_24 dX12_fromSmall_25 rfl (fun q24 => ?_) (fun q24 => ?_)
    · have hv := (if_pos q24).symm.trans hv
      refine jr_iload_n C dX12_fromSmall_34 rfl 0 rfl ?_
      refine jr_if_ge (tgt := 44) C dX12_fromSmall_35 rfl (fun q35 => ?_) (fun q35 => ?_)
      · have hv := (if_pos q35).symm.trans hv
        refine jr_ldc2 C kw_1207 dX12_fromSmall_44 ?_
        exact jp_lret C dX12_fromSmall_47 (congrArg Value.long (Option.some.inj hv)).symm
      · have hv := (if_neg q35).symm.trans hv
        refine jr_ldc2 C kw_1238 dX12_fromSmall_38 ?_
        refine jr_goto (tgt := 47) C dX12_fromSmall_41 rfl ?_
        exact jp_lret C dX12_fromSmall_47 (congrArg Value.long (Option.some.inj hv)).symm
    · have hv := (if_neg q24).symm.trans hv
      refine jr_ldc2 C kw_1208 dX12_fromSmall_28 ?_
      refine jr_goto (tgt := 47) C dX12_fromSmall_31 rfl ?_
      exact jp_lret C dX12_fromSmall_47 (congrArg Value.long (Option.some.inj hv)).symm
set_option maxRecDepth 100000 in
theorem tX12_fromSmall_9 {p : Program} {l : Launch} {e : Env} {s : State} {m : MethodId} {args : Array Value} {below : List Frame} {meth : Method} {c : Code} (C : CC p s m args meth c yX12_fromSmall cX12_fromSmall 4 (some .long))  (v0 : Int32) (v1 : Int32) {w : Int64} (hv : fX12_fromSmall_9 v0 v1 = some w) : PJ p l e s m args below meth c 4 3 (.long w) 9 [(0, .int v0), (1, .int v1)] [] := by
  unfold fX12_fromSmall_9 at hv
  refine jr_iload_n C dX12_fromSmall_9 rfl 0 rfl ?_
  refine jr_ldc C kw_1336 dX12_fromSmall_10 ?_
  refine jr_iand C dX12_fromSmall_12 ?_
  refine jr_i2l C dX12_fromSmall_13 ?_
  refine jr_lstore_n (lv' := [(2, .long ((v0 &&& 8388607).toInt64)), (0, .int v0), (1, .int v1)]) C dX12_fromSmall_14 rfl (by decide) rfl ?_
  exact jr_sub [1, 2, 0] rfl (tX12_fromSmall_15 C  v0 v1 ((v0 &&& 8388607).toInt64) hv)
set_option maxRecDepth 100000 in
theorem tX12_fromSmall_0 {p : Program} {l : Launch} {e : Env} {s : State} {m : MethodId} {args : Array Value} {below : List Frame} {meth : Method} {c : Code} (C : CC p s m args meth c yX12_fromSmall cX12_fromSmall 4 (some .long))  (v0 : Int32) {w : Int64} (hv : fX12_fromSmall v0 = some w) : PJ p l e s m args below meth c 4 3 (.long w) 0 [(0, .int v0)] [] := by
  unfold fX12_fromSmall at hv
  refine jr_iload_n C dX12_fromSmall_0 rfl 0 rfl ?_
  refine jr_bipush (v := 23) C dX12_fromSmall_1 (by decide) ?_
  refine jr_ishr C dX12_fromSmall_3 ?_
  refine jr_sipush (v := 255) C dX12_fromSmall_4 (by decide) ?_
  refine jr_iand C dX12_fromSmall_7 ?_
  refine jr_istore_n (lv' := [(1, .int ((v0 >>> (23 &&& 31)) &&& 255)), (0, .int v0)]) C dX12_fromSmall_8 rfl (by decide) rfl ?_
  exact jr_sub [1, 0] rfl (tX12_fromSmall_9 C  v0 ((v0 >>> (23 &&& 31)) &&& 255) hv)
theorem pX12_fromSmall (l : Launch) (v0 : Int32) {w : Int64} (hw : fX12_fromSmall v0 = some w) : pu l yX12_fromSmall cX12_fromSmall 4 (some .long) 3 [.int v0] (.long w) := pu_of (by decide +kernel) (Nat.le_of_ble_eq_true rfl) rfl (fun C => tX12_fromSmall_0 C v0 hw)
/-! RobotCellModel.isRow(I)Z -/
def fX12_isRow_14  : Int32 :=
  0
def fX12_isRow (v0 : Int32) : Int32 :=
  if v0 < 0 then fX12_isRow_14 else (if 10 < v0 then fX12_isRow_14 else 1)
theorem oX12_isRow : ok_s yX12_isRow cX12_isRow 1 (some .boolean) 1 := ⟨kw_1366, kw_1365, kw_73, by decide +kernel⟩
set_option maxRecDepth 100000 in
theorem tX12_isRow_14 {p : Program} {l : Launch} {e : Env} {s : State} {m : MethodId} {args : Array Value} {below : List Frame} {meth : Method} {c : Code} (C : CC p s m args meth c yX12_isRow cX12_isRow 1 (some .boolean))   {w : Int32} (hv : fX12_isRow_14  = w) : PJ p l e s m args below meth c 1 0 (.int w) 14 [] [] := by
  unfold fX12_isRow_14 at hv
  refine jr_iconst (v := 0) C dX12_isRow_14 (by decide) ?_
  exact jp_zret C dX12_isRow_15 rfl (congrArg Value.int hv).symm
set_option maxRecDepth 100000 in
theorem tX12_isRow_0 {p : Program} {l : Launch} {e : Env} {s : State} {m : MethodId} {args : Array Value} {below : List Frame} {meth : Method} {c : Code} (C : CC p s m args meth c yX12_isRow cX12_isRow 1 (some .boolean))  (v0 : Int32) {w : Int32} (hv : fX12_isRow v0 = w) : PJ p l e s m args below meth c 1 0 (.int w) 0 [(0, .int v0)] [] := by
  unfold fX12_isRow at hv
  refine jr_iload_n C dX12_isRow_0 rfl 0 rfl ?_
  refine jr_if_lt (tgt := 14) C dX12_isRow_1 rfl (fun q1 => ?_) (fun q1 => ?_)
  · have hv := (if_pos q1).symm.trans hv
    exact jr_sub [] rfl (tX12_isRow_14 C   hv)
  · have hv := (if_neg q1).symm.trans hv
    refine jr_iload_n C dX12_isRow_4 rfl 0 rfl ?_
    refine jr_bipush (v := 10) C dX12_isRow_5 (by decide) ?_
    refine jr_icmp_gt (tgt := 14) C dX12_isRow_7 rfl (fun q7 => ?_) (fun q7 => ?_)
    · have hv := (if_pos q7).symm.trans hv
      exact jr_sub [] rfl (tX12_isRow_14 C   hv)
    · have hv := (if_neg q7).symm.trans hv
      refine jr_iconst (v := 1) C dX12_isRow_10 (by decide) ?_
      refine jr_goto (tgt := 15) C dX12_isRow_11 rfl ?_
      exact jp_zret C dX12_isRow_15 rfl (congrArg Value.int hv).symm
theorem pX12_isRow (l : Launch) (v0 : Int32) : pu l yX12_isRow cX12_isRow 1 (some .boolean) 0 [.int v0] (.int (fX12_isRow v0)) := pu_of (by decide +kernel) (Nat.le_of_ble_eq_true rfl) rfl (fun C => tX12_isRow_0 C v0 rfl)
/-! RobotCellModel.isPose(I)Z -/
def fX12_isPose_12  : Int32 :=
  1
def fX12_isPose (v0 : Int32) : Int32 :=
  if v0 = 11 then fX12_isPose_12 else (if v0 = 12 then fX12_isPose_12 else 0)
theorem oX12_isPose : ok_s yX12_isPose cX12_isPose 1 (some .boolean) 1 := ⟨kw_1377, kw_1376, kw_73, by decide +kernel⟩
set_option maxRecDepth 100000 in
theorem tX12_isPose_12 {p : Program} {l : Launch} {e : Env} {s : State} {m : MethodId} {args : Array Value} {below : List Frame} {meth : Method} {c : Code} (C : CC p s m args meth c yX12_isPose cX12_isPose 1 (some .boolean))   {w : Int32} (hv : fX12_isPose_12  = w) : PJ p l e s m args below meth c 1 0 (.int w) 12 [] [] := by
  unfold fX12_isPose_12 at hv
  refine jr_iconst (v := 1) C dX12_isPose_12 (by decide) ?_
  refine jr_goto (tgt := 17) C dX12_isPose_13 rfl ?_
  exact jp_zret C dX12_isPose_17 rfl (congrArg Value.int hv).symm
set_option maxRecDepth 100000 in
theorem tX12_isPose_0 {p : Program} {l : Launch} {e : Env} {s : State} {m : MethodId} {args : Array Value} {below : List Frame} {meth : Method} {c : Code} (C : CC p s m args meth c yX12_isPose cX12_isPose 1 (some .boolean))  (v0 : Int32) {w : Int32} (hv : fX12_isPose v0 = w) : PJ p l e s m args below meth c 1 0 (.int w) 0 [(0, .int v0)] [] := by
  unfold fX12_isPose at hv
  refine jr_iload_n C dX12_isPose_0 rfl 0 rfl ?_
  refine jr_bipush (v := 11) C dX12_isPose_1 (by decide) ?_
  refine jr_icmp_eq (tgt := 12) C dX12_isPose_3 rfl (fun q3 => ?_) (fun q3 => ?_)
  · have hv := (if_pos q3).symm.trans hv
    exact jr_sub [] rfl (tX12_isPose_12 C   hv)
  · have hv := (if_neg q3).symm.trans hv
    refine jr_iload_n C dX12_isPose_6 rfl 0 rfl ?_
    refine jr_bipush (v := 12) C dX12_isPose_7 (by decide) ?_
    refine jr_icmp_ne (tgt := 16) C dX12_isPose_9 rfl (fun q9 => ?_) (fun q9 => ?_)
    · have hv := (if_neg q9).symm.trans hv
      refine jr_iconst (v := 0) C dX12_isPose_16 (by decide) ?_
      exact jp_zret C dX12_isPose_17 rfl (congrArg Value.int hv).symm
    · have hv := (if_pos q9).symm.trans hv
      exact jr_sub [] rfl (tX12_isPose_12 C   hv)
theorem pX12_isPose (l : Launch) (v0 : Int32) : pu l yX12_isPose cX12_isPose 1 (some .boolean) 0 [.int v0] (.int (fX12_isPose v0)) := pu_of (by decide +kernel) (Nat.le_of_ble_eq_true rfl) rfl (fun C => tX12_isPose_0 C v0 rfl)
/-! RobotCellModel.isDevice(I)Z -/
def fX12_isDevice (v0 : Int32) : Int32 :=
  if v0 ≤ 12 then 0 else 1
theorem oX12_isDevice : ok_s yX12_isDevice cX12_isDevice 1 (some .boolean) 1 := ⟨kw_1401, kw_1400, kw_73, by decide +kernel⟩
set_option maxRecDepth 100000 in
theorem tX12_isDevice_0 {p : Program} {l : Launch} {e : Env} {s : State} {m : MethodId} {args : Array Value} {below : List Frame} {meth : Method} {c : Code} (C : CC p s m args meth c yX12_isDevice cX12_isDevice 1 (some .boolean))  (v0 : Int32) {w : Int32} (hv : fX12_isDevice v0 = w) : PJ p l e s m args below meth c 1 0 (.int w) 0 [(0, .int v0)] [] := by
  unfold fX12_isDevice at hv
  refine jr_iload_n C dX12_isDevice_0 rfl 0 rfl ?_
  refine jr_bipush (v := 12) C dX12_isDevice_1 (by decide) ?_
  refine jr_icmp_le (tgt := 10) C dX12_isDevice_3 rfl (fun q3 => ?_) (fun q3 => ?_)
  · have hv := (if_pos q3).symm.trans hv
    refine jr_iconst (v := 0) C dX12_isDevice_10 (by decide) ?_
    exact jp_zret C dX12_isDevice_11 rfl (congrArg Value.int hv).symm
  · have hv := (if_neg q3).symm.trans hv
    refine jr_iconst (v := 1) C dX12_isDevice_6 (by decide) ?_
    refine jr_goto (tgt := 11) C dX12_isDevice_7 rfl ?_
    exact jp_zret C dX12_isDevice_11 rfl (congrArg Value.int hv).symm
theorem pX12_isDevice (l : Launch) (v0 : Int32) : pu l yX12_isDevice cX12_isDevice 1 (some .boolean) 0 [.int v0] (.int (fX12_isDevice v0)) := pu_of (by decide +kernel) (Nat.le_of_ble_eq_true rfl) rfl (fun C => tX12_isDevice_0 C v0 rfl)
/-! RobotCellModel.speedOf(I)I -/
def fX12_speedOf (v0 : Int32) : Int32 :=
  if v0 = 13 then 10 else (if v0 = 16 then 0 else 40)
theorem oX12_speedOf : ok_s yX12_speedOf cX12_speedOf 1 (some .int) 1 := ⟨kw_1416, kw_1415, kw_73, by decide +kernel⟩
set_option maxRecDepth 100000 in
theorem tX12_speedOf_0 {p : Program} {l : Launch} {e : Env} {s : State} {m : MethodId} {args : Array Value} {below : List Frame} {meth : Method} {c : Code} (C : CC p s m args meth c yX12_speedOf cX12_speedOf 1 (some .int))  (v0 : Int32) {w : Int32} (hv : fX12_speedOf v0 = w) : PJ p l e s m args below meth c 1 0 (.int w) 0 [(0, .int v0)] [] := by
  unfold fX12_speedOf at hv
  refine jr_iload_n C dX12_speedOf_0 rfl 0 rfl ?_
  refine jr_bipush (v := 13) C dX12_speedOf_1 (by decide) ?_
  refine jr_icmp_ne (tgt := 11) C dX12_speedOf_3 rfl (fun q3 => ?_) (fun q3 => ?_)
  · have hv := (if_neg q3).symm.trans hv
    refine jr_iload_n C dX12_speedOf_11 rfl 0 rfl ?_
    refine jr_bipush (v := 16) C dX12_speedOf_12 (by decide) ?_
    refine jr_icmp_ne (tgt := 21) C dX12_speedOf_14 rfl (fun q14 => ?_) (fun q14 => ?_)
    · have hv := (if_neg q14).symm.trans hv
      refine jr_bipush (v := 40) C dX12_speedOf_21 (by decide) ?_
      exact jp_iret C dX12_speedOf_23 (congrArg Value.int hv).symm
    · have hv := (if_pos q14).symm.trans hv
      refine jr_iconst (v := 0) C dX12_speedOf_17 (by decide) ?_
      refine jr_goto (tgt := 23) C dX12_speedOf_18 rfl ?_
      exact jp_iret C dX12_speedOf_23 (congrArg Value.int hv).symm
  · have hv := (if_pos q3).symm.trans hv
    refine jr_bipush (v := 10) C dX12_speedOf_6 (by decide) ?_
    refine jr_goto (tgt := 23) C dX12_speedOf_8 rfl ?_
    exact jp_iret C dX12_speedOf_23 (congrArg Value.int hv).symm
theorem pX12_speedOf (l : Launch) (v0 : Int32) : pu l yX12_speedOf cX12_speedOf 1 (some .int) 0 [.int v0] (.int (fX12_speedOf v0)) := pu_of (by decide +kernel) (Nat.le_of_ble_eq_true rfl) rfl (fun C => tX12_speedOf_0 C v0 rfl)
/-! RobotCellModel.spanOf(I)I -/
def fX12_spanOf (v0 : Int32) : Int32 :=
  if v0 = 13 then 100 else (if v0 = 14 then 1000 else (if v0 = 15 then 360 else 1))
theorem oX12_spanOf : ok_s yX12_spanOf cX12_spanOf 1 (some .int) 1 := ⟨kw_1410, kw_1409, kw_73, by decide +kernel⟩
set_option maxRecDepth 100000 in
theorem tX12_spanOf_0 {p : Program} {l : Launch} {e : Env} {s : State} {m : MethodId} {args : Array Value} {below : List Frame} {meth : Method} {c : Code} (C : CC p s m args meth c yX12_spanOf cX12_spanOf 1 (some .int))  (v0 : Int32) {w : Int32} (hv : fX12_spanOf v0 = w) : PJ p l e s m args below meth c 1 0 (.int w) 0 [(0, .int v0)] [] := by
  unfold fX12_spanOf at hv
  refine jr_iload_n C dX12_spanOf_0 rfl 0 rfl ?_
  refine jr_bipush (v := 13) C dX12_spanOf_1 (by decide) ?_
  refine jr_icmp_ne (tgt := 11) C dX12_spanOf_3 rfl (fun q3 => ?_) (fun q3 => ?_)
  · have hv := (if_neg q3).symm.trans hv
    refine jr_iload_n C dX12_spanOf_11 rfl 0 rfl ?_
    refine jr_bipush (v := 14) C dX12_spanOf_12 (by decide) ?_
    refine jr_icmp_ne (tgt := 23) C dX12_spanOf_14 rfl (fun q14 => ?_) (fun q14 => ?_)
    · have hv := (if_neg q14).symm.trans hv
      refine jr_iload_n C dX12_spanOf_23 rfl 0 rfl ?_
      refine jr_bipush (v := 15) C dX12_spanOf_24 (by decide) ?_
      refine jr_icmp_ne (tgt := 35) C dX12_spanOf_26 rfl (fun q26 => ?_) (fun q26 => ?_)
      · have hv := (if_neg q26).symm.trans hv
        refine jr_iconst (v := 1) C dX12_spanOf_35 (by decide) ?_
        exact jp_iret C dX12_spanOf_36 (congrArg Value.int hv).symm
      · have hv := (if_pos q26).symm.trans hv
        refine jr_sipush (v := 360) C dX12_spanOf_29 (by decide) ?_
        refine jr_goto (tgt := 36) C dX12_spanOf_32 rfl ?_
        exact jp_iret C dX12_spanOf_36 (congrArg Value.int hv).symm
    · have hv := (if_pos q14).symm.trans hv
      refine jr_sipush (v := 1000) C dX12_spanOf_17 (by decide) ?_
      refine jr_goto (tgt := 36) C dX12_spanOf_20 rfl ?_
      exact jp_iret C dX12_spanOf_36 (congrArg Value.int hv).symm
  · have hv := (if_pos q3).symm.trans hv
    refine jr_bipush (v := 100) C dX12_spanOf_6 (by decide) ?_
    refine jr_goto (tgt := 36) C dX12_spanOf_8 rfl ?_
    exact jp_iret C dX12_spanOf_36 (congrArg Value.int hv).symm
theorem pX12_spanOf (l : Launch) (v0 : Int32) : pu l yX12_spanOf cX12_spanOf 1 (some .int) 0 [.int v0] (.int (fX12_spanOf v0)) := pu_of (by decide +kernel) (Nat.le_of_ble_eq_true rfl) rfl (fun C => tX12_spanOf_0 C v0 rfl)
/-! RobotCellModel.rankOf(I)I -/
def fX12_rankOf (v0 : Int32) : Int32 :=
  if v0 = 13 then 3 else (if v0 = 14 then 4 else (if v0 = 15 then 8 else 1))
theorem oX12_rankOf : ok_s yX12_rankOf cX12_rankOf 1 (some .int) 1 := ⟨kw_1420, kw_1419, kw_73, by decide +kernel⟩
set_option maxRecDepth 100000 in
theorem tX12_rankOf_0 {p : Program} {l : Launch} {e : Env} {s : State} {m : MethodId} {args : Array Value} {below : List Frame} {meth : Method} {c : Code} (C : CC p s m args meth c yX12_rankOf cX12_rankOf 1 (some .int))  (v0 : Int32) {w : Int32} (hv : fX12_rankOf v0 = w) : PJ p l e s m args below meth c 1 0 (.int w) 0 [(0, .int v0)] [] := by
  unfold fX12_rankOf at hv
  refine jr_iload_n C dX12_rankOf_0 rfl 0 rfl ?_
  refine jr_bipush (v := 13) C dX12_rankOf_1 (by decide) ?_
  refine jr_icmp_ne (tgt := 10) C dX12_rankOf_3 rfl (fun q3 => ?_) (fun q3 => ?_)
  · have hv := (if_neg q3).symm.trans hv
    refine jr_iload_n C dX12_rankOf_10 rfl 0 rfl ?_
    refine jr_bipush (v := 14) C dX12_rankOf_11 (by decide) ?_
    refine jr_icmp_ne (tgt := 20) C dX12_rankOf_13 rfl (fun q13 => ?_) (fun q13 => ?_)
    · have hv := (if_neg q13).symm.trans hv
      refine jr_iload_n C dX12_rankOf_20 rfl 0 rfl ?_
      refine jr_bipush (v := 15) C dX12_rankOf_21 (by decide) ?_
      refine jr_icmp_ne (tgt := 31) C dX12_rankOf_23 rfl (fun q23 => ?_) (fun q23 => ?_)
      · have hv := (if_neg q23).symm.trans hv
        refine jr_iconst (v := 1) C dX12_rankOf_31 (by decide) ?_
        exact jp_iret C dX12_rankOf_32 (congrArg Value.int hv).symm
      · have hv := (if_pos q23).symm.trans hv
        refine jr_bipush (v := 8) C dX12_rankOf_26 (by decide) ?_
        refine jr_goto (tgt := 32) C dX12_rankOf_28 rfl ?_
        exact jp_iret C dX12_rankOf_32 (congrArg Value.int hv).symm
    · have hv := (if_pos q13).symm.trans hv
      refine jr_iconst (v := 4) C dX12_rankOf_16 (by decide) ?_
      refine jr_goto (tgt := 32) C dX12_rankOf_17 rfl ?_
      exact jp_iret C dX12_rankOf_32 (congrArg Value.int hv).symm
  · have hv := (if_pos q3).symm.trans hv
    refine jr_iconst (v := 3) C dX12_rankOf_6 (by decide) ?_
    refine jr_goto (tgt := 32) C dX12_rankOf_7 rfl ?_
    exact jp_iret C dX12_rankOf_32 (congrArg Value.int hv).symm
theorem pX12_rankOf (l : Launch) (v0 : Int32) : pu l yX12_rankOf cX12_rankOf 1 (some .int) 0 [.int v0] (.int (fX12_rankOf v0)) := pu_of (by decide +kernel) (Nat.le_of_ble_eq_true rfl) rfl (fun C => tX12_rankOf_0 C v0 rfl)
