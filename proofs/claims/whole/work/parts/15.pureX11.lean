/-! RobotCell.isFault(I)Z -/
def fX11_isFault_15  : Int32 :=
  0
def fX11_isFault (v0 : Int32) : Int32 :=
  if v0 < 1 then fX11_isFault_15 else (if 9 < v0 then fX11_isFault_15 else 1)
theorem oX11_isFault : ok_s yX11_isFault cX11_isFault 1 (some .boolean) 1 := ⟨kw_229, kw_228, kw_71, by decide +kernel⟩
set_option maxRecDepth 100000 in
theorem tX11_isFault_15 {p : Program} {l : Launch} {e : Env} {s : State} {m : MethodId} {args : Array Value} {below : List Frame} {meth : Method} {c : Code} (C : CC p s m args meth c yX11_isFault cX11_isFault 1 (some .boolean))   {w : Int32} (hv : fX11_isFault_15  = w) : PJ p l e s m args below meth c 1 0 (.int w) 15 [] [] := by
  unfold fX11_isFault_15 at hv
  refine jr_iconst (v := 0) C dX11_isFault_15 (by decide) ?_
  exact jp_zret C dX11_isFault_16 rfl (congrArg Value.int hv).symm
set_option maxRecDepth 100000 in
theorem tX11_isFault_0 {p : Program} {l : Launch} {e : Env} {s : State} {m : MethodId} {args : Array Value} {below : List Frame} {meth : Method} {c : Code} (C : CC p s m args meth c yX11_isFault cX11_isFault 1 (some .boolean))  (v0 : Int32) {w : Int32} (hv : fX11_isFault v0 = w) : PJ p l e s m args below meth c 1 0 (.int w) 0 [(0, .int v0)] [] := by
  unfold fX11_isFault at hv
  refine jr_iload_n C dX11_isFault_0 rfl 0 rfl ?_
  refine jr_iconst (v := 1) C dX11_isFault_1 (by decide) ?_
  refine jr_icmp_lt (tgt := 15) C dX11_isFault_2 rfl (fun q2 => ?_) (fun q2 => ?_)
  · have hv := (if_pos q2).symm.trans hv
    exact jr_sub [] rfl (tX11_isFault_15 C   hv)
  · have hv := (if_neg q2).symm.trans hv
    refine jr_iload_n C dX11_isFault_5 rfl 0 rfl ?_
    refine jr_bipush (v := 9) C dX11_isFault_6 (by decide) ?_
    refine jr_icmp_gt (tgt := 15) C dX11_isFault_8 rfl (fun q8 => ?_) (fun q8 => ?_)
    · have hv := (if_pos q8).symm.trans hv
      exact jr_sub [] rfl (tX11_isFault_15 C   hv)
    · have hv := (if_neg q8).symm.trans hv
      refine jr_iconst (v := 1) C dX11_isFault_11 (by decide) ?_
      refine jr_goto (tgt := 16) C dX11_isFault_12 rfl ?_
      exact jp_zret C dX11_isFault_16 rfl (congrArg Value.int hv).symm
theorem pX11_isFault (l : Launch) (v0 : Int32) : pu l yX11_isFault cX11_isFault 1 (some .boolean) 0 [.int v0] (.int (fX11_isFault v0)) := pu_of (by decide +kernel) (Nat.le_of_ble_eq_true rfl) rfl (fun C => tX11_isFault_0 C v0 rfl)
/-! RobotCell.wide(II)J -/
def fX11_wide (v0 : Int32) (v1 : Int32) : Int64 :=
  (v0.toInt64 <<< ((32 : Int32).toInt64 &&& 63)) ||| (v1.toInt64 &&& 4294967295)
theorem oX11_wide : ok_s yX11_wide cX11_wide 2 (some .long) 2 := ⟨kw_185, kw_184, kw_71, by decide +kernel⟩
set_option maxRecDepth 100000 in
theorem tX11_wide_0 {p : Program} {l : Launch} {e : Env} {s : State} {m : MethodId} {args : Array Value} {below : List Frame} {meth : Method} {c : Code} (C : CC p s m args meth c yX11_wide cX11_wide 2 (some .long))  (v0 : Int32) (v1 : Int32) {w : Int64} (hv : fX11_wide v0 v1 = w) : PJ p l e s m args below meth c 2 0 (.long w) 0 [(0, .int v0), (1, .int v1)] [] := by
  unfold fX11_wide at hv
  refine jr_iload_n C dX11_wide_0 rfl 0 rfl ?_
  refine jr_i2l C dX11_wide_1 ?_
  refine jr_bipush (v := 32) C dX11_wide_2 (by decide) ?_
  refine jr_lshl C dX11_wide_4 ?_
  refine jr_iload_n C dX11_wide_5 rfl 1 rfl ?_
  refine jr_i2l C dX11_wide_6 ?_
  refine jr_ldc2 C kw_186 dX11_wide_7 ?_
  refine jr_land C dX11_wide_10 ?_
  refine jr_lor C dX11_wide_11 ?_
  exact jp_lret C dX11_wide_12 (congrArg Value.long hv).symm
theorem pX11_wide (l : Launch) (v0 : Int32) (v1 : Int32) : pu l yX11_wide cX11_wide 2 (some .long) 0 [.int v0, .int v1] (.long (fX11_wide v0 v1)) := pu_of (by decide +kernel) (Nat.le_of_ble_eq_true rfl) rfl (fun C => tX11_wide_0 C v0 v1 rfl)
/-! RobotCell.within32(J)J -/
def fX11_within32 (v0 : Int64) : Int64 :=
  mxJ (-2147483648) (mnJ 2147483647 v0)
theorem oX11_within32 : ok_s yX11_within32 cX11_within32 2 (some .long) 1 := ⟨kw_473, kw_472, kw_71, by decide +kernel⟩
set_option maxRecDepth 100000 in
theorem tX11_within32_0 {p : Program} {l : Launch} {e : Env} {s : State} {m : MethodId} {args : Array Value} {below : List Frame} {meth : Method} {c : Code} (C : CC p s m args meth c yX11_within32 cX11_within32 2 (some .long))  (v0 : Int64) {w : Int64} (hv : fX11_within32 v0 = w) : PJ p l e s m args below meth c 2 1 (.long w) 0 [(0, .long v0)] [] := by
  unfold fX11_within32 at hv
  refine jr_ldc2 C kw_474 dX11_within32_0 ?_
  refine jr_ldc2 C kw_475 dX11_within32_3 ?_
  refine jr_lload_n C dX11_within32_6 rfl 0 rfl ?_
  refine jr_mnJ C kw_476 (Nat.le_of_ble_eq_true rfl) (Nat.le_of_ble_eq_true rfl) (Nat.zero_le _) (Nat.zero_le _) dX11_within32_7 ?_
  refine jr_mxJ C kw_477 (Nat.le_of_ble_eq_true rfl) (Nat.le_of_ble_eq_true rfl) (Nat.zero_le _) (Nat.zero_le _) dX11_within32_10 ?_
  exact jp_lret C dX11_within32_13 (congrArg Value.long hv).symm
theorem pX11_within32 (l : Launch) (v0 : Int64) : pu l yX11_within32 cX11_within32 2 (some .long) 1 [.long v0] (.long (fX11_within32 v0)) := pu_of (by decide +kernel) (Nat.le_of_ble_eq_true rfl) rfl (fun C => tX11_within32_0 C v0 rfl)
/-! RobotCell.ofOne(JI)J -/
def fX11_ofOne (v0 : Int64) (v2 : Int32) : Option Int64 :=
  if v2 = 0 then some (fX2_magnitude v0) else if v2 = 1 then some (fX2_wholeNotAbove v0) else if v2 = 2 then some (fX2_wholeNotBelow v0) else if v2 = 3 then some (fX2_nearestWhole v0) else if v2 = 4 then some (fX2_signOf v0) else if v2 = 5 then (Option.bind (fX2_root v0) (fun c90 => some c90)) else if v2 = 6 then some (fX2_step v0) else if v2 = 7 then some (fX2_nextAbove v0) else if v2 = 8 then some (fX2_nextBelow v0) else if v2 = 9 then some (fX2_opposite v0) else if v2 = 10 then some (fX2_ofWhole ((fX2_exponent v0).toInt64)) else if v2 = 11 then some (fX2_ofBits32 (fX2_toBits32 v0)) else some v0
theorem oX11_ofOne : ok_s yX11_ofOne cX11_ofOne 3 (some .long) 2 := ⟨kw_362, kw_361, kw_71, by decide +kernel⟩
set_option maxRecDepth 100000 in
theorem tX11_ofOne_0 {p : Program} {l : Launch} {e : Env} {s : State} {m : MethodId} {args : Array Value} {below : List Frame} {meth : Method} {c : Code} (C : CC p s m args meth c yX11_ofOne cX11_ofOne 3 (some .long))  (v0 : Int64) (v2 : Int32) {w : Int64} (hv : fX11_ofOne v0 v2 = some w) : PJ p l e s m args below meth c 3 5 (.long w) 0 [(0, .long v0), (2, .int v2)] [] := by
  unfold fX11_ofOne at hv
  refine jr_iload_n C dX11_ofOne_0 rfl 1 rfl ?_
  by_cases q1_0 : v2 = 0
  · have hv := (if_pos q1_0).symm.trans hv
    refine jr_tableIn (off := 63) (tgt := 64) C dX11_ofOne_1 (by rw [q1_0]; decide) (by rw [q1_0]; decide) (by rw [q1_0]; rfl) rfl ?_
    refine jr_lload_n C dX11_ofOne_64 rfl 0 rfl ?_
    refine jr_pcall (rest := []) C (pX2_magnitude l v0) oX2_magnitude kw_363 rfl ⟨Nat.le_of_ble_eq_true rfl, Nat.le_of_ble_eq_true rfl⟩ rfl (Nat.le_of_ble_eq_true rfl) ⟨Nat.zero_le _, Nat.zero_le _⟩ dX11_ofOne_65 ?_
    exact jp_lret C dX11_ofOne_68 (congrArg Value.long (Option.some.inj hv)).symm
  have hv := (if_neg q1_0).symm.trans hv
  by_cases q1_1 : v2 = 1
  · have hv := (if_pos q1_1).symm.trans hv
    refine jr_tableIn (off := 68) (tgt := 69) C dX11_ofOne_1 (by rw [q1_1]; decide) (by rw [q1_1]; decide) (by rw [q1_1]; rfl) rfl ?_
    refine jr_lload_n C dX11_ofOne_69 rfl 0 rfl ?_
    refine jr_pcall (rest := []) C (pX2_wholeNotAbove l v0) oX2_wholeNotAbove kw_364 rfl ⟨Nat.le_of_ble_eq_true rfl, Nat.le_of_ble_eq_true rfl⟩ rfl (Nat.le_of_ble_eq_true rfl) ⟨Nat.zero_le _, Nat.zero_le _⟩ dX11_ofOne_70 ?_
    exact jp_lret C dX11_ofOne_73 (congrArg Value.long (Option.some.inj hv)).symm
  have hv := (if_neg q1_1).symm.trans hv
  by_cases q1_2 : v2 = 2
  · have hv := (if_pos q1_2).symm.trans hv
    refine jr_tableIn (off := 73) (tgt := 74) C dX11_ofOne_1 (by rw [q1_2]; decide) (by rw [q1_2]; decide) (by rw [q1_2]; rfl) rfl ?_
    refine jr_lload_n C dX11_ofOne_74 rfl 0 rfl ?_
    refine jr_pcall (rest := []) C (pX2_wholeNotBelow l v0) oX2_wholeNotBelow kw_378 rfl ⟨Nat.le_of_ble_eq_true rfl, Nat.le_of_ble_eq_true rfl⟩ rfl (Nat.le_of_ble_eq_true rfl) ⟨Nat.zero_le _, Nat.zero_le _⟩ dX11_ofOne_75 ?_
    exact jp_lret C dX11_ofOne_78 (congrArg Value.long (Option.some.inj hv)).symm
  have hv := (if_neg q1_2).symm.trans hv
  by_cases q1_3 : v2 = 3
  · have hv := (if_pos q1_3).symm.trans hv
    refine jr_tableIn (off := 78) (tgt := 79) C dX11_ofOne_1 (by rw [q1_3]; decide) (by rw [q1_3]; decide) (by rw [q1_3]; rfl) rfl ?_
    refine jr_lload_n C dX11_ofOne_79 rfl 0 rfl ?_
    refine jr_pcall (rest := []) C (pX2_nearestWhole l v0) oX2_nearestWhole kw_381 rfl ⟨Nat.le_of_ble_eq_true rfl, Nat.le_of_ble_eq_true rfl⟩ rfl (Nat.le_of_ble_eq_true rfl) ⟨Nat.zero_le _, Nat.zero_le _⟩ dX11_ofOne_80 ?_
    exact jp_lret C dX11_ofOne_83 (congrArg Value.long (Option.some.inj hv)).symm
  have hv := (if_neg q1_3).symm.trans hv
  by_cases q1_4 : v2 = 4
  · have hv := (if_pos q1_4).symm.trans hv
    refine jr_tableIn (off := 83) (tgt := 84) C dX11_ofOne_1 (by rw [q1_4]; decide) (by rw [q1_4]; decide) (by rw [q1_4]; rfl) rfl ?_
    refine jr_lload_n C dX11_ofOne_84 rfl 0 rfl ?_
    refine jr_pcall (rest := []) C (pX2_signOf l v0) oX2_signOf kw_385 rfl ⟨Nat.le_of_ble_eq_true rfl, Nat.le_of_ble_eq_true rfl⟩ rfl (Nat.le_of_ble_eq_true rfl) ⟨Nat.zero_le _, Nat.zero_le _⟩ dX11_ofOne_85 ?_
    exact jp_lret C dX11_ofOne_88 (congrArg Value.long (Option.some.inj hv)).symm
  have hv := (if_neg q1_4).symm.trans hv
  by_cases q1_5 : v2 = 5
  · have hv := (if_pos q1_5).symm.trans hv
    refine jr_tableIn (off := 88) (tgt := 89) C dX11_ofOne_1 (by rw [q1_5]; decide) (by rw [q1_5]; decide) (by rw [q1_5]; rfl) rfl ?_
    refine jr_lload_n C dX11_ofOne_89 rfl 0 rfl ?_
    obtain ⟨c90, hc90, hv⟩ := Option.bind_eq_some_iff.mp hv
    refine jr_pcall (rest := []) C (pX2_root l v0 hc90) oX2_root kw_388 rfl ⟨Nat.le_of_ble_eq_true rfl, Nat.le_of_ble_eq_true rfl⟩ rfl (Nat.le_of_ble_eq_true rfl) ⟨Nat.zero_le _, Nat.zero_le _⟩ dX11_ofOne_90 ?_
    exact jp_lret C dX11_ofOne_93 (congrArg Value.long (Option.some.inj hv)).symm
  have hv := (if_neg q1_5).symm.trans hv
  by_cases q1_6 : v2 = 6
  · have hv := (if_pos q1_6).symm.trans hv
    refine jr_tableIn (off := 93) (tgt := 94) C dX11_ofOne_1 (by rw [q1_6]; decide) (by rw [q1_6]; decide) (by rw [q1_6]; rfl) rfl ?_
    refine jr_lload_n C dX11_ofOne_94 rfl 0 rfl ?_
    refine jr_pcall (rest := []) C (pX2_step l v0) oX2_step kw_395 rfl ⟨Nat.le_of_ble_eq_true rfl, Nat.le_of_ble_eq_true rfl⟩ rfl (Nat.le_of_ble_eq_true rfl) ⟨Nat.zero_le _, Nat.zero_le _⟩ dX11_ofOne_95 ?_
    exact jp_lret C dX11_ofOne_98 (congrArg Value.long (Option.some.inj hv)).symm
  have hv := (if_neg q1_6).symm.trans hv
  by_cases q1_7 : v2 = 7
  · have hv := (if_pos q1_7).symm.trans hv
    refine jr_tableIn (off := 98) (tgt := 99) C dX11_ofOne_1 (by rw [q1_7]; decide) (by rw [q1_7]; decide) (by rw [q1_7]; rfl) rfl ?_
    refine jr_lload_n C dX11_ofOne_99 rfl 0 rfl ?_
    refine jr_pcall (rest := []) C (pX2_nextAbove l v0) oX2_nextAbove kw_398 rfl ⟨Nat.le_of_ble_eq_true rfl, Nat.le_of_ble_eq_true rfl⟩ rfl (Nat.le_of_ble_eq_true rfl) ⟨Nat.zero_le _, Nat.zero_le _⟩ dX11_ofOne_100 ?_
    exact jp_lret C dX11_ofOne_103 (congrArg Value.long (Option.some.inj hv)).symm
  have hv := (if_neg q1_7).symm.trans hv
  by_cases q1_8 : v2 = 8
  · have hv := (if_pos q1_8).symm.trans hv
    refine jr_tableIn (off := 103) (tgt := 104) C dX11_ofOne_1 (by rw [q1_8]; decide) (by rw [q1_8]; decide) (by rw [q1_8]; rfl) rfl ?_
    refine jr_lload_n C dX11_ofOne_104 rfl 0 rfl ?_
    refine jr_pcall (rest := []) C (pX2_nextBelow l v0) oX2_nextBelow kw_401 rfl ⟨Nat.le_of_ble_eq_true rfl, Nat.le_of_ble_eq_true rfl⟩ rfl (Nat.le_of_ble_eq_true rfl) ⟨Nat.zero_le _, Nat.zero_le _⟩ dX11_ofOne_105 ?_
    exact jp_lret C dX11_ofOne_108 (congrArg Value.long (Option.some.inj hv)).symm
  have hv := (if_neg q1_8).symm.trans hv
  by_cases q1_9 : v2 = 9
  · have hv := (if_pos q1_9).symm.trans hv
    refine jr_tableIn (off := 108) (tgt := 109) C dX11_ofOne_1 (by rw [q1_9]; decide) (by rw [q1_9]; decide) (by rw [q1_9]; rfl) rfl ?_
    refine jr_lload_n C dX11_ofOne_109 rfl 0 rfl ?_
    refine jr_pcall (rest := []) C (pX2_opposite l v0) oX2_opposite kw_405 rfl ⟨Nat.le_of_ble_eq_true rfl, Nat.le_of_ble_eq_true rfl⟩ rfl (Nat.le_of_ble_eq_true rfl) ⟨Nat.zero_le _, Nat.zero_le _⟩ dX11_ofOne_110 ?_
    exact jp_lret C dX11_ofOne_113 (congrArg Value.long (Option.some.inj hv)).symm
  have hv := (if_neg q1_9).symm.trans hv
  by_cases q1_10 : v2 = 10
  · have hv := (if_pos q1_10).symm.trans hv
    refine jr_tableIn (off := 113) (tgt := 114) C dX11_ofOne_1 (by rw [q1_10]; decide) (by rw [q1_10]; decide) (by rw [q1_10]; rfl) rfl ?_
    refine jr_lload_n C dX11_ofOne_114 rfl 0 rfl ?_
    refine jr_pcall (rest := []) C (pX2_exponent l v0) oX2_exponent kw_406 rfl ⟨Nat.le_of_ble_eq_true rfl, Nat.le_of_ble_eq_true rfl⟩ rfl (Nat.le_of_ble_eq_true rfl) ⟨Nat.zero_le _, Nat.zero_le _⟩ dX11_ofOne_115 ?_
    refine jr_i2l C dX11_ofOne_118 ?_
    refine jr_pcall (rest := []) C (pX2_ofWhole l ((fX2_exponent v0).toInt64)) oX2_ofWhole kw_268 rfl ⟨Nat.le_of_ble_eq_true rfl, Nat.le_of_ble_eq_true rfl⟩ rfl (Nat.le_of_ble_eq_true rfl) ⟨Nat.zero_le _, Nat.zero_le _⟩ dX11_ofOne_119 ?_
    exact jp_lret C dX11_ofOne_122 (congrArg Value.long (Option.some.inj hv)).symm
  have hv := (if_neg q1_10).symm.trans hv
  by_cases q1_11 : v2 = 11
  · have hv := (if_pos q1_11).symm.trans hv
    refine jr_tableIn (off := 122) (tgt := 123) C dX11_ofOne_1 (by rw [q1_11]; decide) (by rw [q1_11]; decide) (by rw [q1_11]; rfl) rfl ?_
    refine jr_lload_n C dX11_ofOne_123 rfl 0 rfl ?_
    refine jr_pcall (rest := []) C (pX2_toBits32 l v0) oX2_toBits32 kw_407 rfl ⟨Nat.le_of_ble_eq_true rfl, Nat.le_of_ble_eq_true rfl⟩ rfl (Nat.le_of_ble_eq_true rfl) ⟨Nat.zero_le _, Nat.zero_le _⟩ dX11_ofOne_124 ?_
    refine jr_pcall (rest := []) C (pX2_ofBits32 l (fX2_toBits32 v0)) oX2_ofBits32 kw_413 rfl ⟨Nat.le_of_ble_eq_true rfl, Nat.le_of_ble_eq_true rfl⟩ rfl (Nat.le_of_ble_eq_true rfl) ⟨Nat.zero_le _, Nat.zero_le _⟩ dX11_ofOne_127 ?_
    exact jp_lret C dX11_ofOne_130 (congrArg Value.long (Option.some.inj hv)).symm
  have hv := (if_neg q1_11).symm.trans hv
  refine jr_tableOut (tgt := 131) C dX11_ofOne_1 (by have := sw_ne (a := 0) q1_0 (by decide); have := sw_ne (a := 1) q1_1 (by decide); have := sw_ne (a := 2) q1_2 (by decide); have := sw_ne (a := 3) q1_3 (by decide); have := sw_ne (a := 4) q1_4 (by decide); have := sw_ne (a := 5) q1_5 (by decide); have := sw_ne (a := 6) q1_6 (by decide); have := sw_ne (a := 7) q1_7 (by decide); have := sw_ne (a := 8) q1_8 (by decide); have := sw_ne (a := 9) q1_9 (by decide); have := sw_ne (a := 10) q1_10 (by decide); have := sw_ne (a := 11) q1_11 (by decide); omega) rfl ?_
  refine jr_lload_n C dX11_ofOne_131 rfl 0 rfl ?_
  exact jp_lret C dX11_ofOne_132 (congrArg Value.long (Option.some.inj hv)).symm
theorem pX11_ofOne (l : Launch) (v0 : Int64) (v2 : Int32) {w : Int64} (hw : fX11_ofOne v0 v2 = some w) : pu l yX11_ofOne cX11_ofOne 3 (some .long) 5 [.long v0, .int v2] (.long w) := pu_of (by decide +kernel) (Nat.le_of_ble_eq_true rfl) rfl (fun C => tX11_ofOne_0 C v0 v2 hw)
/-! RobotCell.holds(IJJ)Z -/
def fX11_holds_58  : Int32 :=
  1
def fX11_holds_86  : Int32 :=
  1
def fX11_holds (v0 : Int32) (v1 : Int64) (v3 : Int64) : Int32 :=
  if v0 = 0 then fX2_isLess v1 v3 else if v0 = 1 then (if (fX2_isLess v1 v3) = 0 then (if (fX2_isLike v1 v3) = 0 then 0 else fX11_holds_58) else fX11_holds_58) else if v0 = 2 then fX2_isLess v3 v1 else if v0 = 3 then (if (fX2_isLess v3 v1) = 0 then (if (fX2_isLike v1 v3) = 0 then 0 else fX11_holds_86) else fX11_holds_86) else if v0 = 4 then fX2_isLike v1 v3 else (if (fX2_isLike v1 v3) = 0 then 1 else 0)
theorem oX11_holds : ok_s yX11_holds cX11_holds 5 (some .boolean) 3 := ⟨kw_455, kw_454, kw_71, by decide +kernel⟩
set_option maxRecDepth 100000 in
theorem tX11_holds_58 {p : Program} {l : Launch} {e : Env} {s : State} {m : MethodId} {args : Array Value} {below : List Frame} {meth : Method} {c : Code} (C : CC p s m args meth c yX11_holds cX11_holds 5 (some .boolean))   {w : Int32} (hv : fX11_holds_58  = w) : PJ p l e s m args below meth c 5 3 (.int w) 58 [] [] := by
  unfold fX11_holds_58 at hv
  refine jr_iconst (v := 1) C dX11_holds_58 (by decide) ?_
  refine jr_goto (tgt := 63) C dX11_holds_59 rfl ?_
  exact jp_zret C dX11_holds_63 rfl (congrArg Value.int hv).symm
set_option maxRecDepth 100000 in
theorem tX11_holds_86 {p : Program} {l : Launch} {e : Env} {s : State} {m : MethodId} {args : Array Value} {below : List Frame} {meth : Method} {c : Code} (C : CC p s m args meth c yX11_holds cX11_holds 5 (some .boolean))   {w : Int32} (hv : fX11_holds_86  = w) : PJ p l e s m args below meth c 5 3 (.int w) 86 [] [] := by
  unfold fX11_holds_86 at hv
  refine jr_iconst (v := 1) C dX11_holds_86 (by decide) ?_
  refine jr_goto (tgt := 91) C dX11_holds_87 rfl ?_
  exact jp_zret C dX11_holds_91 rfl (congrArg Value.int hv).symm
set_option maxRecDepth 100000 in
theorem tX11_holds_0 {p : Program} {l : Launch} {e : Env} {s : State} {m : MethodId} {args : Array Value} {below : List Frame} {meth : Method} {c : Code} (C : CC p s m args meth c yX11_holds cX11_holds 5 (some .boolean))  (v0 : Int32) (v1 : Int64) (v3 : Int64) {w : Int32} (hv : fX11_holds v0 v1 v3 = w) : PJ p l e s m args below meth c 5 3 (.int w) 0 [(0, .int v0), (1, .long v1), (3, .long v3)] [] := by
  unfold fX11_holds at hv
  refine jr_iload_n C dX11_holds_0 rfl 0 rfl ?_
  by_cases q1_0 : v0 = 0
  · have hv := (if_pos q1_0).symm.trans hv
    refine jr_tableIn (off := 35) (tgt := 36) C dX11_holds_1 (by rw [q1_0]; decide) (by rw [q1_0]; decide) (by rw [q1_0]; rfl) rfl ?_
    refine jr_lload_n C dX11_holds_36 rfl 1 rfl ?_
    refine jr_lload_n C dX11_holds_37 rfl 2 rfl ?_
    refine jr_pcall (rest := []) C (pX2_isLess l v1 v3) oX2_isLess kw_456 rfl ⟨Nat.le_of_ble_eq_true rfl, Nat.le_of_ble_eq_true rfl⟩ rfl (Nat.le_of_ble_eq_true rfl) ⟨Nat.zero_le _, Nat.zero_le _⟩ dX11_holds_38 ?_
    exact jp_zret C dX11_holds_41 (nb_of (b_fX2_isLess _ _)) (congrArg Value.int hv).symm
  have hv := (if_neg q1_0).symm.trans hv
  by_cases q1_1 : v0 = 1
  · have hv := (if_pos q1_1).symm.trans hv
    refine jr_tableIn (off := 41) (tgt := 42) C dX11_holds_1 (by rw [q1_1]; decide) (by rw [q1_1]; decide) (by rw [q1_1]; rfl) rfl ?_
    refine jr_lload_n C dX11_holds_42 rfl 1 rfl ?_
    refine jr_lload_n C dX11_holds_43 rfl 2 rfl ?_
    refine jr_pcall (rest := []) C (pX2_isLess l v1 v3) oX2_isLess kw_456 rfl ⟨Nat.le_of_ble_eq_true rfl, Nat.le_of_ble_eq_true rfl⟩ rfl (Nat.le_of_ble_eq_true rfl) ⟨Nat.zero_le _, Nat.zero_le _⟩ dX11_holds_44 ?_
    refine jr_if_ne (tgt := 58) C dX11_holds_47 rfl (fun q47 => ?_) (fun q47 => ?_)
    · have hv := (if_neg q47).symm.trans hv
      exact jr_sub [] rfl (tX11_holds_58 C   hv)
    · have hv := (if_pos q47).symm.trans hv
      refine jr_lload_n C dX11_holds_50 rfl 1 rfl ?_
      refine jr_lload_n C dX11_holds_51 rfl 2 rfl ?_
      refine jr_pcall (rest := []) C (pX2_isLike l v1 v3) oX2_isLike kw_462 rfl ⟨Nat.le_of_ble_eq_true rfl, Nat.le_of_ble_eq_true rfl⟩ rfl (Nat.le_of_ble_eq_true rfl) ⟨Nat.zero_le _, Nat.zero_le _⟩ dX11_holds_52 ?_
      refine jr_if_eq (tgt := 62) C dX11_holds_55 rfl (fun q55 => ?_) (fun q55 => ?_)
      · have hv := (if_pos q55).symm.trans hv
        refine jr_iconst (v := 0) C dX11_holds_62 (by decide) ?_
        exact jp_zret C dX11_holds_63 rfl (congrArg Value.int hv).symm
      · have hv := (if_neg q55).symm.trans hv
        exact jr_sub [] rfl (tX11_holds_58 C   hv)
  have hv := (if_neg q1_1).symm.trans hv
  by_cases q1_2 : v0 = 2
  · have hv := (if_pos q1_2).symm.trans hv
    refine jr_tableIn (off := 63) (tgt := 64) C dX11_holds_1 (by rw [q1_2]; decide) (by rw [q1_2]; decide) (by rw [q1_2]; rfl) rfl ?_
    refine jr_lload_n C dX11_holds_64 rfl 2 rfl ?_
    refine jr_lload_n C dX11_holds_65 rfl 1 rfl ?_
    refine jr_pcall (rest := []) C (pX2_isLess l v3 v1) oX2_isLess kw_456 rfl ⟨Nat.le_of_ble_eq_true rfl, Nat.le_of_ble_eq_true rfl⟩ rfl (Nat.le_of_ble_eq_true rfl) ⟨Nat.zero_le _, Nat.zero_le _⟩ dX11_holds_66 ?_
    exact jp_zret C dX11_holds_69 (nb_of (b_fX2_isLess _ _)) (congrArg Value.int hv).symm
  have hv := (if_neg q1_2).symm.trans hv
  by_cases q1_3 : v0 = 3
  · have hv := (if_pos q1_3).symm.trans hv
    refine jr_tableIn (off := 69) (tgt := 70) C dX11_holds_1 (by rw [q1_3]; decide) (by rw [q1_3]; decide) (by rw [q1_3]; rfl) rfl ?_
    refine jr_lload_n C dX11_holds_70 rfl 2 rfl ?_
    refine jr_lload_n C dX11_holds_71 rfl 1 rfl ?_
    refine jr_pcall (rest := []) C (pX2_isLess l v3 v1) oX2_isLess kw_456 rfl ⟨Nat.le_of_ble_eq_true rfl, Nat.le_of_ble_eq_true rfl⟩ rfl (Nat.le_of_ble_eq_true rfl) ⟨Nat.zero_le _, Nat.zero_le _⟩ dX11_holds_72 ?_
    refine jr_if_ne (tgt := 86) C dX11_holds_75 rfl (fun q75 => ?_) (fun q75 => ?_)
    · have hv := (if_neg q75).symm.trans hv
      exact jr_sub [] rfl (tX11_holds_86 C   hv)
    · have hv := (if_pos q75).symm.trans hv
      refine jr_lload_n C dX11_holds_78 rfl 1 rfl ?_
      refine jr_lload_n C dX11_holds_79 rfl 2 rfl ?_
      refine jr_pcall (rest := []) C (pX2_isLike l v1 v3) oX2_isLike kw_462 rfl ⟨Nat.le_of_ble_eq_true rfl, Nat.le_of_ble_eq_true rfl⟩ rfl (Nat.le_of_ble_eq_true rfl) ⟨Nat.zero_le _, Nat.zero_le _⟩ dX11_holds_80 ?_
      refine jr_if_eq (tgt := 90) C dX11_holds_83 rfl (fun q83 => ?_) (fun q83 => ?_)
      · have hv := (if_pos q83).symm.trans hv
        refine jr_iconst (v := 0) C dX11_holds_90 (by decide) ?_
        exact jp_zret C dX11_holds_91 rfl (congrArg Value.int hv).symm
      · have hv := (if_neg q83).symm.trans hv
        exact jr_sub [] rfl (tX11_holds_86 C   hv)
  have hv := (if_neg q1_3).symm.trans hv
  by_cases q1_4 : v0 = 4
  · have hv := (if_pos q1_4).symm.trans hv
    refine jr_tableIn (off := 91) (tgt := 92) C dX11_holds_1 (by rw [q1_4]; decide) (by rw [q1_4]; decide) (by rw [q1_4]; rfl) rfl ?_
    refine jr_lload_n C dX11_holds_92 rfl 1 rfl ?_
    refine jr_lload_n C dX11_holds_93 rfl 2 rfl ?_
    refine jr_pcall (rest := []) C (pX2_isLike l v1 v3) oX2_isLike kw_462 rfl ⟨Nat.le_of_ble_eq_true rfl, Nat.le_of_ble_eq_true rfl⟩ rfl (Nat.le_of_ble_eq_true rfl) ⟨Nat.zero_le _, Nat.zero_le _⟩ dX11_holds_94 ?_
    exact jp_zret C dX11_holds_97 (nb_of (b_fX2_isLike _ _)) (congrArg Value.int hv).symm
  have hv := (if_neg q1_4).symm.trans hv
  refine jr_tableOut (tgt := 98) C dX11_holds_1 (by have := sw_ne (a := 0) q1_0 (by decide); have := sw_ne (a := 1) q1_1 (by decide); have := sw_ne (a := 2) q1_2 (by decide); have := sw_ne (a := 3) q1_3 (by decide); have := sw_ne (a := 4) q1_4 (by decide); omega) rfl ?_
  refine jr_lload_n C dX11_holds_98 rfl 1 rfl ?_
  refine jr_lload_n C dX11_holds_99 rfl 2 rfl ?_
  refine jr_pcall (rest := []) C (pX2_isLike l v1 v3) oX2_isLike kw_462 rfl ⟨Nat.le_of_ble_eq_true rfl, Nat.le_of_ble_eq_true rfl⟩ rfl (Nat.le_of_ble_eq_true rfl) ⟨Nat.zero_le _, Nat.zero_le _⟩ dX11_holds_100 ?_
  refine jr_if_ne (tgt := 110) C dX11_holds_103 rfl (fun q103 => ?_) (fun q103 => ?_)
  · have hv := (if_neg q103).symm.trans hv
    refine jr_iconst (v := 0) C dX11_holds_110 (by decide) ?_
    exact jp_zret C dX11_holds_111 rfl (congrArg Value.int hv).symm
  · have hv := (if_pos q103).symm.trans hv
    refine jr_iconst (v := 1) C dX11_holds_106 (by decide) ?_
    refine jr_goto (tgt := 111) C dX11_holds_107 rfl ?_
    exact jp_zret C dX11_holds_111 rfl (congrArg Value.int hv).symm
theorem pX11_holds (l : Launch) (v0 : Int32) (v1 : Int64) (v3 : Int64) : pu l yX11_holds cX11_holds 5 (some .boolean) 3 [.int v0, .long v1, .long v3] (.int (fX11_holds v0 v1 v3)) := pu_of (by decide +kernel) (Nat.le_of_ble_eq_true rfl) rfl (fun C => tX11_holds_0 C v0 v1 v3 rfl)
/-! RobotCell.toMeasure(JI)J -/
def fX11_toMeasure (v0 : Int64) (v2 : Int32) : Int64 :=
  if v2 = 0 then fX2_ofWhole v0 else if v2 = 1 then fX2_ofBits v0 else if v2 = 2 then fX2_ofBits32 v0.toInt32 else fX2_ofBits32 (fX2_wholeToBits32 v0)
theorem oX11_toMeasure : ok_s yX11_toMeasure cX11_toMeasure 3 (some .long) 2 := ⟨kw_484, kw_483, kw_71, by decide +kernel⟩
set_option maxRecDepth 100000 in
theorem tX11_toMeasure_0 {p : Program} {l : Launch} {e : Env} {s : State} {m : MethodId} {args : Array Value} {below : List Frame} {meth : Method} {c : Code} (C : CC p s m args meth c yX11_toMeasure cX11_toMeasure 3 (some .long))  (v0 : Int64) (v2 : Int32) {w : Int64} (hv : fX11_toMeasure v0 v2 = w) : PJ p l e s m args below meth c 3 5 (.long w) 0 [(0, .long v0), (2, .int v2)] [] := by
  unfold fX11_toMeasure at hv
  refine jr_iload_n C dX11_toMeasure_0 rfl 1 rfl ?_
  by_cases q1_0 : v2 = 0
  · have hv := (if_pos q1_0).symm.trans hv
    refine jr_tableIn (off := 27) (tgt := 28) C dX11_toMeasure_1 (by rw [q1_0]; decide) (by rw [q1_0]; decide) (by rw [q1_0]; rfl) rfl ?_
    refine jr_lload_n C dX11_toMeasure_28 rfl 0 rfl ?_
    refine jr_pcall (rest := []) C (pX2_ofWhole l v0) oX2_ofWhole kw_268 rfl ⟨Nat.le_of_ble_eq_true rfl, Nat.le_of_ble_eq_true rfl⟩ rfl (Nat.le_of_ble_eq_true rfl) ⟨Nat.zero_le _, Nat.zero_le _⟩ dX11_toMeasure_29 ?_
    exact jp_lret C dX11_toMeasure_32 (congrArg Value.long hv).symm
  have hv := (if_neg q1_0).symm.trans hv
  by_cases q1_1 : v2 = 1
  · have hv := (if_pos q1_1).symm.trans hv
    refine jr_tableIn (off := 32) (tgt := 33) C dX11_toMeasure_1 (by rw [q1_1]; decide) (by rw [q1_1]; decide) (by rw [q1_1]; rfl) rfl ?_
    refine jr_lload_n C dX11_toMeasure_33 rfl 0 rfl ?_
    refine jr_pcall (rest := []) C (pX2_ofBits l v0) oX2_ofBits kw_485 rfl ⟨Nat.le_of_ble_eq_true rfl, Nat.le_of_ble_eq_true rfl⟩ rfl (Nat.le_of_ble_eq_true rfl) ⟨Nat.zero_le _, Nat.zero_le _⟩ dX11_toMeasure_34 ?_
    exact jp_lret C dX11_toMeasure_37 (congrArg Value.long hv).symm
  have hv := (if_neg q1_1).symm.trans hv
  by_cases q1_2 : v2 = 2
  · have hv := (if_pos q1_2).symm.trans hv
    refine jr_tableIn (off := 37) (tgt := 38) C dX11_toMeasure_1 (by rw [q1_2]; decide) (by rw [q1_2]; decide) (by rw [q1_2]; rfl) rfl ?_
    refine jr_lload_n C dX11_toMeasure_38 rfl 0 rfl ?_
    refine jr_l2i C dX11_toMeasure_39 ?_
    refine jr_pcall (rest := []) C (pX2_ofBits32 l v0.toInt32) oX2_ofBits32 kw_413 rfl ⟨Nat.le_of_ble_eq_true rfl, Nat.le_of_ble_eq_true rfl⟩ rfl (Nat.le_of_ble_eq_true rfl) ⟨Nat.zero_le _, Nat.zero_le _⟩ dX11_toMeasure_40 ?_
    exact jp_lret C dX11_toMeasure_43 (congrArg Value.long hv).symm
  have hv := (if_neg q1_2).symm.trans hv
  refine jr_tableOut (tgt := 44) C dX11_toMeasure_1 (by have := sw_ne (a := 0) q1_0 (by decide); have := sw_ne (a := 1) q1_1 (by decide); have := sw_ne (a := 2) q1_2 (by decide); omega) rfl ?_
  refine jr_lload_n C dX11_toMeasure_44 rfl 0 rfl ?_
  refine jr_pcall (rest := []) C (pX2_wholeToBits32 l v0) oX2_wholeToBits32 kw_488 rfl ⟨Nat.le_of_ble_eq_true rfl, Nat.le_of_ble_eq_true rfl⟩ rfl (Nat.le_of_ble_eq_true rfl) ⟨Nat.zero_le _, Nat.zero_le _⟩ dX11_toMeasure_45 ?_
  refine jr_pcall (rest := []) C (pX2_ofBits32 l (fX2_wholeToBits32 v0)) oX2_ofBits32 kw_413 rfl ⟨Nat.le_of_ble_eq_true rfl, Nat.le_of_ble_eq_true rfl⟩ rfl (Nat.le_of_ble_eq_true rfl) ⟨Nat.zero_le _, Nat.zero_le _⟩ dX11_toMeasure_48 ?_
  exact jp_lret C dX11_toMeasure_51 (congrArg Value.long hv).symm
theorem pX11_toMeasure (l : Launch) (v0 : Int64) (v2 : Int32) : pu l yX11_toMeasure cX11_toMeasure 3 (some .long) 5 [.long v0, .int v2] (.long (fX11_toMeasure v0 v2)) := pu_of (by decide +kernel) (Nat.le_of_ble_eq_true rfl) rfl (fun C => tX11_toMeasure_0 C v0 v2 rfl)
