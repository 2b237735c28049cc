/-! RobotCell$Thing.<init>()V -/
def fX9_init (S : CS) (v0 : Option Nat) : Option (CS) :=
  if isKx S v0 thK = true then some S else none
theorem oX9_init : ok_c yX9_init cX9_init 1 none 0 (.instanceMethod yX9_init) := ⟨kw_515, ⟨kw_514, rfl⟩, kw_78, by decide +kernel⟩
set_option maxRecDepth 100000 in
set_option maxHeartbeats 1000000 in
theorem tX9_init_0 {p : Program} {l : Launch} {e : Env} {s : State} {m : MethodId} {args : Array Value} {below : List Frame} {meth : Method} {c : Code} {g : CG} {S0 : CS} (C : CC p s m args meth c yX9_init cX9_init 1 none) (K : cK g s) (G : cSep g)  (S : CS) (v0 : Option Nat) {w : CS} (hv : fX9_init S v0 = some w) : CJ p l e s m args below meth c 1 1 0 0 g S0 none w 0 [(0, va_rf v0)] [] S 0 0 := by
  unfold fX9_init at hv
  refine jr_naload_n C dX9_init_0 rfl 0 rfl ?_
  by_cases z1 : isKx S v0 thK = true
  case neg => exact op_none ((if_neg z1).symm.trans hv)
  have hv := (if_pos z1).symm.trans hv
  refine jc_objI C K z1 kw_516 (Nat.le_of_ble_eq_true rfl) (Nat.le_of_ble_eq_true rfl) dX9_init_1 ?_
  exact jc_vret C K dX9_init_4 (Option.some.inj hv) ⟨Nat.le_refl _, Nat.le_refl _⟩
theorem pX9_init (l : Launch) {g : CG} (G : cSep g)   (S : CS) (v0 : Option Nat) {w : CS} (hw : fX9_init S v0 = some w)  : cC l yX9_init cX9_init 1 none 1 0 0 g [va_rf v0] S none w := cC_of (lv := [(0, va_rf v0)]) (by decide +kernel) (by simp [lg_sl, cat_rf, cat_i, cat_l, cat_r]) (by simp [lv_args, cat_rf, cat_i, cat_l, cat_r]) (fun C K => tX9_init_0 C K G  S v0 hw)
/-! RobotCell$Device.<init>()V -/
def fX1_init (S : CS) (v0 : Option Nat) : Option (CS) :=
  if isKx S v0 [0, 1, 2, 3, 4, 5, 6] = true then (Option.bind (fX9_init S v0) (fun c1 => some c1)) else none
theorem oX1_init : ok_c yX1_init cX1_init 1 none 0 (.instanceMethod yX1_init) := ⟨kw_759, ⟨kw_758, rfl⟩, kw_83, by decide +kernel⟩
set_option maxRecDepth 100000 in
set_option maxHeartbeats 1000000 in
theorem tX1_init_0 {p : Program} {l : Launch} {e : Env} {s : State} {m : MethodId} {args : Array Value} {below : List Frame} {meth : Method} {c : Code} {g : CG} {S0 : CS} (C : CC p s m args meth c yX1_init cX1_init 1 none) (K : cK g s) (G : cSep g)  (S : CS) (v0 : Option Nat) {w : CS} (hv : fX1_init S v0 = some w) : CJ p l e s m args below meth c 1 2 0 0 g S0 none w 0 [(0, va_rf v0)] [] S 0 0 := by
  unfold fX1_init at hv
  refine jr_naload_n C dX1_init_0 rfl 0 rfl ?_
  by_cases z1 : isKx S v0 [0, 1, 2, 3, 4, 5, 6] = true
  case neg => exact op_none ((if_neg z1).symm.trans hv)
  have hv := (if_pos z1).symm.trans hv
  obtain ⟨c1, hc1, hv⟩ := Option.bind_eq_some_iff.mp hv
  refine jc_callN (rest := []) C K (pX9_init l G S v0  hc1) z1 oX9_init rfl kw_760 rfl ⟨Nat.le_of_ble_eq_true rfl, Nat.le_of_ble_eq_true rfl⟩ rfl (Nat.le_of_ble_eq_true rfl) ⟨Nat.le_refl _, Nat.le_refl _⟩ dX1_init_1 ?_
  exact jc_vret C K dX1_init_4 (Option.some.inj hv) ⟨Nat.le_refl _, Nat.le_refl _⟩
theorem pX1_init (l : Launch) {g : CG} (G : cSep g)   (S : CS) (v0 : Option Nat) {w : CS} (hw : fX1_init S v0 = some w)  : cC l yX1_init cX1_init 1 none 2 0 0 g [va_rf v0] S none w := cC_of (lv := [(0, va_rf v0)]) (by decide +kernel) (by simp [lg_sl, cat_rf, cat_i, cat_l, cat_r]) (by simp [lv_args, cat_rf, cat_i, cat_l, cat_r]) (fun C K => tX1_init_0 C K G  S v0 hw)
/-! RobotCell$Pose.<init>()V -/
def fX4_init (S : CS) (v0 : Option Nat) : Option (CS) :=
  if isKx S v0 [0, 1, 2, 3, 4, 5, 6] = true then (Option.bind (fX9_init S v0) (fun c1 => Option.bind (tp c1 v0 [2, 1] 0 (.long 0)) (fun c6 => Option.bind (tp c6 v0 [2, 1] 1 (.long 0)) (fun c11 => Option.bind (tp c11 v0 [2, 1] 2 (.long 0)) (fun c16 => Option.bind (tp c16 v0 [2, 1] 3 (.int 0)) (fun c21 => Option.bind (tp c21 v0 [2, 1] 4 (va_rf none)) (fun c26 => some c26))))))) else none
theorem oX4_init : ok_c yX4_init cX4_init 1 none 0 (.instanceMethod yX4_init) := ⟨kw_674, ⟨kw_673, rfl⟩, kw_81, by decide +kernel⟩
set_option maxRecDepth 100000 in
set_option maxHeartbeats 1000000 in
theorem tX4_init_0 {p : Program} {l : Launch} {e : Env} {s : State} {m : MethodId} {args : Array Value} {below : List Frame} {meth : Method} {c : Code} {g : CG} {S0 : CS} (C : CC p s m args meth c yX4_init cX4_init 1 none) (K : cK g s) (G : cSep g)  (S : CS) (v0 : Option Nat) {w : CS} (hv : fX4_init S v0 = some w) : CJ p l e s m args below meth c 1 2 0 0 g S0 none w 0 [(0, va_rf v0)] [] S 0 0 := by
  unfold fX4_init at hv
  refine jr_naload_n C dX4_init_0 rfl 0 rfl ?_
  by_cases z1 : isKx S v0 [0, 1, 2, 3, 4, 5, 6] = true
  case neg => exact op_none ((if_neg z1).symm.trans hv)
  have hv := (if_pos z1).symm.trans hv
  obtain ⟨c1, hc1, hv⟩ := Option.bind_eq_some_iff.mp hv
  refine jc_callN (rest := []) C K (pX9_init l G S v0  hc1) z1 oX9_init rfl kw_675 rfl ⟨Nat.le_of_ble_eq_true rfl, Nat.le_of_ble_eq_true rfl⟩ rfl (Nat.le_of_ble_eq_true rfl) ⟨Nat.le_refl _, Nat.le_refl _⟩ dX4_init_1 ?_
  refine jr_naload_n C dX4_init_4 rfl 0 rfl ?_
  refine jr_lconst (v := 0) C dX4_init_5 (by decide) ?_
  obtain ⟨c6, hc6, hv⟩ := Option.bind_eq_some_iff.mp hv
  refine jc_tp C K hc6 fp_Pose_x rfl rfl kw_678 dX4_init_6 ?_
  refine jr_naload_n C dX4_init_9 rfl 0 rfl ?_
  refine jr_lconst (v := 0) C dX4_init_10 (by decide) ?_
  obtain ⟨c11, hc11, hv⟩ := Option.bind_eq_some_iff.mp hv
  refine jc_tp C K hc11 fp_Pose_y rfl rfl kw_680 dX4_init_11 ?_
  refine jr_naload_n C dX4_init_14 rfl 0 rfl ?_
  refine jr_lconst (v := 0) C dX4_init_15 (by decide) ?_
  obtain ⟨c16, hc16, hv⟩ := Option.bind_eq_some_iff.mp hv
  refine jc_tp C K hc16 fp_Pose_angle rfl rfl kw_682 dX4_init_16 ?_
  refine jr_naload_n C dX4_init_19 rfl 0 rfl ?_
  refine jr_iconst (v := 0) C dX4_init_20 (by decide) ?_
  obtain ⟨c21, hc21, hv⟩ := Option.bind_eq_some_iff.mp hv
  refine jc_tp C K hc21 fp_Pose_mark rfl rfl kw_684 dX4_init_21 ?_
  refine jr_naload_n C dX4_init_24 rfl 0 rfl ?_
  refine jr_null C dX4_init_25 ?_
  obtain ⟨c26, hc26, hv⟩ := Option.bind_eq_some_iff.mp hv
  refine jc_tp C K hc26 fp_Pose_after (nar_rf _) (fit_rf _) kw_686 dX4_init_26 ?_
  exact jc_vret C K dX4_init_29 (Option.some.inj hv) ⟨Nat.le_refl _, Nat.le_refl _⟩
theorem pX4_init (l : Launch) {g : CG} (G : cSep g)   (S : CS) (v0 : Option Nat) {w : CS} (hw : fX4_init S v0 = some w)  : cC l yX4_init cX4_init 1 none 2 0 0 g [va_rf v0] S none w := cC_of (lv := [(0, va_rf v0)]) (by decide +kernel) (by simp [lg_sl, cat_rf, cat_i, cat_l, cat_r]) (by simp [lv_args, cat_rf, cat_i, cat_l, cat_r]) (fun C K => tX4_init_0 C K G  S v0 hw)
/-! RobotCell$Grasp.<init>()V -/
def fX3_init (S : CS) (v0 : Option Nat) : Option (CS) :=
  if isKx S v0 [2, 1] = true then (Option.bind (fX4_init S v0) (fun c1 => Option.bind (tp c1 v0 [1] 5 (.long 0)) (fun c6 => some c6))) else none
theorem oX3_init : ok_c yX3_init cX3_init 1 none 0 (.instanceMethod yX3_init) := ⟨kw_671, ⟨kw_670, rfl⟩, kw_82, by decide +kernel⟩
set_option maxRecDepth 100000 in
set_option maxHeartbeats 1000000 in
theorem tX3_init_0 {p : Program} {l : Launch} {e : Env} {s : State} {m : MethodId} {args : Array Value} {below : List Frame} {meth : Method} {c : Code} {g : CG} {S0 : CS} (C : CC p s m args meth c yX3_init cX3_init 1 none) (K : cK g s) (G : cSep g)  (S : CS) (v0 : Option Nat) {w : CS} (hv : fX3_init S v0 = some w) : CJ p l e s m args below meth c 1 3 0 0 g S0 none w 0 [(0, va_rf v0)] [] S 0 0 := by
  unfold fX3_init at hv
  refine jr_naload_n C dX3_init_0 rfl 0 rfl ?_
  by_cases z1 : isKx S v0 [2, 1] = true
  case neg => exact op_none ((if_neg z1).symm.trans hv)
  have hv := (if_pos z1).symm.trans hv
  obtain ⟨c1, hc1, hv⟩ := Option.bind_eq_some_iff.mp hv
  refine jc_callN (rest := []) C K (pX4_init l G S v0  hc1) z1 oX4_init rfl kw_672 rfl ⟨Nat.le_of_ble_eq_true rfl, Nat.le_of_ble_eq_true rfl⟩ rfl (Nat.le_of_ble_eq_true rfl) ⟨Nat.le_refl _, Nat.le_refl _⟩ dX3_init_1 ?_
  refine jr_naload_n C dX3_init_4 rfl 0 rfl ?_
  refine jr_lconst (v := 0) C dX3_init_5 (by decide) ?_
  obtain ⟨c6, hc6, hv⟩ := Option.bind_eq_some_iff.mp hv
  refine jc_tp C K hc6 fp_Grasp_force rfl rfl kw_676 dX3_init_6 ?_
  exact jc_vret C K dX3_init_9 (Option.some.inj hv) ⟨Nat.le_refl _, Nat.le_refl _⟩
theorem pX3_init (l : Launch) {g : CG} (G : cSep g)   (S : CS) (v0 : Option Nat) {w : CS} (hw : fX3_init S v0 = some w)  : cC l yX3_init cX3_init 1 none 3 0 0 g [va_rf v0] S none w := cC_of (lv := [(0, va_rf v0)]) (by decide +kernel) (by simp [lg_sl, cat_rf, cat_i, cat_l, cat_r]) (by simp [lv_args, cat_rf, cat_i, cat_l, cat_r]) (fun C K => tX3_init_0 C K G  S v0 hw)
/-! RobotCell$Axis.<init>()V -/
def fX0_init (S : CS) (v0 : Option Nat) : Option (CS) :=
  if isKx S v0 [0, 3, 4, 6] = true then (Option.bind (fX1_init S v0) (fun c1 => Option.bind (tp c1 v0 [0, 4, 6] 0 (.long 0)) (fun c6 => Option.bind (tp c6 v0 [0, 4, 6] 1 (.long 0)) (fun c11 => Option.bind (tp c11 v0 [0, 4, 6] 2 (.long 0)) (fun c16 => some c16))))) else none
theorem oX0_init : ok_c yX0_init cX0_init 1 none 0 (.instanceMethod yX0_init) := ⟨kw_756, ⟨kw_755, rfl⟩, kw_84, by decide +kernel⟩
set_option maxRecDepth 100000 in
set_option maxHeartbeats 1000000 in
theorem tX0_init_0 {p : Program} {l : Launch} {e : Env} {s : State} {m : MethodId} {args : Array Value} {below : List Frame} {meth : Method} {c : Code} {g : CG} {S0 : CS} (C : CC p s m args meth c yX0_init cX0_init 1 none) (K : cK g s) (G : cSep g)  (S : CS) (v0 : Option Nat) {w : CS} (hv : fX0_init S v0 = some w) : CJ p l e s m args below meth c 1 3 0 0 g S0 none w 0 [(0, va_rf v0)] [] S 0 0 := by
  unfold fX0_init at hv
  refine jr_naload_n C dX0_init_0 rfl 0 rfl ?_
  by_cases z1 : isKx S v0 [0, 3, 4, 6] = true
  case neg => exact op_none ((if_neg z1).symm.trans hv)
  have hv := (if_pos z1).symm.trans hv
  obtain ⟨c1, hc1, hv⟩ := Option.bind_eq_some_iff.mp hv
  refine jc_callN (rest := []) C K (pX1_init l G S v0  hc1) z1 oX1_init rfl kw_757 rfl ⟨Nat.le_of_ble_eq_true rfl, Nat.le_of_ble_eq_true rfl⟩ rfl (Nat.le_of_ble_eq_true rfl) ⟨Nat.le_refl _, Nat.le_refl _⟩ dX0_init_1 ?_
  refine jr_naload_n C dX0_init_4 rfl 0 rfl ?_
  refine jr_lconst (v := 0) C dX0_init_5 (by decide) ?_
  obtain ⟨c6, hc6, hv⟩ := Option.bind_eq_some_iff.mp hv
  refine jc_tp C K hc6 fp_Axis_at rfl rfl kw_761 dX0_init_6 ?_
  refine jr_naload_n C dX0_init_9 rfl 0 rfl ?_
  refine jr_lconst (v := 0) C dX0_init_10 (by decide) ?_
  obtain ⟨c11, hc11, hv⟩ := Option.bind_eq_some_iff.mp hv
  refine jc_tp C K hc11 fp_Axis_travelled rfl rfl kw_762 dX0_init_11 ?_
  refine jr_naload_n C dX0_init_14 rfl 0 rfl ?_
  refine jr_lconst (v := 0) C dX0_init_15 (by decide) ?_
  obtain ⟨c16, hc16, hv⟩ := Option.bind_eq_some_iff.mp hv
  refine jc_tp C K hc16 fp_Axis_moves rfl rfl kw_763 dX0_init_16 ?_
  exact jc_vret C K dX0_init_19 (Option.some.inj hv) ⟨Nat.le_refl _, Nat.le_refl _⟩
theorem pX0_init (l : Launch) {g : CG} (G : cSep g)   (S : CS) (v0 : Option Nat) {w : CS} (hw : fX0_init S v0 = some w)  : cC l yX0_init cX0_init 1 none 3 0 0 g [va_rf v0] S none w := cC_of (lv := [(0, va_rf v0)]) (by decide +kernel) (by simp [lg_sl, cat_rf, cat_i, cat_l, cat_r]) (by simp [lv_args, cat_rf, cat_i, cat_l, cat_r]) (fun C K => tX0_init_0 C K G  S v0 hw)
/-! RobotCell$Rail.<init>()V -/
def fX6_init (S : CS) (v0 : Option Nat) : Option (CS) :=
  if isKx S v0 [0, 4, 6] = true then (Option.bind (fX0_init S v0) (fun c1 => some c1)) else none
theorem oX6_init : ok_c yX6_init cX6_init 1 none 0 (.instanceMethod yX6_init) := ⟨kw_775, ⟨kw_774, rfl⟩, kw_85, by decide +kernel⟩
set_option maxRecDepth 100000 in
set_option maxHeartbeats 1000000 in
theorem tX6_init_0 {p : Program} {l : Launch} {e : Env} {s : State} {m : MethodId} {args : Array Value} {below : List Frame} {meth : Method} {c : Code} {g : CG} {S0 : CS} (C : CC p s m args meth c yX6_init cX6_init 1 none) (K : cK g s) (G : cSep g)  (S : CS) (v0 : Option Nat) {w : CS} (hv : fX6_init S v0 = some w) : CJ p l e s m args below meth c 1 4 0 0 g S0 none w 0 [(0, va_rf v0)] [] S 0 0 := by
  unfold fX6_init at hv
  refine jr_naload_n C dX6_init_0 rfl 0 rfl ?_
  by_cases z1 : isKx S v0 [0, 4, 6] = true
  case neg => exact op_none ((if_neg z1).symm.trans hv)
  have hv := (if_pos z1).symm.trans hv
  obtain ⟨c1, hc1, hv⟩ := Option.bind_eq_some_iff.mp hv
  refine jc_callN (rest := []) C K (pX0_init l G S v0  hc1) z1 oX0_init rfl kw_776 rfl ⟨Nat.le_of_ble_eq_true rfl, Nat.le_of_ble_eq_true rfl⟩ rfl (Nat.le_of_ble_eq_true rfl) ⟨Nat.le_refl _, Nat.le_refl _⟩ dX6_init_1 ?_
  exact jc_vret C K dX6_init_4 (Option.some.inj hv) ⟨Nat.le_refl _, Nat.le_refl _⟩
theorem pX6_init (l : Launch) {g : CG} (G : cSep g)   (S : CS) (v0 : Option Nat) {w : CS} (hw : fX6_init S v0 = some w)  : cC l yX6_init cX6_init 1 none 4 0 0 g [va_rf v0] S none w := cC_of (lv := [(0, va_rf v0)]) (by decide +kernel) (by simp [lg_sl, cat_rf, cat_i, cat_l, cat_r]) (by simp [lv_args, cat_rf, cat_i, cat_l, cat_r]) (fun C K => tX6_init_0 C K G  S v0 hw)
/-! RobotCell$Wrist.<init>()V -/
def fX10_init (S : CS) (v0 : Option Nat) : Option (CS) :=
  if isKx S v0 [4, 6] = true then (Option.bind (fX6_init S v0) (fun c1 => some c1)) else none
theorem oX10_init : ok_c yX10_init cX10_init 1 none 0 (.instanceMethod yX10_init) := ⟨kw_785, ⟨kw_784, rfl⟩, kw_86, by decide +kernel⟩
set_option maxRecDepth 100000 in
set_option maxHeartbeats 1000000 in
theorem tX10_init_0 {p : Program} {l : Launch} {e : Env} {s : State} {m : MethodId} {args : Array Value} {below : List Frame} {meth : Method} {c : Code} {g : CG} {S0 : CS} (C : CC p s m args meth c yX10_init cX10_init 1 none) (K : cK g s) (G : cSep g)  (S : CS) (v0 : Option Nat) {w : CS} (hv : fX10_init S v0 = some w) : CJ p l e s m args below meth c 1 5 0 0 g S0 none w 0 [(0, va_rf v0)] [] S 0 0 := by
  unfold fX10_init at hv
  refine jr_naload_n C dX10_init_0 rfl 0 rfl ?_
  by_cases z1 : isKx S v0 [4, 6] = true
  case neg => exact op_none ((if_neg z1).symm.trans hv)
  have hv := (if_pos z1).symm.trans hv
  obtain ⟨c1, hc1, hv⟩ := Option.bind_eq_some_iff.mp hv
  refine jc_callN (rest := []) C K (pX6_init l G S v0  hc1) z1 oX6_init rfl kw_786 rfl ⟨Nat.le_of_ble_eq_true rfl, Nat.le_of_ble_eq_true rfl⟩ rfl (Nat.le_of_ble_eq_true rfl) ⟨Nat.le_refl _, Nat.le_refl _⟩ dX10_init_1 ?_
  exact jc_vret C K dX10_init_4 (Option.some.inj hv) ⟨Nat.le_refl _, Nat.le_refl _⟩
theorem pX10_init (l : Launch) {g : CG} (G : cSep g)   (S : CS) (v0 : Option Nat) {w : CS} (hw : fX10_init S v0 = some w)  : cC l yX10_init cX10_init 1 none 5 0 0 g [va_rf v0] S none w := cC_of (lv := [(0, va_rf v0)]) (by decide +kernel) (by simp [lg_sl, cat_rf, cat_i, cat_l, cat_r]) (by simp [lv_args, cat_rf, cat_i, cat_l, cat_r]) (fun C K => tX10_init_0 C K G  S v0 hw)
/-! RobotCell$Probe.<init>()V -/
def fX5_init_8 (S : CS) (v0 : Option Nat) (t0 : Option Nat) (t1 : Option Nat) : Option ((CS) × Nat × Nat) :=
  Option.bind (tp S t0 [3] 0 (va_rf t1)) (fun c8 => Option.bind (tp c8 v0 [3] 1 (.long 0)) (fun c13 => some (c13, 0, 0)))
def fX5_init (S : CS) (v0 : Option Nat) : Option ((CS) × Nat × Nat) :=
  if isKx S v0 [0, 3, 4, 6] = true then (Option.bind (fX1_init S v0) (fun c1 => if okn 5 = true then addD 1 (ix 5) (fX5_init_8 (cnew c1 (.inl (ix 5, .inl (fun _ => 0)))) v0 v0 (some (cSz c1))) else none)) else none
theorem oX5_init : ok_c yX5_init cX5_init 1 none 0 (.instanceMethod yX5_init) := ⟨kw_795, ⟨kw_794, rfl⟩, kw_87, by decide +kernel⟩
set_option maxRecDepth 100000 in
set_option maxHeartbeats 1000000 in
theorem tX5_init_8 {p : Program} {l : Launch} {e : Env} {s : State} {m : MethodId} {args : Array Value} {below : List Frame} {meth : Method} {c : Code} {g : CG} {S0 : CS} {mc ms : Nat} (C : CC p s m args meth c yX5_init cX5_init 1 none) (K : cK g s) (G : cSep g)  (S : CS) (v0 : Option Nat) (t0 : Option Nat) (t1 : Option Nat) {w : (CS) × Nat × Nat} (hv : fX5_init_8 S v0 t0 t1 = some w) (cells slots : Nat) (hc : cells + w.2.1 ≤ mc ∧ slots + w.2.2 ≤ ms) : CJ p l e s m args below meth c 1 3 mc ms g S0 none w.1 8 [(0, va_rf v0)] [va_rf t1, va_rf t0] S cells slots := by
  unfold fX5_init_8 at hv
  obtain ⟨c8, hc8, hv⟩ := Option.bind_eq_some_iff.mp hv
  refine jc_tpF C K hc8 fp_Probe_readings rfl rfl (nar_rfA _) (fit_rfA _) kw_797 dX5_init_8 ?_
  refine jr_naload_n C dX5_init_11 rfl 0 rfl ?_
  refine jr_lconst (v := 0) C dX5_init_12 (by decide) ?_
  obtain ⟨c13, hc13, hv⟩ := Option.bind_eq_some_iff.mp hv
  refine jc_tp C K hc13 fp_Probe_had rfl rfl kw_798 dX5_init_13 ?_
  cases hv
  exact jc_vret C K dX5_init_16 rfl ⟨Nat.le_trans (Nat.le_add_right _ _) hc.1, Nat.le_trans (Nat.le_add_right _ _) hc.2⟩
set_option maxRecDepth 100000 in
set_option maxHeartbeats 1000000 in
theorem tX5_init_0 {p : Program} {l : Launch} {e : Env} {s : State} {m : MethodId} {args : Array Value} {below : List Frame} {meth : Method} {c : Code} {g : CG} {S0 : CS} {mc ms : Nat} (C : CC p s m args meth c yX5_init cX5_init 1 none) (K : cK g s) (G : cSep g)  (S : CS) (v0 : Option Nat) {w : (CS) × Nat × Nat} (hv : fX5_init S v0 = some w) (cells slots : Nat) (hc : cells + w.2.1 ≤ mc ∧ slots + w.2.2 ≤ ms) : CJ p l e s m args below meth c 1 3 mc ms g S0 none w.1 0 [(0, va_rf v0)] [] S cells slots := by
  unfold fX5_init at hv
  refine jr_naload_n C dX5_init_0 rfl 0 rfl ?_
  by_cases z1 : isKx S v0 [0, 3, 4, 6] = true
  case neg => exact op_none ((if_neg z1).symm.trans hv)
  have hv := (if_pos z1).symm.trans hv
  obtain ⟨c1, hc1, hv⟩ := Option.bind_eq_some_iff.mp hv
  refine jc_callN (rest := []) C K (pX1_init l G S v0  hc1) z1 oX1_init rfl kw_796 rfl ⟨Nat.le_of_ble_eq_true rfl, Nat.le_of_ble_eq_true rfl⟩ rfl (Nat.le_of_ble_eq_true rfl) ⟨Nat.le_trans (Nat.le_add_right _ _) hc.1, Nat.le_trans (Nat.le_add_right _ _) hc.2⟩ dX5_init_1 ?_
  refine jr_naload_n C dX5_init_4 rfl 0 rfl ?_
  refine jr_iconst (v := 5) C dX5_init_5 (by decide) ?_
  by_cases z6 : okn 5 = true
  case neg => exact op_none ((if_neg z6).symm.trans hv)
  have hv := (if_pos z6).symm.trans hv
  obtain ⟨w6, hv, e1, e2, e3⟩ := addD_of hv
  rw [← e1]
  have hr : cells + 1 ≤ mc ∧ slots + (ix 5) ≤ ms := ⟨by omega, by omega⟩
  refine jc_newI C K z6 hr.1 hr.2 dX5_init_6 ?_
  have hc : (cells + 1) + w6.2.1 ≤ mc ∧ (slots + (ix 5)) + w6.2.2 ≤ ms := ⟨by omega, by omega⟩
  exact tX5_init_8 C K G  (cnew c1 (.inl (ix 5, .inl (fun _ => 0)))) v0 v0 (some (cSz c1)) hv _ _ hc
theorem pX5_init (l : Launch) {g : CG} (G : cSep g)   (S : CS) (v0 : Option Nat) {w : (CS) × Nat × Nat} (hw : fX5_init S v0 = some w) {mc ms : Nat} (hc : 0 + w.2.1 ≤ mc ∧ 0 + w.2.2 ≤ ms) : cC l yX5_init cX5_init 1 none 3 mc ms g [va_rf v0] S none w.1 := cC_of (lv := [(0, va_rf v0)]) (by decide +kernel) (by simp [lg_sl, cat_rf, cat_i, cat_l, cat_r]) (by simp [lv_args, cat_rf, cat_i, cat_l, cat_r]) (fun C K => tX5_init_0 C K G  S v0 hw 0 0 hc)
/-! RobotCell$Row.<init>(II)V -/
def fX8_init_68 (S : CS) (t0 : Option Nat) (t1 : Option Nat) : Option ((CS) × Nat × Nat) :=
  Option.bind (tp S t0 [5] 3 (va_rf t1)) (fun c68 => some (c68, 0, 0))
def fX8_init_65 (S : CS) (t0 : Option Nat) (t1 : Int32) : Option ((CS) × Nat × Nat) :=
  if okn t1 = true then addD 1 (ix t1) (fX8_init_68 (cnew S (.inl (ix t1, .inr (.inr (.inr (.inr (fun _ => none))))))) t0 (some (cSz S))) else none
def fX8_init_49 (S : CS) (v0 : Option Nat) (v3 : Int32) (t0 : Option Nat) (t1 : Option Nat) : Option ((CS) × Nat × Nat) :=
  Option.bind (tp S t0 [5] 2 (va_rf t1)) (fun c49 => if v3 = 0 then fX8_init_65 c49 v0 0 else (Option.bind (tgI c49 v0 [5] 1) (fun c58 => fX8_init_65 c49 v0 c58)))
def fX8_init_47 (S : CS) (v0 : Option Nat) (v3 : Int32) (t0 : Option Nat) (t1 : Int32) : Option ((CS) × Nat × Nat) :=
  if okn t1 = true then addD 1 (ix t1) (fX8_init_49 (cnew S (.inl (ix t1, .inr (.inl (fun _ => 0))))) v0 v3 t0 (some (cSz S))) else none
def fX8_init_33 (S : CS) (v0 : Option Nat) (t0 : Int32) : Option ((CS) × Nat × Nat) :=
  if t0 = 0 then (Option.bind (tgI S v0 [5] 1) (fun c44 => fX8_init_47 S v0 t0 v0 c44)) else fX8_init_47 S v0 t0 v0 0
def fX8_init_19 (S : CS) (v0 : Option Nat) (v1 : Int32) (t0 : Option Nat) (t1 : Int32) : Option ((CS) × Nat × Nat) :=
  Option.bind (tp S t0 [5] 1 (.int t1)) (fun c19 => if v1 < 8 then fX8_init_33 c19 v0 0 else fX8_init_33 c19 v0 1)
def fX8_init (S : CS) (v0 : Option Nat) (v1 : Int32) (v2 : Int32) : Option ((CS) × Nat × Nat) :=
  if isKx S v0 [0, 1, 2, 3, 4, 5, 6] = true then (Option.bind (fX9_init S v0) (fun c1 => Option.bind (tp c1 v0 [5] 0 (.int v1)) (fun c6 => if 0 ≤ v2 then fX8_init_19 c6 v0 v1 v0 v2 else fX8_init_19 c6 v0 v1 v0 0))) else none
theorem oX8_init : ok_c yX8_init cX8_init 4 none 2 (.instanceMethod yX8_init) := ⟨kw_512, ⟨kw_511, rfl⟩, kw_79, by decide +kernel⟩
set_option maxRecDepth 100000 in
set_option maxHeartbeats 1000000 in
theorem tX8_init_68 {p : Program} {l : Launch} {e : Env} {s : State} {m : MethodId} {args : Array Value} {below : List Frame} {meth : Method} {c : Code} {g : CG} {S0 : CS} {mc ms : Nat} (C : CC p s m args meth c yX8_init cX8_init 4 none) (K : cK g s) (G : cSep g)  (S : CS) (t0 : Option Nat) (t1 : Option Nat) {w : (CS) × Nat × Nat} (hv : fX8_init_68 S t0 t1 = some w) (cells slots : Nat) (hc : cells + w.2.1 ≤ mc ∧ slots + w.2.2 ≤ ms) : CJ p l e s m args below meth c 4 2 mc ms g S0 none w.1 68 [] [va_rf t1, va_rf t0] S cells slots := by
  unfold fX8_init_68 at hv
  obtain ⟨c68, hc68, hv⟩ := Option.bind_eq_some_iff.mp hv
  refine jc_tpF C K hc68 fp_Row_parts rfl rfl (nar_rfA _) (fit_rfA _) kw_521 dX8_init_68 ?_
  cases hv
  exact jc_vret C K dX8_init_71 rfl ⟨Nat.le_trans (Nat.le_add_right _ _) hc.1, Nat.le_trans (Nat.le_add_right _ _) hc.2⟩
set_option maxRecDepth 100000 in
set_option maxHeartbeats 1000000 in
theorem tX8_init_65 {p : Program} {l : Launch} {e : Env} {s : State} {m : MethodId} {args : Array Value} {below : List Frame} {meth : Method} {c : Code} {g : CG} {S0 : CS} {mc ms : Nat} (C : CC p s m args meth c yX8_init cX8_init 4 none) (K : cK g s) (G : cSep g)  (S : CS) (t0 : Option Nat) (t1 : Int32) {w : (CS) × Nat × Nat} (hv : fX8_init_65 S t0 t1 = some w) (cells slots : Nat) (hc : cells + w.2.1 ≤ mc ∧ slots + w.2.2 ≤ ms) : CJ p l e s m args below meth c 4 2 mc ms g S0 none w.1 65 [] [.int t1, va_rf t0] S cells slots := by
  unfold fX8_init_65 at hv
  by_cases z65 : okn t1 = true
  case neg => exact op_none ((if_neg z65).symm.trans hv)
  have hv := (if_pos z65).symm.trans hv
  obtain ⟨w65, hv, e1, e2, e3⟩ := addD_of hv
  rw [← e1]
  have hr : cells + 1 ≤ mc ∧ slots + (ix t1) ≤ ms := ⟨by omega, by omega⟩
  refine jc_newQ C K z65 kw_517 hr.1 hr.2 dX8_init_65 ?_
  have hc : (cells + 1) + w65.2.1 ≤ mc ∧ (slots + (ix t1)) + w65.2.2 ≤ ms := ⟨by omega, by omega⟩
  exact tX8_init_68 C K G  (cnew S (.inl (ix t1, .inr (.inr (.inr (.inr (fun _ => none))))))) t0 (some (cSz S)) hv _ _ hc
set_option maxRecDepth 100000 in
set_option maxHeartbeats 1000000 in
theorem tX8_init_49 {p : Program} {l : Launch} {e : Env} {s : State} {m : MethodId} {args : Array Value} {below : List Frame} {meth : Method} {c : Code} {g : CG} {S0 : CS} {mc ms : Nat} (C : CC p s m args meth c yX8_init cX8_init 4 none) (K : cK g s) (G : cSep g)  (S : CS) (v0 : Option Nat) (v3 : Int32) (t0 : Option Nat) (t1 : Option Nat) {w : (CS) × Nat × Nat} (hv : fX8_init_49 S v0 v3 t0 t1 = some w) (cells slots : Nat) (hc : cells + w.2.1 ≤ mc ∧ slots + w.2.2 ≤ ms) : CJ p l e s m args below meth c 4 2 mc ms g S0 none w.1 49 [(0, va_rf v0), (3, .int v3)] [va_rf t1, va_rf t0] S cells slots := by
  unfold fX8_init_49 at hv
  obtain ⟨c49, hc49, hv⟩ := Option.bind_eq_some_iff.mp hv
  refine jc_tpF C K hc49 fp_Row_values rfl rfl (nar_rfA _) (fit_rfA _) kw_520 dX8_init_49 ?_
  refine jr_naload_n C dX8_init_52 rfl 0 rfl ?_
  refine jr_iload_n C dX8_init_53 rfl 1 rfl ?_
  refine jr_if_eq (tgt := 64) C dX8_init_54 rfl (fun q54 => ?_) (fun q54 => ?_)
  · have hv := (if_pos q54).symm.trans hv
    refine jr_iconst (v := 0) C dX8_init_64 (by decide) ?_
    exact jr_sub [] rfl (tX8_init_65 C K G  c49 v0 0 hv _ _ hc)
  · have hv := (if_neg q54).symm.trans hv
    refine jr_naload_n C dX8_init_57 rfl 0 rfl ?_
    obtain ⟨c58, hc58, hv⟩ := Option.bind_eq_some_iff.mp hv
    refine jc_tg C K (tgI_F hc58) fg_Row_length kw_519 dX8_init_58 ?_
    refine jr_goto (tgt := 65) C dX8_init_61 rfl ?_
    exact jr_sub [] rfl (tX8_init_65 C K G  c49 v0 c58 hv _ _ hc)
set_option maxRecDepth 100000 in
set_option maxHeartbeats 1000000 in
theorem tX8_init_47 {p : Program} {l : Launch} {e : Env} {s : State} {m : MethodId} {args : Array Value} {below : List Frame} {meth : Method} {c : Code} {g : CG} {S0 : CS} {mc ms : Nat} (C : CC p s m args meth c yX8_init cX8_init 4 none) (K : cK g s) (G : cSep g)  (S : CS) (v0 : Option Nat) (v3 : Int32) (t0 : Option Nat) (t1 : Int32) {w : (CS) × Nat × Nat} (hv : fX8_init_47 S v0 v3 t0 t1 = some w) (cells slots : Nat) (hc : cells + w.2.1 ≤ mc ∧ slots + w.2.2 ≤ ms) : CJ p l e s m args below meth c 4 2 mc ms g S0 none w.1 47 [(0, va_rf v0), (3, .int v3)] [.int t1, va_rf t0] S cells slots := by
  unfold fX8_init_47 at hv
  by_cases z47 : okn t1 = true
  case neg => exact op_none ((if_neg z47).symm.trans hv)
  have hv := (if_pos z47).symm.trans hv
  obtain ⟨w47, hv, e1, e2, e3⟩ := addD_of hv
  rw [← e1]
  have hr : cells + 1 ≤ mc ∧ slots + (ix t1) ≤ ms := ⟨by omega, by omega⟩
  refine jc_newJ C K z47 hr.1 hr.2 dX8_init_47 ?_
  have hc : (cells + 1) + w47.2.1 ≤ mc ∧ (slots + (ix t1)) + w47.2.2 ≤ ms := ⟨by omega, by omega⟩
  exact tX8_init_49 C K G  (cnew S (.inl (ix t1, .inr (.inl (fun _ => 0))))) v0 v3 t0 (some (cSz S)) hv _ _ hc
set_option maxRecDepth 100000 in
set_option maxHeartbeats 1000000 in
theorem tX8_init_33 {p : Program} {l : Launch} {e : Env} {s : State} {m : MethodId} {args : Array Value} {below : List Frame} {meth : Method} {c : Code} {g : CG} {S0 : CS} {mc ms : Nat} (C : CC p s m args meth c yX8_init cX8_init 4 none) (K : cK g s) (G : cSep g)  (S : CS) (v0 : Option Nat) (t0 : Int32) {w : (CS) × Nat × Nat} (hv : fX8_init_33 S v0 t0 = some w) (cells slots : Nat) (hc : cells + w.2.1 ≤ mc ∧ slots + w.2.2 ≤ ms) : CJ p l e s m args below meth c 4 2 mc ms g S0 none w.1 33 [(0, va_rf v0)] [.int t0] S cells slots := by
  unfold fX8_init_33 at hv
  refine jr_istore_n (lv' := [(3, .int t0), (0, va_rf v0)]) C dX8_init_33 rfl (by decide) rfl ?_
  refine jr_naload_n C dX8_init_34 rfl 1 rfl ?_
  refine jr_iload_n C dX8_init_35 rfl 0 rfl ?_
  refine jr_if_eq (tgt := 43) C dX8_init_36 rfl (fun q36 => ?_) (fun q36 => ?_)
  · have hv := (if_pos q36).symm.trans hv
    refine jr_naload_n C dX8_init_43 rfl 1 rfl ?_
    obtain ⟨c44, hc44, hv⟩ := Option.bind_eq_some_iff.mp hv
    refine jc_tg C K (tgI_F hc44) fg_Row_length kw_519 dX8_init_44 ?_
    exact jr_sub [1, 0] rfl (tX8_init_47 C K G  S v0 t0 v0 c44 hv _ _ hc)
  · have hv := (if_neg q36).symm.trans hv
    refine jr_iconst (v := 0) C dX8_init_39 (by decide) ?_
    refine jr_goto (tgt := 47) C dX8_init_40 rfl ?_
    exact jr_sub [1, 0] rfl (tX8_init_47 C K G  S v0 t0 v0 0 hv _ _ hc)
set_option maxRecDepth 100000 in
set_option maxHeartbeats 1000000 in
theorem tX8_init_19 {p : Program} {l : Launch} {e : Env} {s : State} {m : MethodId} {args : Array Value} {below : List Frame} {meth : Method} {c : Code} {g : CG} {S0 : CS} {mc ms : Nat} (C : CC p s m args meth c yX8_init cX8_init 4 none) (K : cK g s) (G : cSep g)  (S : CS) (v0 : Option Nat) (v1 : Int32) (t0 : Option Nat) (t1 : Int32) {w : (CS) × Nat × Nat} (hv : fX8_init_19 S v0 v1 t0 t1 = some w) (cells slots : Nat) (hc : cells + w.2.1 ≤ mc ∧ slots + w.2.2 ≤ ms) : CJ p l e s m args below meth c 4 2 mc ms g S0 none w.1 19 [(0, va_rf v0), (1, .int v1)] [.int t1, va_rf t0] S cells slots := by
  unfold fX8_init_19 at hv
  obtain ⟨c19, hc19, hv⟩ := Option.bind_eq_some_iff.mp hv
  refine jc_tpF C K hc19 fp_Row_length rfl rfl rfl rfl kw_519 dX8_init_19 ?_
  refine jr_iload_n C dX8_init_22 rfl 1 rfl ?_
  refine jr_bipush (v := 8) C dX8_init_23 (by decide) ?_
  refine jr_icmp_lt (tgt := 32) C dX8_init_25 rfl (fun q25 => ?_) (fun q25 => ?_)
  · have hv := (if_pos q25).symm.trans hv
    refine jr_iconst (v := 0) C dX8_init_32 (by decide) ?_
    exact jr_sub [0] rfl (tX8_init_33 C K G  c19 v0 0 hv _ _ hc)
  · have hv := (if_neg q25).symm.trans hv
    refine jr_iconst (v := 1) C dX8_init_28 (by decide) ?_
    refine jr_goto (tgt := 33) C dX8_init_29 rfl ?_
    exact jr_sub [0] rfl (tX8_init_33 C K G  c19 v0 1 hv _ _ hc)
set_option maxRecDepth 100000 in
set_option maxHeartbeats 1000000 in
theorem tX8_init_0 {p : Program} {l : Launch} {e : Env} {s : State} {m : MethodId} {args : Array Value} {below : List Frame} {meth : Method} {c : Code} {g : CG} {S0 : CS} {mc ms : Nat} (C : CC p s m args meth c yX8_init cX8_init 4 none) (K : cK g s) (G : cSep g)  (S : CS) (v0 : Option Nat) (v1 : Int32) (v2 : Int32) {w : (CS) × Nat × Nat} (hv : fX8_init S v0 v1 v2 = some w) (cells slots : Nat) (hc : cells + w.2.1 ≤ mc ∧ slots + w.2.2 ≤ ms) : CJ p l e s m args below meth c 4 2 mc ms g S0 none w.1 0 [(0, va_rf v0), (1, .int v1), (2, .int v2)] [] S cells slots := by
  unfold fX8_init at hv
  refine jr_naload_n C dX8_init_0 rfl 0 rfl ?_
  by_cases z1 : isKx S v0 [0, 1, 2, 3, 4, 5, 6] = true
  case neg => exact op_none ((if_neg z1).symm.trans hv)
  have hv := (if_pos z1).symm.trans hv
  obtain ⟨c1, hc1, hv⟩ := Option.bind_eq_some_iff.mp hv
  refine jc_callN (rest := []) C K (pX9_init l G S v0  hc1) z1 oX9_init rfl kw_513 rfl ⟨Nat.le_of_ble_eq_true rfl, Nat.le_of_ble_eq_true rfl⟩ rfl (Nat.le_of_ble_eq_true rfl) ⟨Nat.le_trans (Nat.le_add_right _ _) hc.1, Nat.le_trans (Nat.le_add_right _ _) hc.2⟩ dX8_init_1 ?_
  refine jr_naload_n C dX8_init_4 rfl 0 rfl ?_
  refine jr_iload_n C dX8_init_5 rfl 1 rfl ?_
  obtain ⟨c6, hc6, hv⟩ := Option.bind_eq_some_iff.mp hv
  refine jc_tpF C K hc6 fp_Row_kind rfl rfl rfl rfl kw_518 dX8_init_6 ?_
  refine jr_naload_n C dX8_init_9 rfl 0 rfl ?_
  refine jr_iload_n C dX8_init_10 rfl 2 rfl ?_
  refine jr_if_ge (tgt := 18) C dX8_init_11 rfl (fun q11 => ?_) (fun q11 => ?_)
  · have hv := (if_pos q11).symm.trans hv
    refine jr_iload_n C dX8_init_18 rfl 2 rfl ?_
    exact jr_sub [0, 1] rfl (tX8_init_19 C K G  c6 v0 v1 v0 v2 hv _ _ hc)
  · have hv := (if_neg q11).symm.trans hv
    refine jr_iconst (v := 0) C dX8_init_14 (by decide) ?_
    refine jr_goto (tgt := 19) C dX8_init_15 rfl ?_
    exact jr_sub [0, 1] rfl (tX8_init_19 C K G  c6 v0 v1 v0 0 hv _ _ hc)
theorem pX8_init (l : Launch) {g : CG} (G : cSep g)   (S : CS) (v0 : Option Nat) (v1 : Int32) (v2 : Int32) {w : (CS) × Nat × Nat} (hw : fX8_init S v0 v1 v2 = some w) {mc ms : Nat} (hc : 0 + w.2.1 ≤ mc ∧ 0 + w.2.2 ≤ ms) : cC l yX8_init cX8_init 4 none 2 mc ms g [va_rf v0, .int v1, .int v2] S none w.1 := cC_of (lv := [(0, va_rf v0), (1, .int v1), (2, .int v2)]) (by decide +kernel) (by simp [lg_sl, cat_rf, cat_i, cat_l, cat_r]) (by simp [lv_args, cat_rf, cat_i, cat_l, cat_r]) (fun C K => tX8_init_0 C K G  S v0 v1 v2 hw 0 0 hc)
/-! RobotCell$Pose.kind()I -/
def fX4_kind (S : CS) (v0 : Option Nat) : Option (Int32 × CS) :=
  some (11, S)
theorem oX4_kind : ok_c yX4_kind cX4_kind 1 (some .int) 0 (.instanceMethod yX4_kind) := ⟨kw_616, ⟨kw_615, rfl⟩, kw_81, by decide +kernel⟩
set_option maxRecDepth 100000 in
set_option maxHeartbeats 1000000 in
theorem tX4_kind_0 {p : Program} {l : Launch} {e : Env} {s : State} {m : MethodId} {args : Array Value} {below : List Frame} {meth : Method} {c : Code} {g : CG} {S0 : CS} (C : CC p s m args meth c yX4_kind cX4_kind 1 (some .int)) (K : cK g s) (G : cSep g)  (S : CS) (v0 : Option Nat) {w : Int32 × CS} (hv : fX4_kind S v0 = some w) : CJ p l e s m args below meth c 1 0 0 0 g S0 (some (.int w.1)) w.2 0 [(0, va_rf v0)] [] S 0 0 := by
  unfold fX4_kind at hv
  refine jr_bipush (v := 11) C dX4_kind_0 (by decide) ?_
  exact jc_iret C K dX4_kind_2 (Option.some.inj hv) ⟨Nat.le_refl _, Nat.le_refl _⟩
theorem pX4_kind (l : Launch) {g : CG} (G : cSep g)   (S : CS) (v0 : Option Nat) {w : Int32 × CS} (hw : fX4_kind S v0 = some w)  : cC l yX4_kind cX4_kind 1 (some .int) 0 0 0 g [va_rf v0] S (some (.int w.1)) w.2 := cC_of (lv := [(0, va_rf v0)]) (by decide +kernel) (by simp [lg_sl, cat_rf, cat_i, cat_l, cat_r]) (by simp [lv_args, cat_rf, cat_i, cat_l, cat_r]) (fun C K => tX4_kind_0 C K G  S v0 hw)
/-! RobotCell$Grasp.kind()I -/
def fX3_kind (S : CS) (v0 : Option Nat) : Option (Int32 × CS) :=
  some (12, S)
theorem oX3_kind : ok_c yX3_kind cX3_kind 1 (some .int) 0 (.instanceMethod yX3_kind) := ⟨kw_613, ⟨kw_612, rfl⟩, kw_82, by decide +kernel⟩
set_option maxRecDepth 100000 in
set_option maxHeartbeats 1000000 in
theorem tX3_kind_0 {p : Program} {l : Launch} {e : Env} {s : State} {m : MethodId} {args : Array Value} {below : List Frame} {meth : Method} {c : Code} {g : CG} {S0 : CS} (C : CC p s m args meth c yX3_kind cX3_kind 1 (some .int)) (K : cK g s) (G : cSep g)  (S : CS) (v0 : Option Nat) {w : Int32 × CS} (hv : fX3_kind S v0 = some w) : CJ p l e s m args below meth c 1 0 0 0 g S0 (some (.int w.1)) w.2 0 [(0, va_rf v0)] [] S 0 0 := by
  unfold fX3_kind at hv
  refine jr_bipush (v := 12) C dX3_kind_0 (by decide) ?_
  exact jc_iret C K dX3_kind_2 (Option.some.inj hv) ⟨Nat.le_refl _, Nat.le_refl _⟩
theorem pX3_kind (l : Launch) {g : CG} (G : cSep g)   (S : CS) (v0 : Option Nat) {w : Int32 × CS} (hw : fX3_kind S v0 = some w)  : cC l yX3_kind cX3_kind 1 (some .int) 0 0 0 g [va_rf v0] S (some (.int w.1)) w.2 := cC_of (lv := [(0, va_rf v0)]) (by decide +kernel) (by simp [lg_sl, cat_rf, cat_i, cat_l, cat_r]) (by simp [lv_args, cat_rf, cat_i, cat_l, cat_r]) (fun C K => tX3_kind_0 C K G  S v0 hw)
/-! RobotCell$Row.kind()I -/
def fX8_kind (S : CS) (v0 : Option Nat) : Option (Int32 × CS) :=
  Option.bind (tgI S v0 [5] 0) (fun c1 => some (c1, S))
theorem oX8_kind : ok_c yX8_kind cX8_kind 1 (some .int) 0 (.instanceMethod yX8_kind) := ⟨kw_603, ⟨kw_601, rfl⟩, kw_79, by decide +kernel⟩
set_option maxRecDepth 100000 in
set_option maxHeartbeats 1000000 in
theorem tX8_kind_0 {p : Program} {l : Launch} {e : Env} {s : State} {m : MethodId} {args : Array Value} {below : List Frame} {meth : Method} {c : Code} {g : CG} {S0 : CS} (C : CC p s m args meth c yX8_kind cX8_kind 1 (some .int)) (K : cK g s) (G : cSep g)  (S : CS) (v0 : Option Nat) {w : Int32 × CS} (hv : fX8_kind S v0 = some w) : CJ p l e s m args below meth c 1 0 0 0 g S0 (some (.int w.1)) w.2 0 [(0, va_rf v0)] [] S 0 0 := by
  unfold fX8_kind at hv
  refine jr_naload_n C dX8_kind_0 rfl 0 rfl ?_
  obtain ⟨c1, hc1, hv⟩ := Option.bind_eq_some_iff.mp hv
  refine jc_tg C K (tgI_F hc1) fg_Row_kind kw_518 dX8_kind_1 ?_
  exact jc_iret C K dX8_kind_4 (Option.some.inj hv) ⟨Nat.le_refl _, Nat.le_refl _⟩
theorem pX8_kind (l : Launch) {g : CG} (G : cSep g)   (S : CS) (v0 : Option Nat) {w : Int32 × CS} (hw : fX8_kind S v0 = some w)  : cC l yX8_kind cX8_kind 1 (some .int) 0 0 0 g [va_rf v0] S (some (.int w.1)) w.2 := cC_of (lv := [(0, va_rf v0)]) (by decide +kernel) (by simp [lg_sl, cat_rf, cat_i, cat_l, cat_r]) (by simp [lv_args, cat_rf, cat_i, cat_l, cat_r]) (fun C K => tX8_kind_0 C K G  S v0 hw)
/-! RobotCell$Axis.kind()I -/
def fX0_kind (S : CS) (v0 : Option Nat) : Option (Int32 × CS) :=
  some (13, S)
theorem oX0_kind : ok_c yX0_kind cX0_kind 1 (some .int) 0 (.instanceMethod yX0_kind) := ⟨kw_610, ⟨kw_609, rfl⟩, kw_84, by decide +kernel⟩
set_option maxRecDepth 100000 in
set_option maxHeartbeats 1000000 in
theorem tX0_kind_0 {p : Program} {l : Launch} {e : Env} {s : State} {m : MethodId} {args : Array Value} {below : List Frame} {meth : Method} {c : Code} {g : CG} {S0 : CS} (C : CC p s m args meth c yX0_kind cX0_kind 1 (some .int)) (K : cK g s) (G : cSep g)  (S : CS) (v0 : Option Nat) {w : Int32 × CS} (hv : fX0_kind S v0 = some w) : CJ p l e s m args below meth c 1 0 0 0 g S0 (some (.int w.1)) w.2 0 [(0, va_rf v0)] [] S 0 0 := by
  unfold fX0_kind at hv
  refine jr_bipush (v := 13) C dX0_kind_0 (by decide) ?_
  exact jc_iret C K dX0_kind_2 (Option.some.inj hv) ⟨Nat.le_refl _, Nat.le_refl _⟩
theorem pX0_kind (l : Launch) {g : CG} (G : cSep g)   (S : CS) (v0 : Option Nat) {w : Int32 × CS} (hw : fX0_kind S v0 = some w)  : cC l yX0_kind cX0_kind 1 (some .int) 0 0 0 g [va_rf v0] S (some (.int w.1)) w.2 := cC_of (lv := [(0, va_rf v0)]) (by decide +kernel) (by simp [lg_sl, cat_rf, cat_i, cat_l, cat_r]) (by simp [lv_args, cat_rf, cat_i, cat_l, cat_r]) (fun C K => tX0_kind_0 C K G  S v0 hw)
/-! RobotCell$Rail.kind()I -/
def fX6_kind (S : CS) (v0 : Option Nat) : Option (Int32 × CS) :=
  some (14, S)
theorem oX6_kind : ok_c yX6_kind cX6_kind 1 (some .int) 0 (.instanceMethod yX6_kind) := ⟨kw_622, ⟨kw_621, rfl⟩, kw_85, by decide +kernel⟩
set_option maxRecDepth 100000 in
set_option maxHeartbeats 1000000 in
theorem tX6_kind_0 {p : Program} {l : Launch} {e : Env} {s : State} {m : MethodId} {args : Array Value} {below : List Frame} {meth : Method} {c : Code} {g : CG} {S0 : CS} (C : CC p s m args meth c yX6_kind cX6_kind 1 (some .int)) (K : cK g s) (G : cSep g)  (S : CS) (v0 : Option Nat) {w : Int32 × CS} (hv : fX6_kind S v0 = some w) : CJ p l e s m args below meth c 1 0 0 0 g S0 (some (.int w.1)) w.2 0 [(0, va_rf v0)] [] S 0 0 := by
  unfold fX6_kind at hv
  refine jr_bipush (v := 14) C dX6_kind_0 (by decide) ?_
  exact jc_iret C K dX6_kind_2 (Option.some.inj hv) ⟨Nat.le_refl _, Nat.le_refl _⟩
theorem pX6_kind (l : Launch) {g : CG} (G : cSep g)   (S : CS) (v0 : Option Nat) {w : Int32 × CS} (hw : fX6_kind S v0 = some w)  : cC l yX6_kind cX6_kind 1 (some .int) 0 0 0 g [va_rf v0] S (some (.int w.1)) w.2 := cC_of (lv := [(0, va_rf v0)]) (by decide +kernel) (by simp [lg_sl, cat_rf, cat_i, cat_l, cat_r]) (by simp [lv_args, cat_rf, cat_i, cat_l, cat_r]) (fun C K => tX6_kind_0 C K G  S v0 hw)
/-! RobotCell$Wrist.kind()I -/
def fX10_kind (S : CS) (v0 : Option Nat) : Option (Int32 × CS) :=
  some (15, S)
theorem oX10_kind : ok_c yX10_kind cX10_kind 1 (some .int) 0 (.instanceMethod yX10_kind) := ⟨kw_626, ⟨kw_625, rfl⟩, kw_86, by decide +kernel⟩
set_option maxRecDepth 100000 in
set_option maxHeartbeats 1000000 in
theorem tX10_kind_0 {p : Program} {l : Launch} {e : Env} {s : State} {m : MethodId} {args : Array Value} {below : List Frame} {meth : Method} {c : Code} {g : CG} {S0 : CS} (C : CC p s m args meth c yX10_kind cX10_kind 1 (some .int)) (K : cK g s) (G : cSep g)  (S : CS) (v0 : Option Nat) {w : Int32 × CS} (hv : fX10_kind S v0 = some w) : CJ p l e s m args below meth c 1 0 0 0 g S0 (some (.int w.1)) w.2 0 [(0, va_rf v0)] [] S 0 0 := by
  unfold fX10_kind at hv
  refine jr_bipush (v := 15) C dX10_kind_0 (by decide) ?_
  exact jc_iret C K dX10_kind_2 (Option.some.inj hv) ⟨Nat.le_refl _, Nat.le_refl _⟩
theorem pX10_kind (l : Launch) {g : CG} (G : cSep g)   (S : CS) (v0 : Option Nat) {w : Int32 × CS} (hw : fX10_kind S v0 = some w)  : cC l yX10_kind cX10_kind 1 (some .int) 0 0 0 g [va_rf v0] S (some (.int w.1)) w.2 := cC_of (lv := [(0, va_rf v0)]) (by decide +kernel) (by simp [lg_sl, cat_rf, cat_i, cat_l, cat_r]) (by simp [lv_args, cat_rf, cat_i, cat_l, cat_r]) (fun C K => tX10_kind_0 C K G  S v0 hw)
/-! RobotCell$Probe.kind()I -/
def fX5_kind (S : CS) (v0 : Option Nat) : Option (Int32 × CS) :=
  some (16, S)
theorem oX5_kind : ok_c yX5_kind cX5_kind 1 (some .int) 0 (.instanceMethod yX5_kind) := ⟨kw_619, ⟨kw_618, rfl⟩, kw_87, by decide +kernel⟩
set_option maxRecDepth 100000 in
set_option maxHeartbeats 1000000 in
theorem tX5_kind_0 {p : Program} {l : Launch} {e : Env} {s : State} {m : MethodId} {args : Array Value} {below : List Frame} {meth : Method} {c : Code} {g : CG} {S0 : CS} (C : CC p s m args meth c yX5_kind cX5_kind 1 (some .int)) (K : cK g s) (G : cSep g)  (S : CS) (v0 : Option Nat) {w : Int32 × CS} (hv : fX5_kind S v0 = some w) : CJ p l e s m args below meth c 1 0 0 0 g S0 (some (.int w.1)) w.2 0 [(0, va_rf v0)] [] S 0 0 := by
  unfold fX5_kind at hv
  refine jr_bipush (v := 16) C dX5_kind_0 (by decide) ?_
  exact jc_iret C K dX5_kind_2 (Option.some.inj hv) ⟨Nat.le_refl _, Nat.le_refl _⟩
theorem pX5_kind (l : Launch) {g : CG} (G : cSep g)   (S : CS) (v0 : Option Nat) {w : Int32 × CS} (hw : fX5_kind S v0 = some w)  : cC l yX5_kind cX5_kind 1 (some .int) 0 0 0 g [va_rf v0] S (some (.int w.1)) w.2 := cC_of (lv := [(0, va_rf v0)]) (by decide +kernel) (by simp [lg_sl, cat_rf, cat_i, cat_l, cat_r]) (by simp [lv_args, cat_rf, cat_i, cat_l, cat_r]) (fun C K => tX5_kind_0 C K G  S v0 hw)
/-! RobotCell$Pose.chainLength()I -/
def fX4_chainLength_25 (S : CS) (v1 : Int32) : Option (Int32 × CS) :=
  some (v1, S)
def fX4_chainLength_17 (r4 : CS → Int32 → Option Nat → Option (Int32 × CS)) (S : CS) (v1 : Int32) (v2 : Option Nat) : Option (Int32 × CS) :=
  Option.bind (tgN S v2 [2, 1] 4) (fun c18 => r4 S v1 c18)
def fX4_chainLength_4  : Nat → CS → Int32 → Option Nat → Option (Int32 × CS)
  | 0, _, _, _ => none
  | q + 1, S, v1, v2 => onul v2 (fX4_chainLength_25 S v1) (fun _ => if 100 ≤ v1 then fX4_chainLength_25 S v1 else fX4_chainLength_17 (fX4_chainLength_4  q) S (v1 + 1) v2)
def fX4_chainLength (S : CS) (v0 : Option Nat) : Option (Int32 × CS) :=
  fX4_chainLength_4 120 S 0 v0
theorem oX4_chainLength : ok_c yX4_chainLength cX4_chainLength 3 (some .int) 0 (.instanceMethod yX4_chainLength) := ⟨kw_719, ⟨kw_715, rfl⟩, kw_81, by decide +kernel⟩
set_option maxRecDepth 100000 in
set_option maxHeartbeats 1000000 in
theorem tX4_chainLength_25 {p : Program} {l : Launch} {e : Env} {s : State} {m : MethodId} {args : Array Value} {below : List Frame} {meth : Method} {c : Code} {g : CG} {S0 : CS} (C : CC p s m args meth c yX4_chainLength cX4_chainLength 3 (some .int)) (K : cK g s) (G : cSep g)  (S : CS) (v1 : Int32) {w : Int32 × CS} (hv : fX4_chainLength_25 S v1 = some w) : CJ p l e s m args below meth c 3 0 0 0 g S0 (some (.int w.1)) w.2 25 [(1, .int v1)] [] S 0 0 := by
  unfold fX4_chainLength_25 at hv
  refine jr_iload_n C dX4_chainLength_25 rfl 0 rfl ?_
  exact jc_iret C K dX4_chainLength_26 (Option.some.inj hv) ⟨Nat.le_refl _, Nat.le_refl _⟩
set_option maxRecDepth 100000 in
set_option maxHeartbeats 1000000 in
theorem tX4_chainLength_17 {p : Program} {l : Launch} {e : Env} {s : State} {m : MethodId} {args : Array Value} {below : List Frame} {meth : Method} {c : Code} {g : CG} {S0 : CS} (C : CC p s m args meth c yX4_chainLength cX4_chainLength 3 (some .int)) (K : cK g s) (G : cSep g)  (r4 : CS → Int32 → Option Nat → Option (Int32 × CS)) (h4 : ∀ (S : CS) (v1 : Int32) (v2 : Option Nat) (w : Int32 × CS), r4 S v1 v2 = some w → CJ p l e s m args below meth c 3 0 0 0 g S0 (some (.int w.1)) w.2 4 [(1, .int v1), (2, va_rf v2)] [] S 0 0) (S : CS) (v1 : Int32) (v2 : Option Nat) {w : Int32 × CS} (hv : fX4_chainLength_17 r4 S v1 v2 = some w) : CJ p l e s m args below meth c 3 0 0 0 g S0 (some (.int w.1)) w.2 17 [(1, .int v1), (2, va_rf v2)] [] S 0 0 := by
  unfold fX4_chainLength_17 at hv
  refine jr_naload_n C dX4_chainLength_17 rfl 1 rfl ?_
  obtain ⟨c18, hc18, hv⟩ := Option.bind_eq_some_iff.mp hv
  refine jc_tg C K (tgN_F hc18) fg_Pose_after kw_686 dX4_chainLength_18 ?_
  refine jr_nastore_n (lv' := [(2, va_rf c18), (1, .int v1)]) C dX4_chainLength_21 rfl (by decide) rfl ?_
  refine jr_goto (tgt := 4) C dX4_chainLength_22 rfl ?_
  exact jr_sub [1, 0] rfl (h4 S v1 c18 _ hv)
set_option maxRecDepth 100000 in
set_option maxHeartbeats 1000000 in
theorem tX4_chainLength_4 {p : Program} {l : Launch} {e : Env} {s : State} {m : MethodId} {args : Array Value} {below : List Frame} {meth : Method} {c : Code} {g : CG} {S0 : CS} (C : CC p s m args meth c yX4_chainLength cX4_chainLength 3 (some .int)) (K : cK g s) (G : cSep g)  : ∀ (q : Nat) (S : CS) (v1 : Int32) (v2 : Option Nat) (w : Int32 × CS), fX4_chainLength_4  q S v1 v2 = some w → CJ p l e s m args below meth c 3 0 0 0 g S0 (some (.int w.1)) w.2 4 [(1, .int v1), (2, va_rf v2)] [] S 0 0 := by
  intro q
  induction q with
  | zero => intro S v1 v2 w hv; exact absurd hv (by simp [fX4_chainLength_4])
  | succ q ih =>
    intro S v1 v2 w hv
    unfold fX4_chainLength_4 at hv
    refine jr_naload_n C dX4_chainLength_4 rfl 1 rfl ?_
    refine jr_ifnull (tgt := 25) C dX4_chainLength_5 rfl (fun q5 => ?_) (fun a5 q5 => ?_)
    · have hv := (onul_n q5).symm.trans hv
      exact jr_sub [0] rfl (tX4_chainLength_25 C K G  S v1 hv)
    · have hv := (onul_s q5).symm.trans hv
      refine jr_iload_n C dX4_chainLength_8 rfl 0 rfl ?_
      refine jr_bipush (v := 100) C dX4_chainLength_9 (by decide) ?_
      refine jr_icmp_ge (tgt := 25) C dX4_chainLength_11 rfl (fun q11 => ?_) (fun q11 => ?_)
      · have hv := (if_pos q11).symm.trans hv
        exact jr_sub [0] rfl (tX4_chainLength_25 C K G  S v1 hv)
      · have hv := (if_neg q11).symm.trans hv
        refine jr_iinc (v := (v1 + 1)) (lv' := [(1, .int (v1 + 1)), (2, va_rf v2)]) C dX4_chainLength_14 0 rfl rfl (by decide) rfl ?_
        exact tX4_chainLength_17 C K G (fX4_chainLength_4  q) ih S (v1 + 1) v2 hv
set_option maxRecDepth 100000 in
set_option maxHeartbeats 1000000 in
theorem tX4_chainLength_0 {p : Program} {l : Launch} {e : Env} {s : State} {m : MethodId} {args : Array Value} {below : List Frame} {meth : Method} {c : Code} {g : CG} {S0 : CS} (C : CC p s m args meth c yX4_chainLength cX4_chainLength 3 (some .int)) (K : cK g s) (G : cSep g)  (S : CS) (v0 : Option Nat) {w : Int32 × CS} (hv : fX4_chainLength S v0 = some w) : CJ p l e s m args below meth c 3 0 0 0 g S0 (some (.int w.1)) w.2 0 [(0, va_rf v0)] [] S 0 0 := by
  unfold fX4_chainLength at hv
  refine jr_iconst (v := 0) C dX4_chainLength_0 (by decide) ?_
  refine jr_istore_n (lv' := [(1, .int 0), (0, va_rf v0)]) C dX4_chainLength_1 rfl (by decide) (by simp [cat_rf, cat_i, cat_l, cat_r]) ?_
  refine jr_naload_n C dX4_chainLength_2 rfl 1 rfl ?_
  refine jr_nastore_n (lv' := [(2, va_rf v0), (1, .int 0), (0, va_rf v0)]) C dX4_chainLength_3 rfl (by decide) rfl ?_
  exact jr_sub [1, 0] rfl (tX4_chainLength_4 C K G  120 S 0 v0 _ hv)
theorem pX4_chainLength (l : Launch) {g : CG} (G : cSep g)   (S : CS) (v0 : Option Nat) {w : Int32 × CS} (hw : fX4_chainLength S v0 = some w)  : cC l yX4_chainLength cX4_chainLength 3 (some .int) 0 0 0 g [va_rf v0] S (some (.int w.1)) w.2 := cC_of (lv := [(0, va_rf v0)]) (by decide +kernel) (by simp [lg_sl, cat_rf, cat_i, cat_l, cat_r]) (by simp [lv_args, cat_rf, cat_i, cat_l, cat_r]) (fun C K => tX4_chainLength_0 C K G  S v0 hw)
/-! RobotCell$Pose.apartFrom(LRobotCell$Pose;)J -/
def fX4_apartFrom_25 (S : CS) (v2 : Int64) (v4 : Int64) : Option (Int64 × CS) :=
  Option.bind (fX2_root (fX2_add (fX2_multiply v2 v2) (fX2_multiply v4 v4))) (fun c40 => some (c40, S))
def fX4_apartFrom_12 (S : CS) (v0 : Option Nat) (v1 : Option Nat) (v2 : Int64) : Option (Int64 × CS) :=
  Option.bind (tgJ S v0 [2, 1] 1) (fun c13 => Option.bind (tgJ S v1 [2, 1] 1) (fun c17 => fX4_apartFrom_25 S v2 (fX2_subtract c13 c17)))
def fX4_apartFrom (S : CS) (v0 : Option Nat) (v1 : Option Nat) : Option (Int64 × CS) :=
  Option.bind (tgJ S v0 [2, 1] 0) (fun c1 => Option.bind (tgJ S v1 [2, 1] 0) (fun c5 => fX4_apartFrom_12 S v0 v1 (fX2_subtract c1 c5)))
theorem oX4_apartFrom : ok_c yX4_apartFrom cX4_apartFrom 6 (some .long) 1 (.instanceMethod yX4_apartFrom) := ⟨kw_739, ⟨kw_735, rfl⟩, kw_81, by decide +kernel⟩
set_option maxRecDepth 100000 in
set_option maxHeartbeats 1000000 in
theorem tX4_apartFrom_25 {p : Program} {l : Launch} {e : Env} {s : State} {m : MethodId} {args : Array Value} {below : List Frame} {meth : Method} {c : Code} {g : CG} {S0 : CS} (C : CC p s m args meth c yX4_apartFrom cX4_apartFrom 6 (some .long)) (K : cK g s) (G : cSep g)  (S : CS) (v2 : Int64) (v4 : Int64) {w : Int64 × CS} (hv : fX4_apartFrom_25 S v2 v4 = some w) : CJ p l e s m args below meth c 6 6 0 0 g S0 (some (.long w.1)) w.2 25 [(2, .long v2), (4, .long v4)] [] S 0 0 := by
  unfold fX4_apartFrom_25 at hv
  refine jr_lload_n C dX4_apartFrom_25 rfl 0 rfl ?_
  refine jr_lload_n C dX4_apartFrom_26 rfl 0 rfl ?_
  refine jr_pcall (rest := []) C (pX2_multiply l v2 v2) oX2_multiply kw_741 rfl ⟨Nat.le_of_ble_eq_true rfl, Nat.le_of_ble_eq_true rfl⟩ rfl (Nat.le_of_ble_eq_true rfl) ⟨Nat.zero_le _, Nat.zero_le _⟩ dX4_apartFrom_27 ?_
  refine jr_lload C dX4_apartFrom_30 1 rfl ?_
  refine jr_lload C dX4_apartFrom_32 1 rfl ?_
  refine jr_pcall (rest := [.long (fX2_multiply v2 v2)]) C (pX2_multiply l v4 v4) oX2_multiply kw_741 rfl ⟨Nat.le_of_ble_eq_true rfl, Nat.le_of_ble_eq_true rfl⟩ rfl (Nat.le_of_ble_eq_true rfl) ⟨Nat.zero_le _, Nat.zero_le _⟩ dX4_apartFrom_34 ?_
  refine jr_pcall (rest := []) C (pX2_add l (fX2_multiply v2 v2) (fX2_multiply v4 v4)) oX2_add kw_742 rfl ⟨Nat.le_of_ble_eq_true rfl, Nat.le_of_ble_eq_true rfl⟩ rfl (Nat.le_of_ble_eq_true rfl) ⟨Nat.zero_le _, Nat.zero_le _⟩ dX4_apartFrom_37 ?_
  obtain ⟨c40, hc40, hv⟩ := Option.bind_eq_some_iff.mp hv
  refine jr_pcall (rest := []) C (pX2_root l (fX2_add (fX2_multiply v2 v2) (fX2_multiply v4 v4)) hc40) oX2_root kw_743 rfl ⟨Nat.le_of_ble_eq_true rfl, Nat.le_of_ble_eq_true rfl⟩ rfl (Nat.le_of_ble_eq_true rfl) ⟨Nat.zero_le _, Nat.zero_le _⟩ dX4_apartFrom_40 ?_
  exact jc_lret C K dX4_apartFrom_43 (Option.some.inj hv) ⟨Nat.le_refl _, Nat.le_refl _⟩
set_option maxRecDepth 100000 in
set_option maxHeartbeats 1000000 in
theorem tX4_apartFrom_12 {p : Program} {l : Launch} {e : Env} {s : State} {m : MethodId} {args : Array Value} {below : List Frame} {meth : Method} {c : Code} {g : CG} {S0 : CS} (C : CC p s m args meth c yX4_apartFrom cX4_apartFrom 6 (some .long)) (K : cK g s) (G : cSep g)  (S : CS) (v0 : Option Nat) (v1 : Option Nat) (v2 : Int64) {w : Int64 × CS} (hv : fX4_apartFrom_12 S v0 v1 v2 = some w) : CJ p l e s m args below meth c 6 6 0 0 g S0 (some (.long w.1)) w.2 12 [(0, va_rf v0), (1, va_rf v1), (2, .long v2)] [] S 0 0 := by
  unfold fX4_apartFrom_12 at hv
  refine jr_naload_n C dX4_apartFrom_12 rfl 0 rfl ?_
  obtain ⟨c13, hc13, hv⟩ := Option.bind_eq_some_iff.mp hv
  refine jc_tg C K (tgJ_F hc13) fg_Pose_y kw_680 dX4_apartFrom_13 ?_
  refine jr_naload_n C dX4_apartFrom_16 rfl 1 rfl ?_
  obtain ⟨c17, hc17, hv⟩ := Option.bind_eq_some_iff.mp hv
  refine jc_tg C K (tgJ_F hc17) fg_Pose_y kw_680 dX4_apartFrom_17 ?_
  refine jr_pcall (rest := []) C (pX2_subtract l c13 c17) oX2_subtract kw_740 rfl ⟨Nat.le_of_ble_eq_true rfl, Nat.le_of_ble_eq_true rfl⟩ rfl (Nat.le_of_ble_eq_true rfl) ⟨Nat.zero_le _, Nat.zero_le _⟩ dX4_apartFrom_20 ?_
  refine jr_lstore (lv' := [(4, .long (fX2_subtract c13 c17)), (0, va_rf v0), (1, va_rf v1), (2, .long v2)]) C dX4_apartFrom_23 (by decide) rfl ?_
  exact jr_sub [3, 0] rfl (tX4_apartFrom_25 C K G  S v2 (fX2_subtract c13 c17) hv)
set_option maxRecDepth 100000 in
set_option maxHeartbeats 1000000 in
theorem tX4_apartFrom_0 {p : Program} {l : Launch} {e : Env} {s : State} {m : MethodId} {args : Array Value} {below : List Frame} {meth : Method} {c : Code} {g : CG} {S0 : CS} (C : CC p s m args meth c yX4_apartFrom cX4_apartFrom 6 (some .long)) (K : cK g s) (G : cSep g)  (S : CS) (v0 : Option Nat) (v1 : Option Nat) {w : Int64 × CS} (hv : fX4_apartFrom S v0 v1 = some w) : CJ p l e s m args below meth c 6 6 0 0 g S0 (some (.long w.1)) w.2 0 [(0, va_rf v0), (1, va_rf v1)] [] S 0 0 := by
  unfold fX4_apartFrom at hv
  refine jr_naload_n C dX4_apartFrom_0 rfl 0 rfl ?_
  obtain ⟨c1, hc1, hv⟩ := Option.bind_eq_some_iff.mp hv
  refine jc_tg C K (tgJ_F hc1) fg_Pose_x kw_678 dX4_apartFrom_1 ?_
  refine jr_naload_n C dX4_apartFrom_4 rfl 1 rfl ?_
  obtain ⟨c5, hc5, hv⟩ := Option.bind_eq_some_iff.mp hv
  refine jc_tg C K (tgJ_F hc5) fg_Pose_x kw_678 dX4_apartFrom_5 ?_
  refine jr_pcall (rest := []) C (pX2_subtract l c1 c5) oX2_subtract kw_740 rfl ⟨Nat.le_of_ble_eq_true rfl, Nat.le_of_ble_eq_true rfl⟩ rfl (Nat.le_of_ble_eq_true rfl) ⟨Nat.zero_le _, Nat.zero_le _⟩ dX4_apartFrom_8 ?_
  refine jr_lstore_n (lv' := [(2, .long (fX2_subtract c1 c5)), (0, va_rf v0), (1, va_rf v1)]) C dX4_apartFrom_11 rfl (by decide) (by simp [cat_rf, cat_i, cat_l, cat_r]) ?_
  exact jr_sub [1, 2, 0] rfl (tX4_apartFrom_12 C K G  S v0 v1 (fX2_subtract c1 c5) hv)
theorem pX4_apartFrom (l : Launch) {g : CG} (G : cSep g)   (S : CS) (v0 : Option Nat) (v1 : Option Nat) {w : Int64 × CS} (hw : fX4_apartFrom S v0 v1 = some w)  : cC l yX4_apartFrom cX4_apartFrom 6 (some .long) 6 0 0 g [va_rf v0, va_rf v1] S (some (.long w.1)) w.2 := cC_of (lv := [(0, va_rf v0), (1, va_rf v1)]) (by decide +kernel) (by simp [lg_sl, cat_rf, cat_i, cat_l, cat_r]) (by simp [lv_args, cat_rf, cat_i, cat_l, cat_r]) (fun C K => tX4_apartFrom_0 C K G  S v0 v1 hw)
/-! RobotCell$Row.length()I -/
def fX8_length (S : CS) (v0 : Option Nat) : Option (Int32 × CS) :=
  Option.bind (tgI S v0 [5] 1) (fun c1 => some (c1, S))
theorem oX8_length : ok_c yX8_length cX8_length 1 (some .int) 0 (.instanceMethod yX8_length) := ⟨kw_565, ⟨kw_563, rfl⟩, kw_79, by decide +kernel⟩
set_option maxRecDepth 100000 in
set_option maxHeartbeats 1000000 in
theorem tX8_length_0 {p : Program} {l : Launch} {e : Env} {s : State} {m : MethodId} {args : Array Value} {below : List Frame} {meth : Method} {c : Code} {g : CG} {S0 : CS} (C : CC p s m args meth c yX8_length cX8_length 1 (some .int)) (K : cK g s) (G : cSep g)  (S : CS) (v0 : Option Nat) {w : Int32 × CS} (hv : fX8_length S v0 = some w) : CJ p l e s m args below meth c 1 0 0 0 g S0 (some (.int w.1)) w.2 0 [(0, va_rf v0)] [] S 0 0 := by
  unfold fX8_length at hv
  refine jr_naload_n C dX8_length_0 rfl 0 rfl ?_
  obtain ⟨c1, hc1, hv⟩ := Option.bind_eq_some_iff.mp hv
  refine jc_tg C K (tgI_F hc1) fg_Row_length kw_519 dX8_length_1 ?_
  exact jc_iret C K dX8_length_4 (Option.some.inj hv) ⟨Nat.le_refl _, Nat.le_refl _⟩
theorem pX8_length (l : Launch) {g : CG} (G : cSep g)   (S : CS) (v0 : Option Nat) {w : Int32 × CS} (hw : fX8_length S v0 = some w)  : cC l yX8_length cX8_length 1 (some .int) 0 0 0 g [va_rf v0] S (some (.int w.1)) w.2 := cC_of (lv := [(0, va_rf v0)]) (by decide +kernel) (by simp [lg_sl, cat_rf, cat_i, cat_l, cat_r]) (by simp [lv_args, cat_rf, cat_i, cat_l, cat_r]) (fun C K => tX8_length_0 C K G  S v0 hw)
/-! RobotCell$Row.holdsThings()Z -/
def fX8_holdsThings (S : CS) (v0 : Option Nat) : Option (Int32 × CS) :=
  Option.bind (tgI S v0 [5] 0) (fun c1 => if c1 < 8 then some (0, S) else some (1, S))
theorem oX8_holdsThings : ok_c yX8_holdsThings cX8_holdsThings 1 (some .boolean) 0 (.instanceMethod yX8_holdsThings) := ⟨kw_577, ⟨kw_575, rfl⟩, kw_79, by decide +kernel⟩
set_option maxRecDepth 100000 in
set_option maxHeartbeats 1000000 in
theorem tX8_holdsThings_0 {p : Program} {l : Launch} {e : Env} {s : State} {m : MethodId} {args : Array Value} {below : List Frame} {meth : Method} {c : Code} {g : CG} {S0 : CS} (C : CC p s m args meth c yX8_holdsThings cX8_holdsThings 1 (some .boolean)) (K : cK g s) (G : cSep g)  (S : CS) (v0 : Option Nat) {w : Int32 × CS} (hv : fX8_holdsThings S v0 = some w) : CJ p l e s m args below meth c 1 0 0 0 g S0 (some (.int w.1)) w.2 0 [(0, va_rf v0)] [] S 0 0 := by
  unfold fX8_holdsThings at hv
  refine jr_naload_n C dX8_holdsThings_0 rfl 0 rfl ?_
  obtain ⟨c1, hc1, hv⟩ := Option.bind_eq_some_iff.mp hv
  refine jc_tg C K (tgI_F hc1) fg_Row_kind kw_518 dX8_holdsThings_1 ?_
  refine jr_bipush (v := 8) C dX8_holdsThings_4 (by decide) ?_
  refine jr_icmp_lt (tgt := 13) C dX8_holdsThings_6 rfl (fun q6 => ?_) (fun q6 => ?_)
  · have hv := (if_pos q6).symm.trans hv
    refine jr_iconst (v := 0) C dX8_holdsThings_13 (by decide) ?_
    exact jc_zret C K dX8_holdsThings_14 rfl (Option.some.inj hv) ⟨Nat.le_refl _, Nat.le_refl _⟩
  · have hv := (if_neg q6).symm.trans hv
    refine jr_iconst (v := 1) C dX8_holdsThings_9 (by decide) ?_
    refine jr_goto (tgt := 14) C dX8_holdsThings_10 rfl ?_
    exact jc_zret C K dX8_holdsThings_14 rfl (Option.some.inj hv) ⟨Nat.le_refl _, Nat.le_refl _⟩
theorem pX8_holdsThings (l : Launch) {g : CG} (G : cSep g)   (S : CS) (v0 : Option Nat) {w : Int32 × CS} (hw : fX8_holdsThings S v0 = some w)  : cC l yX8_holdsThings cX8_holdsThings 1 (some .boolean) 0 0 0 g [va_rf v0] S (some (.int w.1)) w.2 := cC_of (lv := [(0, va_rf v0)]) (by decide +kernel) (by simp [lg_sl, cat_rf, cat_i, cat_l, cat_r]) (by simp [lv_args, cat_rf, cat_i, cat_l, cat_r]) (fun C K => tX8_holdsThings_0 C K G  S v0 hw)
/-! RobotCell$Row.has(I)Z -/
def fX8_has_16 (S : CS) : Option (Int32 × CS) :=
  some (0, S)
def fX8_has (S : CS) (v0 : Option Nat) (v1 : Int32) : Option (Int32 × CS) :=
  if v1 < 0 then fX8_has_16 S else (Option.bind (tgI S v0 [5] 1) (fun c6 => if c6 ≤ v1 then fX8_has_16 S else some (1, S)))
theorem oX8_has : ok_c yX8_has cX8_has 2 (some .boolean) 1 (.instanceMethod yX8_has) := ⟨kw_638, ⟨kw_636, rfl⟩, kw_79, by decide +kernel⟩
set_option maxRecDepth 100000 in
set_option maxHeartbeats 1000000 in
theorem tX8_has_16 {p : Program} {l : Launch} {e : Env} {s : State} {m : MethodId} {args : Array Value} {below : List Frame} {meth : Method} {c : Code} {g : CG} {S0 : CS} (C : CC p s m args meth c yX8_has cX8_has 2 (some .boolean)) (K : cK g s) (G : cSep g)  (S : CS) {w : Int32 × CS} (hv : fX8_has_16 S = some w) : CJ p l e s m args below meth c 2 0 0 0 g S0 (some (.int w.1)) w.2 16 [] [] S 0 0 := by
  unfold fX8_has_16 at hv
  refine jr_iconst (v := 0) C dX8_has_16 (by decide) ?_
  exact jc_zret C K dX8_has_17 rfl (Option.some.inj hv) ⟨Nat.le_refl _, Nat.le_refl _⟩
set_option maxRecDepth 100000 in
set_option maxHeartbeats 1000000 in
theorem tX8_has_0 {p : Program} {l : Launch} {e : Env} {s : State} {m : MethodId} {args : Array Value} {below : List Frame} {meth : Method} {c : Code} {g : CG} {S0 : CS} (C : CC p s m args meth c yX8_has cX8_has 2 (some .boolean)) (K : cK g s) (G : cSep g)  (S : CS) (v0 : Option Nat) (v1 : Int32) {w : Int32 × CS} (hv : fX8_has S v0 v1 = some w) : CJ p l e s m args below meth c 2 0 0 0 g S0 (some (.int w.1)) w.2 0 [(0, va_rf v0), (1, .int v1)] [] S 0 0 := by
  unfold fX8_has at hv
  refine jr_iload_n C dX8_has_0 rfl 1 rfl ?_
  refine jr_if_lt (tgt := 16) C dX8_has_1 rfl (fun q1 => ?_) (fun q1 => ?_)
  · have hv := (if_pos q1).symm.trans hv
    exact jr_sub [] rfl (tX8_has_16 C K G  S hv)
  · have hv := (if_neg q1).symm.trans hv
    refine jr_iload_n C dX8_has_4 rfl 1 rfl ?_
    refine jr_naload_n C dX8_has_5 rfl 0 rfl ?_
    obtain ⟨c6, hc6, hv⟩ := Option.bind_eq_some_iff.mp hv
    refine jc_tg C K (tgI_F hc6) fg_Row_length kw_519 dX8_has_6 ?_
    refine jr_icmp_ge (tgt := 16) C dX8_has_9 rfl (fun q9 => ?_) (fun q9 => ?_)
    · have hv := (if_pos q9).symm.trans hv
      exact jr_sub [] rfl (tX8_has_16 C K G  S hv)
    · have hv := (if_neg q9).symm.trans hv
      refine jr_iconst (v := 1) C dX8_has_12 (by decide) ?_
      refine jr_goto (tgt := 17) C dX8_has_13 rfl ?_
      exact jc_zret C K dX8_has_17 rfl (Option.some.inj hv) ⟨Nat.le_refl _, Nat.le_refl _⟩
theorem pX8_has (l : Launch) {g : CG} (G : cSep g)   (S : CS) (v0 : Option Nat) (v1 : Int32) {w : Int32 × CS} (hw : fX8_has S v0 v1 = some w)  : cC l yX8_has cX8_has 2 (some .boolean) 0 0 0 g [va_rf v0, .int v1] S (some (.int w.1)) w.2 := cC_of (lv := [(0, va_rf v0), (1, .int v1)]) (by decide +kernel) (by simp [lg_sl, cat_rf, cat_i, cat_l, cat_r]) (by simp [lv_args, cat_rf, cat_i, cat_l, cat_r]) (fun C K => tX8_has_0 C K G  S v0 v1 hw)
/-! RobotCell$Row.hasRange(II)Z -/
def fX8_hasRange_26 (S : CS) : Option (Int32 × CS) :=
  some (0, S)
def fX8_hasRange (S : CS) (v0 : Option Nat) (v1 : Int32) (v2 : Int32) : Option (Int32 × CS) :=
  if v1 < 0 then fX8_hasRange_26 S else (if v2 < 0 then fX8_hasRange_26 S else (Option.bind (tgI S v0 [5] 1) (fun c14 => if c14.toInt64 < (v1.toInt64 + v2.toInt64) then fX8_hasRange_26 S else some (1, S))))
theorem oX8_hasRange : ok_c yX8_hasRange cX8_hasRange 3 (some .boolean) 2 (.instanceMethod yX8_hasRange) := ⟨kw_581, ⟨kw_579, rfl⟩, kw_79, by decide +kernel⟩
set_option maxRecDepth 100000 in
set_option maxHeartbeats 1000000 in
theorem tX8_hasRange_26 {p : Program} {l : Launch} {e : Env} {s : State} {m : MethodId} {args : Array Value} {below : List Frame} {meth : Method} {c : Code} {g : CG} {S0 : CS} (C : CC p s m args meth c yX8_hasRange cX8_hasRange 3 (some .boolean)) (K : cK g s) (G : cSep g)  (S : CS) {w : Int32 × CS} (hv : fX8_hasRange_26 S = some w) : CJ p l e s m args below meth c 3 0 0 0 g S0 (some (.int w.1)) w.2 26 [] [] S 0 0 := by
  unfold fX8_hasRange_26 at hv
  refine jr_iconst (v := 0) C dX8_hasRange_26 (by decide) ?_
  exact jc_zret C K dX8_hasRange_27 rfl (Option.some.inj hv) ⟨Nat.le_refl _, Nat.le_refl _⟩
set_option maxRecDepth 100000 in
set_option maxHeartbeats 1000000 in
theorem tX8_hasRange_0 {p : Program} {l : Launch} {e : Env} {s : State} {m : MethodId} {args : Array Value} {below : List Frame} {meth : Method} {c : Code} {g : CG} {S0 : CS} (C : CC p s m args meth c yX8_hasRange cX8_hasRange 3 (some .boolean)) (K : cK g s) (G : cSep g)  (S : CS) (v0 : Option Nat) (v1 : Int32) (v2 : Int32) {w : Int32 × CS} (hv : fX8_hasRange S v0 v1 v2 = some w) : CJ p l e s m args below meth c 3 0 0 0 g S0 (some (.int w.1)) w.2 0 [(0, va_rf v0), (1, .int v1), (2, .int v2)] [] S 0 0 := by
  unfold fX8_hasRange at hv
  refine jr_iload_n C dX8_hasRange_0 rfl 1 rfl ?_
  refine jr_if_lt (tgt := 26) C dX8_hasRange_1 rfl (fun q1 => ?_) (fun q1 => ?_)
  · have hv := (if_pos q1).symm.trans hv
    exact jr_sub [] rfl (tX8_hasRange_26 C K G  S hv)
  · have hv := (if_neg q1).symm.trans hv
    refine jr_iload_n C dX8_hasRange_4 rfl 2 rfl ?_
    refine jr_if_lt (tgt := 26) C dX8_hasRange_5 rfl (fun q5 => ?_) (fun q5 => ?_)
    · have hv := (if_pos q5).symm.trans hv
      exact jr_sub [] rfl (tX8_hasRange_26 C K G  S hv)
    · have hv := (if_neg q5).symm.trans hv
      refine jr_iload_n C dX8_hasRange_8 rfl 1 rfl ?_
      refine jr_i2l C dX8_hasRange_9 ?_
      refine jr_iload_n C dX8_hasRange_10 rfl 2 rfl ?_
      refine jr_i2l C dX8_hasRange_11 ?_
      refine jr_ladd C dX8_hasRange_12 ?_
      refine jr_naload_n C dX8_hasRange_13 rfl 0 rfl ?_
      obtain ⟨c14, hc14, hv⟩ := Option.bind_eq_some_iff.mp hv
      refine jc_tg C K (tgI_F hc14) fg_Row_length kw_519 dX8_hasRange_14 ?_
      refine jr_i2l C dX8_hasRange_17 ?_
      refine jr_lcmp_gt (tgt := 26) C dX8_hasRange_18 dX8_hasRange_19 rfl (fun q18 => ?_) (fun q18 => ?_)
      · have hv := (if_pos q18).symm.trans hv
        exact jr_sub [] rfl (tX8_hasRange_26 C K G  S hv)
      · have hv := (if_neg q18).symm.trans hv
        refine jr_iconst (v := 1) C dX8_hasRange_22 (by decide) ?_
        refine jr_goto (tgt := 27) C dX8_hasRange_23 rfl ?_
        exact jc_zret C K dX8_hasRange_27 rfl (Option.some.inj hv) ⟨Nat.le_refl _, Nat.le_refl _⟩
theorem pX8_hasRange (l : Launch) {g : CG} (G : cSep g)   (S : CS) (v0 : Option Nat) (v1 : Int32) (v2 : Int32) {w : Int32 × CS} (hw : fX8_hasRange S v0 v1 v2 = some w)  : cC l yX8_hasRange cX8_hasRange 3 (some .boolean) 0 0 0 g [va_rf v0, .int v1, .int v2] S (some (.int w.1)) w.2 := cC_of (lv := [(0, va_rf v0), (1, .int v1), (2, .int v2)]) (by decide +kernel) (by simp [lg_sl, cat_rf, cat_i, cat_l, cat_r]) (by simp [lv_args, cat_rf, cat_i, cat_l, cat_r]) (fun C K => tX8_hasRange_0 C K G  S v0 v1 v2 hw)
/-! RobotCell$Row.passesFor(I)Z -/
def fX8_passesFor_23 (S : CS) : Option (Int32 × CS) :=
  some (1, S)
def fX8_passesFor_27 (S : CS) : Option (Int32 × CS) :=
  some (0, S)
def fX8_passesFor (S : CS) (v0 : Option Nat) (v1 : Int32) : Option (Int32 × CS) :=
  Option.bind (tgI S v0 [5] 0) (fun c1 => if c1 = v1 then fX8_passesFor_23 S else (if v1 = 8 then (Option.bind (tgI S v0 [5] 0) (fun c15 => if c15 = 9 then fX8_passesFor_23 S else fX8_passesFor_27 S)) else fX8_passesFor_27 S))
theorem oX8_passesFor : ok_c yX8_passesFor cX8_passesFor 2 (some .boolean) 1 (.instanceMethod yX8_passesFor) := ⟨kw_634, ⟨kw_632, rfl⟩, kw_79, by decide +kernel⟩
set_option maxRecDepth 100000 in
set_option maxHeartbeats 1000000 in
theorem tX8_passesFor_23 {p : Program} {l : Launch} {e : Env} {s : State} {m : MethodId} {args : Array Value} {below : List Frame} {meth : Method} {c : Code} {g : CG} {S0 : CS} (C : CC p s m args meth c yX8_passesFor cX8_passesFor 2 (some .boolean)) (K : cK g s) (G : cSep g)  (S : CS) {w : Int32 × CS} (hv : fX8_passesFor_23 S = some w) : CJ p l e s m args below meth c 2 0 0 0 g S0 (some (.int w.1)) w.2 23 [] [] S 0 0 := by
  unfold fX8_passesFor_23 at hv
  refine jr_iconst (v := 1) C dX8_passesFor_23 (by decide) ?_
  refine jr_goto (tgt := 28) C dX8_passesFor_24 rfl ?_
  exact jc_zret C K dX8_passesFor_28 rfl (Option.some.inj hv) ⟨Nat.le_refl _, Nat.le_refl _⟩
set_option maxRecDepth 100000 in
set_option maxHeartbeats 1000000 in
theorem tX8_passesFor_27 {p : Program} {l : Launch} {e : Env} {s : State} {m : MethodId} {args : Array Value} {below : List Frame} {meth : Method} {c : Code} {g : CG} {S0 : CS} (C : CC p s m args meth c yX8_passesFor cX8_passesFor 2 (some .boolean)) (K : cK g s) (G : cSep g)  (S : CS) {w : Int32 × CS} (hv : fX8_passesFor_27 S = some w) : CJ p l e s m args below meth c 2 0 0 0 g S0 (some (.int w.1)) w.2 27 [] [] S 0 0 := by
  unfold fX8_passesFor_27 at hv
  refine jr_iconst (v := 0) C dX8_passesFor_27 (by decide) ?_
  exact jc_zret C K dX8_passesFor_28 rfl (Option.some.inj hv) ⟨Nat.le_refl _, Nat.le_refl _⟩
set_option maxRecDepth 100000 in
set_option maxHeartbeats 1000000 in
theorem tX8_passesFor_0 {p : Program} {l : Launch} {e : Env} {s : State} {m : MethodId} {args : Array Value} {below : List Frame} {meth : Method} {c : Code} {g : CG} {S0 : CS} (C : CC p s m args meth c yX8_passesFor cX8_passesFor 2 (some .boolean)) (K : cK g s) (G : cSep g)  (S : CS) (v0 : Option Nat) (v1 : Int32) {w : Int32 × CS} (hv : fX8_passesFor S v0 v1 = some w) : CJ p l e s m args below meth c 2 0 0 0 g S0 (some (.int w.1)) w.2 0 [(0, va_rf v0), (1, .int v1)] [] S 0 0 := by
  unfold fX8_passesFor at hv
  refine jr_naload_n C dX8_passesFor_0 rfl 0 rfl ?_
  obtain ⟨c1, hc1, hv⟩ := Option.bind_eq_some_iff.mp hv
  refine jc_tg C K (tgI_F hc1) fg_Row_kind kw_518 dX8_passesFor_1 ?_
  refine jr_iload_n C dX8_passesFor_4 rfl 1 rfl ?_
  refine jr_icmp_eq (tgt := 23) C dX8_passesFor_5 rfl (fun q5 => ?_) (fun q5 => ?_)
  · have hv := (if_pos q5).symm.trans hv
    exact jr_sub [] rfl (tX8_passesFor_23 C K G  S hv)
  · have hv := (if_neg q5).symm.trans hv
    refine jr_iload_n C dX8_passesFor_8 rfl 1 rfl ?_
    refine jr_bipush (v := 8) C dX8_passesFor_9 (by decide) ?_
    refine jr_icmp_ne (tgt := 27) C dX8_passesFor_11 rfl (fun q11 => ?_) (fun q11 => ?_)
    · have hv := (if_neg q11).symm.trans hv
      exact jr_sub [] rfl (tX8_passesFor_27 C K G  S hv)
    · have hv := (if_pos q11).symm.trans hv
      refine jr_naload_n C dX8_passesFor_14 rfl 0 rfl ?_
      obtain ⟨c15, hc15, hv⟩ := Option.bind_eq_some_iff.mp hv
      refine jc_tg C K (tgI_F hc15) fg_Row_kind kw_518 dX8_passesFor_15 ?_
      refine jr_bipush (v := 9) C dX8_passesFor_18 (by decide) ?_
      refine jr_icmp_ne (tgt := 27) C dX8_passesFor_20 rfl (fun q20 => ?_) (fun q20 => ?_)
      · have hv := (if_neg q20).symm.trans hv
        exact jr_sub [] rfl (tX8_passesFor_27 C K G  S hv)
      · have hv := (if_pos q20).symm.trans hv
        exact jr_sub [] rfl (tX8_passesFor_23 C K G  S hv)
theorem pX8_passesFor (l : Launch) {g : CG} (G : cSep g)   (S : CS) (v0 : Option Nat) (v1 : Int32) {w : Int32 × CS} (hw : fX8_passesFor S v0 v1 = some w)  : cC l yX8_passesFor cX8_passesFor 2 (some .boolean) 0 0 0 g [va_rf v0, .int v1] S (some (.int w.1)) w.2 := cC_of (lv := [(0, va_rf v0), (1, .int v1)]) (by decide +kernel) (by simp [lg_sl, cat_rf, cat_i, cat_l, cat_r]) (by simp [lv_args, cat_rf, cat_i, cat_l, cat_r]) (fun C K => tX8_passesFor_0 C K G  S v0 v1 hw)
/-! RobotCell$Row.isAlike(LRobotCell$Row;)Z -/
def fX8_isAlike_25 (S : CS) : Option (Int32 × CS) :=
  some (1, S)
def fX8_isAlike_29 (S : CS) : Option (Int32 × CS) :=
  some (0, S)
def fX8_isAlike (S : CS) (v0 : Option Nat) (v1 : Option Nat) : Option (Int32 × CS) :=
  Option.bind (tgI S v0 [5] 0) (fun c1 => Option.bind (tgI S v1 [5] 0) (fun c5 => if c1 = c5 then fX8_isAlike_25 S else (if isKx S v0 [5] = true then (Option.bind (fX8_holdsThings S v0) (fun c12 => if c12.1 = 0 then fX8_isAlike_29 c12.2 else (if isKx c12.2 v1 [5] = true then (Option.bind (fX8_holdsThings c12.2 v1) (fun c19 => if c19.1 = 0 then fX8_isAlike_29 c19.2 else fX8_isAlike_25 c19.2)) else none))) else none)))
theorem oX8_isAlike : ok_c yX8_isAlike cX8_isAlike 2 (some .boolean) 1 (.instanceMethod yX8_isAlike) := ⟨kw_573, ⟨kw_571, rfl⟩, kw_79, by decide +kernel⟩
set_option maxRecDepth 100000 in
set_option maxHeartbeats 1000000 in
theorem tX8_isAlike_25 {p : Program} {l : Launch} {e : Env} {s : State} {m : MethodId} {args : Array Value} {below : List Frame} {meth : Method} {c : Code} {g : CG} {S0 : CS} (C : CC p s m args meth c yX8_isAlike cX8_isAlike 2 (some .boolean)) (K : cK g s) (G : cSep g)  (S : CS) {w : Int32 × CS} (hv : fX8_isAlike_25 S = some w) : CJ p l e s m args below meth c 2 1 0 0 g S0 (some (.int w.1)) w.2 25 [] [] S 0 0 := by
  unfold fX8_isAlike_25 at hv
  refine jr_iconst (v := 1) C dX8_isAlike_25 (by decide) ?_
  refine jr_goto (tgt := 30) C dX8_isAlike_26 rfl ?_
  exact jc_zret C K dX8_isAlike_30 rfl (Option.some.inj hv) ⟨Nat.le_refl _, Nat.le_refl _⟩
set_option maxRecDepth 100000 in
set_option maxHeartbeats 1000000 in
theorem tX8_isAlike_29 {p : Program} {l : Launch} {e : Env} {s : State} {m : MethodId} {args : Array Value} {below : List Frame} {meth : Method} {c : Code} {g : CG} {S0 : CS} (C : CC p s m args meth c yX8_isAlike cX8_isAlike 2 (some .boolean)) (K : cK g s) (G : cSep g)  (S : CS) {w : Int32 × CS} (hv : fX8_isAlike_29 S = some w) : CJ p l e s m args below meth c 2 1 0 0 g S0 (some (.int w.1)) w.2 29 [] [] S 0 0 := by
  unfold fX8_isAlike_29 at hv
  refine jr_iconst (v := 0) C dX8_isAlike_29 (by decide) ?_
  exact jc_zret C K dX8_isAlike_30 rfl (Option.some.inj hv) ⟨Nat.le_refl _, Nat.le_refl _⟩
set_option maxRecDepth 100000 in
set_option maxHeartbeats 1000000 in
theorem tX8_isAlike_0 {p : Program} {l : Launch} {e : Env} {s : State} {m : MethodId} {args : Array Value} {below : List Frame} {meth : Method} {c : Code} {g : CG} {S0 : CS} (C : CC p s m args meth c yX8_isAlike cX8_isAlike 2 (some .boolean)) (K : cK g s) (G : cSep g)  (S : CS) (v0 : Option Nat) (v1 : Option Nat) {w : Int32 × CS} (hv : fX8_isAlike S v0 v1 = some w) : CJ p l e s m args below meth c 2 1 0 0 g S0 (some (.int w.1)) w.2 0 [(0, va_rf v0), (1, va_rf v1)] [] S 0 0 := by
  unfold fX8_isAlike at hv
  refine jr_naload_n C dX8_isAlike_0 rfl 0 rfl ?_
  obtain ⟨c1, hc1, hv⟩ := Option.bind_eq_some_iff.mp hv
  refine jc_tg C K (tgI_F hc1) fg_Row_kind kw_518 dX8_isAlike_1 ?_
  refine jr_naload_n C dX8_isAlike_4 rfl 1 rfl ?_
  obtain ⟨c5, hc5, hv⟩ := Option.bind_eq_some_iff.mp hv
  refine jc_tg C K (tgI_F hc5) fg_Row_kind kw_518 dX8_isAlike_5 ?_
  refine jr_icmp_eq (tgt := 25) C dX8_isAlike_8 rfl (fun q8 => ?_) (fun q8 => ?_)
  · have hv := (if_pos q8).symm.trans hv
    exact jr_sub [] rfl (tX8_isAlike_25 C K G  S hv)
  · have hv := (if_neg q8).symm.trans hv
    refine jr_naload_n C dX8_isAlike_11 rfl 0 rfl ?_
    by_cases z12_5 : isKx S v0 [5] = true
    case pos =>
      have hv := (if_pos z12_5).symm.trans hv
      obtain ⟨c12, hc12, hv⟩ := Option.bind_eq_some_iff.mp hv
      refine jc_callT (ci := 5) (rest := []) C K (pX8_holdsThings l G S v0  hc12) z12_5 rfl oX8_holdsThings kw_576 kw_574 rfl ⟨Nat.le_of_ble_eq_true rfl, Nat.le_of_ble_eq_true rfl⟩ rfl (Nat.le_of_ble_eq_true rfl) ⟨Nat.le_refl _, Nat.le_refl _⟩ dX8_isAlike_12 ?_
      refine jr_if_eq (tgt := 29) C dX8_isAlike_15 rfl (fun q15 => ?_) (fun q15 => ?_)
      · have hv := (if_pos q15).symm.trans hv
        exact jr_sub [] rfl (tX8_isAlike_29 C K G  c12.2 hv)
      · have hv := (if_neg q15).symm.trans hv
        refine jr_naload_n C dX8_isAlike_18 rfl 1 rfl ?_
        by_cases z19_5 : isKx c12.2 v1 [5] = true
        case pos =>
          have hv := (if_pos z19_5).symm.trans hv
          obtain ⟨c19, hc19, hv⟩ := Option.bind_eq_some_iff.mp hv
          refine jc_callT (ci := 5) (rest := []) C K (pX8_holdsThings l G c12.2 v1  hc19) z19_5 rfl oX8_holdsThings kw_576 kw_574 rfl ⟨Nat.le_of_ble_eq_true rfl, Nat.le_of_ble_eq_true rfl⟩ rfl (Nat.le_of_ble_eq_true rfl) ⟨Nat.le_refl _, Nat.le_refl _⟩ dX8_isAlike_19 ?_
          refine jr_if_eq (tgt := 29) C dX8_isAlike_22 rfl (fun q22 => ?_) (fun q22 => ?_)
          · have hv := (if_pos q22).symm.trans hv
            exact jr_sub [] rfl (tX8_isAlike_29 C K G  c19.2 hv)
          · have hv := (if_neg q22).symm.trans hv
            exact jr_sub [] rfl (tX8_isAlike_25 C K G  c19.2 hv)
        have hv := (if_neg z19_5).symm.trans hv
        exact op_none hv
    have hv := (if_neg z12_5).symm.trans hv
    exact op_none hv
theorem pX8_isAlike (l : Launch) {g : CG} (G : cSep g)   (S : CS) (v0 : Option Nat) (v1 : Option Nat) {w : Int32 × CS} (hw : fX8_isAlike S v0 v1 = some w)  : cC l yX8_isAlike cX8_isAlike 2 (some .boolean) 1 0 0 g [va_rf v0, va_rf v1] S (some (.int w.1)) w.2 := cC_of (lv := [(0, va_rf v0), (1, va_rf v1)]) (by decide +kernel) (by simp [lg_sl, cat_rf, cat_i, cat_l, cat_r]) (by simp [lv_args, cat_rf, cat_i, cat_l, cat_r]) (fun C K => tX8_isAlike_0 C K G  S v0 v1 hw)
/-! RobotCell$Row.valueAt(I)J -/
def fX8_valueAt_22 (S : CS) : Option (Int64 × CS) :=
  some (0, S)
def fX8_valueAt (S : CS) (v0 : Option Nat) (v1 : Int32) : Option (Int64 × CS) :=
  if v1 < 0 then fX8_valueAt_22 S else (Option.bind (tgN S v0 [5] 2) (fun c6 => Option.bind (tlen S c6) (fun c9 => if c9 ≤ v1 then fX8_valueAt_22 S else (Option.bind (tgN S v0 [5] 2) (fun c14 => Option.bind (talJ S c14 v1) (fun c18 => some (c18, S)))))))
theorem oX8_valueAt : ok_c yX8_valueAt cX8_valueAt 2 (some .long) 1 (.instanceMethod yX8_valueAt) := ⟨kw_644, ⟨kw_642, rfl⟩, kw_79, by decide +kernel⟩
set_option maxRecDepth 100000 in
set_option maxHeartbeats 1000000 in
theorem tX8_valueAt_22 {p : Program} {l : Launch} {e : Env} {s : State} {m : MethodId} {args : Array Value} {below : List Frame} {meth : Method} {c : Code} {g : CG} {S0 : CS} (C : CC p s m args meth c yX8_valueAt cX8_valueAt 2 (some .long)) (K : cK g s) (G : cSep g)  (S : CS) {w : Int64 × CS} (hv : fX8_valueAt_22 S = some w) : CJ p l e s m args below meth c 2 0 0 0 g S0 (some (.long w.1)) w.2 22 [] [] S 0 0 := by
  unfold fX8_valueAt_22 at hv
  refine jr_lconst (v := 0) C dX8_valueAt_22 (by decide) ?_
  exact jc_lret C K dX8_valueAt_23 (Option.some.inj hv) ⟨Nat.le_refl _, Nat.le_refl _⟩
set_option maxRecDepth 100000 in
set_option maxHeartbeats 1000000 in
theorem tX8_valueAt_0 {p : Program} {l : Launch} {e : Env} {s : State} {m : MethodId} {args : Array Value} {below : List Frame} {meth : Method} {c : Code} {g : CG} {S0 : CS} (C : CC p s m args meth c yX8_valueAt cX8_valueAt 2 (some .long)) (K : cK g s) (G : cSep g)  (S : CS) (v0 : Option Nat) (v1 : Int32) {w : Int64 × CS} (hv : fX8_valueAt S v0 v1 = some w) : CJ p l e s m args below meth c 2 0 0 0 g S0 (some (.long w.1)) w.2 0 [(0, va_rf v0), (1, .int v1)] [] S 0 0 := by
  unfold fX8_valueAt at hv
  refine jr_iload_n C dX8_valueAt_0 rfl 1 rfl ?_
  refine jr_if_lt (tgt := 22) C dX8_valueAt_1 rfl (fun q1 => ?_) (fun q1 => ?_)
  · have hv := (if_pos q1).symm.trans hv
    exact jr_sub [] rfl (tX8_valueAt_22 C K G  S hv)
  · have hv := (if_neg q1).symm.trans hv
    refine jr_iload_n C dX8_valueAt_4 rfl 1 rfl ?_
    refine jr_naload_n C dX8_valueAt_5 rfl 0 rfl ?_
    obtain ⟨c6, hc6, hv⟩ := Option.bind_eq_some_iff.mp hv
    refine jc_tg C K (tgN_F hc6) fg_Row_values kw_520 dX8_valueAt_6 ?_
    obtain ⟨c9, hc9, hv⟩ := Option.bind_eq_some_iff.mp hv
    refine jc_tlen C K hc9 dX8_valueAt_9 ?_
    refine jr_icmp_ge (tgt := 22) C dX8_valueAt_10 rfl (fun q10 => ?_) (fun q10 => ?_)
    · have hv := (if_pos q10).symm.trans hv
      exact jr_sub [] rfl (tX8_valueAt_22 C K G  S hv)
    · have hv := (if_neg q10).symm.trans hv
      refine jr_naload_n C dX8_valueAt_13 rfl 0 rfl ?_
      obtain ⟨c14, hc14, hv⟩ := Option.bind_eq_some_iff.mp hv
      refine jc_tg C K (tgN_F hc14) fg_Row_values kw_520 dX8_valueAt_14 ?_
      refine jr_iload_n C dX8_valueAt_17 rfl 1 rfl ?_
      obtain ⟨c18, hc18, hv⟩ := Option.bind_eq_some_iff.mp hv
      refine jc_talJ C K hc18 dX8_valueAt_18 ?_
      refine jr_goto (tgt := 23) C dX8_valueAt_19 rfl ?_
      exact jc_lret C K dX8_valueAt_23 (Option.some.inj hv) ⟨Nat.le_refl _, Nat.le_refl _⟩
theorem pX8_valueAt (l : Launch) {g : CG} (G : cSep g)   (S : CS) (v0 : Option Nat) (v1 : Int32) {w : Int64 × CS} (hw : fX8_valueAt S v0 v1 = some w)  : cC l yX8_valueAt cX8_valueAt 2 (some .long) 0 0 0 g [va_rf v0, .int v1] S (some (.long w.1)) w.2 := cC_of (lv := [(0, va_rf v0), (1, .int v1)]) (by decide +kernel) (by simp [lg_sl, cat_rf, cat_i, cat_l, cat_r]) (by simp [lv_args, cat_rf, cat_i, cat_l, cat_r]) (fun C K => tX8_valueAt_0 C K G  S v0 v1 hw)
/-! RobotCell$Row.narrowed(J)J -/
def fX8_narrowed_85 (S : CS) (v1 : Int64) : Option (Int64 × CS) :=
  some (v1, S)
def fX8_narrowed (S : CS) (v0 : Option Nat) (v1 : Int64) : Option (Int64 × CS) :=
  Option.bind (tgI S v0 [5] 0) (fun c1 => if c1 = 0 then (if v1 = 0 then some (0, S) else some (1, S)) else if c1 = 1 then some (((v1.toInt32.toUInt32 % 65536).toInt32).toInt64, S) else if c1 = 2 then some (v1.toInt32.toInt8.toInt32.toInt64, S) else if c1 = 3 then some (v1.toInt32.toInt16.toInt32.toInt64, S) else if c1 = 4 then some (v1.toInt32.toInt64, S) else if c1 = 5 then fX8_narrowed_85 S v1 else if c1 = 6 then some ((fX2_toBits32 v1).toInt64, S) else fX8_narrowed_85 S v1)
theorem oX8_narrowed : ok_c yX8_narrowed cX8_narrowed 3 (some .long) 1 (.instanceMethod yX8_narrowed) := ⟨kw_657, ⟨kw_656, rfl⟩, kw_79, by decide +kernel⟩
set_option maxRecDepth 100000 in
set_option maxHeartbeats 1000000 in
theorem tX8_narrowed_85 {p : Program} {l : Launch} {e : Env} {s : State} {m : MethodId} {args : Array Value} {below : List Frame} {meth : Method} {c : Code} {g : CG} {S0 : CS} (C : CC p s m args meth c yX8_narrowed cX8_narrowed 3 (some .long)) (K : cK g s) (G : cSep g)  (S : CS) (v1 : Int64) {w : Int64 × CS} (hv : fX8_narrowed_85 S v1 = some w) : CJ p l e s m args below meth c 3 4 0 0 g S0 (some (.long w.1)) w.2 85 [(1, .long v1)] [] S 0 0 := by
  unfold fX8_narrowed_85 at hv
  refine jr_lload_n C dX8_narrowed_85 rfl 0 rfl ?_
  exact jc_lret C K dX8_narrowed_86 (Option.some.inj hv) ⟨Nat.le_refl _, Nat.le_refl _⟩
set_option maxRecDepth 100000 in
set_option maxHeartbeats 1000000 in
theorem tX8_narrowed_0 {p : Program} {l : Launch} {e : Env} {s : State} {m : MethodId} {args : Array Value} {below : List Frame} {meth : Method} {c : Code} {g : CG} {S0 : CS} (C : CC p s m args meth c yX8_narrowed cX8_narrowed 3 (some .long)) (K : cK g s) (G : cSep g)  (S : CS) (v0 : Option Nat) (v1 : Int64) {w : Int64 × CS} (hv : fX8_narrowed S v0 v1 = some w) : CJ p l e s m args below meth c 3 4 0 0 g S0 (some (.long w.1)) w.2 0 [(0, va_rf v0), (1, .long v1)] [] S 0 0 := by
  unfold fX8_narrowed at hv
  refine jr_naload_n C dX8_narrowed_0 rfl 0 rfl ?_
  obtain ⟨c1, hc1, hv⟩ := Option.bind_eq_some_iff.mp hv
  refine jc_tg C K (tgI_F hc1) fg_Row_kind kw_518 dX8_narrowed_1 ?_
  by_cases q4_0 : c1 = 0
  · have hv := (if_pos q4_0).symm.trans hv
    refine jr_tableIn (off := 44) (tgt := 48) C dX8_narrowed_4 (by rw [q4_0]; decide) (by rw [q4_0]; decide) (by rw [q4_0]; rfl) rfl ?_
    refine jr_lload_n C dX8_narrowed_48 rfl 1 rfl ?_
    refine jr_lconst (v := 0) C dX8_narrowed_49 (by decide) ?_
    refine jr_lcmp_eq (tgt := 58) C dX8_narrowed_50 dX8_narrowed_51 rfl (fun q50 => ?_) (fun q50 => ?_)
    · have hv := (if_pos q50).symm.trans hv
      refine jr_lconst (v := 0) C dX8_narrowed_58 (by decide) ?_
      exact jc_lret C K dX8_narrowed_59 (Option.some.inj hv) ⟨Nat.le_refl _, Nat.le_refl _⟩
    · have hv := (if_neg q50).symm.trans hv
      refine jr_lconst (v := 1) C dX8_narrowed_54 (by decide) ?_
      refine jr_goto (tgt := 59) C dX8_narrowed_55 rfl ?_
      exact jc_lret C K dX8_narrowed_59 (Option.some.inj hv) ⟨Nat.le_refl _, Nat.le_refl _⟩
  have hv := (if_neg q4_0).symm.trans hv
  by_cases q4_1 : c1 = 1
  · have hv := (if_pos q4_1).symm.trans hv
    refine jr_tableIn (off := 56) (tgt := 60) C dX8_narrowed_4 (by rw [q4_1]; decide) (by rw [q4_1]; decide) (by rw [q4_1]; rfl) rfl ?_
    refine jr_lload_n C dX8_narrowed_60 rfl 1 rfl ?_
    refine jr_l2i C dX8_narrowed_61 ?_
    refine jr_i2c C dX8_narrowed_62 ?_
    refine jr_i2l C dX8_narrowed_63 ?_
    exact jc_lret C K dX8_narrowed_64 (Option.some.inj hv) ⟨Nat.le_refl _, Nat.le_refl _⟩
  have hv := (if_neg q4_1).symm.trans hv
  by_cases q4_2 : c1 = 2
  · have hv := (if_pos q4_2).symm.trans hv
    refine jr_tableIn (off := 61) (tgt := 65) C dX8_narrowed_4 (by rw [q4_2]; decide) (by rw [q4_2]; decide) (by rw [q4_2]; rfl) rfl ?_
    refine jr_lload_n C dX8_narrowed_65 rfl 1 rfl ?_
    refine jr_l2i C dX8_narrowed_66 ?_
    refine jr_i2b C dX8_narrowed_67 ?_
    refine jr_i2l C dX8_narrowed_68 ?_
    exact jc_lret C K dX8_narrowed_69 (Option.some.inj hv) ⟨Nat.le_refl _, Nat.le_refl _⟩
  have hv := (if_neg q4_2).symm.trans hv
  by_cases q4_3 : c1 = 3
  · have hv := (if_pos q4_3).symm.trans hv
    refine jr_tableIn (off := 66) (tgt := 70) C dX8_narrowed_4 (by rw [q4_3]; decide) (by rw [q4_3]; decide) (by rw [q4_3]; rfl) rfl ?_
    refine jr_lload_n C dX8_narrowed_70 rfl 1 rfl ?_
    refine jr_l2i C dX8_narrowed_71 ?_
    refine jr_i2s C dX8_narrowed_72 ?_
    refine jr_i2l C dX8_narrowed_73 ?_
    exact jc_lret C K dX8_narrowed_74 (Option.some.inj hv) ⟨Nat.le_refl _, Nat.le_refl _⟩
  have hv := (if_neg q4_3).symm.trans hv
  by_cases q4_4 : c1 = 4
  · have hv := (if_pos q4_4).symm.trans hv
    refine jr_tableIn (off := 71) (tgt := 75) C dX8_narrowed_4 (by rw [q4_4]; decide) (by rw [q4_4]; decide) (by rw [q4_4]; rfl) rfl ?_
    refine jr_lload_n C dX8_narrowed_75 rfl 1 rfl ?_
    refine jr_l2i C dX8_narrowed_76 ?_
    refine jr_i2l C dX8_narrowed_77 ?_
    exact jc_lret C K dX8_narrowed_78 (Option.some.inj hv) ⟨Nat.le_refl _, Nat.le_refl _⟩
  have hv := (if_neg q4_4).symm.trans hv
  by_cases q4_5 : c1 = 5
  · have hv := (if_pos q4_5).symm.trans hv
    refine jr_tableIn (off := 81) (tgt := 85) C dX8_narrowed_4 (by rw [q4_5]; decide) (by rw [q4_5]; decide) (by rw [q4_5]; rfl) rfl ?_
    exact jr_sub [1] rfl (tX8_narrowed_85 C K G  S v1 hv)
  have hv := (if_neg q4_5).symm.trans hv
  by_cases q4_6 : c1 = 6
  · have hv := (if_pos q4_6).symm.trans hv
    refine jr_tableIn (off := 75) (tgt := 79) C dX8_narrowed_4 (by rw [q4_6]; decide) (by rw [q4_6]; decide) (by rw [q4_6]; rfl) rfl ?_
    refine jr_lload_n C dX8_narrowed_79 rfl 1 rfl ?_
    refine jr_pcall (rest := []) C (pX2_toBits32 l v1) oX2_toBits32 kw_658 rfl ⟨Nat.le_of_ble_eq_true rfl, Nat.le_of_ble_eq_true rfl⟩ rfl (Nat.le_of_ble_eq_true rfl) ⟨Nat.zero_le _, Nat.zero_le _⟩ dX8_narrowed_80 ?_
    refine jr_i2l C dX8_narrowed_83 ?_
    exact jc_lret C K dX8_narrowed_84 (Option.some.inj hv) ⟨Nat.le_refl _, Nat.le_refl _⟩
  have hv := (if_neg q4_6).symm.trans hv
  refine jr_tableOut (tgt := 85) C dX8_narrowed_4 (by have := sw_ne (a := 0) q4_0 (by decide); have := sw_ne (a := 1) q4_1 (by decide); have := sw_ne (a := 2) q4_2 (by decide); have := sw_ne (a := 3) q4_3 (by decide); have := sw_ne (a := 4) q4_4 (by decide); have := sw_ne (a := 5) q4_5 (by decide); have := sw_ne (a := 6) q4_6 (by decide); omega) rfl ?_
  exact jr_sub [1] rfl (tX8_narrowed_85 C K G  S v1 hv)
theorem pX8_narrowed (l : Launch) {g : CG} (G : cSep g)   (S : CS) (v0 : Option Nat) (v1 : Int64) {w : Int64 × CS} (hw : fX8_narrowed S v0 v1 = some w)  : cC l yX8_narrowed cX8_narrowed 3 (some .long) 4 0 0 g [va_rf v0, .long v1] S (some (.long w.1)) w.2 := cC_of (lv := [(0, va_rf v0), (1, .long v1)]) (by decide +kernel) (by simp [lg_sl, cat_rf, cat_i, cat_l, cat_r]) (by simp [lv_args, cat_rf, cat_i, cat_l, cat_r]) (fun C K => tX8_narrowed_0 C K G  S v0 v1 hw)
/-! RobotCell$Row.setValue(IJ)V -/
def fX8_setValue (S : CS) (v0 : Option Nat) (v1 : Int32) (v2 : Int64) : Option (CS) :=
  if v1 < 0 then some S else (Option.bind (tgN S v0 [5] 2) (fun c6 => Option.bind (tlen S c6) (fun c9 => if c9 ≤ v1 then some S else (Option.bind (tgN S v0 [5] 2) (fun c14 => if isKx S v0 [5] = true then (Option.bind (fX8_narrowed S v0 v2) (fun c20 => Option.bind (tasJ c20.2 c14 v1 c20.1) (fun c23 => some c23))) else none)))))
theorem oX8_setValue : ok_c yX8_setValue cX8_setValue 4 none 2 (.instanceMethod yX8_setValue) := ⟨kw_653, ⟨kw_651, rfl⟩, kw_79, by decide +kernel⟩
set_option maxRecDepth 100000 in
set_option maxHeartbeats 1000000 in
theorem tX8_setValue_0 {p : Program} {l : Launch} {e : Env} {s : State} {m : MethodId} {args : Array Value} {below : List Frame} {meth : Method} {c : Code} {g : CG} {S0 : CS} (C : CC p s m args meth c yX8_setValue cX8_setValue 4 none) (K : cK g s) (G : cSep g)  (S : CS) (v0 : Option Nat) (v1 : Int32) (v2 : Int64) {w : CS} (hv : fX8_setValue S v0 v1 v2 = some w) : CJ p l e s m args below meth c 4 5 0 0 g S0 none w 0 [(0, va_rf v0), (1, .int v1), (2, .long v2)] [] S 0 0 := by
  unfold fX8_setValue at hv
  refine jr_iload_n C dX8_setValue_0 rfl 1 rfl ?_
  refine jr_if_lt (tgt := 24) C dX8_setValue_1 rfl (fun q1 => ?_) (fun q1 => ?_)
  · have hv := (if_pos q1).symm.trans hv
    exact jc_vret C K dX8_setValue_24 (Option.some.inj hv) ⟨Nat.le_refl _, Nat.le_refl _⟩
  · have hv := (if_neg q1).symm.trans hv
    refine jr_iload_n C dX8_setValue_4 rfl 1 rfl ?_
    refine jr_naload_n C dX8_setValue_5 rfl 0 rfl ?_
    obtain ⟨c6, hc6, hv⟩ := Option.bind_eq_some_iff.mp hv
    refine jc_tg C K (tgN_F hc6) fg_Row_values kw_520 dX8_setValue_6 ?_
    obtain ⟨c9, hc9, hv⟩ := Option.bind_eq_some_iff.mp hv
    refine jc_tlen C K hc9 dX8_setValue_9 ?_
    refine jr_icmp_ge (tgt := 24) C dX8_setValue_10 rfl (fun q10 => ?_) (fun q10 => ?_)
    · have hv := (if_pos q10).symm.trans hv
      exact jc_vret C K dX8_setValue_24 (Option.some.inj hv) ⟨Nat.le_refl _, Nat.le_refl _⟩
    · have hv := (if_neg q10).symm.trans hv
      refine jr_naload_n C dX8_setValue_13 rfl 0 rfl ?_
      obtain ⟨c14, hc14, hv⟩ := Option.bind_eq_some_iff.mp hv
      refine jc_tg C K (tgN_F hc14) fg_Row_values kw_520 dX8_setValue_14 ?_
      refine jr_iload_n C dX8_setValue_17 rfl 1 rfl ?_
      refine jr_naload_n C dX8_setValue_18 rfl 0 rfl ?_
      refine jr_lload_n C dX8_setValue_19 rfl 2 rfl ?_
      by_cases z20_5 : isKx S v0 [5] = true
      case pos =>
        have hv := (if_pos z20_5).symm.trans hv
        obtain ⟨c20, hc20, hv⟩ := Option.bind_eq_some_iff.mp hv
        refine jc_callT (ci := 5) (rest := [.int v1, va_rf c14]) C K (pX8_narrowed l G S v0 v2 hc20) z20_5 rfl oX8_narrowed kw_29 kw_654 rfl ⟨Nat.le_of_ble_eq_true rfl, Nat.le_of_ble_eq_true rfl⟩ rfl (by simp [cat_rf, cat_i, cat_l, cat_r]) ⟨Nat.le_refl _, Nat.le_refl _⟩ dX8_setValue_20 ?_
        obtain ⟨c23, hc23, hv⟩ := Option.bind_eq_some_iff.mp hv
        refine jc_tasJ C K hc23 dX8_setValue_23 ?_
        exact jc_vret C K dX8_setValue_24 (Option.some.inj hv) ⟨Nat.le_refl _, Nat.le_refl _⟩
      have hv := (if_neg z20_5).symm.trans hv
      exact op_none hv
theorem pX8_setValue (l : Launch) {g : CG} (G : cSep g)   (S : CS) (v0 : Option Nat) (v1 : Int32) (v2 : Int64) {w : CS} (hw : fX8_setValue S v0 v1 v2 = some w)  : cC l yX8_setValue cX8_setValue 4 none 5 0 0 g [va_rf v0, .int v1, .long v2] S none w := cC_of (lv := [(0, va_rf v0), (1, .int v1), (2, .long v2)]) (by decide +kernel) (by simp [lg_sl, cat_rf, cat_i, cat_l, cat_r]) (by simp [lv_args, cat_rf, cat_i, cat_l, cat_r]) (fun C K => tX8_setValue_0 C K G  S v0 v1 v2 hw)
/-! RobotCell$Row.partAt(I)LRobotCell$Thing; -/
def fX8_partAt_22 (S : CS) : Option (Option Nat × CS) :=
  some (none, S)
def fX8_partAt (S : CS) (v0 : Option Nat) (v1 : Int32) : Option (Option Nat × CS) :=
  if v1 < 0 then fX8_partAt_22 S else (Option.bind (tgN S v0 [5] 3) (fun c6 => Option.bind (tlen S c6) (fun c9 => if c9 ≤ v1 then fX8_partAt_22 S else (Option.bind (tgN S v0 [5] 3) (fun c14 => Option.bind (talQ S c14 v1) (fun c18 => some (c18, S)))))))
theorem oX8_partAt : ok_c yX8_partAt cX8_partAt 2 (some (.object RX9)) 1 (.instanceMethod yX8_partAt) := ⟨kw_594, ⟨kw_592, rfl⟩, kw_79, by decide +kernel⟩
set_option maxRecDepth 100000 in
set_option maxHeartbeats 1000000 in
theorem tX8_partAt_22 {p : Program} {l : Launch} {e : Env} {s : State} {m : MethodId} {args : Array Value} {below : List Frame} {meth : Method} {c : Code} {g : CG} {S0 : CS} (C : CC p s m args meth c yX8_partAt cX8_partAt 2 (some (.object RX9))) (K : cK g s) (G : cSep g)  (S : CS) {w : Option Nat × CS} (hv : fX8_partAt_22 S = some w) : CJ p l e s m args below meth c 2 0 0 0 g S0 (some (va_rf w.1)) w.2 22 [] [] S 0 0 := by
  unfold fX8_partAt_22 at hv
  refine jr_null C dX8_partAt_22 ?_
  exact jc_aret C K dX8_partAt_23 (Option.some.inj hv) ⟨Nat.le_refl _, Nat.le_refl _⟩
set_option maxRecDepth 100000 in
set_option maxHeartbeats 1000000 in
theorem tX8_partAt_0 {p : Program} {l : Launch} {e : Env} {s : State} {m : MethodId} {args : Array Value} {below : List Frame} {meth : Method} {c : Code} {g : CG} {S0 : CS} (C : CC p s m args meth c yX8_partAt cX8_partAt 2 (some (.object RX9))) (K : cK g s) (G : cSep g)  (S : CS) (v0 : Option Nat) (v1 : Int32) {w : Option Nat × CS} (hv : fX8_partAt S v0 v1 = some w) : CJ p l e s m args below meth c 2 0 0 0 g S0 (some (va_rf w.1)) w.2 0 [(0, va_rf v0), (1, .int v1)] [] S 0 0 := by
  unfold fX8_partAt at hv
  refine jr_iload_n C dX8_partAt_0 rfl 1 rfl ?_
  refine jr_if_lt (tgt := 22) C dX8_partAt_1 rfl (fun q1 => ?_) (fun q1 => ?_)
  · have hv := (if_pos q1).symm.trans hv
    exact jr_sub [] rfl (tX8_partAt_22 C K G  S hv)
  · have hv := (if_neg q1).symm.trans hv
    refine jr_iload_n C dX8_partAt_4 rfl 1 rfl ?_
    refine jr_naload_n C dX8_partAt_5 rfl 0 rfl ?_
    obtain ⟨c6, hc6, hv⟩ := Option.bind_eq_some_iff.mp hv
    refine jc_tg C K (tgN_F hc6) fg_Row_parts kw_521 dX8_partAt_6 ?_
    obtain ⟨c9, hc9, hv⟩ := Option.bind_eq_some_iff.mp hv
    refine jc_tlen C K hc9 dX8_partAt_9 ?_
    refine jr_icmp_ge (tgt := 22) C dX8_partAt_10 rfl (fun q10 => ?_) (fun q10 => ?_)
    · have hv := (if_pos q10).symm.trans hv
      exact jr_sub [] rfl (tX8_partAt_22 C K G  S hv)
    · have hv := (if_neg q10).symm.trans hv
      refine jr_naload_n C dX8_partAt_13 rfl 0 rfl ?_
      obtain ⟨c14, hc14, hv⟩ := Option.bind_eq_some_iff.mp hv
      refine jc_tg C K (tgN_F hc14) fg_Row_parts kw_521 dX8_partAt_14 ?_
      refine jr_iload_n C dX8_partAt_17 rfl 1 rfl ?_
      obtain ⟨c18, hc18, hv⟩ := Option.bind_eq_some_iff.mp hv
      refine jc_talQ C K hc18 dX8_partAt_18 ?_
      refine jr_goto (tgt := 23) C dX8_partAt_19 rfl ?_
      exact jc_aret C K dX8_partAt_23 (Option.some.inj hv) ⟨Nat.le_refl _, Nat.le_refl _⟩
theorem pX8_partAt (l : Launch) {g : CG} (G : cSep g)   (S : CS) (v0 : Option Nat) (v1 : Int32) {w : Option Nat × CS} (hw : fX8_partAt S v0 v1 = some w)  : cC l yX8_partAt cX8_partAt 2 (some (.object RX9)) 0 0 0 g [va_rf v0, .int v1] S (some (va_rf w.1)) w.2 := cC_of (lv := [(0, va_rf v0), (1, .int v1)]) (by decide +kernel) (by simp [lg_sl, cat_rf, cat_i, cat_l, cat_r]) (by simp [lv_args, cat_rf, cat_i, cat_l, cat_r]) (fun C K => tX8_partAt_0 C K G  S v0 v1 hw)
/-! RobotCell$Row.mayHold(ILRobotCell$Thing;)Z -/
def fX8_mayHold_62 (S : CS) : Option (Int32 × CS) :=
  some (0, S)
def fX8_mayHold (S : CS) (v0 : Int32) (v1 : Option Nat) : Option (Int32 × CS) :=
  if v0 = 8 then (Option.bind (cInst S v1 [2, 1] [0, 3, 4, 5, 6]) (fun c29 => some (c29, S))) else if v0 = 9 then (Option.bind (cInst S v1 [1] [0, 2, 3, 4, 5, 6]) (fun c34 => some (c34, S))) else if v0 = 10 then (Option.bind (cInst S v1 [5] [0, 1, 2, 3, 4, 6]) (fun c39 => if c39 = 0 then fX8_mayHold_62 S else (if cCast S v1 [5] = true then (Option.bind (tgI S v1 [5] 0) (fun c51 => if c51 = 4 then some (1, S) else fX8_mayHold_62 S)) else none))) else some (0, S)
theorem oX8_mayHold : ok_c yX8_mayHold cX8_mayHold 3 (some .boolean) 2 (.static yX8_mayHold) := ⟨kw_554, ⟨kw_553, rfl⟩, kw_79, by decide +kernel⟩
set_option maxRecDepth 100000 in
set_option maxHeartbeats 1000000 in
theorem tX8_mayHold_62 {p : Program} {l : Launch} {e : Env} {s : State} {m : MethodId} {args : Array Value} {below : List Frame} {meth : Method} {c : Code} {g : CG} {S0 : CS} (C : CC p s m args meth c yX8_mayHold cX8_mayHold 3 (some .boolean)) (K : cK g s) (G : cSep g)  (S : CS) {w : Int32 × CS} (hv : fX8_mayHold_62 S = some w) : CJ p l e s m args below meth c 3 0 0 0 g S0 (some (.int w.1)) w.2 62 [] [] S 0 0 := by
  unfold fX8_mayHold_62 at hv
  refine jr_iconst (v := 0) C dX8_mayHold_62 (by decide) ?_
  exact jc_zret C K dX8_mayHold_63 rfl (Option.some.inj hv) ⟨Nat.le_refl _, Nat.le_refl _⟩
set_option maxRecDepth 100000 in
set_option maxHeartbeats 1000000 in
theorem tX8_mayHold_0 {p : Program} {l : Launch} {e : Env} {s : State} {m : MethodId} {args : Array Value} {below : List Frame} {meth : Method} {c : Code} {g : CG} {S0 : CS} (C : CC p s m args meth c yX8_mayHold cX8_mayHold 3 (some .boolean)) (K : cK g s) (G : cSep g)  (S : CS) (v0 : Int32) (v1 : Option Nat) {w : Int32 × CS} (hv : fX8_mayHold S v0 v1 = some w) : CJ p l e s m args below meth c 3 0 0 0 g S0 (some (.int w.1)) w.2 0 [(0, .int v0), (1, va_rf v1)] [] S 0 0 := by
  unfold fX8_mayHold at hv
  refine jr_iload_n C dX8_mayHold_0 rfl 0 rfl ?_
  by_cases q1_0 : v0 = 8
  · have hv := (if_pos q1_0).symm.trans hv
    refine jr_tableIn (off := 27) (tgt := 28) C dX8_mayHold_1 (by rw [q1_0]; decide) (by rw [q1_0]; decide) (by rw [q1_0]; rfl) rfl ?_
    refine jr_naload_n C dX8_mayHold_28 rfl 1 rfl ?_
    obtain ⟨c29, hc29, hv⟩ := Option.bind_eq_some_iff.mp hv
    refine jc_inst C K hc29 y_Pose n_Pose kw_555 dX8_mayHold_29 ?_
    exact jc_zret C K dX8_mayHold_32 (nb_of (cInst_b hc29)) (Option.some.inj hv) ⟨Nat.le_refl _, Nat.le_refl _⟩
  have hv := (if_neg q1_0).symm.trans hv
  by_cases q1_1 : v0 = 9
  · have hv := (if_pos q1_1).symm.trans hv
    refine jr_tableIn (off := 32) (tgt := 33) C dX8_mayHold_1 (by rw [q1_1]; decide) (by rw [q1_1]; decide) (by rw [q1_1]; rfl) rfl ?_
    refine jr_naload_n C dX8_mayHold_33 rfl 1 rfl ?_
    obtain ⟨c34, hc34, hv⟩ := Option.bind_eq_some_iff.mp hv
    refine jc_inst C K hc34 y_Grasp n_Grasp kw_556 dX8_mayHold_34 ?_
    exact jc_zret C K dX8_mayHold_37 (nb_of (cInst_b hc34)) (Option.some.inj hv) ⟨Nat.le_refl _, Nat.le_refl _⟩
  have hv := (if_neg q1_1).symm.trans hv
  by_cases q1_2 : v0 = 10
  · have hv := (if_pos q1_2).symm.trans hv
    refine jr_tableIn (off := 37) (tgt := 38) C dX8_mayHold_1 (by rw [q1_2]; decide) (by rw [q1_2]; decide) (by rw [q1_2]; rfl) rfl ?_
    refine jr_naload_n C dX8_mayHold_38 rfl 1 rfl ?_
    obtain ⟨c39, hc39, hv⟩ := Option.bind_eq_some_iff.mp hv
    refine jc_inst C K hc39 y_Row n_Row kw_557 dX8_mayHold_39 ?_
    refine jr_if_eq (tgt := 62) C dX8_mayHold_42 rfl (fun q42 => ?_) (fun q42 => ?_)
    · have hv := (if_pos q42).symm.trans hv
      exact jr_sub [] rfl (tX8_mayHold_62 C K G  S hv)
    · have hv := (if_neg q42).symm.trans hv
      refine jr_naload_n C dX8_mayHold_45 rfl 1 rfl ?_
      by_cases z46 : cCast S v1 [5] = true
      case neg => exact op_none ((if_neg z46).symm.trans hv)
      have hv := (if_pos z46).symm.trans hv
      refine jc_cast C K z46 y_Row kw_557 dX8_mayHold_46 ?_
      refine jr_nastore_n (lv' := [(2, va_rf v1), (0, .int v0), (1, va_rf v1)]) C dX8_mayHold_49 rfl (by decide) (by simp [cat_rf, cat_i, cat_l, cat_r]) ?_
      refine jr_naload_n C dX8_mayHold_50 rfl 0 rfl ?_
      obtain ⟨c51, hc51, hv⟩ := Option.bind_eq_some_iff.mp hv
      refine jc_tg C K (tgI_F hc51) fg_Row_kind kw_518 dX8_mayHold_51 ?_
      refine jr_iconst (v := 4) C dX8_mayHold_54 (by decide) ?_
      refine jr_icmp_ne (tgt := 62) C dX8_mayHold_55 rfl (fun q55 => ?_) (fun q55 => ?_)
      · have hv := (if_neg q55).symm.trans hv
        exact jr_sub [] rfl (tX8_mayHold_62 C K G  S hv)
      · have hv := (if_pos q55).symm.trans hv
        refine jr_iconst (v := 1) C dX8_mayHold_58 (by decide) ?_
        refine jr_goto (tgt := 63) C dX8_mayHold_59 rfl ?_
        exact jc_zret C K dX8_mayHold_63 rfl (Option.some.inj hv) ⟨Nat.le_refl _, Nat.le_refl _⟩
  have hv := (if_neg q1_2).symm.trans hv
  refine jr_tableOut (tgt := 64) C dX8_mayHold_1 (by have := sw_ne (a := 8) q1_0 (by decide); have := sw_ne (a := 9) q1_1 (by decide); have := sw_ne (a := 10) q1_2 (by decide); omega) rfl ?_
  refine jr_iconst (v := 0) C dX8_mayHold_64 (by decide) ?_
  exact jc_zret C K dX8_mayHold_65 rfl (Option.some.inj hv) ⟨Nat.le_refl _, Nat.le_refl _⟩
theorem pX8_mayHold (l : Launch) {g : CG} (G : cSep g)   (S : CS) (v0 : Int32) (v1 : Option Nat) {w : Int32 × CS} (hw : fX8_mayHold S v0 v1 = some w)  : cC l yX8_mayHold cX8_mayHold 3 (some .boolean) 0 0 0 g [.int v0, va_rf v1] S (some (.int w.1)) w.2 := cC_of (lv := [(0, .int v0), (1, va_rf v1)]) (by decide +kernel) (by simp [lg_sl, cat_rf, cat_i, cat_l, cat_r]) (by simp [lv_args, cat_rf, cat_i, cat_l, cat_r]) (fun C K => tX8_mayHold_0 C K G  S v0 v1 hw)
/-! RobotCell$Row.setPart(ILRobotCell$Thing;)Z -/
def fX8_setPart_28 (S : CS) : Option (Int32 × CS) :=
  some (0, S)
def fX8_setPart_30 (S : CS) (v0 : Option Nat) (v1 : Int32) (v2 : Option Nat) : Option (Int32 × CS) :=
  Option.bind (tgN S v0 [5] 3) (fun c31 => Option.bind (tasQ S c31 v1 v2) (fun c36 => some (1, c36)))
def fX8_setPart (S : CS) (v0 : Option Nat) (v1 : Int32) (v2 : Option Nat) : Option (Int32 × CS) :=
  if v1 < 0 then fX8_setPart_28 S else (Option.bind (tgN S v0 [5] 3) (fun c6 => Option.bind (tlen S c6) (fun c9 => if c9 ≤ v1 then fX8_setPart_28 S else onul v2 (fX8_setPart_30 S v0 v1 v2) (fun _ => Option.bind (tgI S v0 [5] 0) (fun c18 => Option.bind (fX8_mayHold S c18 v2) (fun c22 => if c22.1 = 0 then fX8_setPart_28 c22.2 else fX8_setPart_30 c22.2 v0 v1 v2))))))
theorem oX8_setPart : ok_c yX8_setPart cX8_setPart 3 (some .boolean) 2 (.instanceMethod yX8_setPart) := ⟨kw_551, ⟨kw_549, rfl⟩, kw_79, by decide +kernel⟩
set_option maxRecDepth 100000 in
set_option maxHeartbeats 1000000 in
theorem tX8_setPart_28 {p : Program} {l : Launch} {e : Env} {s : State} {m : MethodId} {args : Array Value} {below : List Frame} {meth : Method} {c : Code} {g : CG} {S0 : CS} (C : CC p s m args meth c yX8_setPart cX8_setPart 3 (some .boolean)) (K : cK g s) (G : cSep g)  (S : CS) {w : Int32 × CS} (hv : fX8_setPart_28 S = some w) : CJ p l e s m args below meth c 3 1 0 0 g S0 (some (.int w.1)) w.2 28 [] [] S 0 0 := by
  unfold fX8_setPart_28 at hv
  refine jr_iconst (v := 0) C dX8_setPart_28 (by decide) ?_
  exact jc_zret C K dX8_setPart_29 rfl (Option.some.inj hv) ⟨Nat.le_refl _, Nat.le_refl _⟩
set_option maxRecDepth 100000 in
set_option maxHeartbeats 1000000 in
theorem tX8_setPart_30 {p : Program} {l : Launch} {e : Env} {s : State} {m : MethodId} {args : Array Value} {below : List Frame} {meth : Method} {c : Code} {g : CG} {S0 : CS} (C : CC p s m args meth c yX8_setPart cX8_setPart 3 (some .boolean)) (K : cK g s) (G : cSep g)  (S : CS) (v0 : Option Nat) (v1 : Int32) (v2 : Option Nat) {w : Int32 × CS} (hv : fX8_setPart_30 S v0 v1 v2 = some w) : CJ p l e s m args below meth c 3 1 0 0 g S0 (some (.int w.1)) w.2 30 [(0, va_rf v0), (1, .int v1), (2, va_rf v2)] [] S 0 0 := by
  unfold fX8_setPart_30 at hv
  refine jr_naload_n C dX8_setPart_30 rfl 0 rfl ?_
  obtain ⟨c31, hc31, hv⟩ := Option.bind_eq_some_iff.mp hv
  refine jc_tg C K (tgN_F hc31) fg_Row_parts kw_521 dX8_setPart_31 ?_
  refine jr_iload_n C dX8_setPart_34 rfl 1 rfl ?_
  refine jr_naload_n C dX8_setPart_35 rfl 2 rfl ?_
  obtain ⟨c36, hc36, hv⟩ := Option.bind_eq_some_iff.mp hv
  refine jc_tasQ C K hc36 dX8_setPart_36 ?_
  refine jr_iconst (v := 1) C dX8_setPart_37 (by decide) ?_
  exact jc_zret C K dX8_setPart_38 rfl (Option.some.inj hv) ⟨Nat.le_refl _, Nat.le_refl _⟩
set_option maxRecDepth 100000 in
set_option maxHeartbeats 1000000 in
theorem tX8_setPart_0 {p : Program} {l : Launch} {e : Env} {s : State} {m : MethodId} {args : Array Value} {below : List Frame} {meth : Method} {c : Code} {g : CG} {S0 : CS} (C : CC p s m args meth c yX8_setPart cX8_setPart 3 (some .boolean)) (K : cK g s) (G : cSep g)  (S : CS) (v0 : Option Nat) (v1 : Int32) (v2 : Option Nat) {w : Int32 × CS} (hv : fX8_setPart S v0 v1 v2 = some w) : CJ p l e s m args below meth c 3 1 0 0 g S0 (some (.int w.1)) w.2 0 [(0, va_rf v0), (1, .int v1), (2, va_rf v2)] [] S 0 0 := by
  unfold fX8_setPart at hv
  refine jr_iload_n C dX8_setPart_0 rfl 1 rfl ?_
  refine jr_if_lt (tgt := 28) C dX8_setPart_1 rfl (fun q1 => ?_) (fun q1 => ?_)
  · have hv := (if_pos q1).symm.trans hv
    exact jr_sub [] rfl (tX8_setPart_28 C K G  S hv)
  · have hv := (if_neg q1).symm.trans hv
    refine jr_iload_n C dX8_setPart_4 rfl 1 rfl ?_
    refine jr_naload_n C dX8_setPart_5 rfl 0 rfl ?_
    obtain ⟨c6, hc6, hv⟩ := Option.bind_eq_some_iff.mp hv
    refine jc_tg C K (tgN_F hc6) fg_Row_parts kw_521 dX8_setPart_6 ?_
    obtain ⟨c9, hc9, hv⟩ := Option.bind_eq_some_iff.mp hv
    refine jc_tlen C K hc9 dX8_setPart_9 ?_
    refine jr_icmp_ge (tgt := 28) C dX8_setPart_10 rfl (fun q10 => ?_) (fun q10 => ?_)
    · have hv := (if_pos q10).symm.trans hv
      exact jr_sub [] rfl (tX8_setPart_28 C K G  S hv)
    · have hv := (if_neg q10).symm.trans hv
      refine jr_naload_n C dX8_setPart_13 rfl 2 rfl ?_
      refine jr_ifnull (tgt := 30) C dX8_setPart_14 rfl (fun q14 => ?_) (fun a14 q14 => ?_)
      · have hv := (onul_n q14).symm.trans hv
        exact tX8_setPart_30 C K G  S v0 v1 v2 hv
      · have hv := (onul_s q14).symm.trans hv
        refine jr_naload_n C dX8_setPart_17 rfl 0 rfl ?_
        obtain ⟨c18, hc18, hv⟩ := Option.bind_eq_some_iff.mp hv
        refine jc_tg C K (tgI_F hc18) fg_Row_kind kw_518 dX8_setPart_18 ?_
        refine jr_naload_n C dX8_setPart_21 rfl 2 rfl ?_
        obtain ⟨c22, hc22, hv⟩ := Option.bind_eq_some_iff.mp hv
        refine jc_callS (rest := []) C K (pX8_mayHold l G S c18 v2 hc22) oX8_mayHold kw_552 rfl ⟨Nat.le_of_ble_eq_true rfl, Nat.le_of_ble_eq_true rfl⟩ rfl (Nat.le_of_ble_eq_true rfl) ⟨Nat.le_refl _, Nat.le_refl _⟩ dX8_setPart_22 ?_
        refine jr_if_ne (tgt := 30) C dX8_setPart_25 rfl (fun q25 => ?_) (fun q25 => ?_)
        · have hv := (if_neg q25).symm.trans hv
          exact tX8_setPart_30 C K G  c22.2 v0 v1 v2 hv
        · have hv := (if_pos q25).symm.trans hv
          exact jr_sub [] rfl (tX8_setPart_28 C K G  c22.2 hv)
theorem pX8_setPart (l : Launch) {g : CG} (G : cSep g)   (S : CS) (v0 : Option Nat) (v1 : Int32) (v2 : Option Nat) {w : Int32 × CS} (hw : fX8_setPart S v0 v1 v2 = some w)  : cC l yX8_setPart cX8_setPart 3 (some .boolean) 1 0 0 g [va_rf v0, .int v1, va_rf v2] S (some (.int w.1)) w.2 := cC_of (lv := [(0, va_rf v0), (1, .int v1), (2, va_rf v2)]) (by decide +kernel) (by simp [lg_sl, cat_rf, cat_i, cat_l, cat_r]) (by simp [lv_args, cat_rf, cat_i, cat_l, cat_r]) (fun C K => tX8_setPart_0 C K G  S v0 v1 v2 hw)
/-! RobotCell$Row.takeFrom(LRobotCell$Row;III)Z -/
def fX8_takeFrom_28 (S : CS) : Option (Int32 × CS) :=
  some (0, S)
def fX8_takeFrom_124 (r74 : CS → Option Nat → Option Nat → Int32 → Int32 → Int32 → Int32 → Int32 → Option (Int32 × CS)) (S : CS) (v0 : Option Nat) (v1 : Option Nat) (v2 : Int32) (v3 : Int32) (v4 : Int32) (v5 : Int32) (v6 : Int32) : Option (Int32 × CS) :=
  r74 S v0 v1 v2 v3 v4 v5 v6
def fX8_takeFrom_98 (r74 : CS → Option Nat → Option Nat → Int32 → Int32 → Int32 → Int32 → Int32 → Option (Int32 × CS)) (S : CS) (v0 : Option Nat) (v1 : Option Nat) (v2 : Int32) (v3 : Int32) (v4 : Int32) (v5 : Int32) (v6 : Int32) (t0 : Int32) : Option (Int32 × CS) :=
  if isKx S v1 [5] = true then (Option.bind (fX8_partAt S v1 (v2 + t0)) (fun c110 => if isKx c110.2 v0 [5] = true then (Option.bind (fX8_setPart c110.2 v0 (v3 + t0) c110.1) (fun c113 => if c113.1 = 0 then some (0, c113.2) else fX8_takeFrom_124 r74 c113.2 v0 v1 v2 v3 v4 v5 (v6 + 1))) else none)) else none
def fX8_takeFrom_74  : Nat → CS → Option Nat → Option Nat → Int32 → Int32 → Int32 → Int32 → Int32 → Option (Int32 × CS)
  | 0, _, _, _, _, _, _, _, _ => none
  | q + 1, S, v0, v1, v2, v3, v4, v5, v6 => if v4 ≤ v6 then some (1, S) else (if v5 = 0 then fX8_takeFrom_98 (fX8_takeFrom_74  q) S v0 v1 v2 v3 v4 v5 v6 v6 else fX8_takeFrom_98 (fX8_takeFrom_74  q) S v0 v1 v2 v3 v4 v5 v6 ((v4 - 1) - v6))
def fX8_takeFrom_69 (S : CS) (v0 : Option Nat) (v1 : Option Nat) (v2 : Int32) (v3 : Int32) (v4 : Int32) (t0 : Int32) : Option (Int32 × CS) :=
  fX8_takeFrom_74 80 S v0 v1 v2 v3 v4 t0 0
def fX8_takeFrom_68 (S : CS) (v0 : Option Nat) (v1 : Option Nat) (v2 : Int32) (v3 : Int32) (v4 : Int32) : Option (Int32 × CS) :=
  fX8_takeFrom_69 S v0 v1 v2 v3 v4 0
def fX8_takeFrom (S : CS) (v0 : Option Nat) (v1 : Option Nat) (v2 : Int32) (v3 : Int32) (v4 : Int32) : Option (Int32 × CS) :=
  if isKx S v1 [5] = true then (Option.bind (fX8_hasRange S v1 v2 v4) (fun c4 => if c4.1 = 0 then fX8_takeFrom_28 c4.2 else (if isKx c4.2 v0 [5] = true then (Option.bind (fX8_hasRange c4.2 v0 v3 v4) (fun c14 => if c14.1 = 0 then fX8_takeFrom_28 c14.2 else (if isKx c14.2 v0 [5] = true then (Option.bind (fX8_isAlike c14.2 v0 v1) (fun c22 => if c22.1 = 0 then fX8_takeFrom_28 c22.2 else (if isKx c22.2 v0 [5] = true then (Option.bind (fX8_holdsThings c22.2 v0) (fun c31 => if c31.1 = 0 then (Option.bind (tgN c31.2 v1 [5] 2) (fun c38 => Option.bind (tgN c31.2 v0 [5] 2) (fun c43 => Option.bind (tcpJ c31.2 c38 v2 c43 v3 v4) (fun c49 => some (1, c49))))) else (if v1 = v0 then (if v3 ≤ v2 then fX8_takeFrom_68 c31.2 v0 v1 v2 v3 v4 else fX8_takeFrom_69 c31.2 v0 v1 v2 v3 v4 1) else fX8_takeFrom_68 c31.2 v0 v1 v2 v3 v4))) else none))) else none))) else none))) else none
theorem oX8_takeFrom : ok_c yX8_takeFrom cX8_takeFrom 8 (some .boolean) 4 (.instanceMethod yX8_takeFrom) := ⟨kw_585, ⟨kw_583, rfl⟩, kw_79, by decide +kernel⟩
set_option maxRecDepth 100000 in
set_option maxHeartbeats 1000000 in
theorem tX8_takeFrom_28 {p : Program} {l : Launch} {e : Env} {s : State} {m : MethodId} {args : Array Value} {below : List Frame} {meth : Method} {c : Code} {g : CG} {S0 : CS} (C : CC p s m args meth c yX8_takeFrom cX8_takeFrom 8 (some .boolean)) (K : cK g s) (G : cSep g)  (S : CS) {w : Int32 × CS} (hv : fX8_takeFrom_28 S = some w) : CJ p l e s m args below meth c 8 2 0 0 g S0 (some (.int w.1)) w.2 28 [] [] S 0 0 := by
  unfold fX8_takeFrom_28 at hv
  refine jr_iconst (v := 0) C dX8_takeFrom_28 (by decide) ?_
  exact jc_zret C K dX8_takeFrom_29 rfl (Option.some.inj hv) ⟨Nat.le_refl _, Nat.le_refl _⟩
set_option maxRecDepth 100000 in
set_option maxHeartbeats 1000000 in
theorem tX8_takeFrom_124 {p : Program} {l : Launch} {e : Env} {s : State} {m : MethodId} {args : Array Value} {below : List Frame} {meth : Method} {c : Code} {g : CG} {S0 : CS} (C : CC p s m args meth c yX8_takeFrom cX8_takeFrom 8 (some .boolean)) (K : cK g s) (G : cSep g)  (r74 : CS → Option Nat → Option Nat → Int32 → Int32 → Int32 → Int32 → Int32 → Option (Int32 × CS)) (h74 : ∀ (S : CS) (v0 : Option Nat) (v1 : Option Nat) (v2 : Int32) (v3 : Int32) (v4 : Int32) (v5 : Int32) (v6 : Int32) (w : Int32 × CS), r74 S v0 v1 v2 v3 v4 v5 v6 = some w → CJ p l e s m args below meth c 8 2 0 0 g S0 (some (.int w.1)) w.2 74 [(0, va_rf v0), (1, va_rf v1), (2, .int v2), (3, .int v3), (4, .int v4), (5, .int v5), (6, .int v6)] [] S 0 0) (S : CS) (v0 : Option Nat) (v1 : Option Nat) (v2 : Int32) (v3 : Int32) (v4 : Int32) (v5 : Int32) (v6 : Int32) {w : Int32 × CS} (hv : fX8_takeFrom_124 r74 S v0 v1 v2 v3 v4 v5 v6 = some w) : CJ p l e s m args below meth c 8 2 0 0 g S0 (some (.int w.1)) w.2 124 [(0, va_rf v0), (1, va_rf v1), (2, .int v2), (3, .int v3), (4, .int v4), (5, .int v5), (6, .int v6)] [] S 0 0 := by
  unfold fX8_takeFrom_124 at hv
  refine jr_goto (tgt := 74) C dX8_takeFrom_124 rfl ?_
  exact h74 S v0 v1 v2 v3 v4 v5 v6 _ hv
set_option maxRecDepth 100000 in
set_option maxHeartbeats 1000000 in
theorem tX8_takeFrom_98 {p : Program} {l : Launch} {e : Env} {s : State} {m : MethodId} {args : Array Value} {below : List Frame} {meth : Method} {c : Code} {g : CG} {S0 : CS} (C : CC p s m args meth c yX8_takeFrom cX8_takeFrom 8 (some .boolean)) (K : cK g s) (G : cSep g)  (r74 : CS → Option Nat → Option Nat → Int32 → Int32 → Int32 → Int32 → Int32 → Option (Int32 × CS)) (h74 : ∀ (S : CS) (v0 : Option Nat) (v1 : Option Nat) (v2 : Int32) (v3 : Int32) (v4 : Int32) (v5 : Int32) (v6 : Int32) (w : Int32 × CS), r74 S v0 v1 v2 v3 v4 v5 v6 = some w → CJ p l e s m args below meth c 8 2 0 0 g S0 (some (.int w.1)) w.2 74 [(0, va_rf v0), (1, va_rf v1), (2, .int v2), (3, .int v3), (4, .int v4), (5, .int v5), (6, .int v6)] [] S 0 0) (S : CS) (v0 : Option Nat) (v1 : Option Nat) (v2 : Int32) (v3 : Int32) (v4 : Int32) (v5 : Int32) (v6 : Int32) (t0 : Int32) {w : Int32 × CS} (hv : fX8_takeFrom_98 r74 S v0 v1 v2 v3 v4 v5 v6 t0 = some w) : CJ p l e s m args below meth c 8 2 0 0 g S0 (some (.int w.1)) w.2 98 [(0, va_rf v0), (1, va_rf v1), (2, .int v2), (3, .int v3), (4, .int v4), (5, .int v5), (6, .int v6)] [.int t0] S 0 0 := by
  unfold fX8_takeFrom_98 at hv
  refine jr_istore (lv' := [(7, .int t0), (0, va_rf v0), (1, va_rf v1), (2, .int v2), (3, .int v3), (4, .int v4), (5, .int v5), (6, .int v6)]) C dX8_takeFrom_98 (by decide) rfl ?_
  refine jr_naload_n C dX8_takeFrom_100 rfl 1 rfl ?_
  refine jr_iload_n C dX8_takeFrom_101 rfl 4 rfl ?_
  refine jr_iload C dX8_takeFrom_102 0 rfl ?_
  refine jr_iadd C dX8_takeFrom_104 ?_
  refine jr_naload_n C dX8_takeFrom_105 rfl 2 rfl ?_
  refine jr_iload_n C dX8_takeFrom_106 rfl 3 rfl ?_
  refine jr_iload C dX8_takeFrom_107 0 rfl ?_
  refine jr_iadd C dX8_takeFrom_109 ?_
  by_cases z110_5 : isKx S v1 [5] = true
  case pos =>
    have hv := (if_pos z110_5).symm.trans hv
    obtain ⟨c110, hc110, hv⟩ := Option.bind_eq_some_iff.mp hv
    refine jc_callT (ci := 5) (rest := [.int (v3 + t0), va_rf v0]) C K (pX8_partAt l G S v1 (v2 + t0) hc110) z110_5 rfl oX8_partAt kw_593 kw_591 rfl ⟨Nat.le_of_ble_eq_true rfl, Nat.le_of_ble_eq_true rfl⟩ rfl (by simp [cat_rf, cat_i, cat_l, cat_r]) ⟨Nat.le_refl _, Nat.le_refl _⟩ dX8_takeFrom_110 ?_
    by_cases z113_5 : isKx c110.2 v0 [5] = true
    case pos =>
      have hv := (if_pos z113_5).symm.trans hv
      obtain ⟨c113, hc113, hv⟩ := Option.bind_eq_some_iff.mp hv
      refine jc_callT (ci := 5) (rest := []) C K (pX8_setPart l G c110.2 v0 (v3 + t0) c110.1 hc113) z113_5 rfl oX8_setPart kw_550 kw_595 rfl ⟨Nat.le_of_ble_eq_true rfl, Nat.le_of_ble_eq_true rfl⟩ rfl (Nat.le_of_ble_eq_true rfl) ⟨Nat.le_refl _, Nat.le_refl _⟩ dX8_takeFrom_113 ?_
      refine jr_if_ne (tgt := 121) C dX8_takeFrom_116 rfl (fun q116 => ?_) (fun q116 => ?_)
      · have hv := (if_neg q116).symm.trans hv
        refine jr_iinc (v := (v6 + 1)) (lv' := [(6, .int (v6 + 1)), (7, .int t0), (0, va_rf v0), (1, va_rf v1), (2, .int v2), (3, .int v3), (4, .int v4), (5, .int v5)]) C dX8_takeFrom_121 7 rfl rfl (by decide) rfl ?_
        exact jr_sub [2, 3, 4, 5, 6, 7, 0] rfl (tX8_takeFrom_124 C K G r74 h74 c113.2 v0 v1 v2 v3 v4 v5 (v6 + 1) hv)
      · have hv := (if_pos q116).symm.trans hv
        refine jr_iconst (v := 0) C dX8_takeFrom_119 (by decide) ?_
        exact jc_zret C K dX8_takeFrom_120 rfl (Option.some.inj hv) ⟨Nat.le_refl _, Nat.le_refl _⟩
    have hv := (if_neg z113_5).symm.trans hv
    exact op_none hv
  have hv := (if_neg z110_5).symm.trans hv
  exact op_none hv
set_option maxRecDepth 100000 in
set_option maxHeartbeats 1000000 in
theorem tX8_takeFrom_74 {p : Program} {l : Launch} {e : Env} {s : State} {m : MethodId} {args : Array Value} {below : List Frame} {meth : Method} {c : Code} {g : CG} {S0 : CS} (C : CC p s m args meth c yX8_takeFrom cX8_takeFrom 8 (some .boolean)) (K : cK g s) (G : cSep g)  : ∀ (q : Nat) (S : CS) (v0 : Option Nat) (v1 : Option Nat) (v2 : Int32) (v3 : Int32) (v4 : Int32) (v5 : Int32) (v6 : Int32) (w : Int32 × CS), fX8_takeFrom_74  q S v0 v1 v2 v3 v4 v5 v6 = some w → CJ p l e s m args below meth c 8 2 0 0 g S0 (some (.int w.1)) w.2 74 [(0, va_rf v0), (1, va_rf v1), (2, .int v2), (3, .int v3), (4, .int v4), (5, .int v5), (6, .int v6)] [] S 0 0 := by
  intro q
  induction q with
  | zero => intro S v0 v1 v2 v3 v4 v5 v6 w hv; exact absurd hv (by simp [fX8_takeFrom_74])
  | succ q ih =>
    intro S v0 v1 v2 v3 v4 v5 v6 w hv
    unfold fX8_takeFrom_74 at hv
    refine jr_iload C dX8_takeFrom_74 6 rfl ?_
    refine jr_iload C dX8_takeFrom_76 4 rfl ?_
    refine jr_icmp_ge (tgt := 127) C dX8_takeFrom_78 rfl (fun q78 => ?_) (fun q78 => ?_)
    · have hv := (if_pos q78).symm.trans hv
      refine jr_iconst (v := 1) C dX8_takeFrom_127 (by decide) ?_
      exact jc_zret C K dX8_takeFrom_128 rfl (Option.some.inj hv) ⟨Nat.le_refl _, Nat.le_refl _⟩
    · have hv := (if_neg q78).symm.trans hv
      refine jr_iload C dX8_takeFrom_81 5 rfl ?_
      refine jr_if_eq (tgt := 96) C dX8_takeFrom_83 rfl (fun q83 => ?_) (fun q83 => ?_)
      · have hv := (if_pos q83).symm.trans hv
        refine jr_iload C dX8_takeFrom_96 6 rfl ?_
        exact tX8_takeFrom_98 C K G (fX8_takeFrom_74  q) ih S v0 v1 v2 v3 v4 v5 v6 v6 hv
      · have hv := (if_neg q83).symm.trans hv
        refine jr_iload C dX8_takeFrom_86 4 rfl ?_
        refine jr_iconst (v := 1) C dX8_takeFrom_88 (by decide) ?_
        refine jr_isub C dX8_takeFrom_89 ?_
        refine jr_iload C dX8_takeFrom_90 6 rfl ?_
        refine jr_isub C dX8_takeFrom_92 ?_
        refine jr_goto (tgt := 98) C dX8_takeFrom_93 rfl ?_
        exact tX8_takeFrom_98 C K G (fX8_takeFrom_74  q) ih S v0 v1 v2 v3 v4 v5 v6 ((v4 - 1) - v6) hv
set_option maxRecDepth 100000 in
set_option maxHeartbeats 1000000 in
theorem tX8_takeFrom_69 {p : Program} {l : Launch} {e : Env} {s : State} {m : MethodId} {args : Array Value} {below : List Frame} {meth : Method} {c : Code} {g : CG} {S0 : CS} (C : CC p s m args meth c yX8_takeFrom cX8_takeFrom 8 (some .boolean)) (K : cK g s) (G : cSep g)  (S : CS) (v0 : Option Nat) (v1 : Option Nat) (v2 : Int32) (v3 : Int32) (v4 : Int32) (t0 : Int32) {w : Int32 × CS} (hv : fX8_takeFrom_69 S v0 v1 v2 v3 v4 t0 = some w) : CJ p l e s m args below meth c 8 2 0 0 g S0 (some (.int w.1)) w.2 69 [(0, va_rf v0), (1, va_rf v1), (2, .int v2), (3, .int v3), (4, .int v4)] [.int t0] S 0 0 := by
  unfold fX8_takeFrom_69 at hv
  refine jr_istore (lv' := [(5, .int t0), (0, va_rf v0), (1, va_rf v1), (2, .int v2), (3, .int v3), (4, .int v4)]) C dX8_takeFrom_69 (by decide) rfl ?_
  refine jr_iconst (v := 0) C dX8_takeFrom_71 (by decide) ?_
  refine jr_istore (lv' := [(6, .int 0), (5, .int t0), (0, va_rf v0), (1, va_rf v1), (2, .int v2), (3, .int v3), (4, .int v4)]) C dX8_takeFrom_72 (by decide) rfl ?_
  exact jr_sub [2, 3, 4, 5, 6, 1, 0] rfl (tX8_takeFrom_74 C K G  80 S v0 v1 v2 v3 v4 t0 0 _ hv)
set_option maxRecDepth 100000 in
set_option maxHeartbeats 1000000 in
theorem tX8_takeFrom_68 {p : Program} {l : Launch} {e : Env} {s : State} {m : MethodId} {args : Array Value} {below : List Frame} {meth : Method} {c : Code} {g : CG} {S0 : CS} (C : CC p s m args meth c yX8_takeFrom cX8_takeFrom 8 (some .boolean)) (K : cK g s) (G : cSep g)  (S : CS) (v0 : Option Nat) (v1 : Option Nat) (v2 : Int32) (v3 : Int32) (v4 : Int32) {w : Int32 × CS} (hv : fX8_takeFrom_68 S v0 v1 v2 v3 v4 = some w) : CJ p l e s m args below meth c 8 2 0 0 g S0 (some (.int w.1)) w.2 68 [(0, va_rf v0), (1, va_rf v1), (2, .int v2), (3, .int v3), (4, .int v4)] [] S 0 0 := by
  unfold fX8_takeFrom_68 at hv
  refine jr_iconst (v := 0) C dX8_takeFrom_68 (by decide) ?_
  exact tX8_takeFrom_69 C K G  S v0 v1 v2 v3 v4 0 hv
set_option maxRecDepth 100000 in
set_option maxHeartbeats 1000000 in
theorem tX8_takeFrom_0 {p : Program} {l : Launch} {e : Env} {s : State} {m : MethodId} {args : Array Value} {below : List Frame} {meth : Method} {c : Code} {g : CG} {S0 : CS} (C : CC p s m args meth c yX8_takeFrom cX8_takeFrom 8 (some .boolean)) (K : cK g s) (G : cSep g)  (S : CS) (v0 : Option Nat) (v1 : Option Nat) (v2 : Int32) (v3 : Int32) (v4 : Int32) {w : Int32 × CS} (hv : fX8_takeFrom S v0 v1 v2 v3 v4 = some w) : CJ p l e s m args below meth c 8 2 0 0 g S0 (some (.int w.1)) w.2 0 [(0, va_rf v0), (1, va_rf v1), (2, .int v2), (3, .int v3), (4, .int v4)] [] S 0 0 := by
  unfold fX8_takeFrom at hv
  refine jr_naload_n C dX8_takeFrom_0 rfl 1 rfl ?_
  refine jr_iload_n C dX8_takeFrom_1 rfl 2 rfl ?_
  refine jr_iload C dX8_takeFrom_2 4 rfl ?_
  by_cases z4_5 : isKx S v1 [5] = true
  case pos =>
    have hv := (if_pos z4_5).symm.trans hv
    obtain ⟨c4, hc4, hv⟩ := Option.bind_eq_some_iff.mp hv
    refine jc_callT (ci := 5) (rest := []) C K (pX8_hasRange l G S v1 v2 v4 hc4) z4_5 rfl oX8_hasRange kw_580 kw_586 rfl ⟨Nat.le_of_ble_eq_true rfl, Nat.le_of_ble_eq_true rfl⟩ rfl (Nat.le_of_ble_eq_true rfl) ⟨Nat.le_refl _, Nat.le_refl _⟩ dX8_takeFrom_4 ?_
    refine jr_if_eq (tgt := 28) C dX8_takeFrom_7 rfl (fun q7 => ?_) (fun q7 => ?_)
    · have hv := (if_pos q7).symm.trans hv
      exact jr_sub [] rfl (tX8_takeFrom_28 C K G  c4.2 hv)
    · have hv := (if_neg q7).symm.trans hv
      refine jr_naload_n C dX8_takeFrom_10 rfl 0 rfl ?_
      refine jr_iload_n C dX8_takeFrom_11 rfl 3 rfl ?_
      refine jr_iload C dX8_takeFrom_12 4 rfl ?_
      by_cases z14_5 : isKx c4.2 v0 [5] = true
      case pos =>
        have hv := (if_pos z14_5).symm.trans hv
        obtain ⟨c14, hc14, hv⟩ := Option.bind_eq_some_iff.mp hv
        refine jc_callT (ci := 5) (rest := []) C K (pX8_hasRange l G c4.2 v0 v3 v4 hc14) z14_5 rfl oX8_hasRange kw_580 kw_586 rfl ⟨Nat.le_of_ble_eq_true rfl, Nat.le_of_ble_eq_true rfl⟩ rfl (Nat.le_of_ble_eq_true rfl) ⟨Nat.le_refl _, Nat.le_refl _⟩ dX8_takeFrom_14 ?_
        refine jr_if_eq (tgt := 28) C dX8_takeFrom_17 rfl (fun q17 => ?_) (fun q17 => ?_)
        · have hv := (if_pos q17).symm.trans hv
          exact jr_sub [] rfl (tX8_takeFrom_28 C K G  c14.2 hv)
        · have hv := (if_neg q17).symm.trans hv
          refine jr_naload_n C dX8_takeFrom_20 rfl 0 rfl ?_
          refine jr_naload_n C dX8_takeFrom_21 rfl 1 rfl ?_
          by_cases z22_5 : isKx c14.2 v0 [5] = true
          case pos =>
            have hv := (if_pos z22_5).symm.trans hv
            obtain ⟨c22, hc22, hv⟩ := Option.bind_eq_some_iff.mp hv
            refine jc_callT (ci := 5) (rest := []) C K (pX8_isAlike l G c14.2 v0 v1 hc22) z22_5 rfl oX8_isAlike kw_572 kw_587 rfl ⟨Nat.le_of_ble_eq_true rfl, Nat.le_of_ble_eq_true rfl⟩ rfl (Nat.le_of_ble_eq_true rfl) ⟨Nat.le_refl _, Nat.le_refl _⟩ dX8_takeFrom_22 ?_
            refine jr_if_ne (tgt := 30) C dX8_takeFrom_25 rfl (fun q25 => ?_) (fun q25 => ?_)
            · have hv := (if_neg q25).symm.trans hv
              refine jr_naload_n C dX8_takeFrom_30 rfl 0 rfl ?_
              by_cases z31_5 : isKx c22.2 v0 [5] = true
              case pos =>
                have hv := (if_pos z31_5).symm.trans hv
                obtain ⟨c31, hc31, hv⟩ := Option.bind_eq_some_iff.mp hv
                refine jc_callT (ci := 5) (rest := []) C K (pX8_holdsThings l G c22.2 v0  hc31) z31_5 rfl oX8_holdsThings kw_576 kw_574 rfl ⟨Nat.le_of_ble_eq_true rfl, Nat.le_of_ble_eq_true rfl⟩ rfl (Nat.le_of_ble_eq_true rfl) ⟨Nat.le_refl _, Nat.le_refl _⟩ dX8_takeFrom_31 ?_
                refine jr_if_ne (tgt := 54) C dX8_takeFrom_34 rfl (fun q34 => ?_) (fun q34 => ?_)
                · have hv := (if_neg q34).symm.trans hv
                  refine jr_naload_n C dX8_takeFrom_54 rfl 1 rfl ?_
                  refine jr_naload_n C dX8_takeFrom_55 rfl 0 rfl ?_
                  refine jr_acmp_ne (rx := v1) (ry := v0) (tgt := 68) C dX8_takeFrom_56 rfl (fun q56 => ?_) (fun q56 => ?_)
                  · have hv := (if_neg q56).symm.trans hv
                    exact tX8_takeFrom_68 C K G  c31.2 v0 v1 v2 v3 v4 hv
                  · have hv := (if_pos q56).symm.trans hv
                    refine jr_iload_n C dX8_takeFrom_59 rfl 3 rfl ?_
                    refine jr_iload_n C dX8_takeFrom_60 rfl 2 rfl ?_
                    refine jr_icmp_le (tgt := 68) C dX8_takeFrom_61 rfl (fun q61 => ?_) (fun q61 => ?_)
                    · have hv := (if_pos q61).symm.trans hv
                      exact tX8_takeFrom_68 C K G  c31.2 v0 v1 v2 v3 v4 hv
                    · have hv := (if_neg q61).symm.trans hv
                      refine jr_iconst (v := 1) C dX8_takeFrom_64 (by decide) ?_
                      refine jr_goto (tgt := 69) C dX8_takeFrom_65 rfl ?_
                      exact tX8_takeFrom_69 C K G  c31.2 v0 v1 v2 v3 v4 1 hv
                · have hv := (if_pos q34).symm.trans hv
                  refine jr_naload_n C dX8_takeFrom_37 rfl 1 rfl ?_
                  obtain ⟨c38, hc38, hv⟩ := Option.bind_eq_some_iff.mp hv
                  refine jc_tg C K (tgN_F hc38) fg_Row_values kw_520 dX8_takeFrom_38 ?_
                  refine jr_iload_n C dX8_takeFrom_41 rfl 2 rfl ?_
                  refine jr_naload_n C dX8_takeFrom_42 rfl 0 rfl ?_
                  obtain ⟨c43, hc43, hv⟩ := Option.bind_eq_some_iff.mp hv
                  refine jc_tg C K (tgN_F hc43) fg_Row_values kw_520 dX8_takeFrom_43 ?_
                  refine jr_iload_n C dX8_takeFrom_46 rfl 3 rfl ?_
                  refine jr_iload C dX8_takeFrom_47 4 rfl ?_
                  obtain ⟨c49, hc49, hv⟩ := Option.bind_eq_some_iff.mp hv
                  refine jc_tcpJ C K hc49 kw_588 (Nat.le_of_ble_eq_true rfl) (Nat.le_of_ble_eq_true rfl) dX8_takeFrom_49 ?_
                  refine jr_iconst (v := 1) C dX8_takeFrom_52 (by decide) ?_
                  exact jc_zret C K dX8_takeFrom_53 rfl (Option.some.inj hv) ⟨Nat.le_refl _, Nat.le_refl _⟩
              have hv := (if_neg z31_5).symm.trans hv
              exact op_none hv
            · have hv := (if_pos q25).symm.trans hv
              exact jr_sub [] rfl (tX8_takeFrom_28 C K G  c22.2 hv)
          have hv := (if_neg z22_5).symm.trans hv
          exact op_none hv
      have hv := (if_neg z14_5).symm.trans hv
      exact op_none hv
  have hv := (if_neg z4_5).symm.trans hv
  exact op_none hv
theorem pX8_takeFrom (l : Launch) {g : CG} (G : cSep g)   (S : CS) (v0 : Option Nat) (v1 : Option Nat) (v2 : Int32) (v3 : Int32) (v4 : Int32) {w : Int32 × CS} (hw : fX8_takeFrom S v0 v1 v2 v3 v4 = some w)  : cC l yX8_takeFrom cX8_takeFrom 8 (some .boolean) 2 0 0 g [va_rf v0, va_rf v1, .int v2, .int v3, .int v4] S (some (.int w.1)) w.2 := cC_of (lv := [(0, va_rf v0), (1, va_rf v1), (2, .int v2), (3, .int v3), (4, .int v4)]) (by decide +kernel) (by simp [lg_sl, cat_rf, cat_i, cat_l, cat_r]) (by simp [lv_args, cat_rf, cat_i, cat_l, cat_r]) (fun C K => tX8_takeFrom_0 C K G  S v0 v1 v2 v3 v4 hw)
/-! RobotCell$Axis.at()J -/
def fX0_at (S : CS) (v0 : Option Nat) : Option (Int64 × CS) :=
  Option.bind (tgJ S v0 [0, 4, 6] 0) (fun c1 => some (c1, S))
theorem oX0_at : ok_c yX0_at cX0_at 1 (some .long) 0 (.instanceMethod yX0_at) := ⟨kw_906, ⟨kw_905, rfl⟩, kw_84, by decide +kernel⟩
set_option maxRecDepth 100000 in
set_option maxHeartbeats 1000000 in
theorem tX0_at_0 {p : Program} {l : Launch} {e : Env} {s : State} {m : MethodId} {args : Array Value} {below : List Frame} {meth : Method} {c : Code} {g : CG} {S0 : CS} (C : CC p s m args meth c yX0_at cX0_at 1 (some .long)) (K : cK g s) (G : cSep g)  (S : CS) (v0 : Option Nat) {w : Int64 × CS} (hv : fX0_at S v0 = some w) : CJ p l e s m args below meth c 1 0 0 0 g S0 (some (.long w.1)) w.2 0 [(0, va_rf v0)] [] S 0 0 := by
  unfold fX0_at at hv
  refine jr_naload_n C dX0_at_0 rfl 0 rfl ?_
  obtain ⟨c1, hc1, hv⟩ := Option.bind_eq_some_iff.mp hv
  refine jc_tg C K (tgJ_F hc1) fg_Axis_at kw_761 dX0_at_1 ?_
  exact jc_lret C K dX0_at_4 (Option.some.inj hv) ⟨Nat.le_refl _, Nat.le_refl _⟩
theorem pX0_at (l : Launch) {g : CG} (G : cSep g)   (S : CS) (v0 : Option Nat) {w : Int64 × CS} (hw : fX0_at S v0 = some w)  : cC l yX0_at cX0_at 1 (some .long) 0 0 0 g [va_rf v0] S (some (.long w.1)) w.2 := cC_of (lv := [(0, va_rf v0)]) (by decide +kernel) (by simp [lg_sl, cat_rf, cat_i, cat_l, cat_r]) (by simp [lv_args, cat_rf, cat_i, cat_l, cat_r]) (fun C K => tX0_at_0 C K G  S v0 hw)
/-! RobotCell$Axis.span()I -/
def fX0_span (S : CS) (v0 : Option Nat) : Option (Int32 × CS) :=
  some (100, S)
theorem oX0_span : ok_c yX0_span cX0_span 1 (some .int) 0 (.instanceMethod yX0_span) := ⟨kw_858, ⟨kw_848, rfl⟩, kw_84, by decide +kernel⟩
set_option maxRecDepth 100000 in
set_option maxHeartbeats 1000000 in
theorem tX0_span_0 {p : Program} {l : Launch} {e : Env} {s : State} {m : MethodId} {args : Array Value} {below : List Frame} {meth : Method} {c : Code} {g : CG} {S0 : CS} (C : CC p s m args meth c yX0_span cX0_span 1 (some .int)) (K : cK g s) (G : cSep g)  (S : CS) (v0 : Option Nat) {w : Int32 × CS} (hv : fX0_span S v0 = some w) : CJ p l e s m args below meth c 1 0 0 0 g S0 (some (.int w.1)) w.2 0 [(0, va_rf v0)] [] S 0 0 := by
  unfold fX0_span at hv
  refine jr_bipush (v := 100) C dX0_span_0 (by decide) ?_
  exact jc_iret C K dX0_span_2 (Option.some.inj hv) ⟨Nat.le_refl _, Nat.le_refl _⟩
theorem pX0_span (l : Launch) {g : CG} (G : cSep g)   (S : CS) (v0 : Option Nat) {w : Int32 × CS} (hw : fX0_span S v0 = some w)  : cC l yX0_span cX0_span 1 (some .int) 0 0 0 g [va_rf v0] S (some (.int w.1)) w.2 := cC_of (lv := [(0, va_rf v0)]) (by decide +kernel) (by simp [lg_sl, cat_rf, cat_i, cat_l, cat_r]) (by simp [lv_args, cat_rf, cat_i, cat_l, cat_r]) (fun C K => tX0_span_0 C K G  S v0 hw)
/-! RobotCell$Axis.rank()I -/
def fX0_rank (S : CS) (v0 : Option Nat) : Option (Int32 × CS) :=
  some (3, S)
theorem oX0_rank : ok_c yX0_rank cX0_rank 1 (some .int) 0 (.instanceMethod yX0_rank) := ⟨kw_936, ⟨kw_935, rfl⟩, kw_84, by decide +kernel⟩
set_option maxRecDepth 100000 in
set_option maxHeartbeats 1000000 in
theorem tX0_rank_0 {p : Program} {l : Launch} {e : Env} {s : State} {m : MethodId} {args : Array Value} {below : List Frame} {meth : Method} {c : Code} {g : CG} {S0 : CS} (C : CC p s m args meth c yX0_rank cX0_rank 1 (some .int)) (K : cK g s) (G : cSep g)  (S : CS) (v0 : Option Nat) {w : Int32 × CS} (hv : fX0_rank S v0 = some w) : CJ p l e s m args below meth c 1 0 0 0 g S0 (some (.int w.1)) w.2 0 [(0, va_rf v0)] [] S 0 0 := by
  unfold fX0_rank at hv
  refine jr_iconst (v := 3) C dX0_rank_0 (by decide) ?_
  exact jc_iret C K dX0_rank_1 (Option.some.inj hv) ⟨Nat.le_refl _, Nat.le_refl _⟩
theorem pX0_rank (l : Launch) {g : CG} (G : cSep g)   (S : CS) (v0 : Option Nat) {w : Int32 × CS} (hw : fX0_rank S v0 = some w)  : cC l yX0_rank cX0_rank 1 (some .int) 0 0 0 g [va_rf v0] S (some (.int w.1)) w.2 := cC_of (lv := [(0, va_rf v0)]) (by decide +kernel) (by simp [lg_sl, cat_rf, cat_i, cat_l, cat_r]) (by simp [lv_args, cat_rf, cat_i, cat_l, cat_r]) (fun C K => tX0_rank_0 C K G  S v0 hw)
/-! RobotCell$Axis.speed()I -/
def fX0_speed (S : CS) (v0 : Option Nat) : Option (Int32 × CS) :=
  some (10, S)
theorem oX0_speed : ok_c yX0_speed cX0_speed 1 (some .int) 0 (.instanceMethod yX0_speed) := ⟨kw_878, ⟨kw_871, rfl⟩, kw_84, by decide +kernel⟩
set_option maxRecDepth 100000 in
set_option maxHeartbeats 1000000 in
theorem tX0_speed_0 {p : Program} {l : Launch} {e : Env} {s : State} {m : MethodId} {args : Array Value} {below : List Frame} {meth : Method} {c : Code} {g : CG} {S0 : CS} (C : CC p s m args meth c yX0_speed cX0_speed 1 (some .int)) (K : cK g s) (G : cSep g)  (S : CS) (v0 : Option Nat) {w : Int32 × CS} (hv : fX0_speed S v0 = some w) : CJ p l e s m args below meth c 1 0 0 0 g S0 (some (.int w.1)) w.2 0 [(0, va_rf v0)] [] S 0 0 := by
  unfold fX0_speed at hv
  refine jr_bipush (v := 10) C dX0_speed_0 (by decide) ?_
  exact jc_iret C K dX0_speed_2 (Option.some.inj hv) ⟨Nat.le_refl _, Nat.le_refl _⟩
theorem pX0_speed (l : Launch) {g : CG} (G : cSep g)   (S : CS) (v0 : Option Nat) {w : Int32 × CS} (hw : fX0_speed S v0 = some w)  : cC l yX0_speed cX0_speed 1 (some .int) 0 0 0 g [va_rf v0] S (some (.int w.1)) w.2 := cC_of (lv := [(0, va_rf v0)]) (by decide +kernel) (by simp [lg_sl, cat_rf, cat_i, cat_l, cat_r]) (by simp [lv_args, cat_rf, cat_i, cat_l, cat_r]) (fun C K => tX0_speed_0 C K G  S v0 hw)
/-! RobotCell$Axis.travelled()J -/
def fX0_travelled (S : CS) (v0 : Option Nat) : Option (Int64 × CS) :=
  Option.bind (tgJ S v0 [0, 4, 6] 1) (fun c1 => some (c1, S))
theorem oX0_travelled : ok_c yX0_travelled cX0_travelled 1 (some .long) 0 (.instanceMethod yX0_travelled) := ⟨kw_953, ⟨kw_952, rfl⟩, kw_84, by decide +kernel⟩
set_option maxRecDepth 100000 in
set_option maxHeartbeats 1000000 in
theorem tX0_travelled_0 {p : Program} {l : Launch} {e : Env} {s : State} {m : MethodId} {args : Array Value} {below : List Frame} {meth : Method} {c : Code} {g : CG} {S0 : CS} (C : CC p s m args meth c yX0_travelled cX0_travelled 1 (some .long)) (K : cK g s) (G : cSep g)  (S : CS) (v0 : Option Nat) {w : Int64 × CS} (hv : fX0_travelled S v0 = some w) : CJ p l e s m args below meth c 1 0 0 0 g S0 (some (.long w.1)) w.2 0 [(0, va_rf v0)] [] S 0 0 := by
  unfold fX0_travelled at hv
  refine jr_naload_n C dX0_travelled_0 rfl 0 rfl ?_
  obtain ⟨c1, hc1, hv⟩ := Option.bind_eq_some_iff.mp hv
  refine jc_tg C K (tgJ_F hc1) fg_Axis_travelled kw_762 dX0_travelled_1 ?_
  exact jc_lret C K dX0_travelled_4 (Option.some.inj hv) ⟨Nat.le_refl _, Nat.le_refl _⟩
theorem pX0_travelled (l : Launch) {g : CG} (G : cSep g)   (S : CS) (v0 : Option Nat) {w : Int64 × CS} (hw : fX0_travelled S v0 = some w)  : cC l yX0_travelled cX0_travelled 1 (some .long) 0 0 0 g [va_rf v0] S (some (.long w.1)) w.2 := cC_of (lv := [(0, va_rf v0)]) (by decide +kernel) (by simp [lg_sl, cat_rf, cat_i, cat_l, cat_r]) (by simp [lv_args, cat_rf, cat_i, cat_l, cat_r]) (fun C K => tX0_travelled_0 C K G  S v0 hw)
/-! RobotCell$Axis.moves()J -/
def fX0_moves (S : CS) (v0 : Option Nat) : Option (Int64 × CS) :=
  Option.bind (tgJ S v0 [0, 4, 6] 2) (fun c1 => some (c1, S))
theorem oX0_moves : ok_c yX0_moves cX0_moves 1 (some .long) 0 (.instanceMethod yX0_moves) := ⟨kw_967, ⟨kw_966, rfl⟩, kw_84, by decide +kernel⟩
set_option maxRecDepth 100000 in
set_option maxHeartbeats 1000000 in
theorem tX0_moves_0 {p : Program} {l : Launch} {e : Env} {s : State} {m : MethodId} {args : Array Value} {below : List Frame} {meth : Method} {c : Code} {g : CG} {S0 : CS} (C : CC p s m args meth c yX0_moves cX0_moves 1 (some .long)) (K : cK g s) (G : cSep g)  (S : CS) (v0 : Option Nat) {w : Int64 × CS} (hv : fX0_moves S v0 = some w) : CJ p l e s m args below meth c 1 0 0 0 g S0 (some (.long w.1)) w.2 0 [(0, va_rf v0)] [] S 0 0 := by
  unfold fX0_moves at hv
  refine jr_naload_n C dX0_moves_0 rfl 0 rfl ?_
  obtain ⟨c1, hc1, hv⟩ := Option.bind_eq_some_iff.mp hv
  refine jc_tg C K (tgJ_F hc1) fg_Axis_moves kw_763 dX0_moves_1 ?_
  exact jc_lret C K dX0_moves_4 (Option.some.inj hv) ⟨Nat.le_refl _, Nat.le_refl _⟩
theorem pX0_moves (l : Launch) {g : CG} (G : cSep g)   (S : CS) (v0 : Option Nat) {w : Int64 × CS} (hw : fX0_moves S v0 = some w)  : cC l yX0_moves cX0_moves 1 (some .long) 0 0 0 g [va_rf v0] S (some (.long w.1)) w.2 := cC_of (lv := [(0, va_rf v0)]) (by decide +kernel) (by simp [lg_sl, cat_rf, cat_i, cat_l, cat_r]) (by simp [lv_args, cat_rf, cat_i, cat_l, cat_r]) (fun C K => tX0_moves_0 C K G  S v0 hw)
/-! RobotCell$Axis.withinTurn(J)J -/
def fX0_withinTurn (S : CS) (v0 : Option Nat) (v1 : Int64) : Option (Int64 × CS) :=
  some (v1, S)
theorem oX0_withinTurn : ok_c yX0_withinTurn cX0_withinTurn 3 (some .long) 1 (.instanceMethod yX0_withinTurn) := ⟨kw_830, ⟨kw_816, rfl⟩, kw_84, by decide +kernel⟩
set_option maxRecDepth 100000 in
set_option maxHeartbeats 1000000 in
theorem tX0_withinTurn_0 {p : Program} {l : Launch} {e : Env} {s : State} {m : MethodId} {args : Array Value} {below : List Frame} {meth : Method} {c : Code} {g : CG} {S0 : CS} (C : CC p s m args meth c yX0_withinTurn cX0_withinTurn 3 (some .long)) (K : cK g s) (G : cSep g)  (S : CS) (v0 : Option Nat) (v1 : Int64) {w : Int64 × CS} (hv : fX0_withinTurn S v0 v1 = some w) : CJ p l e s m args below meth c 3 0 0 0 g S0 (some (.long w.1)) w.2 0 [(0, va_rf v0), (1, .long v1)] [] S 0 0 := by
  unfold fX0_withinTurn at hv
  refine jr_lload_n C dX0_withinTurn_0 rfl 1 rfl ?_
  exact jc_lret C K dX0_withinTurn_1 (Option.some.inj hv) ⟨Nat.le_refl _, Nat.le_refl _⟩
theorem pX0_withinTurn (l : Launch) {g : CG} (G : cSep g)   (S : CS) (v0 : Option Nat) (v1 : Int64) {w : Int64 × CS} (hw : fX0_withinTurn S v0 v1 = some w)  : cC l yX0_withinTurn cX0_withinTurn 3 (some .long) 0 0 0 g [va_rf v0, .long v1] S (some (.long w.1)) w.2 := cC_of (lv := [(0, va_rf v0), (1, .long v1)]) (by decide +kernel) (by simp [lg_sl, cat_rf, cat_i, cat_l, cat_r]) (by simp [lv_args, cat_rf, cat_i, cat_l, cat_r]) (fun C K => tX0_withinTurn_0 C K G  S v0 v1 hw)
/-! RobotCell$Axis.onGrid(J)J -/
def fX0_onGrid (S : CS) (v0 : Option Nat) (v1 : Int64) : Option (Int64 × CS) :=
  some (v1, S)
theorem oX0_onGrid : ok_c yX0_onGrid cX0_onGrid 3 (some .long) 1 (.instanceMethod yX0_onGrid) := ⟨kw_844, ⟨kw_832, rfl⟩, kw_84, by decide +kernel⟩
set_option maxRecDepth 100000 in
set_option maxHeartbeats 1000000 in
theorem tX0_onGrid_0 {p : Program} {l : Launch} {e : Env} {s : State} {m : MethodId} {args : Array Value} {below : List Frame} {meth : Method} {c : Code} {g : CG} {S0 : CS} (C : CC p s m args meth c yX0_onGrid cX0_onGrid 3 (some .long)) (K : cK g s) (G : cSep g)  (S : CS) (v0 : Option Nat) (v1 : Int64) {w : Int64 × CS} (hv : fX0_onGrid S v0 v1 = some w) : CJ p l e s m args below meth c 3 0 0 0 g S0 (some (.long w.1)) w.2 0 [(0, va_rf v0), (1, .long v1)] [] S 0 0 := by
  unfold fX0_onGrid at hv
  refine jr_lload_n C dX0_onGrid_0 rfl 1 rfl ?_
  exact jc_lret C K dX0_onGrid_1 (Option.some.inj hv) ⟨Nat.le_refl _, Nat.le_refl _⟩
theorem pX0_onGrid (l : Launch) {g : CG} (G : cSep g)   (S : CS) (v0 : Option Nat) (v1 : Int64) {w : Int64 × CS} (hw : fX0_onGrid S v0 v1 = some w)  : cC l yX0_onGrid cX0_onGrid 3 (some .long) 0 0 0 g [va_rf v0, .long v1] S (some (.long w.1)) w.2 := cC_of (lv := [(0, va_rf v0), (1, .long v1)]) (by decide +kernel) (by simp [lg_sl, cat_rf, cat_i, cat_l, cat_r]) (by simp [lv_args, cat_rf, cat_i, cat_l, cat_r]) (fun C K => tX0_onGrid_0 C K G  S v0 v1 hw)
/-! RobotCell$Axis.goHome()V -/
def fX0_goHome (S : CS) (v0 : Option Nat) : Option (CS) :=
  Option.bind (tp S v0 [0, 4, 6] 0 (.long 0)) (fun c2 => some c2)
theorem oX0_goHome : ok_c yX0_goHome cX0_goHome 1 none 0 (.instanceMethod yX0_goHome) := ⟨kw_1008, ⟨kw_1007, rfl⟩, kw_84, by decide +kernel⟩
set_option maxRecDepth 100000 in
set_option maxHeartbeats 1000000 in
theorem tX0_goHome_0 {p : Program} {l : Launch} {e : Env} {s : State} {m : MethodId} {args : Array Value} {below : List Frame} {meth : Method} {c : Code} {g : CG} {S0 : CS} (C : CC p s m args meth c yX0_goHome cX0_goHome 1 none) (K : cK g s) (G : cSep g)  (S : CS) (v0 : Option Nat) {w : CS} (hv : fX0_goHome S v0 = some w) : CJ p l e s m args below meth c 1 0 0 0 g S0 none w 0 [(0, va_rf v0)] [] S 0 0 := by
  unfold fX0_goHome at hv
  refine jr_naload_n C dX0_goHome_0 rfl 0 rfl ?_
  refine jr_lconst (v := 0) C dX0_goHome_1 (by decide) ?_
  obtain ⟨c2, hc2, hv⟩ := Option.bind_eq_some_iff.mp hv
  refine jc_tp C K hc2 fp_Axis_at rfl rfl kw_761 dX0_goHome_2 ?_
  exact jc_vret C K dX0_goHome_5 (Option.some.inj hv) ⟨Nat.le_refl _, Nat.le_refl _⟩
theorem pX0_goHome (l : Launch) {g : CG} (G : cSep g)   (S : CS) (v0 : Option Nat) {w : CS} (hw : fX0_goHome S v0 = some w)  : cC l yX0_goHome cX0_goHome 1 none 0 0 0 g [va_rf v0] S none w := cC_of (lv := [(0, va_rf v0)]) (by decide +kernel) (by simp [lg_sl, cat_rf, cat_i, cat_l, cat_r]) (by simp [lv_args, cat_rf, cat_i, cat_l, cat_r]) (fun C K => tX0_goHome_0 C K G  S v0 hw)
/-! RobotCell$Axis.countMove()V -/
def fX0_countMove (S : CS) (v0 : Option Nat) : Option (CS) :=
  Option.bind (tgJ S v0 [0, 4, 6] 2) (fun c2 => Option.bind (tp S v0 [0, 4, 6] 2 (.long (c2 + 1))) (fun c7 => some c7))
theorem oX0_countMove : ok_c yX0_countMove cX0_countMove 1 none 0 (.instanceMethod yX0_countMove) := ⟨kw_999, ⟨kw_998, rfl⟩, kw_84, by decide +kernel⟩
set_option maxRecDepth 100000 in
set_option maxHeartbeats 1000000 in
theorem tX0_countMove_0 {p : Program} {l : Launch} {e : Env} {s : State} {m : MethodId} {args : Array Value} {below : List Frame} {meth : Method} {c : Code} {g : CG} {S0 : CS} (C : CC p s m args meth c yX0_countMove cX0_countMove 1 none) (K : cK g s) (G : cSep g)  (S : CS) (v0 : Option Nat) {w : CS} (hv : fX0_countMove S v0 = some w) : CJ p l e s m args below meth c 1 0 0 0 g S0 none w 0 [(0, va_rf v0)] [] S 0 0 := by
  unfold fX0_countMove at hv
  refine jr_naload_n C dX0_countMove_0 rfl 0 rfl ?_
  refine jr_dup C dX0_countMove_1 (cat_rf _) ?_
  obtain ⟨c2, hc2, hv⟩ := Option.bind_eq_some_iff.mp hv
  refine jc_tg C K (tgJ_F hc2) fg_Axis_moves kw_763 dX0_countMove_2 ?_
  refine jr_lconst (v := 1) C dX0_countMove_5 (by decide) ?_
  refine jr_ladd C dX0_countMove_6 ?_
  obtain ⟨c7, hc7, hv⟩ := Option.bind_eq_some_iff.mp hv
  refine jc_tp C K hc7 fp_Axis_moves rfl rfl kw_763 dX0_countMove_7 ?_
  exact jc_vret C K dX0_countMove_10 (Option.some.inj hv) ⟨Nat.le_refl _, Nat.le_refl _⟩
theorem pX0_countMove (l : Launch) {g : CG} (G : cSep g)   (S : CS) (v0 : Option Nat) {w : CS} (hw : fX0_countMove S v0 = some w)  : cC l yX0_countMove cX0_countMove 1 none 0 0 0 g [va_rf v0] S none w := cC_of (lv := [(0, va_rf v0)]) (by decide +kernel) (by simp [lg_sl, cat_rf, cat_i, cat_l, cat_r]) (by simp [lv_args, cat_rf, cat_i, cat_l, cat_r]) (fun C K => tX0_countMove_0 C K G  S v0 hw)
/-! RobotCell$Axis.forgetTravel()V -/
def fX0_forgetTravel (S : CS) (v0 : Option Nat) : Option (CS) :=
  Option.bind (tp S v0 [0, 4, 6] 1 (.long 0)) (fun c2 => some c2)
theorem oX0_forgetTravel : ok_c yX0_forgetTravel cX0_forgetTravel 1 none 0 (.instanceMethod yX0_forgetTravel) := ⟨kw_1014, ⟨kw_1013, rfl⟩, kw_84, by decide +kernel⟩
set_option maxRecDepth 100000 in
set_option maxHeartbeats 1000000 in
theorem tX0_forgetTravel_0 {p : Program} {l : Launch} {e : Env} {s : State} {m : MethodId} {args : Array Value} {below : List Frame} {meth : Method} {c : Code} {g : CG} {S0 : CS} (C : CC p s m args meth c yX0_forgetTravel cX0_forgetTravel 1 none) (K : cK g s) (G : cSep g)  (S : CS) (v0 : Option Nat) {w : CS} (hv : fX0_forgetTravel S v0 = some w) : CJ p l e s m args below meth c 1 0 0 0 g S0 none w 0 [(0, va_rf v0)] [] S 0 0 := by
  unfold fX0_forgetTravel at hv
  refine jr_naload_n C dX0_forgetTravel_0 rfl 0 rfl ?_
  refine jr_lconst (v := 0) C dX0_forgetTravel_1 (by decide) ?_
  obtain ⟨c2, hc2, hv⟩ := Option.bind_eq_some_iff.mp hv
  refine jc_tp C K hc2 fp_Axis_travelled rfl rfl kw_762 dX0_forgetTravel_2 ?_
  exact jc_vret C K dX0_forgetTravel_5 (Option.some.inj hv) ⟨Nat.le_refl _, Nat.le_refl _⟩
theorem pX0_forgetTravel (l : Launch) {g : CG} (G : cSep g)   (S : CS) (v0 : Option Nat) {w : CS} (hw : fX0_forgetTravel S v0 = some w)  : cC l yX0_forgetTravel cX0_forgetTravel 1 none 0 0 0 g [va_rf v0] S none w := cC_of (lv := [(0, va_rf v0)]) (by decide +kernel) (by simp [lg_sl, cat_rf, cat_i, cat_l, cat_r]) (by simp [lv_args, cat_rf, cat_i, cat_l, cat_r]) (fun C K => tX0_forgetTravel_0 C K G  S v0 hw)
/-! RobotCell$Rail.span()I -/
def fX6_span_6 (S : CS) (t0 : Int32) (t1 : Int32) : Option (Int32 × CS) :=
  some (t0 * t1, S)
def fX6_span (S : CS) (v0 : Option Nat) : Option (Int32 × CS) :=
  if isKx S v0 [4] = true then (Option.bind (fX0_span S v0) (fun c3 => fX6_span_6 c3.2 10 c3.1)) else if isKx S v0 [6] = true then (Option.bind (fX0_span S v0) (fun c3 => fX6_span_6 c3.2 10 c3.1)) else none
theorem oX6_span : ok_c yX6_span cX6_span 1 (some .int) 0 (.instanceMethod yX6_span) := ⟨kw_853, ⟨kw_852, rfl⟩, kw_85, by decide +kernel⟩
set_option maxRecDepth 100000 in
set_option maxHeartbeats 1000000 in
theorem tX6_span_6 {p : Program} {l : Launch} {e : Env} {s : State} {m : MethodId} {args : Array Value} {below : List Frame} {meth : Method} {c : Code} {g : CG} {S0 : CS} (C : CC p s m args meth c yX6_span cX6_span 1 (some .int)) (K : cK g s) (G : cSep g)  (S : CS) (t0 : Int32) (t1 : Int32) {w : Int32 × CS} (hv : fX6_span_6 S t0 t1 = some w) : CJ p l e s m args below meth c 1 1 0 0 g S0 (some (.int w.1)) w.2 6 [] [.int t1, .int t0] S 0 0 := by
  unfold fX6_span_6 at hv
  refine jr_imul C dX6_span_6 ?_
  exact jc_iret C K dX6_span_7 (Option.some.inj hv) ⟨Nat.le_refl _, Nat.le_refl _⟩
set_option maxRecDepth 100000 in
set_option maxHeartbeats 1000000 in
theorem tX6_span_0 {p : Program} {l : Launch} {e : Env} {s : State} {m : MethodId} {args : Array Value} {below : List Frame} {meth : Method} {c : Code} {g : CG} {S0 : CS} (C : CC p s m args meth c yX6_span cX6_span 1 (some .int)) (K : cK g s) (G : cSep g)  (S : CS) (v0 : Option Nat) {w : Int32 × CS} (hv : fX6_span S v0 = some w) : CJ p l e s m args below meth c 1 1 0 0 g S0 (some (.int w.1)) w.2 0 [(0, va_rf v0)] [] S 0 0 := by
  unfold fX6_span at hv
  refine jr_bipush (v := 10) C dX6_span_0 (by decide) ?_
  refine jr_naload_n C dX6_span_2 rfl 0 rfl ?_
  by_cases z3_4 : isKx S v0 [4] = true
  case pos =>
    have hv := (if_pos z3_4).symm.trans hv
    obtain ⟨c3, hc3, hv⟩ := Option.bind_eq_some_iff.mp hv
    refine jc_callP (ci := 4) (rest := [.int 10]) C K (pX0_span l G S v0  hc3) z3_4 rfl oX0_span kw_850 kw_780 (by decide +kernel) kw_854 rfl ⟨Nat.le_of_ble_eq_true rfl, Nat.le_of_ble_eq_true rfl⟩ rfl (Nat.le_of_ble_eq_true rfl) ⟨Nat.le_refl _, Nat.le_refl _⟩ dX6_span_3 ?_
    exact jr_sub [] rfl (tX6_span_6 C K G  c3.2 10 c3.1 hv)
  have hv := (if_neg z3_4).symm.trans hv
  by_cases z3_6 : isKx S v0 [6] = true
  case pos =>
    have hv := (if_pos z3_6).symm.trans hv
    obtain ⟨c3, hc3, hv⟩ := Option.bind_eq_some_iff.mp hv
    refine jc_callP (ci := 6) (rest := [.int 10]) C K (pX0_span l G S v0  hc3) z3_6 rfl oX0_span kw_850 kw_780 (by decide +kernel) kw_854 rfl ⟨Nat.le_of_ble_eq_true rfl, Nat.le_of_ble_eq_true rfl⟩ rfl (Nat.le_of_ble_eq_true rfl) ⟨Nat.le_refl _, Nat.le_refl _⟩ dX6_span_3 ?_
    exact jr_sub [] rfl (tX6_span_6 C K G  c3.2 10 c3.1 hv)
  have hv := (if_neg z3_6).symm.trans hv
  exact op_none hv
theorem pX6_span (l : Launch) {g : CG} (G : cSep g)   (S : CS) (v0 : Option Nat) {w : Int32 × CS} (hw : fX6_span S v0 = some w)  : cC l yX6_span cX6_span 1 (some .int) 1 0 0 g [va_rf v0] S (some (.int w.1)) w.2 := cC_of (lv := [(0, va_rf v0)]) (by decide +kernel) (by simp [lg_sl, cat_rf, cat_i, cat_l, cat_r]) (by simp [lv_args, cat_rf, cat_i, cat_l, cat_r]) (fun C K => tX6_span_0 C K G  S v0 hw)
/-! RobotCell$Rail.rank()I -/
def fX6_rank_4 (S : CS) (t0 : Int32) : Option (Int32 × CS) :=
  some (t0 + 1, S)
def fX6_rank (S : CS) (v0 : Option Nat) : Option (Int32 × CS) :=
  if isKx S v0 [4] = true then (Option.bind (fX0_rank S v0) (fun c1 => fX6_rank_4 c1.2 c1.1)) else if isKx S v0 [6] = true then (Option.bind (fX0_rank S v0) (fun c1 => fX6_rank_4 c1.2 c1.1)) else none
theorem oX6_rank : ok_c yX6_rank cX6_rank 1 (some .int) 0 (.instanceMethod yX6_rank) := ⟨kw_942, ⟨kw_941, rfl⟩, kw_85, by decide +kernel⟩
set_option maxRecDepth 100000 in
set_option maxHeartbeats 1000000 in
theorem tX6_rank_4 {p : Program} {l : Launch} {e : Env} {s : State} {m : MethodId} {args : Array Value} {below : List Frame} {meth : Method} {c : Code} {g : CG} {S0 : CS} (C : CC p s m args meth c yX6_rank cX6_rank 1 (some .int)) (K : cK g s) (G : cSep g)  (S : CS) (t0 : Int32) {w : Int32 × CS} (hv : fX6_rank_4 S t0 = some w) : CJ p l e s m args below meth c 1 1 0 0 g S0 (some (.int w.1)) w.2 4 [] [.int t0] S 0 0 := by
  unfold fX6_rank_4 at hv
  refine jr_iconst (v := 1) C dX6_rank_4 (by decide) ?_
  refine jr_iadd C dX6_rank_5 ?_
  exact jc_iret C K dX6_rank_6 (Option.some.inj hv) ⟨Nat.le_refl _, Nat.le_refl _⟩
set_option maxRecDepth 100000 in
set_option maxHeartbeats 1000000 in
theorem tX6_rank_0 {p : Program} {l : Launch} {e : Env} {s : State} {m : MethodId} {args : Array Value} {below : List Frame} {meth : Method} {c : Code} {g : CG} {S0 : CS} (C : CC p s m args meth c yX6_rank cX6_rank 1 (some .int)) (K : cK g s) (G : cSep g)  (S : CS) (v0 : Option Nat) {w : Int32 × CS} (hv : fX6_rank S v0 = some w) : CJ p l e s m args below meth c 1 1 0 0 g S0 (some (.int w.1)) w.2 0 [(0, va_rf v0)] [] S 0 0 := by
  unfold fX6_rank at hv
  refine jr_naload_n C dX6_rank_0 rfl 0 rfl ?_
  by_cases z1_4 : isKx S v0 [4] = true
  case pos =>
    have hv := (if_pos z1_4).symm.trans hv
    obtain ⟨c1, hc1, hv⟩ := Option.bind_eq_some_iff.mp hv
    refine jc_callP (ci := 4) (rest := []) C K (pX0_rank l G S v0  hc1) z1_4 rfl oX0_rank kw_1620 kw_780 (by decide +kernel) kw_943 rfl ⟨Nat.le_of_ble_eq_true rfl, Nat.le_of_ble_eq_true rfl⟩ rfl (Nat.le_of_ble_eq_true rfl) ⟨Nat.le_refl _, Nat.le_refl _⟩ dX6_rank_1 ?_
    exact jr_sub [] rfl (tX6_rank_4 C K G  c1.2 c1.1 hv)
  have hv := (if_neg z1_4).symm.trans hv
  by_cases z1_6 : isKx S v0 [6] = true
  case pos =>
    have hv := (if_pos z1_6).symm.trans hv
    obtain ⟨c1, hc1, hv⟩ := Option.bind_eq_some_iff.mp hv
    refine jc_callP (ci := 6) (rest := []) C K (pX0_rank l G S v0  hc1) z1_6 rfl oX0_rank kw_1620 kw_780 (by decide +kernel) kw_943 rfl ⟨Nat.le_of_ble_eq_true rfl, Nat.le_of_ble_eq_true rfl⟩ rfl (Nat.le_of_ble_eq_true rfl) ⟨Nat.le_refl _, Nat.le_refl _⟩ dX6_rank_1 ?_
    exact jr_sub [] rfl (tX6_rank_4 C K G  c1.2 c1.1 hv)
  have hv := (if_neg z1_6).symm.trans hv
  exact op_none hv
theorem pX6_rank (l : Launch) {g : CG} (G : cSep g)   (S : CS) (v0 : Option Nat) {w : Int32 × CS} (hw : fX6_rank S v0 = some w)  : cC l yX6_rank cX6_rank 1 (some .int) 1 0 0 g [va_rf v0] S (some (.int w.1)) w.2 := cC_of (lv := [(0, va_rf v0)]) (by decide +kernel) (by simp [lg_sl, cat_rf, cat_i, cat_l, cat_r]) (by simp [lv_args, cat_rf, cat_i, cat_l, cat_r]) (fun C K => tX6_rank_0 C K G  S v0 hw)
/-! RobotCell$Rail.speed()I -/
def fX6_speed (S : CS) (v0 : Option Nat) : Option (Int32 × CS) :=
  some (40, S)
theorem oX6_speed : ok_c yX6_speed cX6_speed 1 (some .int) 0 (.instanceMethod yX6_speed) := ⟨kw_876, ⟨kw_875, rfl⟩, kw_85, by decide +kernel⟩
set_option maxRecDepth 100000 in
set_option maxHeartbeats 1000000 in
theorem tX6_speed_0 {p : Program} {l : Launch} {e : Env} {s : State} {m : MethodId} {args : Array Value} {below : List Frame} {meth : Method} {c : Code} {g : CG} {S0 : CS} (C : CC p s m args meth c yX6_speed cX6_speed 1 (some .int)) (K : cK g s) (G : cSep g)  (S : CS) (v0 : Option Nat) {w : Int32 × CS} (hv : fX6_speed S v0 = some w) : CJ p l e s m args below meth c 1 0 0 0 g S0 (some (.int w.1)) w.2 0 [(0, va_rf v0)] [] S 0 0 := by
  unfold fX6_speed at hv
  refine jr_bipush (v := 40) C dX6_speed_0 (by decide) ?_
  exact jc_iret C K dX6_speed_2 (Option.some.inj hv) ⟨Nat.le_refl _, Nat.le_refl _⟩
theorem pX6_speed (l : Launch) {g : CG} (G : cSep g)   (S : CS) (v0 : Option Nat) {w : Int32 × CS} (hw : fX6_speed S v0 = some w)  : cC l yX6_speed cX6_speed 1 (some .int) 0 0 0 g [va_rf v0] S (some (.int w.1)) w.2 := cC_of (lv := [(0, va_rf v0)]) (by decide +kernel) (by simp [lg_sl, cat_rf, cat_i, cat_l, cat_r]) (by simp [lv_args, cat_rf, cat_i, cat_l, cat_r]) (fun C K => tX6_speed_0 C K G  S v0 hw)
/-! RobotCell$Rail.onGrid(J)J -/
def fX6_onGrid_7 (S : CS) (v1 : Int64) (v3 : Int64) : Option (Int64 × CS) :=
  Option.bind (fX2_divide (fX2_nearestWhole (fX2_multiply v3 v1)) v3) (fun c16 => some (c16, S))
def fX6_onGrid (S : CS) (v0 : Option Nat) (v1 : Int64) : Option (Int64 × CS) :=
  fX6_onGrid_7 S v1 (fX2_ofWhole 8)
theorem oX6_onGrid : ok_c yX6_onGrid cX6_onGrid 5 (some .long) 1 (.instanceMethod yX6_onGrid) := ⟨kw_837, ⟨kw_836, rfl⟩, kw_85, by decide +kernel⟩
set_option maxRecDepth 100000 in
set_option maxHeartbeats 1000000 in
theorem tX6_onGrid_7 {p : Program} {l : Launch} {e : Env} {s : State} {m : MethodId} {args : Array Value} {below : List Frame} {meth : Method} {c : Code} {g : CG} {S0 : CS} (C : CC p s m args meth c yX6_onGrid cX6_onGrid 5 (some .long)) (K : cK g s) (G : cSep g)  (S : CS) (v1 : Int64) (v3 : Int64) {w : Int64 × CS} (hv : fX6_onGrid_7 S v1 v3 = some w) : CJ p l e s m args below meth c 5 5 0 0 g S0 (some (.long w.1)) w.2 7 [(1, .long v1), (3, .long v3)] [] S 0 0 := by
  unfold fX6_onGrid_7 at hv
  refine jr_lload_n C dX6_onGrid_7 rfl 1 rfl ?_
  refine jr_lload_n C dX6_onGrid_8 rfl 0 rfl ?_
  refine jr_pcall (rest := []) C (pX2_multiply l v3 v1) oX2_multiply kw_840 rfl ⟨Nat.le_of_ble_eq_true rfl, Nat.le_of_ble_eq_true rfl⟩ rfl (Nat.le_of_ble_eq_true rfl) ⟨Nat.zero_le _, Nat.zero_le _⟩ dX6_onGrid_9 ?_
  refine jr_pcall (rest := []) C (pX2_nearestWhole l (fX2_multiply v3 v1)) oX2_nearestWhole kw_841 rfl ⟨Nat.le_of_ble_eq_true rfl, Nat.le_of_ble_eq_true rfl⟩ rfl (Nat.le_of_ble_eq_true rfl) ⟨Nat.zero_le _, Nat.zero_le _⟩ dX6_onGrid_12 ?_
  refine jr_lload_n C dX6_onGrid_15 rfl 1 rfl ?_
  obtain ⟨c16, hc16, hv⟩ := Option.bind_eq_some_iff.mp hv
  refine jr_pcall (rest := []) C (pX2_divide l (fX2_nearestWhole (fX2_multiply v3 v1)) v3 hc16) oX2_divide kw_842 rfl ⟨Nat.le_of_ble_eq_true rfl, Nat.le_of_ble_eq_true rfl⟩ rfl (Nat.le_of_ble_eq_true rfl) ⟨Nat.zero_le _, Nat.zero_le _⟩ dX6_onGrid_16 ?_
  exact jc_lret C K dX6_onGrid_19 (Option.some.inj hv) ⟨Nat.le_refl _, Nat.le_refl _⟩
set_option maxRecDepth 100000 in
set_option maxHeartbeats 1000000 in
theorem tX6_onGrid_0 {p : Program} {l : Launch} {e : Env} {s : State} {m : MethodId} {args : Array Value} {below : List Frame} {meth : Method} {c : Code} {g : CG} {S0 : CS} (C : CC p s m args meth c yX6_onGrid cX6_onGrid 5 (some .long)) (K : cK g s) (G : cSep g)  (S : CS) (v0 : Option Nat) (v1 : Int64) {w : Int64 × CS} (hv : fX6_onGrid S v0 v1 = some w) : CJ p l e s m args below meth c 5 5 0 0 g S0 (some (.long w.1)) w.2 0 [(0, va_rf v0), (1, .long v1)] [] S 0 0 := by
  unfold fX6_onGrid at hv
  refine jr_ldc2 C kw_838 dX6_onGrid_0 ?_
  refine jr_pcall (rest := []) C (pX2_ofWhole l 8) oX2_ofWhole kw_839 rfl ⟨Nat.le_of_ble_eq_true rfl, Nat.le_of_ble_eq_true rfl⟩ rfl (Nat.le_of_ble_eq_true rfl) ⟨Nat.zero_le _, Nat.zero_le _⟩ dX6_onGrid_3 ?_
  refine jr_lstore_n (lv' := [(3, .long (fX2_ofWhole 8)), (0, va_rf v0), (1, .long v1)]) C dX6_onGrid_6 rfl (by decide) rfl ?_
  exact jr_sub [2, 0] rfl (tX6_onGrid_7 C K G  S v1 (fX2_ofWhole 8) hv)
theorem pX6_onGrid (l : Launch) {g : CG} (G : cSep g)   (S : CS) (v0 : Option Nat) (v1 : Int64) {w : Int64 × CS} (hw : fX6_onGrid S v0 v1 = some w)  : cC l yX6_onGrid cX6_onGrid 5 (some .long) 5 0 0 g [va_rf v0, .long v1] S (some (.long w.1)) w.2 := cC_of (lv := [(0, va_rf v0), (1, .long v1)]) (by decide +kernel) (by simp [lg_sl, cat_rf, cat_i, cat_l, cat_r]) (by simp [lv_args, cat_rf, cat_i, cat_l, cat_r]) (fun C K => tX6_onGrid_0 C K G  S v0 v1 hw)
/-! RobotCell$Wrist.span()I -/
def fX10_span (S : CS) (v0 : Option Nat) : Option (Int32 × CS) :=
  some (360, S)
theorem oX10_span : ok_c yX10_span cX10_span 1 (some .int) 0 (.instanceMethod yX10_span) := ⟨kw_857, ⟨kw_856, rfl⟩, kw_86, by decide +kernel⟩
set_option maxRecDepth 100000 in
set_option maxHeartbeats 1000000 in
theorem tX10_span_0 {p : Program} {l : Launch} {e : Env} {s : State} {m : MethodId} {args : Array Value} {below : List Frame} {meth : Method} {c : Code} {g : CG} {S0 : CS} (C : CC p s m args meth c yX10_span cX10_span 1 (some .int)) (K : cK g s) (G : cSep g)  (S : CS) (v0 : Option Nat) {w : Int32 × CS} (hv : fX10_span S v0 = some w) : CJ p l e s m args below meth c 1 0 0 0 g S0 (some (.int w.1)) w.2 0 [(0, va_rf v0)] [] S 0 0 := by
  unfold fX10_span at hv
  refine jr_sipush (v := 360) C dX10_span_0 (by decide) ?_
  exact jc_iret C K dX10_span_3 (Option.some.inj hv) ⟨Nat.le_refl _, Nat.le_refl _⟩
theorem pX10_span (l : Launch) {g : CG} (G : cSep g)   (S : CS) (v0 : Option Nat) {w : Int32 × CS} (hw : fX10_span S v0 = some w)  : cC l yX10_span cX10_span 1 (some .int) 0 0 0 g [va_rf v0] S (some (.int w.1)) w.2 := cC_of (lv := [(0, va_rf v0)]) (by decide +kernel) (by simp [lg_sl, cat_rf, cat_i, cat_l, cat_r]) (by simp [lv_args, cat_rf, cat_i, cat_l, cat_r]) (fun C K => tX10_span_0 C K G  S v0 hw)
/-! RobotCell$Wrist.rank()I -/
def fX10_rank (S : CS) (v0 : Option Nat) : Option (Int32 × CS) :=
  if isKx S v0 [6] = true then (Option.bind (fX6_rank S v0) (fun c2 => some (2 * c2.1, c2.2))) else none
theorem oX10_rank : ok_c yX10_rank cX10_rank 1 (some .int) 0 (.instanceMethod yX10_rank) := ⟨kw_946, ⟨kw_945, rfl⟩, kw_86, by decide +kernel⟩
set_option maxRecDepth 100000 in
set_option maxHeartbeats 1000000 in
theorem tX10_rank_0 {p : Program} {l : Launch} {e : Env} {s : State} {m : MethodId} {args : Array Value} {below : List Frame} {meth : Method} {c : Code} {g : CG} {S0 : CS} (C : CC p s m args meth c yX10_rank cX10_rank 1 (some .int)) (K : cK g s) (G : cSep g)  (S : CS) (v0 : Option Nat) {w : Int32 × CS} (hv : fX10_rank S v0 = some w) : CJ p l e s m args below meth c 1 2 0 0 g S0 (some (.int w.1)) w.2 0 [(0, va_rf v0)] [] S 0 0 := by
  unfold fX10_rank at hv
  refine jr_iconst (v := 2) C dX10_rank_0 (by decide) ?_
  refine jr_naload_n C dX10_rank_1 rfl 0 rfl ?_
  by_cases z2_6 : isKx S v0 [6] = true
  case pos =>
    have hv := (if_pos z2_6).symm.trans hv
    obtain ⟨c2, hc2, hv⟩ := Option.bind_eq_some_iff.mp hv
    refine jc_callP (ci := 6) (rest := [.int 2]) C K (pX6_rank l G S v0  hc2) z2_6 rfl oX6_rank kw_1621 kw_790 (by decide +kernel) kw_947 rfl ⟨Nat.le_of_ble_eq_true rfl, Nat.le_of_ble_eq_true rfl⟩ rfl (Nat.le_of_ble_eq_true rfl) ⟨Nat.le_refl _, Nat.le_refl _⟩ dX10_rank_2 ?_
    refine jr_imul C dX10_rank_5 ?_
    exact jc_iret C K dX10_rank_6 (Option.some.inj hv) ⟨Nat.le_refl _, Nat.le_refl _⟩
  have hv := (if_neg z2_6).symm.trans hv
  exact op_none hv
theorem pX10_rank (l : Launch) {g : CG} (G : cSep g)   (S : CS) (v0 : Option Nat) {w : Int32 × CS} (hw : fX10_rank S v0 = some w)  : cC l yX10_rank cX10_rank 1 (some .int) 2 0 0 g [va_rf v0] S (some (.int w.1)) w.2 := cC_of (lv := [(0, va_rf v0)]) (by decide +kernel) (by simp [lg_sl, cat_rf, cat_i, cat_l, cat_r]) (by simp [lv_args, cat_rf, cat_i, cat_l, cat_r]) (fun C K => tX10_rank_0 C K G  S v0 hw)
/-! RobotCell$Wrist.withinTurn(J)J -/
def fX10_withinTurn_17 (S : CS) (v1 : Int64) (v3 : Int64) (v5 : Int64) : Option (Int64 × CS) :=
  some (fX2_add v1 (fX2_opposite (fX2_multiply v3 v5)), S)
def fX10_withinTurn_7 (S : CS) (v1 : Int64) (v3 : Int64) : Option (Int64 × CS) :=
  Option.bind (fX2_divide v1 v3) (fun c9 => fX10_withinTurn_17 S v1 v3 (fX2_wholeNotAbove c9))
def fX10_withinTurn (S : CS) (v0 : Option Nat) (v1 : Int64) : Option (Int64 × CS) :=
  fX10_withinTurn_7 S v1 (fX2_ofWhole 360)
theorem oX10_withinTurn : ok_c yX10_withinTurn cX10_withinTurn 7 (some .long) 1 (.instanceMethod yX10_withinTurn) := ⟨kw_822, ⟨kw_821, rfl⟩, kw_86, by decide +kernel⟩
set_option maxRecDepth 100000 in
set_option maxHeartbeats 1000000 in
theorem tX10_withinTurn_17 {p : Program} {l : Launch} {e : Env} {s : State} {m : MethodId} {args : Array Value} {below : List Frame} {meth : Method} {c : Code} {g : CG} {S0 : CS} (C : CC p s m args meth c yX10_withinTurn cX10_withinTurn 7 (some .long)) (K : cK g s) (G : cSep g)  (S : CS) (v1 : Int64) (v3 : Int64) (v5 : Int64) {w : Int64 × CS} (hv : fX10_withinTurn_17 S v1 v3 v5 = some w) : CJ p l e s m args below meth c 7 5 0 0 g S0 (some (.long w.1)) w.2 17 [(1, .long v1), (3, .long v3), (5, .long v5)] [] S 0 0 := by
  unfold fX10_withinTurn_17 at hv
  refine jr_lload_n C dX10_withinTurn_17 rfl 0 rfl ?_
  refine jr_lload_n C dX10_withinTurn_18 rfl 1 rfl ?_
  refine jr_lload C dX10_withinTurn_19 2 rfl ?_
  refine jr_pcall (rest := [.long v1]) C (pX2_multiply l v3 v5) oX2_multiply kw_827 rfl ⟨Nat.le_of_ble_eq_true rfl, Nat.le_of_ble_eq_true rfl⟩ rfl (Nat.le_of_ble_eq_true rfl) ⟨Nat.zero_le _, Nat.zero_le _⟩ dX10_withinTurn_21 ?_
  refine jr_pcall (rest := [.long v1]) C (pX2_opposite l (fX2_multiply v3 v5)) oX2_opposite kw_828 rfl ⟨Nat.le_of_ble_eq_true rfl, Nat.le_of_ble_eq_true rfl⟩ rfl (Nat.le_of_ble_eq_true rfl) ⟨Nat.zero_le _, Nat.zero_le _⟩ dX10_withinTurn_24 ?_
  refine jr_pcall (rest := []) C (pX2_add l v1 (fX2_opposite (fX2_multiply v3 v5))) oX2_add kw_829 rfl ⟨Nat.le_of_ble_eq_true rfl, Nat.le_of_ble_eq_true rfl⟩ rfl (Nat.le_of_ble_eq_true rfl) ⟨Nat.zero_le _, Nat.zero_le _⟩ dX10_withinTurn_27 ?_
  exact jc_lret C K dX10_withinTurn_30 (Option.some.inj hv) ⟨Nat.le_refl _, Nat.le_refl _⟩
set_option maxRecDepth 100000 in
set_option maxHeartbeats 1000000 in
theorem tX10_withinTurn_7 {p : Program} {l : Launch} {e : Env} {s : State} {m : MethodId} {args : Array Value} {below : List Frame} {meth : Method} {c : Code} {g : CG} {S0 : CS} (C : CC p s m args meth c yX10_withinTurn cX10_withinTurn 7 (some .long)) (K : cK g s) (G : cSep g)  (S : CS) (v1 : Int64) (v3 : Int64) {w : Int64 × CS} (hv : fX10_withinTurn_7 S v1 v3 = some w) : CJ p l e s m args below meth c 7 5 0 0 g S0 (some (.long w.1)) w.2 7 [(1, .long v1), (3, .long v3)] [] S 0 0 := by
  unfold fX10_withinTurn_7 at hv
  refine jr_lload_n C dX10_withinTurn_7 rfl 0 rfl ?_
  refine jr_lload_n C dX10_withinTurn_8 rfl 1 rfl ?_
  obtain ⟨c9, hc9, hv⟩ := Option.bind_eq_some_iff.mp hv
  refine jr_pcall (rest := []) C (pX2_divide l v1 v3 hc9) oX2_divide kw_825 rfl ⟨Nat.le_of_ble_eq_true rfl, Nat.le_of_ble_eq_true rfl⟩ rfl (Nat.le_of_ble_eq_true rfl) ⟨Nat.zero_le _, Nat.zero_le _⟩ dX10_withinTurn_9 ?_
  refine jr_pcall (rest := []) C (pX2_wholeNotAbove l c9) oX2_wholeNotAbove kw_826 rfl ⟨Nat.le_of_ble_eq_true rfl, Nat.le_of_ble_eq_true rfl⟩ rfl (Nat.le_of_ble_eq_true rfl) ⟨Nat.zero_le _, Nat.zero_le _⟩ dX10_withinTurn_12 ?_
  refine jr_lstore (lv' := [(5, .long (fX2_wholeNotAbove c9)), (1, .long v1), (3, .long v3)]) C dX10_withinTurn_15 (by decide) rfl ?_
  exact jr_sub [1, 2, 0] rfl (tX10_withinTurn_17 C K G  S v1 v3 (fX2_wholeNotAbove c9) hv)
set_option maxRecDepth 100000 in
set_option maxHeartbeats 1000000 in
theorem tX10_withinTurn_0 {p : Program} {l : Launch} {e : Env} {s : State} {m : MethodId} {args : Array Value} {below : List Frame} {meth : Method} {c : Code} {g : CG} {S0 : CS} (C : CC p s m args meth c yX10_withinTurn cX10_withinTurn 7 (some .long)) (K : cK g s) (G : cSep g)  (S : CS) (v0 : Option Nat) (v1 : Int64) {w : Int64 × CS} (hv : fX10_withinTurn S v0 v1 = some w) : CJ p l e s m args below meth c 7 5 0 0 g S0 (some (.long w.1)) w.2 0 [(0, va_rf v0), (1, .long v1)] [] S 0 0 := by
  unfold fX10_withinTurn at hv
  refine jr_ldc2 C kw_823 dX10_withinTurn_0 ?_
  refine jr_pcall (rest := []) C (pX2_ofWhole l 360) oX2_ofWhole kw_824 rfl ⟨Nat.le_of_ble_eq_true rfl, Nat.le_of_ble_eq_true rfl⟩ rfl (Nat.le_of_ble_eq_true rfl) ⟨Nat.zero_le _, Nat.zero_le _⟩ dX10_withinTurn_3 ?_
  refine jr_lstore_n (lv' := [(3, .long (fX2_ofWhole 360)), (0, va_rf v0), (1, .long v1)]) C dX10_withinTurn_6 rfl (by decide) rfl ?_
  exact jr_sub [2, 0] rfl (tX10_withinTurn_7 C K G  S v1 (fX2_ofWhole 360) hv)
theorem pX10_withinTurn (l : Launch) {g : CG} (G : cSep g)   (S : CS) (v0 : Option Nat) (v1 : Int64) {w : Int64 × CS} (hw : fX10_withinTurn S v0 v1 = some w)  : cC l yX10_withinTurn cX10_withinTurn 7 (some .long) 5 0 0 g [va_rf v0, .long v1] S (some (.long w.1)) w.2 := cC_of (lv := [(0, va_rf v0), (1, .long v1)]) (by decide +kernel) (by simp [lg_sl, cat_rf, cat_i, cat_l, cat_r]) (by simp [lv_args, cat_rf, cat_i, cat_l, cat_r]) (fun C K => tX10_withinTurn_0 C K G  S v0 v1 hw)
/-! RobotCell$Axis.comeToRest()V -/
theorem u_X0_goHome_goHome_4 : ok_u yX0_goHome yX0_goHome RX0 RX6 cX0_goHome 1 none 0 := ⟨kw_1008, kw_1007, kw_84, kw_1622, nw_in kw_1624, Or.inl kw_1005, by decide +kernel⟩
theorem u_X0_goHome_goHome_6 : ok_u yX0_goHome yX0_goHome RX0 RX10 cX0_goHome 1 none 0 := ⟨kw_1008, kw_1007, kw_84, kw_1622, nw_in kw_1625, Or.inl kw_1005, by decide +kernel⟩
def fX0_comeToRest_4 (S : CS) : Option (CS) :=
  some S
def fX0_comeToRest (S : CS) (v0 : Option Nat) : Option (CS) :=
  if isKx S v0 [0] = true then (Option.bind (fX0_goHome S v0) (fun c1 => fX0_comeToRest_4 c1)) else if isKx S v0 [4] = true then (Option.bind (fX0_goHome S v0) (fun c1 => fX0_comeToRest_4 c1)) else if isKx S v0 [6] = true then (Option.bind (fX0_goHome S v0) (fun c1 => fX0_comeToRest_4 c1)) else none
theorem oX0_comeToRest : ok_c yX0_comeToRest cX0_comeToRest 1 none 0 (.instanceMethod yX0_comeToRest) := ⟨kw_1015, ⟨kw_986, rfl⟩, kw_84, by decide +kernel⟩
set_option maxRecDepth 100000 in
set_option maxHeartbeats 1000000 in
theorem tX0_comeToRest_4 {p : Program} {l : Launch} {e : Env} {s : State} {m : MethodId} {args : Array Value} {below : List Frame} {meth : Method} {c : Code} {g : CG} {S0 : CS} (C : CC p s m args meth c yX0_comeToRest cX0_comeToRest 1 none) (K : cK g s) (G : cSep g)  (S : CS) {w : CS} (hv : fX0_comeToRest_4 S = some w) : CJ p l e s m args below meth c 1 1 0 0 g S0 none w 4 [] [] S 0 0 := by
  unfold fX0_comeToRest_4 at hv
  exact jc_vret C K dX0_comeToRest_4 (Option.some.inj hv) ⟨Nat.le_refl _, Nat.le_refl _⟩
set_option maxRecDepth 100000 in
set_option maxHeartbeats 1000000 in
theorem tX0_comeToRest_0 {p : Program} {l : Launch} {e : Env} {s : State} {m : MethodId} {args : Array Value} {below : List Frame} {meth : Method} {c : Code} {g : CG} {S0 : CS} (C : CC p s m args meth c yX0_comeToRest cX0_comeToRest 1 none) (K : cK g s) (G : cSep g)  (S : CS) (v0 : Option Nat) {w : CS} (hv : fX0_comeToRest S v0 = some w) : CJ p l e s m args below meth c 1 1 0 0 g S0 none w 0 [(0, va_rf v0)] [] S 0 0 := by
  unfold fX0_comeToRest at hv
  refine jr_naload_n C dX0_comeToRest_0 rfl 0 rfl ?_
  by_cases z1_0 : isKx S v0 [0] = true
  case pos =>
    have hv := (if_pos z1_0).symm.trans hv
    obtain ⟨c1, hc1, hv⟩ := Option.bind_eq_some_iff.mp hv
    refine jc_callT (ci := 0) (rest := []) C K (pX0_goHome l G S v0  hc1) z1_0 rfl oX0_goHome kw_1623 kw_1016 rfl ⟨Nat.le_of_ble_eq_true rfl, Nat.le_of_ble_eq_true rfl⟩ rfl (Nat.le_of_ble_eq_true rfl) ⟨Nat.le_refl _, Nat.le_refl _⟩ dX0_comeToRest_1 ?_
    exact jr_sub [] rfl (tX0_comeToRest_4 C K G  c1 hv)
  have hv := (if_neg z1_0).symm.trans hv
  by_cases z1_4 : isKx S v0 [4] = true
  case pos =>
    have hv := (if_pos z1_4).symm.trans hv
    obtain ⟨c1, hc1, hv⟩ := Option.bind_eq_some_iff.mp hv
    refine jc_callU (ci := 4) (rest := []) C K (pX0_goHome l G S v0  hc1) z1_4 rfl u_X0_goHome_goHome_4 kw_1016 rfl ⟨Nat.le_of_ble_eq_true rfl, Nat.le_of_ble_eq_true rfl⟩ rfl (Nat.le_of_ble_eq_true rfl) ⟨Nat.le_refl _, Nat.le_refl _⟩ dX0_comeToRest_1 ?_
    exact jr_sub [] rfl (tX0_comeToRest_4 C K G  c1 hv)
  have hv := (if_neg z1_4).symm.trans hv
  by_cases z1_6 : isKx S v0 [6] = true
  case pos =>
    have hv := (if_pos z1_6).symm.trans hv
    obtain ⟨c1, hc1, hv⟩ := Option.bind_eq_some_iff.mp hv
    refine jc_callU (ci := 6) (rest := []) C K (pX0_goHome l G S v0  hc1) z1_6 rfl u_X0_goHome_goHome_6 kw_1016 rfl ⟨Nat.le_of_ble_eq_true rfl, Nat.le_of_ble_eq_true rfl⟩ rfl (Nat.le_of_ble_eq_true rfl) ⟨Nat.le_refl _, Nat.le_refl _⟩ dX0_comeToRest_1 ?_
    exact jr_sub [] rfl (tX0_comeToRest_4 C K G  c1 hv)
  have hv := (if_neg z1_6).symm.trans hv
  exact op_none hv
theorem pX0_comeToRest (l : Launch) {g : CG} (G : cSep g)   (S : CS) (v0 : Option Nat) {w : CS} (hw : fX0_comeToRest S v0 = some w)  : cC l yX0_comeToRest cX0_comeToRest 1 none 1 0 0 g [va_rf v0] S none w := cC_of (lv := [(0, va_rf v0)]) (by decide +kernel) (by simp [lg_sl, cat_rf, cat_i, cat_l, cat_r]) (by simp [lv_args, cat_rf, cat_i, cat_l, cat_r]) (fun C K => tX0_comeToRest_0 C K G  S v0 hw)
/-! RobotCell$Rail.comeToRest()V -/
theorem u_Rail_countMove_countMove_4 : ok_u ⟨RX6, "countMove", "()V"⟩ yX0_countMove RX0 RX6 cX0_countMove 1 none 0 := ⟨kw_999, kw_998, kw_84, kw_994, nw_in kw_996, Or.inl kw_995, by decide +kernel⟩
theorem u_Rail_countMove_countMove_6 : ok_u ⟨RX6, "countMove", "()V"⟩ yX0_countMove RX0 RX10 cX0_countMove 1 none 0 := ⟨kw_999, kw_998, kw_84, kw_994, nw_in kw_997, Or.inl kw_995, by decide +kernel⟩
def fX6_comeToRest_8 (S : CS) : Option (CS) :=
  some S
def fX6_comeToRest_4 (S : CS) (v0 : Option Nat) : Option (CS) :=
  if isKx S v0 [4] = true then (Option.bind (fX0_countMove S v0) (fun c5 => fX6_comeToRest_8 c5)) else if isKx S v0 [6] = true then (Option.bind (fX0_countMove S v0) (fun c5 => fX6_comeToRest_8 c5)) else none
def fX6_comeToRest (S : CS) (v0 : Option Nat) : Option (CS) :=
  if isKx S v0 [4] = true then (Option.bind (fX0_comeToRest S v0) (fun c1 => fX6_comeToRest_4 c1 v0)) else if isKx S v0 [6] = true then (Option.bind (fX0_comeToRest S v0) (fun c1 => fX6_comeToRest_4 c1 v0)) else none
theorem oX6_comeToRest : ok_c yX6_comeToRest cX6_comeToRest 1 none 0 (.instanceMethod yX6_comeToRest) := ⟨kw_991, ⟨kw_990, rfl⟩, kw_85, by decide +kernel⟩
set_option maxRecDepth 100000 in
set_option maxHeartbeats 1000000 in
theorem tX6_comeToRest_8 {p : Program} {l : Launch} {e : Env} {s : State} {m : MethodId} {args : Array Value} {below : List Frame} {meth : Method} {c : Code} {g : CG} {S0 : CS} (C : CC p s m args meth c yX6_comeToRest cX6_comeToRest 1 none) (K : cK g s) (G : cSep g)  (S : CS) {w : CS} (hv : fX6_comeToRest_8 S = some w) : CJ p l e s m args below meth c 1 2 0 0 g S0 none w 8 [] [] S 0 0 := by
  unfold fX6_comeToRest_8 at hv
  exact jc_vret C K dX6_comeToRest_8 (Option.some.inj hv) ⟨Nat.le_refl _, Nat.le_refl _⟩
set_option maxRecDepth 100000 in
set_option maxHeartbeats 1000000 in
theorem tX6_comeToRest_4 {p : Program} {l : Launch} {e : Env} {s : State} {m : MethodId} {args : Array Value} {below : List Frame} {meth : Method} {c : Code} {g : CG} {S0 : CS} (C : CC p s m args meth c yX6_comeToRest cX6_comeToRest 1 none) (K : cK g s) (G : cSep g)  (S : CS) (v0 : Option Nat) {w : CS} (hv : fX6_comeToRest_4 S v0 = some w) : CJ p l e s m args below meth c 1 2 0 0 g S0 none w 4 [(0, va_rf v0)] [] S 0 0 := by
  unfold fX6_comeToRest_4 at hv
  refine jr_naload_n C dX6_comeToRest_4 rfl 0 rfl ?_
  by_cases z5_4 : isKx S v0 [4] = true
  case pos =>
    have hv := (if_pos z5_4).symm.trans hv
    obtain ⟨c5, hc5, hv⟩ := Option.bind_eq_some_iff.mp hv
    refine jc_callU (ci := 4) (rest := []) C K (pX0_countMove l G S v0  hc5) z5_4 rfl u_Rail_countMove_countMove_4 kw_993 rfl ⟨Nat.le_of_ble_eq_true rfl, Nat.le_of_ble_eq_true rfl⟩ rfl (Nat.le_of_ble_eq_true rfl) ⟨Nat.le_refl _, Nat.le_refl _⟩ dX6_comeToRest_5 ?_
    exact jr_sub [] rfl (tX6_comeToRest_8 C K G  c5 hv)
  have hv := (if_neg z5_4).symm.trans hv
  by_cases z5_6 : isKx S v0 [6] = true
  case pos =>
    have hv := (if_pos z5_6).symm.trans hv
    obtain ⟨c5, hc5, hv⟩ := Option.bind_eq_some_iff.mp hv
    refine jc_callU (ci := 6) (rest := []) C K (pX0_countMove l G S v0  hc5) z5_6 rfl u_Rail_countMove_countMove_6 kw_993 rfl ⟨Nat.le_of_ble_eq_true rfl, Nat.le_of_ble_eq_true rfl⟩ rfl (Nat.le_of_ble_eq_true rfl) ⟨Nat.le_refl _, Nat.le_refl _⟩ dX6_comeToRest_5 ?_
    exact jr_sub [] rfl (tX6_comeToRest_8 C K G  c5 hv)
  have hv := (if_neg z5_6).symm.trans hv
  exact op_none hv
set_option maxRecDepth 100000 in
set_option maxHeartbeats 1000000 in
theorem tX6_comeToRest_0 {p : Program} {l : Launch} {e : Env} {s : State} {m : MethodId} {args : Array Value} {below : List Frame} {meth : Method} {c : Code} {g : CG} {S0 : CS} (C : CC p s m args meth c yX6_comeToRest cX6_comeToRest 1 none) (K : cK g s) (G : cSep g)  (S : CS) (v0 : Option Nat) {w : CS} (hv : fX6_comeToRest S v0 = some w) : CJ p l e s m args below meth c 1 2 0 0 g S0 none w 0 [(0, va_rf v0)] [] S 0 0 := by
  unfold fX6_comeToRest at hv
  refine jr_naload_n C dX6_comeToRest_0 rfl 0 rfl ?_
  by_cases z1_4 : isKx S v0 [4] = true
  case pos =>
    have hv := (if_pos z1_4).symm.trans hv
    obtain ⟨c1, hc1, hv⟩ := Option.bind_eq_some_iff.mp hv
    refine jc_callP (ci := 4) (rest := []) C K (pX0_comeToRest l G S v0  hc1) z1_4 rfl oX0_comeToRest kw_988 kw_780 (by decide +kernel) kw_992 rfl ⟨Nat.le_of_ble_eq_true rfl, Nat.le_of_ble_eq_true rfl⟩ rfl (Nat.le_of_ble_eq_true rfl) ⟨Nat.le_refl _, Nat.le_refl _⟩ dX6_comeToRest_1 ?_
    exact tX6_comeToRest_4 C K G  c1 v0 hv
  have hv := (if_neg z1_4).symm.trans hv
  by_cases z1_6 : isKx S v0 [6] = true
  case pos =>
    have hv := (if_pos z1_6).symm.trans hv
    obtain ⟨c1, hc1, hv⟩ := Option.bind_eq_some_iff.mp hv
    refine jc_callP (ci := 6) (rest := []) C K (pX0_comeToRest l G S v0  hc1) z1_6 rfl oX0_comeToRest kw_988 kw_780 (by decide +kernel) kw_992 rfl ⟨Nat.le_of_ble_eq_true rfl, Nat.le_of_ble_eq_true rfl⟩ rfl (Nat.le_of_ble_eq_true rfl) ⟨Nat.le_refl _, Nat.le_refl _⟩ dX6_comeToRest_1 ?_
    exact tX6_comeToRest_4 C K G  c1 v0 hv
  have hv := (if_neg z1_6).symm.trans hv
  exact op_none hv
theorem pX6_comeToRest (l : Launch) {g : CG} (G : cSep g)   (S : CS) (v0 : Option Nat) {w : CS} (hw : fX6_comeToRest S v0 = some w)  : cC l yX6_comeToRest cX6_comeToRest 1 none 2 0 0 g [va_rf v0] S none w := cC_of (lv := [(0, va_rf v0)]) (by decide +kernel) (by simp [lg_sl, cat_rf, cat_i, cat_l, cat_r]) (by simp [lv_args, cat_rf, cat_i, cat_l, cat_r]) (fun C K => tX6_comeToRest_0 C K G  S v0 hw)
/-! RobotCell$Wrist.comeToRest()V -/
theorem u_Wrist_goHome_goHome_6 : ok_u ⟨RX10, "goHome", "()V"⟩ yX0_goHome RX0 RX10 cX0_goHome 1 none 0 := ⟨kw_1008, kw_1007, kw_84, kw_1004, nw_in kw_1006, Or.inl kw_1005, by decide +kernel⟩
theorem u_Wrist_forgetTravel_forgetTravel_6 : ok_u ⟨RX10, "forgetTravel", "()V"⟩ yX0_forgetTravel RX0 RX10 cX0_forgetTravel 1 none 0 := ⟨kw_1014, kw_1013, kw_84, kw_1010, nw_in kw_1012, Or.inl kw_1011, by decide +kernel⟩
def fX10_comeToRest (S : CS) (v0 : Option Nat) : Option (CS) :=
  if isKx S v0 [6] = true then (Option.bind (fX0_goHome S v0) (fun c1 => if isKx c1 v0 [6] = true then (Option.bind (fX0_forgetTravel c1 v0) (fun c5 => some c5)) else none)) else none
theorem oX10_comeToRest : ok_c yX10_comeToRest cX10_comeToRest 1 none 0 (.instanceMethod yX10_comeToRest) := ⟨kw_1002, ⟨kw_1001, rfl⟩, kw_86, by decide +kernel⟩
set_option maxRecDepth 100000 in
set_option maxHeartbeats 1000000 in
theorem tX10_comeToRest_0 {p : Program} {l : Launch} {e : Env} {s : State} {m : MethodId} {args : Array Value} {below : List Frame} {meth : Method} {c : Code} {g : CG} {S0 : CS} (C : CC p s m args meth c yX10_comeToRest cX10_comeToRest 1 none) (K : cK g s) (G : cSep g)  (S : CS) (v0 : Option Nat) {w : CS} (hv : fX10_comeToRest S v0 = some w) : CJ p l e s m args below meth c 1 1 0 0 g S0 none w 0 [(0, va_rf v0)] [] S 0 0 := by
  unfold fX10_comeToRest at hv
  refine jr_naload_n C dX10_comeToRest_0 rfl 0 rfl ?_
  by_cases z1_6 : isKx S v0 [6] = true
  case pos =>
    have hv := (if_pos z1_6).symm.trans hv
    obtain ⟨c1, hc1, hv⟩ := Option.bind_eq_some_iff.mp hv
    refine jc_callU (ci := 6) (rest := []) C K (pX0_goHome l G S v0  hc1) z1_6 rfl u_Wrist_goHome_goHome_6 kw_1003 rfl ⟨Nat.le_of_ble_eq_true rfl, Nat.le_of_ble_eq_true rfl⟩ rfl (Nat.le_of_ble_eq_true rfl) ⟨Nat.le_refl _, Nat.le_refl _⟩ dX10_comeToRest_1 ?_
    refine jr_naload_n C dX10_comeToRest_4 rfl 0 rfl ?_
    by_cases z5_6 : isKx c1 v0 [6] = true
    case pos =>
      have hv := (if_pos z5_6).symm.trans hv
      obtain ⟨c5, hc5, hv⟩ := Option.bind_eq_some_iff.mp hv
      refine jc_callU (ci := 6) (rest := []) C K (pX0_forgetTravel l G c1 v0  hc5) z5_6 rfl u_Wrist_forgetTravel_forgetTravel_6 kw_1009 rfl ⟨Nat.le_of_ble_eq_true rfl, Nat.le_of_ble_eq_true rfl⟩ rfl (Nat.le_of_ble_eq_true rfl) ⟨Nat.le_refl _, Nat.le_refl _⟩ dX10_comeToRest_5 ?_
      exact jc_vret C K dX10_comeToRest_8 (Option.some.inj hv) ⟨Nat.le_refl _, Nat.le_refl _⟩
    have hv := (if_neg z5_6).symm.trans hv
    exact op_none hv
  have hv := (if_neg z1_6).symm.trans hv
  exact op_none hv
theorem pX10_comeToRest (l : Launch) {g : CG} (G : cSep g)   (S : CS) (v0 : Option Nat) {w : CS} (hw : fX10_comeToRest S v0 = some w)  : cC l yX10_comeToRest cX10_comeToRest 1 none 1 0 0 g [va_rf v0] S none w := cC_of (lv := [(0, va_rf v0)]) (by decide +kernel) (by simp [lg_sl, cat_rf, cat_i, cat_l, cat_r]) (by simp [lv_args, cat_rf, cat_i, cat_l, cat_r]) (fun C K => tX10_comeToRest_0 C K G  S v0 hw)
/-! RobotCell$Axis.ticksFor(J)J -/
theorem u_X0_speed_speed_4 : ok_u yX0_speed yX6_speed RX0 RX6 cX6_speed 1 (some .int) 0 := ⟨kw_876, kw_875, kw_85, kw_873, nw_in kw_874, Or.inr ⟨kw_871, _, _, _, kw_878⟩, by decide +kernel⟩
theorem u_X0_speed_speed_6 : ok_u yX0_speed yX6_speed RX0 RX10 cX6_speed 1 (some .int) 0 := ⟨kw_876, kw_875, kw_85, kw_873, nw_in kw_877, Or.inr ⟨kw_871, _, _, _, kw_878⟩, by decide +kernel⟩
def fX0_ticksFor_70 (S : CS) (v7 : Int64) : Option (Int64 × CS) :=
  some (fX2_cut (fX2_wholeNotBelow (fX2_multiply (fX2_ofWhole 10) v7)), S)
def fX0_ticksFor_53 (S : CS) (v7 : Int64) : Option (Int64 × CS) :=
  fX0_ticksFor_70 S v7
def fX0_ticksFor_17 (S : CS) (v1 : Int64) (v3 : Int64) (v5 : Int64) : Option (Int64 × CS) :=
  Option.bind (fX2_divide v5 v3) (fun c21 => if (fX2_isLess v1 c21) = 0 then (Option.bind (fX2_divide v1 v5) (fun c59 => fX0_ticksFor_70 S (fX2_add c59 4602678819172646912))) else (Option.bind (fX2_divide v1 (fX2_multiply v3 v5)) (fun c37 => Option.bind (fX2_root c37) (fun c45 => fX0_ticksFor_53 S (fX2_multiply v3 c45)))))
def fX0_ticksFor_11 (S : CS) (v1 : Int64) (v3 : Int64) (t0 : Int32) : Option (Int64 × CS) :=
  fX0_ticksFor_17 S v1 v3 (fX2_ofWhole t0.toInt64)
def fX0_ticksFor_7 (S : CS) (v0 : Option Nat) (v1 : Int64) (v3 : Int64) : Option (Int64 × CS) :=
  if isKx S v0 [0] = true then (Option.bind (fX0_speed S v0) (fun c8 => fX0_ticksFor_11 c8.2 v1 v3 c8.1)) else if isKx S v0 [4] = true then (Option.bind (fX6_speed S v0) (fun c8 => fX0_ticksFor_11 c8.2 v1 v3 c8.1)) else if isKx S v0 [6] = true then (Option.bind (fX6_speed S v0) (fun c8 => fX0_ticksFor_11 c8.2 v1 v3 c8.1)) else none
def fX0_ticksFor (S : CS) (v0 : Option Nat) (v1 : Int64) : Option (Int64 × CS) :=
  fX0_ticksFor_7 S v0 v1 (fX2_ofWhole 2)
theorem oX0_ticksFor : ok_c yX0_ticksFor cX0_ticksFor 11 (some .long) 1 (.instanceMethod yX0_ticksFor) := ⟨kw_868, ⟨kw_867, rfl⟩, kw_84, by decide +kernel⟩
set_option maxRecDepth 100000 in
set_option maxHeartbeats 1000000 in
theorem tX0_ticksFor_70 {p : Program} {l : Launch} {e : Env} {s : State} {m : MethodId} {args : Array Value} {below : List Frame} {meth : Method} {c : Code} {g : CG} {S0 : CS} (C : CC p s m args meth c yX0_ticksFor cX0_ticksFor 11 (some .long)) (K : cK g s) (G : cSep g)  (S : CS) (v7 : Int64) {w : Int64 × CS} (hv : fX0_ticksFor_70 S v7 = some w) : CJ p l e s m args below meth c 11 5 0 0 g S0 (some (.long w.1)) w.2 70 [(7, .long v7)] [] S 0 0 := by
  unfold fX0_ticksFor_70 at hv
  refine jr_ldc2 C kw_883 dX0_ticksFor_70 ?_
  refine jr_pcall (rest := []) C (pX2_ofWhole l 10) oX2_ofWhole kw_859 rfl ⟨Nat.le_of_ble_eq_true rfl, Nat.le_of_ble_eq_true rfl⟩ rfl (Nat.le_of_ble_eq_true rfl) ⟨Nat.zero_le _, Nat.zero_le _⟩ dX0_ticksFor_73 ?_
  refine jr_lload C dX0_ticksFor_76 0 rfl ?_
  refine jr_pcall (rest := []) C (pX2_multiply l (fX2_ofWhole 10) v7) oX2_multiply kw_880 rfl ⟨Nat.le_of_ble_eq_true rfl, Nat.le_of_ble_eq_true rfl⟩ rfl (Nat.le_of_ble_eq_true rfl) ⟨Nat.zero_le _, Nat.zero_le _⟩ dX0_ticksFor_78 ?_
  refine jr_pcall (rest := []) C (pX2_wholeNotBelow l (fX2_multiply (fX2_ofWhole 10) v7)) oX2_wholeNotBelow kw_884 rfl ⟨Nat.le_of_ble_eq_true rfl, Nat.le_of_ble_eq_true rfl⟩ rfl (Nat.le_of_ble_eq_true rfl) ⟨Nat.zero_le _, Nat.zero_le _⟩ dX0_ticksFor_81 ?_
  refine jr_pcall (rest := []) C (pX2_cut l (fX2_wholeNotBelow (fX2_multiply (fX2_ofWhole 10) v7))) oX2_cut kw_885 rfl ⟨Nat.le_of_ble_eq_true rfl, Nat.le_of_ble_eq_true rfl⟩ rfl (Nat.le_of_ble_eq_true rfl) ⟨Nat.zero_le _, Nat.zero_le _⟩ dX0_ticksFor_84 ?_
  exact jc_lret C K dX0_ticksFor_87 (Option.some.inj hv) ⟨Nat.le_refl _, Nat.le_refl _⟩
set_option maxRecDepth 100000 in
set_option maxHeartbeats 1000000 in
theorem tX0_ticksFor_53 {p : Program} {l : Launch} {e : Env} {s : State} {m : MethodId} {args : Array Value} {below : List Frame} {meth : Method} {c : Code} {g : CG} {S0 : CS} (C : CC p s m args meth c yX0_ticksFor cX0_ticksFor 11 (some .long)) (K : cK g s) (G : cSep g)  (S : CS) (v7 : Int64) {w : Int64 × CS} (hv : fX0_ticksFor_53 S v7 = some w) : CJ p l e s m args below meth c 11 5 0 0 g S0 (some (.long w.1)) w.2 53 [(7, .long v7)] [] S 0 0 := by
  unfold fX0_ticksFor_53 at hv
  refine jr_goto (tgt := 70) C dX0_ticksFor_53 rfl ?_
  exact tX0_ticksFor_70 C K G  S v7 hv
set_option maxRecDepth 100000 in
set_option maxHeartbeats 1000000 in
theorem tX0_ticksFor_17 {p : Program} {l : Launch} {e : Env} {s : State} {m : MethodId} {args : Array Value} {below : List Frame} {meth : Method} {c : Code} {g : CG} {S0 : CS} (C : CC p s m args meth c yX0_ticksFor cX0_ticksFor 11 (some .long)) (K : cK g s) (G : cSep g)  (S : CS) (v1 : Int64) (v3 : Int64) (v5 : Int64) {w : Int64 × CS} (hv : fX0_ticksFor_17 S v1 v3 v5 = some w) : CJ p l e s m args below meth c 11 5 0 0 g S0 (some (.long w.1)) w.2 17 [(1, .long v1), (3, .long v3), (5, .long v5)] [] S 0 0 := by
  unfold fX0_ticksFor_17 at hv
  refine jr_lload_n C dX0_ticksFor_17 rfl 0 rfl ?_
  refine jr_lload C dX0_ticksFor_18 2 rfl ?_
  refine jr_lload_n C dX0_ticksFor_20 rfl 1 rfl ?_
  obtain ⟨c21, hc21, hv⟩ := Option.bind_eq_some_iff.mp hv
  refine jr_pcall (rest := [.long v1]) C (pX2_divide l v5 v3 hc21) oX2_divide kw_879 rfl ⟨Nat.le_of_ble_eq_true rfl, Nat.le_of_ble_eq_true rfl⟩ rfl (Nat.le_of_ble_eq_true rfl) ⟨Nat.zero_le _, Nat.zero_le _⟩ dX0_ticksFor_21 ?_
  refine jr_pcall (rest := []) C (pX2_isLess l v1 c21) oX2_isLess kw_861 rfl ⟨Nat.le_of_ble_eq_true rfl, Nat.le_of_ble_eq_true rfl⟩ rfl (Nat.le_of_ble_eq_true rfl) ⟨Nat.zero_le _, Nat.zero_le _⟩ dX0_ticksFor_24 ?_
  refine jr_if_eq (tgt := 56) C dX0_ticksFor_27 rfl (fun q27 => ?_) (fun q27 => ?_)
  · have hv := (if_pos q27).symm.trans hv
    refine jr_lload_n C dX0_ticksFor_56 rfl 0 rfl ?_
    refine jr_lload C dX0_ticksFor_57 2 rfl ?_
    obtain ⟨c59, hc59, hv⟩ := Option.bind_eq_some_iff.mp hv
    refine jr_pcall (rest := []) C (pX2_divide l v1 v5 hc59) oX2_divide kw_879 rfl ⟨Nat.le_of_ble_eq_true rfl, Nat.le_of_ble_eq_true rfl⟩ rfl (Nat.le_of_ble_eq_true rfl) ⟨Nat.zero_le _, Nat.zero_le _⟩ dX0_ticksFor_59 ?_
    refine jr_ldc2 C kw_882 dX0_ticksFor_62 ?_
    refine jr_pcall (rest := []) C (pX2_add l c59 4602678819172646912) oX2_add kw_864 rfl ⟨Nat.le_of_ble_eq_true rfl, Nat.le_of_ble_eq_true rfl⟩ rfl (Nat.le_of_ble_eq_true rfl) ⟨Nat.zero_le _, Nat.zero_le _⟩ dX0_ticksFor_65 ?_
    refine jr_lstore (lv' := [(7, .long (fX2_add c59 4602678819172646912)), (1, .long v1), (3, .long v3), (5, .long v5)]) C dX0_ticksFor_68 (by decide) rfl ?_
    exact jr_sub [0] rfl (tX0_ticksFor_70 C K G  S (fX2_add c59 4602678819172646912) hv)
  · have hv := (if_neg q27).symm.trans hv
    refine jr_lload_n C dX0_ticksFor_30 rfl 0 rfl ?_
    refine jr_lload_n C dX0_ticksFor_31 rfl 1 rfl ?_
    refine jr_lload C dX0_ticksFor_32 2 rfl ?_
    refine jr_pcall (rest := [.long v1]) C (pX2_multiply l v3 v5) oX2_multiply kw_880 rfl ⟨Nat.le_of_ble_eq_true rfl, Nat.le_of_ble_eq_true rfl⟩ rfl (Nat.le_of_ble_eq_true rfl) ⟨Nat.zero_le _, Nat.zero_le _⟩ dX0_ticksFor_34 ?_
    obtain ⟨c37, hc37, hv⟩ := Option.bind_eq_some_iff.mp hv
    refine jr_pcall (rest := []) C (pX2_divide l v1 (fX2_multiply v3 v5) hc37) oX2_divide kw_879 rfl ⟨Nat.le_of_ble_eq_true rfl, Nat.le_of_ble_eq_true rfl⟩ rfl (Nat.le_of_ble_eq_true rfl) ⟨Nat.zero_le _, Nat.zero_le _⟩ dX0_ticksFor_37 ?_
    refine jr_lstore (lv' := [(9, .long c37), (1, .long v1), (3, .long v3), (5, .long v5)]) C dX0_ticksFor_40 (by decide) rfl ?_
    refine jr_lload_n C dX0_ticksFor_42 rfl 2 rfl ?_
    refine jr_lload C dX0_ticksFor_43 0 rfl ?_
    obtain ⟨c45, hc45, hv⟩ := Option.bind_eq_some_iff.mp hv
    refine jr_pcall (rest := [.long v3]) C (pX2_root l c37 hc45) oX2_root kw_881 rfl ⟨Nat.le_of_ble_eq_true rfl, Nat.le_of_ble_eq_true rfl⟩ rfl (Nat.le_of_ble_eq_true rfl) ⟨Nat.zero_le _, Nat.zero_le _⟩ dX0_ticksFor_45 ?_
    refine jr_pcall (rest := []) C (pX2_multiply l v3 c45) oX2_multiply kw_880 rfl ⟨Nat.le_of_ble_eq_true rfl, Nat.le_of_ble_eq_true rfl⟩ rfl (Nat.le_of_ble_eq_true rfl) ⟨Nat.zero_le _, Nat.zero_le _⟩ dX0_ticksFor_48 ?_
    refine jr_lstore (lv' := [(7, .long (fX2_multiply v3 c45)), (9, .long c37), (1, .long v1), (3, .long v3), (5, .long v5)]) C dX0_ticksFor_51 (by decide) rfl ?_
    exact jr_sub [0] rfl (tX0_ticksFor_53 C K G  S (fX2_multiply v3 c45) hv)
set_option maxRecDepth 100000 in
set_option maxHeartbeats 1000000 in
theorem tX0_ticksFor_11 {p : Program} {l : Launch} {e : Env} {s : State} {m : MethodId} {args : Array Value} {below : List Frame} {meth : Method} {c : Code} {g : CG} {S0 : CS} (C : CC p s m args meth c yX0_ticksFor cX0_ticksFor 11 (some .long)) (K : cK g s) (G : cSep g)  (S : CS) (v1 : Int64) (v3 : Int64) (t0 : Int32) {w : Int64 × CS} (hv : fX0_ticksFor_11 S v1 v3 t0 = some w) : CJ p l e s m args below meth c 11 5 0 0 g S0 (some (.long w.1)) w.2 11 [(1, .long v1), (3, .long v3)] [.int t0] S 0 0 := by
  unfold fX0_ticksFor_11 at hv
  refine jr_i2l C dX0_ticksFor_11 ?_
  refine jr_pcall (rest := []) C (pX2_ofWhole l t0.toInt64) oX2_ofWhole kw_859 rfl ⟨Nat.le_of_ble_eq_true rfl, Nat.le_of_ble_eq_true rfl⟩ rfl (Nat.le_of_ble_eq_true rfl) ⟨Nat.zero_le _, Nat.zero_le _⟩ dX0_ticksFor_12 ?_
  refine jr_lstore (lv' := [(5, .long (fX2_ofWhole t0.toInt64)), (1, .long v1), (3, .long v3)]) C dX0_ticksFor_15 (by decide) rfl ?_
  exact jr_sub [1, 2, 0] rfl (tX0_ticksFor_17 C K G  S v1 v3 (fX2_ofWhole t0.toInt64) hv)
set_option maxRecDepth 100000 in
set_option maxHeartbeats 1000000 in
theorem tX0_ticksFor_7 {p : Program} {l : Launch} {e : Env} {s : State} {m : MethodId} {args : Array Value} {below : List Frame} {meth : Method} {c : Code} {g : CG} {S0 : CS} (C : CC p s m args meth c yX0_ticksFor cX0_ticksFor 11 (some .long)) (K : cK g s) (G : cSep g)  (S : CS) (v0 : Option Nat) (v1 : Int64) (v3 : Int64) {w : Int64 × CS} (hv : fX0_ticksFor_7 S v0 v1 v3 = some w) : CJ p l e s m args below meth c 11 5 0 0 g S0 (some (.long w.1)) w.2 7 [(0, va_rf v0), (1, .long v1), (3, .long v3)] [] S 0 0 := by
  unfold fX0_ticksFor_7 at hv
  refine jr_naload_n C dX0_ticksFor_7 rfl 0 rfl ?_
  by_cases z8_0 : isKx S v0 [0] = true
  case pos =>
    have hv := (if_pos z8_0).symm.trans hv
    obtain ⟨c8, hc8, hv⟩ := Option.bind_eq_some_iff.mp hv
    refine jc_callT (ci := 0) (rest := []) C K (pX0_speed l G S v0  hc8) z8_0 rfl oX0_speed kw_872 kw_870 rfl ⟨Nat.le_of_ble_eq_true rfl, Nat.le_of_ble_eq_true rfl⟩ rfl (Nat.le_of_ble_eq_true rfl) ⟨Nat.le_refl _, Nat.le_refl _⟩ dX0_ticksFor_8 ?_
    exact jr_sub [1, 2] rfl (tX0_ticksFor_11 C K G  c8.2 v1 v3 c8.1 hv)
  have hv := (if_neg z8_0).symm.trans hv
  by_cases z8_4 : isKx S v0 [4] = true
  case pos =>
    have hv := (if_pos z8_4).symm.trans hv
    obtain ⟨c8, hc8, hv⟩ := Option.bind_eq_some_iff.mp hv
    refine jc_callU (ci := 4) (rest := []) C K (pX6_speed l G S v0  hc8) z8_4 rfl u_X0_speed_speed_4 kw_870 rfl ⟨Nat.le_of_ble_eq_true rfl, Nat.le_of_ble_eq_true rfl⟩ rfl (Nat.le_of_ble_eq_true rfl) ⟨Nat.le_refl _, Nat.le_refl _⟩ dX0_ticksFor_8 ?_
    exact jr_sub [1, 2] rfl (tX0_ticksFor_11 C K G  c8.2 v1 v3 c8.1 hv)
  have hv := (if_neg z8_4).symm.trans hv
  by_cases z8_6 : isKx S v0 [6] = true
  case pos =>
    have hv := (if_pos z8_6).symm.trans hv
    obtain ⟨c8, hc8, hv⟩ := Option.bind_eq_some_iff.mp hv
    refine jc_callU (ci := 6) (rest := []) C K (pX6_speed l G S v0  hc8) z8_6 rfl u_X0_speed_speed_6 kw_870 rfl ⟨Nat.le_of_ble_eq_true rfl, Nat.le_of_ble_eq_true rfl⟩ rfl (Nat.le_of_ble_eq_true rfl) ⟨Nat.le_refl _, Nat.le_refl _⟩ dX0_ticksFor_8 ?_
    exact jr_sub [1, 2] rfl (tX0_ticksFor_11 C K G  c8.2 v1 v3 c8.1 hv)
  have hv := (if_neg z8_6).symm.trans hv
  exact op_none hv
set_option maxRecDepth 100000 in
set_option maxHeartbeats 1000000 in
theorem tX0_ticksFor_0 {p : Program} {l : Launch} {e : Env} {s : State} {m : MethodId} {args : Array Value} {below : List Frame} {meth : Method} {c : Code} {g : CG} {S0 : CS} (C : CC p s m args meth c yX0_ticksFor cX0_ticksFor 11 (some .long)) (K : cK g s) (G : cSep g)  (S : CS) (v0 : Option Nat) (v1 : Int64) {w : Int64 × CS} (hv : fX0_ticksFor S v0 v1 = some w) : CJ p l e s m args below meth c 11 5 0 0 g S0 (some (.long w.1)) w.2 0 [(0, va_rf v0), (1, .long v1)] [] S 0 0 := by
  unfold fX0_ticksFor at hv
  refine jr_ldc2 C kw_869 dX0_ticksFor_0 ?_
  refine jr_pcall (rest := []) C (pX2_ofWhole l 2) oX2_ofWhole kw_859 rfl ⟨Nat.le_of_ble_eq_true rfl, Nat.le_of_ble_eq_true rfl⟩ rfl (Nat.le_of_ble_eq_true rfl) ⟨Nat.zero_le _, Nat.zero_le _⟩ dX0_ticksFor_3 ?_
  refine jr_lstore_n (lv' := [(3, .long (fX2_ofWhole 2)), (0, va_rf v0), (1, .long v1)]) C dX0_ticksFor_6 rfl (by decide) rfl ?_
  exact jr_sub [1, 2, 0] rfl (tX0_ticksFor_7 C K G  S v0 v1 (fX2_ofWhole 2) hv)
theorem pX0_ticksFor (l : Launch) {g : CG} (G : cSep g)   (S : CS) (v0 : Option Nat) (v1 : Int64) {w : Int64 × CS} (hw : fX0_ticksFor S v0 v1 = some w)  : cC l yX0_ticksFor cX0_ticksFor 11 (some .long) 5 0 0 g [va_rf v0, .long v1] S (some (.long w.1)) w.2 := cC_of (lv := [(0, va_rf v0), (1, .long v1)]) (by decide +kernel) (by simp [lg_sl, cat_rf, cat_i, cat_l, cat_r]) (by simp [lv_args, cat_rf, cat_i, cat_l, cat_r]) (fun C K => tX0_ticksFor_0 C K G  S v0 v1 hw)
/-! RobotCell$Axis.goTo(J)J -/
theorem u_X0_ticksFor_ticksFor_4 : ok_u yX0_ticksFor yX0_ticksFor RX0 RX6 cX0_ticksFor 11 (some .long) 1 := ⟨kw_868, kw_867, kw_84, kw_1619, List.mem_append_left _ (by simp [selX]), Or.inr ⟨kw_867, _, _, _, kw_868⟩, by decide +kernel⟩
theorem u_X0_ticksFor_ticksFor_6 : ok_u yX0_ticksFor yX0_ticksFor RX0 RX10 cX0_ticksFor 11 (some .long) 1 := ⟨kw_868, kw_867, kw_84, kw_1619, List.mem_append_left _ (by simp [selX]), Or.inr ⟨kw_867, _, _, _, kw_868⟩, by decide +kernel⟩
theorem u_X0_span_span_4 : ok_u yX0_span yX6_span RX0 RX6 cX6_span 1 (some .int) 0 := ⟨kw_853, kw_852, kw_85, kw_850, nw_in kw_851, Or.inr ⟨kw_848, _, _, _, kw_858⟩, by decide +kernel⟩
theorem u_X0_span_span_6 : ok_u yX0_span yX10_span RX0 RX10 cX10_span 1 (some .int) 0 := ⟨kw_857, kw_856, kw_86, kw_850, nw_in kw_855, Or.inr ⟨kw_848, _, _, _, kw_858⟩, by decide +kernel⟩
theorem u_X0_onGrid_onGrid_4 : ok_u yX0_onGrid yX6_onGrid RX0 RX6 cX6_onGrid 5 (some .long) 1 := ⟨kw_837, kw_836, kw_85, kw_834, nw_in kw_835, Or.inr ⟨kw_832, _, _, _, kw_844⟩, by decide +kernel⟩
theorem u_X0_onGrid_onGrid_6 : ok_u yX0_onGrid yX6_onGrid RX0 RX10 cX6_onGrid 5 (some .long) 1 := ⟨kw_837, kw_836, kw_85, kw_834, nw_in kw_843, Or.inr ⟨kw_832, _, _, _, kw_844⟩, by decide +kernel⟩
theorem u_X0_withinTurn_withinTurn_4 : ok_u yX0_withinTurn yX0_withinTurn RX0 RX6 cX0_withinTurn 3 (some .long) 1 := ⟨kw_830, kw_816, kw_84, kw_818, nw_in kw_819, Or.inr ⟨kw_816, _, _, _, kw_830⟩, by decide +kernel⟩
theorem u_X0_withinTurn_withinTurn_6 : ok_u yX0_withinTurn yX10_withinTurn RX0 RX10 cX10_withinTurn 7 (some .long) 1 := ⟨kw_822, kw_821, kw_86, kw_818, nw_in kw_820, Or.inr ⟨kw_816, _, _, _, kw_830⟩, by decide +kernel⟩
def fX0_goTo_90 (S : CS) (t0 : Int64) : Option (Int64 × CS) :=
  some (t0, S)
def fX0_goTo_56 (S : CS) (v0 : Option Nat) (v3 : Int64) (v5 : Int64) : Option (Int64 × CS) :=
  Option.bind (tp S v0 [0, 4, 6] 0 (.long v3)) (fun c58 => Option.bind (tgJ c58 v0 [0, 4, 6] 1) (fun c63 => Option.bind (tp c58 v0 [0, 4, 6] 1 (.long (fX2_add c63 v5))) (fun c71 => Option.bind (tgJ c71 v0 [0, 4, 6] 2) (fun c76 => Option.bind (tp c71 v0 [0, 4, 6] 2 (.long (c76 + 1))) (fun c81 => if isKx c81 v0 [0] = true then (Option.bind (fX0_ticksFor c81 v0 v5) (fun c87 => fX0_goTo_90 c87.2 c87.1)) else if isKx c81 v0 [4] = true then (Option.bind (fX0_ticksFor c81 v0 v5) (fun c87 => fX0_goTo_90 c87.2 c87.1)) else if isKx c81 v0 [6] = true then (Option.bind (fX0_ticksFor c81 v0 v5) (fun c87 => fX0_goTo_90 c87.2 c87.1)) else none)))))
def fX0_goTo_25 (S : CS) (v0 : Option Nat) (v3 : Int64) (t0 : Int32) : Option (Int64 × CS) :=
  if (fX2_isLess (fX2_ofWhole t0.toInt64) (fX2_magnitude v3)) = 0 then (Option.bind (tgJ S v0 [0, 4, 6] 0) (fun c45 => fX0_goTo_56 S v0 v3 (fX2_magnitude (fX2_subtract v3 c45)))) else some ((-8), S)
def fX0_goTo_9 (S : CS) (v0 : Option Nat) (t0 : Int64) : Option (Int64 × CS) :=
  if (fX2_isLost t0) = 0 then (if isKx S v0 [0] = true then (Option.bind (fX0_span S v0) (fun c22 => fX0_goTo_25 c22.2 v0 t0 c22.1)) else if isKx S v0 [4] = true then (Option.bind (fX6_span S v0) (fun c22 => fX0_goTo_25 c22.2 v0 t0 c22.1)) else if isKx S v0 [6] = true then (Option.bind (fX10_span S v0) (fun c22 => fX0_goTo_25 c22.2 v0 t0 c22.1)) else none) else some ((-7), S)
def fX0_goTo_6 (S : CS) (v0 : Option Nat) (t0 : Option Nat) (t1 : Int64) : Option (Int64 × CS) :=
  if isKx S t0 [0] = true then (Option.bind (fX0_onGrid S t0 t1) (fun c6 => fX0_goTo_9 c6.2 v0 c6.1)) else if isKx S t0 [4] = true then (Option.bind (fX6_onGrid S t0 t1) (fun c6 => fX0_goTo_9 c6.2 v0 c6.1)) else if isKx S t0 [6] = true then (Option.bind (fX6_onGrid S t0 t1) (fun c6 => fX0_goTo_9 c6.2 v0 c6.1)) else none
def fX0_goTo (S : CS) (v0 : Option Nat) (v1 : Int64) : Option (Int64 × CS) :=
  if isKx S v0 [0] = true then (Option.bind (fX0_withinTurn S v0 v1) (fun c3 => fX0_goTo_6 c3.2 v0 v0 c3.1)) else if isKx S v0 [4] = true then (Option.bind (fX0_withinTurn S v0 v1) (fun c3 => fX0_goTo_6 c3.2 v0 v0 c3.1)) else if isKx S v0 [6] = true then (Option.bind (fX10_withinTurn S v0 v1) (fun c3 => fX0_goTo_6 c3.2 v0 v0 c3.1)) else none
theorem oX0_goTo : ok_c yX0_goTo cX0_goTo 7 (some .long) 1 (.instanceMethod yX0_goTo) := ⟨kw_814, ⟨kw_813, rfl⟩, kw_84, by decide +kernel⟩
set_option maxRecDepth 100000 in
set_option maxHeartbeats 1000000 in
theorem tX0_goTo_90 {p : Program} {l : Launch} {e : Env} {s : State} {m : MethodId} {args : Array Value} {below : List Frame} {meth : Method} {c : Code} {g : CG} {S0 : CS} (C : CC p s m args meth c yX0_goTo cX0_goTo 7 (some .long)) (K : cK g s) (G : cSep g)  (S : CS) (t0 : Int64) {w : Int64 × CS} (hv : fX0_goTo_90 S t0 = some w) : CJ p l e s m args below meth c 7 6 0 0 g S0 (some (.long w.1)) w.2 90 [] [.long t0] S 0 0 := by
  unfold fX0_goTo_90 at hv
  exact jc_lret C K dX0_goTo_90 (Option.some.inj hv) ⟨Nat.le_refl _, Nat.le_refl _⟩
set_option maxRecDepth 100000 in
set_option maxHeartbeats 1000000 in
theorem tX0_goTo_56 {p : Program} {l : Launch} {e : Env} {s : State} {m : MethodId} {args : Array Value} {below : List Frame} {meth : Method} {c : Code} {g : CG} {S0 : CS} (C : CC p s m args meth c yX0_goTo cX0_goTo 7 (some .long)) (K : cK g s) (G : cSep g)  (S : CS) (v0 : Option Nat) (v3 : Int64) (v5 : Int64) {w : Int64 × CS} (hv : fX0_goTo_56 S v0 v3 v5 = some w) : CJ p l e s m args below meth c 7 6 0 0 g S0 (some (.long w.1)) w.2 56 [(0, va_rf v0), (3, .long v3), (5, .long v5)] [] S 0 0 := by
  unfold fX0_goTo_56 at hv
  refine jr_naload_n C dX0_goTo_56 rfl 0 rfl ?_
  refine jr_lload_n C dX0_goTo_57 rfl 1 rfl ?_
  obtain ⟨c58, hc58, hv⟩ := Option.bind_eq_some_iff.mp hv
  refine jc_tp C K hc58 fp_Axis_at rfl rfl kw_761 dX0_goTo_58 ?_
  refine jr_naload_n C dX0_goTo_61 rfl 0 rfl ?_
  refine jr_naload_n C dX0_goTo_62 rfl 0 rfl ?_
  obtain ⟨c63, hc63, hv⟩ := Option.bind_eq_some_iff.mp hv
  refine jc_tg C K (tgJ_F hc63) fg_Axis_travelled kw_762 dX0_goTo_63 ?_
  refine jr_lload C dX0_goTo_66 2 rfl ?_
  refine jr_pcall (rest := [va_rf v0]) C (pX2_add l c63 v5) oX2_add kw_864 rfl ⟨Nat.le_of_ble_eq_true rfl, Nat.le_of_ble_eq_true rfl⟩ rfl (by simp [cat_rf, cat_i, cat_l, cat_r]) ⟨Nat.zero_le _, Nat.zero_le _⟩ dX0_goTo_68 ?_
  obtain ⟨c71, hc71, hv⟩ := Option.bind_eq_some_iff.mp hv
  refine jc_tp C K hc71 fp_Axis_travelled rfl rfl kw_762 dX0_goTo_71 ?_
  refine jr_naload_n C dX0_goTo_74 rfl 0 rfl ?_
  refine jr_dup C dX0_goTo_75 (cat_rf _) ?_
  obtain ⟨c76, hc76, hv⟩ := Option.bind_eq_some_iff.mp hv
  refine jc_tg C K (tgJ_F hc76) fg_Axis_moves kw_763 dX0_goTo_76 ?_
  refine jr_lconst (v := 1) C dX0_goTo_79 (by decide) ?_
  refine jr_ladd C dX0_goTo_80 ?_
  obtain ⟨c81, hc81, hv⟩ := Option.bind_eq_some_iff.mp hv
  refine jc_tp C K hc81 fp_Axis_moves rfl rfl kw_763 dX0_goTo_81 ?_
  refine jr_naload_n C dX0_goTo_84 rfl 0 rfl ?_
  refine jr_lload C dX0_goTo_85 2 rfl ?_
  by_cases z87_0 : isKx c81 v0 [0] = true
  case pos =>
    have hv := (if_pos z87_0).symm.trans hv
    obtain ⟨c87, hc87, hv⟩ := Option.bind_eq_some_iff.mp hv
    refine jc_callT (ci := 0) (rest := []) C K (pX0_ticksFor l G c81 v0 v5 hc87) z87_0 rfl oX0_ticksFor kw_38 kw_865 rfl ⟨Nat.le_of_ble_eq_true rfl, Nat.le_of_ble_eq_true rfl⟩ rfl (Nat.le_of_ble_eq_true rfl) ⟨Nat.le_refl _, Nat.le_refl _⟩ dX0_goTo_87 ?_
    exact jr_sub [] rfl (tX0_goTo_90 C K G  c87.2 c87.1 hv)
  have hv := (if_neg z87_0).symm.trans hv
  by_cases z87_4 : isKx c81 v0 [4] = true
  case pos =>
    have hv := (if_pos z87_4).symm.trans hv
    obtain ⟨c87, hc87, hv⟩ := Option.bind_eq_some_iff.mp hv
    refine jc_callU (ci := 4) (rest := []) C K (pX0_ticksFor l G c81 v0 v5 hc87) z87_4 rfl u_X0_ticksFor_ticksFor_4 kw_865 rfl ⟨Nat.le_of_ble_eq_true rfl, Nat.le_of_ble_eq_true rfl⟩ rfl (Nat.le_of_ble_eq_true rfl) ⟨Nat.le_refl _, Nat.le_refl _⟩ dX0_goTo_87 ?_
    exact jr_sub [] rfl (tX0_goTo_90 C K G  c87.2 c87.1 hv)
  have hv := (if_neg z87_4).symm.trans hv
  by_cases z87_6 : isKx c81 v0 [6] = true
  case pos =>
    have hv := (if_pos z87_6).symm.trans hv
    obtain ⟨c87, hc87, hv⟩ := Option.bind_eq_some_iff.mp hv
    refine jc_callU (ci := 6) (rest := []) C K (pX0_ticksFor l G c81 v0 v5 hc87) z87_6 rfl u_X0_ticksFor_ticksFor_6 kw_865 rfl ⟨Nat.le_of_ble_eq_true rfl, Nat.le_of_ble_eq_true rfl⟩ rfl (Nat.le_of_ble_eq_true rfl) ⟨Nat.le_refl _, Nat.le_refl _⟩ dX0_goTo_87 ?_
    exact jr_sub [] rfl (tX0_goTo_90 C K G  c87.2 c87.1 hv)
  have hv := (if_neg z87_6).symm.trans hv
  exact op_none hv
set_option maxRecDepth 100000 in
set_option maxHeartbeats 1000000 in
theorem tX0_goTo_25 {p : Program} {l : Launch} {e : Env} {s : State} {m : MethodId} {args : Array Value} {below : List Frame} {meth : Method} {c : Code} {g : CG} {S0 : CS} (C : CC p s m args meth c yX0_goTo cX0_goTo 7 (some .long)) (K : cK g s) (G : cSep g)  (S : CS) (v0 : Option Nat) (v3 : Int64) (t0 : Int32) {w : Int64 × CS} (hv : fX0_goTo_25 S v0 v3 t0 = some w) : CJ p l e s m args below meth c 7 6 0 0 g S0 (some (.long w.1)) w.2 25 [(0, va_rf v0), (3, .long v3)] [.int t0] S 0 0 := by
  unfold fX0_goTo_25 at hv
  refine jr_i2l C dX0_goTo_25 ?_
  refine jr_pcall (rest := []) C (pX2_ofWhole l t0.toInt64) oX2_ofWhole kw_859 rfl ⟨Nat.le_of_ble_eq_true rfl, Nat.le_of_ble_eq_true rfl⟩ rfl (Nat.le_of_ble_eq_true rfl) ⟨Nat.zero_le _, Nat.zero_le _⟩ dX0_goTo_26 ?_
  refine jr_lload_n C dX0_goTo_29 rfl 1 rfl ?_
  refine jr_pcall (rest := [.long (fX2_ofWhole t0.toInt64)]) C (pX2_magnitude l v3) oX2_magnitude kw_860 rfl ⟨Nat.le_of_ble_eq_true rfl, Nat.le_of_ble_eq_true rfl⟩ rfl (Nat.le_of_ble_eq_true rfl) ⟨Nat.zero_le _, Nat.zero_le _⟩ dX0_goTo_30 ?_
  refine jr_pcall (rest := []) C (pX2_isLess l (fX2_ofWhole t0.toInt64) (fX2_magnitude v3)) oX2_isLess kw_861 rfl ⟨Nat.le_of_ble_eq_true rfl, Nat.le_of_ble_eq_true rfl⟩ rfl (Nat.le_of_ble_eq_true rfl) ⟨Nat.zero_le _, Nat.zero_le _⟩ dX0_goTo_33 ?_
  refine jr_if_eq (tgt := 43) C dX0_goTo_36 rfl (fun q36 => ?_) (fun q36 => ?_)
  · have hv := (if_pos q36).symm.trans hv
    refine jr_lload_n C dX0_goTo_43 rfl 1 rfl ?_
    refine jr_naload_n C dX0_goTo_44 rfl 0 rfl ?_
    obtain ⟨c45, hc45, hv⟩ := Option.bind_eq_some_iff.mp hv
    refine jc_tg C K (tgJ_F hc45) fg_Axis_at kw_761 dX0_goTo_45 ?_
    refine jr_pcall (rest := []) C (pX2_subtract l v3 c45) oX2_subtract kw_863 rfl ⟨Nat.le_of_ble_eq_true rfl, Nat.le_of_ble_eq_true rfl⟩ rfl (Nat.le_of_ble_eq_true rfl) ⟨Nat.zero_le _, Nat.zero_le _⟩ dX0_goTo_48 ?_
    refine jr_pcall (rest := []) C (pX2_magnitude l (fX2_subtract v3 c45)) oX2_magnitude kw_860 rfl ⟨Nat.le_of_ble_eq_true rfl, Nat.le_of_ble_eq_true rfl⟩ rfl (Nat.le_of_ble_eq_true rfl) ⟨Nat.zero_le _, Nat.zero_le _⟩ dX0_goTo_51 ?_
    refine jr_lstore (lv' := [(5, .long (fX2_magnitude (fX2_subtract v3 c45))), (0, va_rf v0), (3, .long v3)]) C dX0_goTo_54 (by decide) rfl ?_
    exact jr_sub [1, 2, 0] rfl (tX0_goTo_56 C K G  S v0 v3 (fX2_magnitude (fX2_subtract v3 c45)) hv)
  · have hv := (if_neg q36).symm.trans hv
    refine jr_ldc2 C kw_862 dX0_goTo_39 ?_
    exact jc_lret C K dX0_goTo_42 (Option.some.inj hv) ⟨Nat.le_refl _, Nat.le_refl _⟩
set_option maxRecDepth 100000 in
set_option maxHeartbeats 1000000 in
theorem tX0_goTo_9 {p : Program} {l : Launch} {e : Env} {s : State} {m : MethodId} {args : Array Value} {below : List Frame} {meth : Method} {c : Code} {g : CG} {S0 : CS} (C : CC p s m args meth c yX0_goTo cX0_goTo 7 (some .long)) (K : cK g s) (G : cSep g)  (S : CS) (v0 : Option Nat) (t0 : Int64) {w : Int64 × CS} (hv : fX0_goTo_9 S v0 t0 = some w) : CJ p l e s m args below meth c 7 6 0 0 g S0 (some (.long w.1)) w.2 9 [(0, va_rf v0)] [.long t0] S 0 0 := by
  unfold fX0_goTo_9 at hv
  refine jr_lstore_n (lv' := [(3, .long t0), (0, va_rf v0)]) C dX0_goTo_9 rfl (by decide) rfl ?_
  refine jr_lload_n C dX0_goTo_10 rfl 0 rfl ?_
  refine jr_pcall (rest := []) C (pX2_isLost l t0) oX2_isLost kw_845 rfl ⟨Nat.le_of_ble_eq_true rfl, Nat.le_of_ble_eq_true rfl⟩ rfl (Nat.le_of_ble_eq_true rfl) ⟨Nat.zero_le _, Nat.zero_le _⟩ dX0_goTo_11 ?_
  refine jr_if_eq (tgt := 21) C dX0_goTo_14 rfl (fun q14 => ?_) (fun q14 => ?_)
  · have hv := (if_pos q14).symm.trans hv
    refine jr_naload_n C dX0_goTo_21 rfl 1 rfl ?_
    by_cases z22_0 : isKx S v0 [0] = true
    case pos =>
      have hv := (if_pos z22_0).symm.trans hv
      obtain ⟨c22, hc22, hv⟩ := Option.bind_eq_some_iff.mp hv
      refine jc_callT (ci := 0) (rest := []) C K (pX0_span l G S v0  hc22) z22_0 rfl oX0_span kw_849 kw_847 rfl ⟨Nat.le_of_ble_eq_true rfl, Nat.le_of_ble_eq_true rfl⟩ rfl (Nat.le_of_ble_eq_true rfl) ⟨Nat.le_refl _, Nat.le_refl _⟩ dX0_goTo_22 ?_
      exact jr_sub [1, 0] rfl (tX0_goTo_25 C K G  c22.2 v0 t0 c22.1 hv)
    have hv := (if_neg z22_0).symm.trans hv
    by_cases z22_4 : isKx S v0 [4] = true
    case pos =>
      have hv := (if_pos z22_4).symm.trans hv
      obtain ⟨c22, hc22, hv⟩ := Option.bind_eq_some_iff.mp hv
      refine jc_callU (ci := 4) (rest := []) C K (pX6_span l G S v0  hc22) z22_4 rfl u_X0_span_span_4 kw_847 rfl ⟨Nat.le_of_ble_eq_true rfl, Nat.le_of_ble_eq_true rfl⟩ rfl (Nat.le_of_ble_eq_true rfl) ⟨Nat.le_refl _, Nat.le_refl _⟩ dX0_goTo_22 ?_
      exact jr_sub [1, 0] rfl (tX0_goTo_25 C K G  c22.2 v0 t0 c22.1 hv)
    have hv := (if_neg z22_4).symm.trans hv
    by_cases z22_6 : isKx S v0 [6] = true
    case pos =>
      have hv := (if_pos z22_6).symm.trans hv
      obtain ⟨c22, hc22, hv⟩ := Option.bind_eq_some_iff.mp hv
      refine jc_callU (ci := 6) (rest := []) C K (pX10_span l G S v0  hc22) z22_6 rfl u_X0_span_span_6 kw_847 rfl ⟨Nat.le_of_ble_eq_true rfl, Nat.le_of_ble_eq_true rfl⟩ rfl (Nat.le_of_ble_eq_true rfl) ⟨Nat.le_refl _, Nat.le_refl _⟩ dX0_goTo_22 ?_
      exact jr_sub [1, 0] rfl (tX0_goTo_25 C K G  c22.2 v0 t0 c22.1 hv)
    have hv := (if_neg z22_6).symm.trans hv
    exact op_none hv
  · have hv := (if_neg q14).symm.trans hv
    refine jr_ldc2 C kw_846 dX0_goTo_17 ?_
    exact jc_lret C K dX0_goTo_20 (Option.some.inj hv) ⟨Nat.le_refl _, Nat.le_refl _⟩
set_option maxRecDepth 100000 in
set_option maxHeartbeats 1000000 in
theorem tX0_goTo_6 {p : Program} {l : Launch} {e : Env} {s : State} {m : MethodId} {args : Array Value} {below : List Frame} {meth : Method} {c : Code} {g : CG} {S0 : CS} (C : CC p s m args meth c yX0_goTo cX0_goTo 7 (some .long)) (K : cK g s) (G : cSep g)  (S : CS) (v0 : Option Nat) (t0 : Option Nat) (t1 : Int64) {w : Int64 × CS} (hv : fX0_goTo_6 S v0 t0 t1 = some w) : CJ p l e s m args below meth c 7 6 0 0 g S0 (some (.long w.1)) w.2 6 [(0, va_rf v0)] [.long t1, va_rf t0] S 0 0 := by
  unfold fX0_goTo_6 at hv
  by_cases z6_0 : isKx S t0 [0] = true
  case pos =>
    have hv := (if_pos z6_0).symm.trans hv
    obtain ⟨c6, hc6, hv⟩ := Option.bind_eq_some_iff.mp hv
    refine jc_callT (ci := 0) (rest := []) C K (pX0_onGrid l G S t0 t1 hc6) z6_0 rfl oX0_onGrid kw_833 kw_831 rfl ⟨Nat.le_of_ble_eq_true rfl, Nat.le_of_ble_eq_true rfl⟩ rfl (Nat.le_of_ble_eq_true rfl) ⟨Nat.le_refl _, Nat.le_refl _⟩ dX0_goTo_6 ?_
    exact tX0_goTo_9 C K G  c6.2 v0 c6.1 hv
  have hv := (if_neg z6_0).symm.trans hv
  by_cases z6_4 : isKx S t0 [4] = true
  case pos =>
    have hv := (if_pos z6_4).symm.trans hv
    obtain ⟨c6, hc6, hv⟩ := Option.bind_eq_some_iff.mp hv
    refine jc_callU (ci := 4) (rest := []) C K (pX6_onGrid l G S t0 t1 hc6) z6_4 rfl u_X0_onGrid_onGrid_4 kw_831 rfl ⟨Nat.le_of_ble_eq_true rfl, Nat.le_of_ble_eq_true rfl⟩ rfl (Nat.le_of_ble_eq_true rfl) ⟨Nat.le_refl _, Nat.le_refl _⟩ dX0_goTo_6 ?_
    exact tX0_goTo_9 C K G  c6.2 v0 c6.1 hv
  have hv := (if_neg z6_4).symm.trans hv
  by_cases z6_6 : isKx S t0 [6] = true
  case pos =>
    have hv := (if_pos z6_6).symm.trans hv
    obtain ⟨c6, hc6, hv⟩ := Option.bind_eq_some_iff.mp hv
    refine jc_callU (ci := 6) (rest := []) C K (pX6_onGrid l G S t0 t1 hc6) z6_6 rfl u_X0_onGrid_onGrid_6 kw_831 rfl ⟨Nat.le_of_ble_eq_true rfl, Nat.le_of_ble_eq_true rfl⟩ rfl (Nat.le_of_ble_eq_true rfl) ⟨Nat.le_refl _, Nat.le_refl _⟩ dX0_goTo_6 ?_
    exact tX0_goTo_9 C K G  c6.2 v0 c6.1 hv
  have hv := (if_neg z6_6).symm.trans hv
  exact op_none hv
set_option maxRecDepth 100000 in
set_option maxHeartbeats 1000000 in
theorem tX0_goTo_0 {p : Program} {l : Launch} {e : Env} {s : State} {m : MethodId} {args : Array Value} {below : List Frame} {meth : Method} {c : Code} {g : CG} {S0 : CS} (C : CC p s m args meth c yX0_goTo cX0_goTo 7 (some .long)) (K : cK g s) (G : cSep g)  (S : CS) (v0 : Option Nat) (v1 : Int64) {w : Int64 × CS} (hv : fX0_goTo S v0 v1 = some w) : CJ p l e s m args below meth c 7 6 0 0 g S0 (some (.long w.1)) w.2 0 [(0, va_rf v0), (1, .long v1)] [] S 0 0 := by
  unfold fX0_goTo at hv
  refine jr_naload_n C dX0_goTo_0 rfl 0 rfl ?_
  refine jr_naload_n C dX0_goTo_1 rfl 0 rfl ?_
  refine jr_lload_n C dX0_goTo_2 rfl 1 rfl ?_
  by_cases z3_0 : isKx S v0 [0] = true
  case pos =>
    have hv := (if_pos z3_0).symm.trans hv
    obtain ⟨c3, hc3, hv⟩ := Option.bind_eq_some_iff.mp hv
    refine jc_callT (ci := 0) (rest := [va_rf v0]) C K (pX0_withinTurn l G S v0 v1 hc3) z3_0 rfl oX0_withinTurn kw_817 kw_815 rfl ⟨Nat.le_of_ble_eq_true rfl, Nat.le_of_ble_eq_true rfl⟩ rfl (by simp [cat_rf, cat_i, cat_l, cat_r]) ⟨Nat.le_refl _, Nat.le_refl _⟩ dX0_goTo_3 ?_
    exact jr_sub [0] rfl (tX0_goTo_6 C K G  c3.2 v0 v0 c3.1 hv)
  have hv := (if_neg z3_0).symm.trans hv
  by_cases z3_4 : isKx S v0 [4] = true
  case pos =>
    have hv := (if_pos z3_4).symm.trans hv
    obtain ⟨c3, hc3, hv⟩ := Option.bind_eq_some_iff.mp hv
    refine jc_callU (ci := 4) (rest := [va_rf v0]) C K (pX0_withinTurn l G S v0 v1 hc3) z3_4 rfl u_X0_withinTurn_withinTurn_4 kw_815 rfl ⟨Nat.le_of_ble_eq_true rfl, Nat.le_of_ble_eq_true rfl⟩ rfl (by simp [cat_rf, cat_i, cat_l, cat_r]) ⟨Nat.le_refl _, Nat.le_refl _⟩ dX0_goTo_3 ?_
    exact jr_sub [0] rfl (tX0_goTo_6 C K G  c3.2 v0 v0 c3.1 hv)
  have hv := (if_neg z3_4).symm.trans hv
  by_cases z3_6 : isKx S v0 [6] = true
  case pos =>
    have hv := (if_pos z3_6).symm.trans hv
    obtain ⟨c3, hc3, hv⟩ := Option.bind_eq_some_iff.mp hv
    refine jc_callU (ci := 6) (rest := [va_rf v0]) C K (pX10_withinTurn l G S v0 v1 hc3) z3_6 rfl u_X0_withinTurn_withinTurn_6 kw_815 rfl ⟨Nat.le_of_ble_eq_true rfl, Nat.le_of_ble_eq_true rfl⟩ rfl (by simp [cat_rf, cat_i, cat_l, cat_r]) ⟨Nat.le_refl _, Nat.le_refl _⟩ dX0_goTo_3 ?_
    exact jr_sub [0] rfl (tX0_goTo_6 C K G  c3.2 v0 v0 c3.1 hv)
  have hv := (if_neg z3_6).symm.trans hv
  exact op_none hv
theorem pX0_goTo (l : Launch) {g : CG} (G : cSep g)   (S : CS) (v0 : Option Nat) (v1 : Int64) {w : Int64 × CS} (hw : fX0_goTo S v0 v1 = some w)  : cC l yX0_goTo cX0_goTo 7 (some .long) 6 0 0 g [va_rf v0, .long v1] S (some (.long w.1)) w.2 := cC_of (lv := [(0, va_rf v0), (1, .long v1)]) (by decide +kernel) (by simp [lg_sl, cat_rf, cat_i, cat_l, cat_r]) (by simp [lv_args, cat_rf, cat_i, cat_l, cat_r]) (fun C K => tX0_goTo_0 C K G  S v0 v1 hw)
/-! RobotCell$Probe.keptCount()I -/
def fX5_keptCount (S : CS) (v0 : Option Nat) : Option (Int32 × CS) :=
  Option.bind (tgJ S v0 [3] 1) (fun c1 => if 5 ≤ c1 then some (5, S) else (Option.bind (tgJ S v0 [3] 1) (fun c12 => some (c12.toInt32, S))))
theorem oX5_keptCount : ok_c yX5_keptCount cX5_keptCount 1 (some .int) 0 (.instanceMethod yX5_keptCount) := ⟨kw_913, ⟨kw_912, rfl⟩, kw_87, by decide +kernel⟩
set_option maxRecDepth 100000 in
set_option maxHeartbeats 1000000 in
theorem tX5_keptCount_0 {p : Program} {l : Launch} {e : Env} {s : State} {m : MethodId} {args : Array Value} {below : List Frame} {meth : Method} {c : Code} {g : CG} {S0 : CS} (C : CC p s m args meth c yX5_keptCount cX5_keptCount 1 (some .int)) (K : cK g s) (G : cSep g)  (S : CS) (v0 : Option Nat) {w : Int32 × CS} (hv : fX5_keptCount S v0 = some w) : CJ p l e s m args below meth c 1 0 0 0 g S0 (some (.int w.1)) w.2 0 [(0, va_rf v0)] [] S 0 0 := by
  unfold fX5_keptCount at hv
  refine jr_naload_n C dX5_keptCount_0 rfl 0 rfl ?_
  obtain ⟨c1, hc1, hv⟩ := Option.bind_eq_some_iff.mp hv
  refine jc_tg C K (tgJ_F hc1) fg_Probe_had kw_798 dX5_keptCount_1 ?_
  refine jr_ldc2 C kw_914 dX5_keptCount_4 ?_
  refine jr_lcmp_ge (tgt := 19) C dX5_keptCount_7 dX5_keptCount_8 rfl (fun q7 => ?_) (fun q7 => ?_)
  · have hv := (if_pos q7).symm.trans hv
    refine jr_iconst (v := 5) C dX5_keptCount_19 (by decide) ?_
    exact jc_iret C K dX5_keptCount_20 (Option.some.inj hv) ⟨Nat.le_refl _, Nat.le_refl _⟩
  · have hv := (if_neg q7).symm.trans hv
    refine jr_naload_n C dX5_keptCount_11 rfl 0 rfl ?_
    obtain ⟨c12, hc12, hv⟩ := Option.bind_eq_some_iff.mp hv
    refine jc_tg C K (tgJ_F hc12) fg_Probe_had kw_798 dX5_keptCount_12 ?_
    refine jr_l2i C dX5_keptCount_15 ?_
    refine jr_goto (tgt := 20) C dX5_keptCount_16 rfl ?_
    exact jc_iret C K dX5_keptCount_20 (Option.some.inj hv) ⟨Nat.le_refl _, Nat.le_refl _⟩
theorem pX5_keptCount (l : Launch) {g : CG} (G : cSep g)   (S : CS) (v0 : Option Nat) {w : Int32 × CS} (hw : fX5_keptCount S v0 = some w)  : cC l yX5_keptCount cX5_keptCount 1 (some .int) 0 0 0 g [va_rf v0] S (some (.int w.1)) w.2 := cC_of (lv := [(0, va_rf v0)]) (by decide +kernel) (by simp [lg_sl, cat_rf, cat_i, cat_l, cat_r]) (by simp [lv_args, cat_rf, cat_i, cat_l, cat_r]) (fun C K => tX5_keptCount_0 C K G  S v0 hw)
/-! RobotCell$Probe.span()I -/
def fX5_span (S : CS) (v0 : Option Nat) : Option (Int32 × CS) :=
  some (1, S)
theorem oX5_span : ok_c yX5_span cX5_span 1 (some .int) 0 (.instanceMethod yX5_span) := ⟨kw_928, ⟨kw_927, rfl⟩, kw_87, by decide +kernel⟩
set_option maxRecDepth 100000 in
set_option maxHeartbeats 1000000 in
theorem tX5_span_0 {p : Program} {l : Launch} {e : Env} {s : State} {m : MethodId} {args : Array Value} {below : List Frame} {meth : Method} {c : Code} {g : CG} {S0 : CS} (C : CC p s m args meth c yX5_span cX5_span 1 (some .int)) (K : cK g s) (G : cSep g)  (S : CS) (v0 : Option Nat) {w : Int32 × CS} (hv : fX5_span S v0 = some w) : CJ p l e s m args below meth c 1 0 0 0 g S0 (some (.int w.1)) w.2 0 [(0, va_rf v0)] [] S 0 0 := by
  unfold fX5_span at hv
  refine jr_iconst (v := 1) C dX5_span_0 (by decide) ?_
  exact jc_iret C K dX5_span_1 (Option.some.inj hv) ⟨Nat.le_refl _, Nat.le_refl _⟩
theorem pX5_span (l : Launch) {g : CG} (G : cSep g)   (S : CS) (v0 : Option Nat) {w : Int32 × CS} (hw : fX5_span S v0 = some w)  : cC l yX5_span cX5_span 1 (some .int) 0 0 0 g [va_rf v0] S (some (.int w.1)) w.2 := cC_of (lv := [(0, va_rf v0)]) (by decide +kernel) (by simp [lg_sl, cat_rf, cat_i, cat_l, cat_r]) (by simp [lv_args, cat_rf, cat_i, cat_l, cat_r]) (fun C K => tX5_span_0 C K G  S v0 hw)
/-! RobotCell$Probe.rank()I -/
def fX5_rank (S : CS) (v0 : Option Nat) : Option (Int32 × CS) :=
  some (1, S)
theorem oX5_rank : ok_c yX5_rank cX5_rank 1 (some .int) 0 (.instanceMethod yX5_rank) := ⟨kw_939, ⟨kw_938, rfl⟩, kw_87, by decide +kernel⟩
set_option maxRecDepth 100000 in
set_option maxHeartbeats 1000000 in
theorem tX5_rank_0 {p : Program} {l : Launch} {e : Env} {s : State} {m : MethodId} {args : Array Value} {below : List Frame} {meth : Method} {c : Code} {g : CG} {S0 : CS} (C : CC p s m args meth c yX5_rank cX5_rank 1 (some .int)) (K : cK g s) (G : cSep g)  (S : CS) (v0 : Option Nat) {w : Int32 × CS} (hv : fX5_rank S v0 = some w) : CJ p l e s m args below meth c 1 0 0 0 g S0 (some (.int w.1)) w.2 0 [(0, va_rf v0)] [] S 0 0 := by
  unfold fX5_rank at hv
  refine jr_iconst (v := 1) C dX5_rank_0 (by decide) ?_
  exact jc_iret C K dX5_rank_1 (Option.some.inj hv) ⟨Nat.le_refl _, Nat.le_refl _⟩
theorem pX5_rank (l : Launch) {g : CG} (G : cSep g)   (S : CS) (v0 : Option Nat) {w : Int32 × CS} (hw : fX5_rank S v0 = some w)  : cC l yX5_rank cX5_rank 1 (some .int) 0 0 0 g [va_rf v0] S (some (.int w.1)) w.2 := cC_of (lv := [(0, va_rf v0)]) (by decide +kernel) (by simp [lg_sl, cat_rf, cat_i, cat_l, cat_r]) (by simp [lv_args, cat_rf, cat_i, cat_l, cat_r]) (fun C K => tX5_rank_0 C K G  S v0 hw)
/-! RobotCell$Probe.speed()I -/
def fX5_speed (S : CS) (v0 : Option Nat) : Option (Int32 × CS) :=
  some (0, S)
theorem oX5_speed : ok_c yX5_speed cX5_speed 1 (some .int) 0 (.instanceMethod yX5_speed) := ⟨kw_979, ⟨kw_978, rfl⟩, kw_87, by decide +kernel⟩
set_option maxRecDepth 100000 in
set_option maxHeartbeats 1000000 in
theorem tX5_speed_0 {p : Program} {l : Launch} {e : Env} {s : State} {m : MethodId} {args : Array Value} {below : List Frame} {meth : Method} {c : Code} {g : CG} {S0 : CS} (C : CC p s m args meth c yX5_speed cX5_speed 1 (some .int)) (K : cK g s) (G : cSep g)  (S : CS) (v0 : Option Nat) {w : Int32 × CS} (hv : fX5_speed S v0 = some w) : CJ p l e s m args below meth c 1 0 0 0 g S0 (some (.int w.1)) w.2 0 [(0, va_rf v0)] [] S 0 0 := by
  unfold fX5_speed at hv
  refine jr_iconst (v := 0) C dX5_speed_0 (by decide) ?_
  exact jc_iret C K dX5_speed_1 (Option.some.inj hv) ⟨Nat.le_refl _, Nat.le_refl _⟩
theorem pX5_speed (l : Launch) {g : CG} (G : cSep g)   (S : CS) (v0 : Option Nat) {w : Int32 × CS} (hw : fX5_speed S v0 = some w)  : cC l yX5_speed cX5_speed 1 (some .int) 0 0 0 g [va_rf v0] S (some (.int w.1)) w.2 := cC_of (lv := [(0, va_rf v0)]) (by decide +kernel) (by simp [lg_sl, cat_rf, cat_i, cat_l, cat_r]) (by simp [lv_args, cat_rf, cat_i, cat_l, cat_r]) (fun C K => tX5_speed_0 C K G  S v0 hw)
/-! RobotCell$Probe.moves()J -/
def fX5_moves (S : CS) (v0 : Option Nat) : Option (Int64 × CS) :=
  Option.bind (tgJ S v0 [3] 1) (fun c1 => some (c1, S))
theorem oX5_moves : ok_c yX5_moves cX5_moves 1 (some .long) 0 (.instanceMethod yX5_moves) := ⟨kw_970, ⟨kw_969, rfl⟩, kw_87, by decide +kernel⟩
set_option maxRecDepth 100000 in
set_option maxHeartbeats 1000000 in
theorem tX5_moves_0 {p : Program} {l : Launch} {e : Env} {s : State} {m : MethodId} {args : Array Value} {below : List Frame} {meth : Method} {c : Code} {g : CG} {S0 : CS} (C : CC p s m args meth c yX5_moves cX5_moves 1 (some .long)) (K : cK g s) (G : cSep g)  (S : CS) (v0 : Option Nat) {w : Int64 × CS} (hv : fX5_moves S v0 = some w) : CJ p l e s m args below meth c 1 0 0 0 g S0 (some (.long w.1)) w.2 0 [(0, va_rf v0)] [] S 0 0 := by
  unfold fX5_moves at hv
  refine jr_naload_n C dX5_moves_0 rfl 0 rfl ?_
  obtain ⟨c1, hc1, hv⟩ := Option.bind_eq_some_iff.mp hv
  refine jc_tg C K (tgJ_F hc1) fg_Probe_had kw_798 dX5_moves_1 ?_
  exact jc_lret C K dX5_moves_4 (Option.some.inj hv) ⟨Nat.le_refl _, Nat.le_refl _⟩
theorem pX5_moves (l : Launch) {g : CG} (G : cSep g)   (S : CS) (v0 : Option Nat) {w : Int64 × CS} (hw : fX5_moves S v0 = some w)  : cC l yX5_moves cX5_moves 1 (some .long) 0 0 0 g [va_rf v0] S (some (.long w.1)) w.2 := cC_of (lv := [(0, va_rf v0)]) (by decide +kernel) (by simp [lg_sl, cat_rf, cat_i, cat_l, cat_r]) (by simp [lv_args, cat_rf, cat_i, cat_l, cat_r]) (fun C K => tX5_moves_0 C K G  S v0 hw)
/-! RobotCell$Probe.goTo(J)J -/
def fX5_goTo (S : CS) (v0 : Option Nat) (v1 : Int64) : Option (Int64 × CS) :=
  if (fX2_isLost v1) = 0 then some ((-8), S) else some ((-7), S)
theorem oX5_goTo : ok_c yX5_goTo cX5_goTo 3 (some .long) 1 (.instanceMethod yX5_goTo) := ⟨kw_888, ⟨kw_887, rfl⟩, kw_87, by decide +kernel⟩
set_option maxRecDepth 100000 in
set_option maxHeartbeats 1000000 in
theorem tX5_goTo_0 {p : Program} {l : Launch} {e : Env} {s : State} {m : MethodId} {args : Array Value} {below : List Frame} {meth : Method} {c : Code} {g : CG} {S0 : CS} (C : CC p s m args meth c yX5_goTo cX5_goTo 3 (some .long)) (K : cK g s) (G : cSep g)  (S : CS) (v0 : Option Nat) (v1 : Int64) {w : Int64 × CS} (hv : fX5_goTo S v0 v1 = some w) : CJ p l e s m args below meth c 3 1 0 0 g S0 (some (.long w.1)) w.2 0 [(0, va_rf v0), (1, .long v1)] [] S 0 0 := by
  unfold fX5_goTo at hv
  refine jr_lload_n C dX5_goTo_0 rfl 1 rfl ?_
  refine jr_pcall (rest := []) C (pX2_isLost l v1) oX2_isLost kw_889 rfl ⟨Nat.le_of_ble_eq_true rfl, Nat.le_of_ble_eq_true rfl⟩ rfl (Nat.le_of_ble_eq_true rfl) ⟨Nat.zero_le _, Nat.zero_le _⟩ dX5_goTo_1 ?_
  refine jr_if_eq (tgt := 13) C dX5_goTo_4 rfl (fun q4 => ?_) (fun q4 => ?_)
  · have hv := (if_pos q4).symm.trans hv
    refine jr_ldc2 C kw_891 dX5_goTo_13 ?_
    exact jc_lret C K dX5_goTo_16 (Option.some.inj hv) ⟨Nat.le_refl _, Nat.le_refl _⟩
  · have hv := (if_neg q4).symm.trans hv
    refine jr_ldc2 C kw_890 dX5_goTo_7 ?_
    refine jr_goto (tgt := 16) C dX5_goTo_10 rfl ?_
    exact jc_lret C K dX5_goTo_16 (Option.some.inj hv) ⟨Nat.le_refl _, Nat.le_refl _⟩
theorem pX5_goTo (l : Launch) {g : CG} (G : cSep g)   (S : CS) (v0 : Option Nat) (v1 : Int64) {w : Int64 × CS} (hw : fX5_goTo S v0 v1 = some w)  : cC l yX5_goTo cX5_goTo 3 (some .long) 1 0 0 g [va_rf v0, .long v1] S (some (.long w.1)) w.2 := cC_of (lv := [(0, va_rf v0), (1, .long v1)]) (by decide +kernel) (by simp [lg_sl, cat_rf, cat_i, cat_l, cat_r]) (by simp [lv_args, cat_rf, cat_i, cat_l, cat_r]) (fun C K => tX5_goTo_0 C K G  S v0 v1 hw)
/-! RobotCell$Probe.keep(J)V -/
def fX5_keep_45 (S : CS) (v0 : Option Nat) (v1 : Int64) (t0 : Option Nat) (t1 : Int32) : Option (CS) :=
  Option.bind (tasI S t0 t1 (fX2_toBits32 v1)) (fun c49 => Option.bind (tgJ c49 v0 [3] 1) (fun c52 => Option.bind (tp c49 v0 [3] 1 (.long (c52 + 1))) (fun c57 => some c57)))
def fX5_keep_25 (S : CS) (v0 : Option Nat) (v1 : Int64) : Option (CS) :=
  Option.bind (tgN S v0 [3] 0) (fun c26 => if isKx S v0 [3] = true then (Option.bind (fX5_keptCount S v0) (fun c30 => if 5 ≤ c30.1 then fX5_keep_45 c30.2 v0 v1 c26 4 else (if isKx c30.2 v0 [3] = true then (Option.bind (fX5_keptCount c30.2 v0) (fun c38 => fX5_keep_45 c38.2 v0 v1 c26 c38.1)) else none))) else none)
def fX5_keep (S : CS) (v0 : Option Nat) (v1 : Int64) : Option (CS) :=
  Option.bind (tgJ S v0 [3] 1) (fun c1 => if c1 < 5 then fX5_keep_25 S v0 v1 else (Option.bind (tgN S v0 [3] 0) (fun c12 => Option.bind (tgN S v0 [3] 0) (fun c17 => Option.bind (tcpI S c12 1 c17 0 4) (fun c22 => fX5_keep_25 c22 v0 v1)))))
theorem oX5_keep : ok_c yX5_keep cX5_keep 3 none 1 (.instanceMethod yX5_keep) := ⟨kw_1023, ⟨kw_1021, rfl⟩, kw_87, by decide +kernel⟩
set_option maxRecDepth 100000 in
set_option maxHeartbeats 1000000 in
theorem tX5_keep_45 {p : Program} {l : Launch} {e : Env} {s : State} {m : MethodId} {args : Array Value} {below : List Frame} {meth : Method} {c : Code} {g : CG} {S0 : CS} (C : CC p s m args meth c yX5_keep cX5_keep 3 none) (K : cK g s) (G : cSep g)  (S : CS) (v0 : Option Nat) (v1 : Int64) (t0 : Option Nat) (t1 : Int32) {w : CS} (hv : fX5_keep_45 S v0 v1 t0 t1 = some w) : CJ p l e s m args below meth c 3 4 0 0 g S0 none w 45 [(0, va_rf v0), (1, .long v1)] [.int t1, va_rf t0] S 0 0 := by
  unfold fX5_keep_45 at hv
  refine jr_lload_n C dX5_keep_45 rfl 1 rfl ?_
  refine jr_pcall (rest := [.int t1, va_rf t0]) C (pX2_toBits32 l v1) oX2_toBits32 kw_1025 rfl ⟨Nat.le_of_ble_eq_true rfl, Nat.le_of_ble_eq_true rfl⟩ rfl (by simp [cat_rf, cat_i, cat_l, cat_r]) ⟨Nat.zero_le _, Nat.zero_le _⟩ dX5_keep_46 ?_
  obtain ⟨c49, hc49, hv⟩ := Option.bind_eq_some_iff.mp hv
  refine jc_tasI C K hc49 dX5_keep_49 ?_
  refine jr_naload_n C dX5_keep_50 rfl 0 rfl ?_
  refine jr_dup C dX5_keep_51 (cat_rf _) ?_
  obtain ⟨c52, hc52, hv⟩ := Option.bind_eq_some_iff.mp hv
  refine jc_tg C K (tgJ_F hc52) fg_Probe_had kw_798 dX5_keep_52 ?_
  refine jr_lconst (v := 1) C dX5_keep_55 (by decide) ?_
  refine jr_ladd C dX5_keep_56 ?_
  obtain ⟨c57, hc57, hv⟩ := Option.bind_eq_some_iff.mp hv
  refine jc_tp C K hc57 fp_Probe_had rfl rfl kw_798 dX5_keep_57 ?_
  exact jc_vret C K dX5_keep_60 (Option.some.inj hv) ⟨Nat.le_refl _, Nat.le_refl _⟩
set_option maxRecDepth 100000 in
set_option maxHeartbeats 1000000 in
theorem tX5_keep_25 {p : Program} {l : Launch} {e : Env} {s : State} {m : MethodId} {args : Array Value} {below : List Frame} {meth : Method} {c : Code} {g : CG} {S0 : CS} (C : CC p s m args meth c yX5_keep cX5_keep 3 none) (K : cK g s) (G : cSep g)  (S : CS) (v0 : Option Nat) (v1 : Int64) {w : CS} (hv : fX5_keep_25 S v0 v1 = some w) : CJ p l e s m args below meth c 3 4 0 0 g S0 none w 25 [(0, va_rf v0), (1, .long v1)] [] S 0 0 := by
  unfold fX5_keep_25 at hv
  refine jr_naload_n C dX5_keep_25 rfl 0 rfl ?_
  obtain ⟨c26, hc26, hv⟩ := Option.bind_eq_some_iff.mp hv
  refine jc_tg C K (tgN_F hc26) fg_Probe_readings kw_797 dX5_keep_26 ?_
  refine jr_naload_n C dX5_keep_29 rfl 0 rfl ?_
  by_cases z30_3 : isKx S v0 [3] = true
  case pos =>
    have hv := (if_pos z30_3).symm.trans hv
    obtain ⟨c30, hc30, hv⟩ := Option.bind_eq_some_iff.mp hv
    refine jc_callT (ci := 3) (rest := [va_rf c26]) C K (pX5_keptCount l G S v0  hc30) z30_3 rfl oX5_keptCount kw_40 kw_910 rfl ⟨Nat.le_of_ble_eq_true rfl, Nat.le_of_ble_eq_true rfl⟩ rfl (by simp [cat_rf, cat_i, cat_l, cat_r]) ⟨Nat.le_refl _, Nat.le_refl _⟩ dX5_keep_30 ?_
    refine jr_iconst (v := 5) C dX5_keep_33 (by decide) ?_
    refine jr_icmp_ge (tgt := 44) C dX5_keep_34 rfl (fun q34 => ?_) (fun q34 => ?_)
    · have hv := (if_pos q34).symm.trans hv
      refine jr_iconst (v := 4) C dX5_keep_44 (by decide) ?_
      exact tX5_keep_45 C K G  c30.2 v0 v1 c26 4 hv
    · have hv := (if_neg q34).symm.trans hv
      refine jr_naload_n C dX5_keep_37 rfl 0 rfl ?_
      by_cases z38_3 : isKx c30.2 v0 [3] = true
      case pos =>
        have hv := (if_pos z38_3).symm.trans hv
        obtain ⟨c38, hc38, hv⟩ := Option.bind_eq_some_iff.mp hv
        refine jc_callT (ci := 3) (rest := [va_rf c26]) C K (pX5_keptCount l G c30.2 v0  hc38) z38_3 rfl oX5_keptCount kw_40 kw_910 rfl ⟨Nat.le_of_ble_eq_true rfl, Nat.le_of_ble_eq_true rfl⟩ rfl (by simp [cat_rf, cat_i, cat_l, cat_r]) ⟨Nat.le_refl _, Nat.le_refl _⟩ dX5_keep_38 ?_
        refine jr_goto (tgt := 45) C dX5_keep_41 rfl ?_
        exact tX5_keep_45 C K G  c38.2 v0 v1 c26 c38.1 hv
      have hv := (if_neg z38_3).symm.trans hv
      exact op_none hv
  have hv := (if_neg z30_3).symm.trans hv
  exact op_none hv
set_option maxRecDepth 100000 in
set_option maxHeartbeats 1000000 in
theorem tX5_keep_0 {p : Program} {l : Launch} {e : Env} {s : State} {m : MethodId} {args : Array Value} {below : List Frame} {meth : Method} {c : Code} {g : CG} {S0 : CS} (C : CC p s m args meth c yX5_keep cX5_keep 3 none) (K : cK g s) (G : cSep g)  (S : CS) (v0 : Option Nat) (v1 : Int64) {w : CS} (hv : fX5_keep S v0 v1 = some w) : CJ p l e s m args below meth c 3 4 0 0 g S0 none w 0 [(0, va_rf v0), (1, .long v1)] [] S 0 0 := by
  unfold fX5_keep at hv
  refine jr_naload_n C dX5_keep_0 rfl 0 rfl ?_
  obtain ⟨c1, hc1, hv⟩ := Option.bind_eq_some_iff.mp hv
  refine jc_tg C K (tgJ_F hc1) fg_Probe_had kw_798 dX5_keep_1 ?_
  refine jr_ldc2 C kw_914 dX5_keep_4 ?_
  refine jr_lcmp_lt (tgt := 25) C dX5_keep_7 dX5_keep_8 rfl (fun q7 => ?_) (fun q7 => ?_)
  · have hv := (if_pos q7).symm.trans hv
    exact tX5_keep_25 C K G  S v0 v1 hv
  · have hv := (if_neg q7).symm.trans hv
    refine jr_naload_n C dX5_keep_11 rfl 0 rfl ?_
    obtain ⟨c12, hc12, hv⟩ := Option.bind_eq_some_iff.mp hv
    refine jc_tg C K (tgN_F hc12) fg_Probe_readings kw_797 dX5_keep_12 ?_
    refine jr_iconst (v := 1) C dX5_keep_15 (by decide) ?_
    refine jr_naload_n C dX5_keep_16 rfl 0 rfl ?_
    obtain ⟨c17, hc17, hv⟩ := Option.bind_eq_some_iff.mp hv
    refine jc_tg C K (tgN_F hc17) fg_Probe_readings kw_797 dX5_keep_17 ?_
    refine jr_iconst (v := 0) C dX5_keep_20 (by decide) ?_
    refine jr_iconst (v := 4) C dX5_keep_21 (by decide) ?_
    obtain ⟨c22, hc22, hv⟩ := Option.bind_eq_some_iff.mp hv
    refine jc_tcpI C K hc22 kw_1024 (Nat.le_of_ble_eq_true rfl) (Nat.le_of_ble_eq_true rfl) dX5_keep_22 ?_
    exact tX5_keep_25 C K G  c22 v0 v1 hv
theorem pX5_keep (l : Launch) {g : CG} (G : cSep g)   (S : CS) (v0 : Option Nat) (v1 : Int64) {w : CS} (hw : fX5_keep S v0 v1 = some w)  : cC l yX5_keep cX5_keep 3 none 4 0 0 g [va_rf v0, .long v1] S none w := cC_of (lv := [(0, va_rf v0), (1, .long v1)]) (by decide +kernel) (by simp [lg_sl, cat_rf, cat_i, cat_l, cat_r]) (by simp [lv_args, cat_rf, cat_i, cat_l, cat_r]) (fun C K => tX5_keep_0 C K G  S v0 v1 hw)
/-! RobotCell$Probe.at()J -/
def fX5_at_49 (r7 : CS → Option Nat → Int64 → Int32 → Int32 → Option (Int64 × CS)) (S : CS) (v0 : Option Nat) (v1 : Int64) (v3 : Int32) (v4 : Int32) : Option (Int64 × CS) :=
  r7 S v0 v1 v3 v4
def fX5_at_46 (r7 : CS → Option Nat → Int64 → Int32 → Int32 → Option (Int64 × CS)) (S : CS) (v0 : Option Nat) (v1 : Int64) (v3 : Int32) (v4 : Int32) : Option (Int64 × CS) :=
  fX5_at_49 r7 S v0 v1 v3 (v4 + 1)
def fX5_at_43 (r7 : CS → Option Nat → Int64 → Int32 → Int32 → Option (Int64 × CS)) (S : CS) (v0 : Option Nat) (v1 : Int64) (v3 : Int32) (v4 : Int32) : Option (Int64 × CS) :=
  fX5_at_46 r7 S v0 v1 (v3 + 1) v4
def fX5_at_28 (r7 : CS → Option Nat → Int64 → Int32 → Int32 → Option (Int64 × CS)) (S : CS) (v0 : Option Nat) (v1 : Int64) (v3 : Int32) (v4 : Int32) (v5 : Int64) : Option (Int64 × CS) :=
  if (fX2_isLost v5) = 0 then fX5_at_43 r7 S v0 (fX2_add v1 v5) v3 v4 else fX5_at_46 r7 S v0 v1 v3 v4
def fX5_at_7  : Nat → CS → Option Nat → Int64 → Int32 → Int32 → Option (Int64 × CS)
  | 0, _, _, _, _, _ => none
  | q + 1, S, v0, v1, v3, v4 => if isKx S v0 [3] = true then (Option.bind (fX5_keptCount S v0) (fun c10 => if c10.1 ≤ v4 then (if v3 = 0 then some (9221120237041090560, c10.2) else (Option.bind (fX2_divide v1 (fX2_ofWhole v3.toInt64)) (fun c68 => some (c68, c10.2)))) else (Option.bind (tgN c10.2 v0 [3] 0) (fun c17 => Option.bind (talI c10.2 c17 v4) (fun c22 => fX5_at_28 (fX5_at_7  q) c10.2 v0 v1 v3 v4 (fX2_ofBits32 c22)))))) else none
def fX5_at (S : CS) (v0 : Option Nat) : Option (Int64 × CS) :=
  fX5_at_7 10 S v0 0 0 0
theorem oX5_at : ok_c yX5_at cX5_at 7 (some .long) 0 (.instanceMethod yX5_at) := ⟨kw_909, ⟨kw_908, rfl⟩, kw_87, by decide +kernel⟩
set_option maxRecDepth 100000 in
set_option maxHeartbeats 1000000 in
theorem tX5_at_49 {p : Program} {l : Launch} {e : Env} {s : State} {m : MethodId} {args : Array Value} {below : List Frame} {meth : Method} {c : Code} {g : CG} {S0 : CS} (C : CC p s m args meth c yX5_at cX5_at 7 (some .long)) (K : cK g s) (G : cSep g)  (r7 : CS → Option Nat → Int64 → Int32 → Int32 → Option (Int64 × CS)) (h7 : ∀ (S : CS) (v0 : Option Nat) (v1 : Int64) (v3 : Int32) (v4 : Int32) (w : Int64 × CS), r7 S v0 v1 v3 v4 = some w → CJ p l e s m args below meth c 7 5 0 0 g S0 (some (.long w.1)) w.2 7 [(0, va_rf v0), (1, .long v1), (3, .int v3), (4, .int v4)] [] S 0 0) (S : CS) (v0 : Option Nat) (v1 : Int64) (v3 : Int32) (v4 : Int32) {w : Int64 × CS} (hv : fX5_at_49 r7 S v0 v1 v3 v4 = some w) : CJ p l e s m args below meth c 7 5 0 0 g S0 (some (.long w.1)) w.2 49 [(0, va_rf v0), (1, .long v1), (3, .int v3), (4, .int v4)] [] S 0 0 := by
  unfold fX5_at_49 at hv
  refine jr_goto (tgt := 7) C dX5_at_49 rfl ?_
  exact h7 S v0 v1 v3 v4 _ hv
set_option maxRecDepth 100000 in
set_option maxHeartbeats 1000000 in
theorem tX5_at_46 {p : Program} {l : Launch} {e : Env} {s : State} {m : MethodId} {args : Array Value} {below : List Frame} {meth : Method} {c : Code} {g : CG} {S0 : CS} (C : CC p s m args meth c yX5_at cX5_at 7 (some .long)) (K : cK g s) (G : cSep g)  (r7 : CS → Option Nat → Int64 → Int32 → Int32 → Option (Int64 × CS)) (h7 : ∀ (S : CS) (v0 : Option Nat) (v1 : Int64) (v3 : Int32) (v4 : Int32) (w : Int64 × CS), r7 S v0 v1 v3 v4 = some w → CJ p l e s m args below meth c 7 5 0 0 g S0 (some (.long w.1)) w.2 7 [(0, va_rf v0), (1, .long v1), (3, .int v3), (4, .int v4)] [] S 0 0) (S : CS) (v0 : Option Nat) (v1 : Int64) (v3 : Int32) (v4 : Int32) {w : Int64 × CS} (hv : fX5_at_46 r7 S v0 v1 v3 v4 = some w) : CJ p l e s m args below meth c 7 5 0 0 g S0 (some (.long w.1)) w.2 46 [(0, va_rf v0), (1, .long v1), (3, .int v3), (4, .int v4)] [] S 0 0 := by
  unfold fX5_at_46 at hv
  refine jr_iinc (v := (v4 + 1)) (lv' := [(4, .int (v4 + 1)), (0, va_rf v0), (1, .long v1), (3, .int v3)]) C dX5_at_46 3 rfl rfl (by decide) rfl ?_
  exact jr_sub [1, 2, 3, 0] rfl (tX5_at_49 C K G r7 h7 S v0 v1 v3 (v4 + 1) hv)
set_option maxRecDepth 100000 in
set_option maxHeartbeats 1000000 in
theorem tX5_at_43 {p : Program} {l : Launch} {e : Env} {s : State} {m : MethodId} {args : Array Value} {below : List Frame} {meth : Method} {c : Code} {g : CG} {S0 : CS} (C : CC p s m args meth c yX5_at cX5_at 7 (some .long)) (K : cK g s) (G : cSep g)  (r7 : CS → Option Nat → Int64 → Int32 → Int32 → Option (Int64 × CS)) (h7 : ∀ (S : CS) (v0 : Option Nat) (v1 : Int64) (v3 : Int32) (v4 : Int32) (w : Int64 × CS), r7 S v0 v1 v3 v4 = some w → CJ p l e s m args below meth c 7 5 0 0 g S0 (some (.long w.1)) w.2 7 [(0, va_rf v0), (1, .long v1), (3, .int v3), (4, .int v4)] [] S 0 0) (S : CS) (v0 : Option Nat) (v1 : Int64) (v3 : Int32) (v4 : Int32) {w : Int64 × CS} (hv : fX5_at_43 r7 S v0 v1 v3 v4 = some w) : CJ p l e s m args below meth c 7 5 0 0 g S0 (some (.long w.1)) w.2 43 [(0, va_rf v0), (1, .long v1), (3, .int v3), (4, .int v4)] [] S 0 0 := by
  unfold fX5_at_43 at hv
  refine jr_iinc (v := (v3 + 1)) (lv' := [(3, .int (v3 + 1)), (0, va_rf v0), (1, .long v1), (4, .int v4)]) C dX5_at_43 2 rfl rfl (by decide) rfl ?_
  exact jr_sub [1, 2, 0, 3] rfl (tX5_at_46 C K G r7 h7 S v0 v1 (v3 + 1) v4 hv)
set_option maxRecDepth 100000 in
set_option maxHeartbeats 1000000 in
theorem tX5_at_28 {p : Program} {l : Launch} {e : Env} {s : State} {m : MethodId} {args : Array Value} {below : List Frame} {meth : Method} {c : Code} {g : CG} {S0 : CS} (C : CC p s m args meth c yX5_at cX5_at 7 (some .long)) (K : cK g s) (G : cSep g)  (r7 : CS → Option Nat → Int64 → Int32 → Int32 → Option (Int64 × CS)) (h7 : ∀ (S : CS) (v0 : Option Nat) (v1 : Int64) (v3 : Int32) (v4 : Int32) (w : Int64 × CS), r7 S v0 v1 v3 v4 = some w → CJ p l e s m args below meth c 7 5 0 0 g S0 (some (.long w.1)) w.2 7 [(0, va_rf v0), (1, .long v1), (3, .int v3), (4, .int v4)] [] S 0 0) (S : CS) (v0 : Option Nat) (v1 : Int64) (v3 : Int32) (v4 : Int32) (v5 : Int64) {w : Int64 × CS} (hv : fX5_at_28 r7 S v0 v1 v3 v4 v5 = some w) : CJ p l e s m args below meth c 7 5 0 0 g S0 (some (.long w.1)) w.2 28 [(0, va_rf v0), (1, .long v1), (3, .int v3), (4, .int v4), (5, .long v5)] [] S 0 0 := by
  unfold fX5_at_28 at hv
  refine jr_lload C dX5_at_28 4 rfl ?_
  refine jr_pcall (rest := []) C (pX2_isLost l v5) oX2_isLost kw_889 rfl ⟨Nat.le_of_ble_eq_true rfl, Nat.le_of_ble_eq_true rfl⟩ rfl (Nat.le_of_ble_eq_true rfl) ⟨Nat.zero_le _, Nat.zero_le _⟩ dX5_at_30 ?_
  refine jr_if_ne (tgt := 46) C dX5_at_33 rfl (fun q33 => ?_) (fun q33 => ?_)
  · have hv := (if_neg q33).symm.trans hv
    exact jr_sub [0, 1, 2, 3] rfl (tX5_at_46 C K G r7 h7 S v0 v1 v3 v4 hv)
  · have hv := (if_pos q33).symm.trans hv
    refine jr_lload_n C dX5_at_36 rfl 1 rfl ?_
    refine jr_lload C dX5_at_37 4 rfl ?_
    refine jr_pcall (rest := []) C (pX2_add l v1 v5) oX2_add kw_916 rfl ⟨Nat.le_of_ble_eq_true rfl, Nat.le_of_ble_eq_true rfl⟩ rfl (Nat.le_of_ble_eq_true rfl) ⟨Nat.zero_le _, Nat.zero_le _⟩ dX5_at_39 ?_
    refine jr_lstore_n (lv' := [(1, .long (fX2_add v1 v5)), (0, va_rf v0), (3, .int v3), (4, .int v4), (5, .long v5)]) C dX5_at_42 rfl (by decide) (by simp [cat_rf, cat_i, cat_l, cat_r]) ?_
    exact jr_sub [1, 0, 2, 3] rfl (tX5_at_43 C K G r7 h7 S v0 (fX2_add v1 v5) v3 v4 hv)
set_option maxRecDepth 100000 in
set_option maxHeartbeats 1000000 in
theorem tX5_at_7 {p : Program} {l : Launch} {e : Env} {s : State} {m : MethodId} {args : Array Value} {below : List Frame} {meth : Method} {c : Code} {g : CG} {S0 : CS} (C : CC p s m args meth c yX5_at cX5_at 7 (some .long)) (K : cK g s) (G : cSep g)  : ∀ (q : Nat) (S : CS) (v0 : Option Nat) (v1 : Int64) (v3 : Int32) (v4 : Int32) (w : Int64 × CS), fX5_at_7  q S v0 v1 v3 v4 = some w → CJ p l e s m args below meth c 7 5 0 0 g S0 (some (.long w.1)) w.2 7 [(0, va_rf v0), (1, .long v1), (3, .int v3), (4, .int v4)] [] S 0 0 := by
  intro q
  induction q with
  | zero => intro S v0 v1 v3 v4 w hv; exact absurd hv (by simp [fX5_at_7])
  | succ q ih =>
    intro S v0 v1 v3 v4 w hv
    unfold fX5_at_7 at hv
    refine jr_iload C dX5_at_7 3 rfl ?_
    refine jr_naload_n C dX5_at_9 rfl 0 rfl ?_
    by_cases z10_3 : isKx S v0 [3] = true
    case pos =>
      have hv := (if_pos z10_3).symm.trans hv
      obtain ⟨c10, hc10, hv⟩ := Option.bind_eq_some_iff.mp hv
      refine jc_callT (ci := 3) (rest := [.int v4]) C K (pX5_keptCount l G S v0  hc10) z10_3 rfl oX5_keptCount kw_40 kw_910 rfl ⟨Nat.le_of_ble_eq_true rfl, Nat.le_of_ble_eq_true rfl⟩ rfl (Nat.le_of_ble_eq_true rfl) ⟨Nat.le_refl _, Nat.le_refl _⟩ dX5_at_10 ?_
      refine jr_icmp_ge (tgt := 52) C dX5_at_13 rfl (fun q13 => ?_) (fun q13 => ?_)
      · have hv := (if_pos q13).symm.trans hv
        refine jr_iload_n C dX5_at_52 rfl 2 rfl ?_
        refine jr_if_ne (tgt := 62) C dX5_at_53 rfl (fun q53 => ?_) (fun q53 => ?_)
        · have hv := (if_neg q53).symm.trans hv
          refine jr_lload_n C dX5_at_62 rfl 1 rfl ?_
          refine jr_iload_n C dX5_at_63 rfl 2 rfl ?_
          refine jr_i2l C dX5_at_64 ?_
          refine jr_pcall (rest := [.long v1]) C (pX2_ofWhole l v3.toInt64) oX2_ofWhole kw_918 rfl ⟨Nat.le_of_ble_eq_true rfl, Nat.le_of_ble_eq_true rfl⟩ rfl (Nat.le_of_ble_eq_true rfl) ⟨Nat.zero_le _, Nat.zero_le _⟩ dX5_at_65 ?_
          obtain ⟨c68, hc68, hv⟩ := Option.bind_eq_some_iff.mp hv
          refine jr_pcall (rest := []) C (pX2_divide l v1 (fX2_ofWhole v3.toInt64) hc68) oX2_divide kw_919 rfl ⟨Nat.le_of_ble_eq_true rfl, Nat.le_of_ble_eq_true rfl⟩ rfl (Nat.le_of_ble_eq_true rfl) ⟨Nat.zero_le _, Nat.zero_le _⟩ dX5_at_68 ?_
          exact jc_lret C K dX5_at_71 (Option.some.inj hv) ⟨Nat.le_refl _, Nat.le_refl _⟩
        · have hv := (if_pos q53).symm.trans hv
          refine jr_ldc2 C kw_917 dX5_at_56 ?_
          refine jr_goto (tgt := 71) C dX5_at_59 rfl ?_
          exact jc_lret C K dX5_at_71 (Option.some.inj hv) ⟨Nat.le_refl _, Nat.le_refl _⟩
      · have hv := (if_neg q13).symm.trans hv
        refine jr_naload_n C dX5_at_16 rfl 0 rfl ?_
        obtain ⟨c17, hc17, hv⟩ := Option.bind_eq_some_iff.mp hv
        refine jc_tg C K (tgN_F hc17) fg_Probe_readings kw_797 dX5_at_17 ?_
        refine jr_iload C dX5_at_20 3 rfl ?_
        obtain ⟨c22, hc22, hv⟩ := Option.bind_eq_some_iff.mp hv
        refine jc_talI C K hc22 dX5_at_22 ?_
        refine jr_pcall (rest := []) C (pX2_ofBits32 l c22) oX2_ofBits32 kw_915 rfl ⟨Nat.le_of_ble_eq_true rfl, Nat.le_of_ble_eq_true rfl⟩ rfl (Nat.le_of_ble_eq_true rfl) ⟨Nat.zero_le _, Nat.zero_le _⟩ dX5_at_23 ?_
        refine jr_lstore (lv' := [(5, .long (fX2_ofBits32 c22)), (0, va_rf v0), (1, .long v1), (3, .int v3), (4, .int v4)]) C dX5_at_26 (by decide) rfl ?_
        exact jr_sub [1, 2, 3, 4, 0] rfl (tX5_at_28 C K G (fX5_at_7  q) ih c10.2 v0 v1 v3 v4 (fX2_ofBits32 c22) hv)
    have hv := (if_neg z10_3).symm.trans hv
    exact op_none hv
set_option maxRecDepth 100000 in
set_option maxHeartbeats 1000000 in
theorem tX5_at_0 {p : Program} {l : Launch} {e : Env} {s : State} {m : MethodId} {args : Array Value} {below : List Frame} {meth : Method} {c : Code} {g : CG} {S0 : CS} (C : CC p s m args meth c yX5_at cX5_at 7 (some .long)) (K : cK g s) (G : cSep g)  (S : CS) (v0 : Option Nat) {w : Int64 × CS} (hv : fX5_at S v0 = some w) : CJ p l e s m args below meth c 7 5 0 0 g S0 (some (.long w.1)) w.2 0 [(0, va_rf v0)] [] S 0 0 := by
  unfold fX5_at at hv
  refine jr_lconst (v := 0) C dX5_at_0 (by decide) ?_
  refine jr_lstore_n (lv' := [(1, .long 0), (0, va_rf v0)]) C dX5_at_1 rfl (by decide) (by simp [cat_rf, cat_i, cat_l, cat_r]) ?_
  refine jr_iconst (v := 0) C dX5_at_2 (by decide) ?_
  refine jr_istore_n (lv' := [(3, .int 0), (1, .long 0), (0, va_rf v0)]) C dX5_at_3 rfl (by decide) rfl ?_
  refine jr_iconst (v := 0) C dX5_at_4 (by decide) ?_
  refine jr_istore (lv' := [(4, .int 0), (3, .int 0), (1, .long 0), (0, va_rf v0)]) C dX5_at_5 (by decide) rfl ?_
  exact jr_sub [3, 2, 1, 0] rfl (tX5_at_7 C K G  10 S v0 0 0 0 _ hv)
theorem pX5_at (l : Launch) {g : CG} (G : cSep g)   (S : CS) (v0 : Option Nat) {w : Int64 × CS} (hw : fX5_at S v0 = some w)  : cC l yX5_at cX5_at 7 (some .long) 5 0 0 g [va_rf v0] S (some (.long w.1)) w.2 := cC_of (lv := [(0, va_rf v0)]) (by decide +kernel) (by simp [lg_sl, cat_rf, cat_i, cat_l, cat_r]) (by simp [lv_args, cat_rf, cat_i, cat_l, cat_r]) (fun C K => tX5_at_0 C K G  S v0 hw)
/-! RobotCell$Probe.travelled()J -/
def fX5_travelled_81 (r11 : CS → Option Nat → Int64 → Int64 → Int32 → Option (Int64 × CS)) (S : CS) (v0 : Option Nat) (v1 : Int64) (v3 : Int64) (v5 : Int32) : Option (Int64 × CS) :=
  r11 S v0 v1 v3 v5
def fX5_travelled_78 (r11 : CS → Option Nat → Int64 → Int64 → Int32 → Option (Int64 × CS)) (S : CS) (v0 : Option Nat) (v1 : Int64) (v3 : Int64) (v5 : Int32) : Option (Int64 × CS) :=
  fX5_travelled_81 r11 S v0 v1 v3 (v5 + 1)
def fX5_travelled_77 (r11 : CS → Option Nat → Int64 → Int64 → Int32 → Option (Int64 × CS)) (S : CS) (v0 : Option Nat) (v1 : Int64) (v5 : Int32) (t0 : Int64) : Option (Int64 × CS) :=
  fX5_travelled_78 r11 S v0 v1 t0 v5
def fX5_travelled_58 (r11 : CS → Option Nat → Int64 → Int64 → Int32 → Option (Int64 × CS)) (S : CS) (v0 : Option Nat) (v3 : Int64) (v5 : Int32) (v6 : Int64) (t0 : Int64) : Option (Int64 × CS) :=
  if (fX2_isLost v3) = 0 then fX5_travelled_77 r11 S v0 t0 v5 (fX2_lesser v3 v6) else fX5_travelled_77 r11 S v0 t0 v5 v6
def fX5_travelled_32 (r11 : CS → Option Nat → Int64 → Int64 → Int32 → Option (Int64 × CS)) (S : CS) (v0 : Option Nat) (v1 : Int64) (v3 : Int64) (v5 : Int32) (v6 : Int64) : Option (Int64 × CS) :=
  if (fX2_isLost v6) = 0 then (if (fX2_isLost v1) = 0 then fX5_travelled_58 r11 S v0 v3 v5 v6 (fX2_greater v1 v6) else fX5_travelled_58 r11 S v0 v3 v5 v6 v6) else fX5_travelled_78 r11 S v0 v1 v3 v5
def fX5_travelled_11  : Nat → CS → Option Nat → Int64 → Int64 → Int32 → Option (Int64 × CS)
  | 0, _, _, _, _, _ => none
  | q + 1, S, v0, v1, v3, v5 => if isKx S v0 [3] = true then (Option.bind (fX5_keptCount S v0) (fun c14 => if c14.1 ≤ v5 then (if (fX2_isLost v1) = 0 then some (fX2_add v1 (fX2_opposite v3), c14.2) else some (0, c14.2)) else (Option.bind (tgN c14.2 v0 [3] 0) (fun c21 => Option.bind (talI c14.2 c21 v5) (fun c26 => fX5_travelled_32 (fX5_travelled_11  q) c14.2 v0 v1 v3 v5 (fX2_ofBits32 c26)))))) else none
def fX5_travelled (S : CS) (v0 : Option Nat) : Option (Int64 × CS) :=
  fX5_travelled_11 10 S v0 9221120237041090560 9221120237041090560 0
theorem oX5_travelled : ok_c yX5_travelled cX5_travelled 8 (some .long) 0 (.instanceMethod yX5_travelled) := ⟨kw_956, ⟨kw_955, rfl⟩, kw_87, by decide +kernel⟩
set_option maxRecDepth 100000 in
set_option maxHeartbeats 1000000 in
theorem tX5_travelled_81 {p : Program} {l : Launch} {e : Env} {s : State} {m : MethodId} {args : Array Value} {below : List Frame} {meth : Method} {c : Code} {g : CG} {S0 : CS} (C : CC p s m args meth c yX5_travelled cX5_travelled 8 (some .long)) (K : cK g s) (G : cSep g)  (r11 : CS → Option Nat → Int64 → Int64 → Int32 → Option (Int64 × CS)) (h11 : ∀ (S : CS) (v0 : Option Nat) (v1 : Int64) (v3 : Int64) (v5 : Int32) (w : Int64 × CS), r11 S v0 v1 v3 v5 = some w → CJ p l e s m args below meth c 8 5 0 0 g S0 (some (.long w.1)) w.2 11 [(0, va_rf v0), (1, .long v1), (3, .long v3), (5, .int v5)] [] S 0 0) (S : CS) (v0 : Option Nat) (v1 : Int64) (v3 : Int64) (v5 : Int32) {w : Int64 × CS} (hv : fX5_travelled_81 r11 S v0 v1 v3 v5 = some w) : CJ p l e s m args below meth c 8 5 0 0 g S0 (some (.long w.1)) w.2 81 [(0, va_rf v0), (1, .long v1), (3, .long v3), (5, .int v5)] [] S 0 0 := by
  unfold fX5_travelled_81 at hv
  refine jr_goto (tgt := 11) C dX5_travelled_81 rfl ?_
  exact h11 S v0 v1 v3 v5 _ hv
set_option maxRecDepth 100000 in
set_option maxHeartbeats 1000000 in
theorem tX5_travelled_78 {p : Program} {l : Launch} {e : Env} {s : State} {m : MethodId} {args : Array Value} {below : List Frame} {meth : Method} {c : Code} {g : CG} {S0 : CS} (C : CC p s m args meth c yX5_travelled cX5_travelled 8 (some .long)) (K : cK g s) (G : cSep g)  (r11 : CS → Option Nat → Int64 → Int64 → Int32 → Option (Int64 × CS)) (h11 : ∀ (S : CS) (v0 : Option Nat) (v1 : Int64) (v3 : Int64) (v5 : Int32) (w : Int64 × CS), r11 S v0 v1 v3 v5 = some w → CJ p l e s m args below meth c 8 5 0 0 g S0 (some (.long w.1)) w.2 11 [(0, va_rf v0), (1, .long v1), (3, .long v3), (5, .int v5)] [] S 0 0) (S : CS) (v0 : Option Nat) (v1 : Int64) (v3 : Int64) (v5 : Int32) {w : Int64 × CS} (hv : fX5_travelled_78 r11 S v0 v1 v3 v5 = some w) : CJ p l e s m args below meth c 8 5 0 0 g S0 (some (.long w.1)) w.2 78 [(0, va_rf v0), (1, .long v1), (3, .long v3), (5, .int v5)] [] S 0 0 := by
  unfold fX5_travelled_78 at hv
  refine jr_iinc (v := (v5 + 1)) (lv' := [(5, .int (v5 + 1)), (0, va_rf v0), (1, .long v1), (3, .long v3)]) C dX5_travelled_78 3 rfl rfl (by decide) rfl ?_
  exact jr_sub [1, 2, 3, 0] rfl (tX5_travelled_81 C K G r11 h11 S v0 v1 v3 (v5 + 1) hv)
set_option maxRecDepth 100000 in
set_option maxHeartbeats 1000000 in
theorem tX5_travelled_77 {p : Program} {l : Launch} {e : Env} {s : State} {m : MethodId} {args : Array Value} {below : List Frame} {meth : Method} {c : Code} {g : CG} {S0 : CS} (C : CC p s m args meth c yX5_travelled cX5_travelled 8 (some .long)) (K : cK g s) (G : cSep g)  (r11 : CS → Option Nat → Int64 → Int64 → Int32 → Option (Int64 × CS)) (h11 : ∀ (S : CS) (v0 : Option Nat) (v1 : Int64) (v3 : Int64) (v5 : Int32) (w : Int64 × CS), r11 S v0 v1 v3 v5 = some w → CJ p l e s m args below meth c 8 5 0 0 g S0 (some (.long w.1)) w.2 11 [(0, va_rf v0), (1, .long v1), (3, .long v3), (5, .int v5)] [] S 0 0) (S : CS) (v0 : Option Nat) (v1 : Int64) (v5 : Int32) (t0 : Int64) {w : Int64 × CS} (hv : fX5_travelled_77 r11 S v0 v1 v5 t0 = some w) : CJ p l e s m args below meth c 8 5 0 0 g S0 (some (.long w.1)) w.2 77 [(0, va_rf v0), (1, .long v1), (5, .int v5)] [.long t0] S 0 0 := by
  unfold fX5_travelled_77 at hv
  refine jr_lstore_n (lv' := [(3, .long t0), (0, va_rf v0), (1, .long v1), (5, .int v5)]) C dX5_travelled_77 rfl (by decide) rfl ?_
  exact jr_sub [1, 2, 0, 3] rfl (tX5_travelled_78 C K G r11 h11 S v0 v1 t0 v5 hv)
set_option maxRecDepth 100000 in
set_option maxHeartbeats 1000000 in
theorem tX5_travelled_58 {p : Program} {l : Launch} {e : Env} {s : State} {m : MethodId} {args : Array Value} {below : List Frame} {meth : Method} {c : Code} {g : CG} {S0 : CS} (C : CC p s m args meth c yX5_travelled cX5_travelled 8 (some .long)) (K : cK g s) (G : cSep g)  (r11 : CS → Option Nat → Int64 → Int64 → Int32 → Option (Int64 × CS)) (h11 : ∀ (S : CS) (v0 : Option Nat) (v1 : Int64) (v3 : Int64) (v5 : Int32) (w : Int64 × CS), r11 S v0 v1 v3 v5 = some w → CJ p l e s m args below meth c 8 5 0 0 g S0 (some (.long w.1)) w.2 11 [(0, va_rf v0), (1, .long v1), (3, .long v3), (5, .int v5)] [] S 0 0) (S : CS) (v0 : Option Nat) (v3 : Int64) (v5 : Int32) (v6 : Int64) (t0 : Int64) {w : Int64 × CS} (hv : fX5_travelled_58 r11 S v0 v3 v5 v6 t0 = some w) : CJ p l e s m args below meth c 8 5 0 0 g S0 (some (.long w.1)) w.2 58 [(0, va_rf v0), (3, .long v3), (5, .int v5), (6, .long v6)] [.long t0] S 0 0 := by
  unfold fX5_travelled_58 at hv
  refine jr_lstore_n (lv' := [(1, .long t0), (0, va_rf v0), (3, .long v3), (5, .int v5), (6, .long v6)]) C dX5_travelled_58 rfl (by decide) (by simp [cat_rf, cat_i, cat_l, cat_r]) ?_
  refine jr_lload_n C dX5_travelled_59 rfl 2 rfl ?_
  refine jr_pcall (rest := []) C (pX2_isLost l v3) oX2_isLost kw_889 rfl ⟨Nat.le_of_ble_eq_true rfl, Nat.le_of_ble_eq_true rfl⟩ rfl (Nat.le_of_ble_eq_true rfl) ⟨Nat.zero_le _, Nat.zero_le _⟩ dX5_travelled_60 ?_
  refine jr_if_eq (tgt := 71) C dX5_travelled_63 rfl (fun q63 => ?_) (fun q63 => ?_)
  · have hv := (if_pos q63).symm.trans hv
    refine jr_lload_n C dX5_travelled_71 rfl 2 rfl ?_
    refine jr_lload C dX5_travelled_72 4 rfl ?_
    refine jr_pcall (rest := []) C (pX2_lesser l v3 v6) oX2_lesser kw_958 rfl ⟨Nat.le_of_ble_eq_true rfl, Nat.le_of_ble_eq_true rfl⟩ rfl (Nat.le_of_ble_eq_true rfl) ⟨Nat.zero_le _, Nat.zero_le _⟩ dX5_travelled_74 ?_
    exact jr_sub [1, 0, 3] rfl (tX5_travelled_77 C K G r11 h11 S v0 t0 v5 (fX2_lesser v3 v6) hv)
  · have hv := (if_neg q63).symm.trans hv
    refine jr_lload C dX5_travelled_66 4 rfl ?_
    refine jr_goto (tgt := 77) C dX5_travelled_68 rfl ?_
    exact jr_sub [1, 0, 3] rfl (tX5_travelled_77 C K G r11 h11 S v0 t0 v5 v6 hv)
set_option maxRecDepth 100000 in
set_option maxHeartbeats 1000000 in
theorem tX5_travelled_32 {p : Program} {l : Launch} {e : Env} {s : State} {m : MethodId} {args : Array Value} {below : List Frame} {meth : Method} {c : Code} {g : CG} {S0 : CS} (C : CC p s m args meth c yX5_travelled cX5_travelled 8 (some .long)) (K : cK g s) (G : cSep g)  (r11 : CS → Option Nat → Int64 → Int64 → Int32 → Option (Int64 × CS)) (h11 : ∀ (S : CS) (v0 : Option Nat) (v1 : Int64) (v3 : Int64) (v5 : Int32) (w : Int64 × CS), r11 S v0 v1 v3 v5 = some w → CJ p l e s m args below meth c 8 5 0 0 g S0 (some (.long w.1)) w.2 11 [(0, va_rf v0), (1, .long v1), (3, .long v3), (5, .int v5)] [] S 0 0) (S : CS) (v0 : Option Nat) (v1 : Int64) (v3 : Int64) (v5 : Int32) (v6 : Int64) {w : Int64 × CS} (hv : fX5_travelled_32 r11 S v0 v1 v3 v5 v6 = some w) : CJ p l e s m args below meth c 8 5 0 0 g S0 (some (.long w.1)) w.2 32 [(0, va_rf v0), (1, .long v1), (3, .long v3), (5, .int v5), (6, .long v6)] [] S 0 0 := by
  unfold fX5_travelled_32 at hv
  refine jr_lload C dX5_travelled_32 4 rfl ?_
  refine jr_pcall (rest := []) C (pX2_isLost l v6) oX2_isLost kw_889 rfl ⟨Nat.le_of_ble_eq_true rfl, Nat.le_of_ble_eq_true rfl⟩ rfl (Nat.le_of_ble_eq_true rfl) ⟨Nat.zero_le _, Nat.zero_le _⟩ dX5_travelled_34 ?_
  refine jr_if_ne (tgt := 78) C dX5_travelled_37 rfl (fun q37 => ?_) (fun q37 => ?_)
  · have hv := (if_neg q37).symm.trans hv
    exact jr_sub [0, 1, 2, 3] rfl (tX5_travelled_78 C K G r11 h11 S v0 v1 v3 v5 hv)
  · have hv := (if_pos q37).symm.trans hv
    refine jr_lload_n C dX5_travelled_40 rfl 1 rfl ?_
    refine jr_pcall (rest := []) C (pX2_isLost l v1) oX2_isLost kw_889 rfl ⟨Nat.le_of_ble_eq_true rfl, Nat.le_of_ble_eq_true rfl⟩ rfl (Nat.le_of_ble_eq_true rfl) ⟨Nat.zero_le _, Nat.zero_le _⟩ dX5_travelled_41 ?_
    refine jr_if_eq (tgt := 52) C dX5_travelled_44 rfl (fun q44 => ?_) (fun q44 => ?_)
    · have hv := (if_pos q44).symm.trans hv
      refine jr_lload_n C dX5_travelled_52 rfl 1 rfl ?_
      refine jr_lload C dX5_travelled_53 4 rfl ?_
      refine jr_pcall (rest := []) C (pX2_greater l v1 v6) oX2_greater kw_957 rfl ⟨Nat.le_of_ble_eq_true rfl, Nat.le_of_ble_eq_true rfl⟩ rfl (Nat.le_of_ble_eq_true rfl) ⟨Nat.zero_le _, Nat.zero_le _⟩ dX5_travelled_55 ?_
      exact jr_sub [0, 2, 3, 4] rfl (tX5_travelled_58 C K G r11 h11 S v0 v3 v5 v6 (fX2_greater v1 v6) hv)
    · have hv := (if_neg q44).symm.trans hv
      refine jr_lload C dX5_travelled_47 4 rfl ?_
      refine jr_goto (tgt := 58) C dX5_travelled_49 rfl ?_
      exact jr_sub [0, 2, 3, 4] rfl (tX5_travelled_58 C K G r11 h11 S v0 v3 v5 v6 v6 hv)
set_option maxRecDepth 100000 in
set_option maxHeartbeats 1000000 in
theorem tX5_travelled_11 {p : Program} {l : Launch} {e : Env} {s : State} {m : MethodId} {args : Array Value} {below : List Frame} {meth : Method} {c : Code} {g : CG} {S0 : CS} (C : CC p s m args meth c yX5_travelled cX5_travelled 8 (some .long)) (K : cK g s) (G : cSep g)  : ∀ (q : Nat) (S : CS) (v0 : Option Nat) (v1 : Int64) (v3 : Int64) (v5 : Int32) (w : Int64 × CS), fX5_travelled_11  q S v0 v1 v3 v5 = some w → CJ p l e s m args below meth c 8 5 0 0 g S0 (some (.long w.1)) w.2 11 [(0, va_rf v0), (1, .long v1), (3, .long v3), (5, .int v5)] [] S 0 0 := by
  intro q
  induction q with
  | zero => intro S v0 v1 v3 v5 w hv; exact absurd hv (by simp [fX5_travelled_11])
  | succ q ih =>
    intro S v0 v1 v3 v5 w hv
    unfold fX5_travelled_11 at hv
    refine jr_iload C dX5_travelled_11 3 rfl ?_
    refine jr_naload_n C dX5_travelled_13 rfl 0 rfl ?_
    by_cases z14_3 : isKx S v0 [3] = true
    case pos =>
      have hv := (if_pos z14_3).symm.trans hv
      obtain ⟨c14, hc14, hv⟩ := Option.bind_eq_some_iff.mp hv
      refine jc_callT (ci := 3) (rest := [.int v5]) C K (pX5_keptCount l G S v0  hc14) z14_3 rfl oX5_keptCount kw_40 kw_910 rfl ⟨Nat.le_of_ble_eq_true rfl, Nat.le_of_ble_eq_true rfl⟩ rfl (Nat.le_of_ble_eq_true rfl) ⟨Nat.le_refl _, Nat.le_refl _⟩ dX5_travelled_14 ?_
      refine jr_icmp_ge (tgt := 84) C dX5_travelled_17 rfl (fun q17 => ?_) (fun q17 => ?_)
      · have hv := (if_pos q17).symm.trans hv
        refine jr_lload_n C dX5_travelled_84 rfl 1 rfl ?_
        refine jr_pcall (rest := []) C (pX2_isLost l v1) oX2_isLost kw_889 rfl ⟨Nat.le_of_ble_eq_true rfl, Nat.le_of_ble_eq_true rfl⟩ rfl (Nat.le_of_ble_eq_true rfl) ⟨Nat.zero_le _, Nat.zero_le _⟩ dX5_travelled_85 ?_
        refine jr_if_eq (tgt := 95) C dX5_travelled_88 rfl (fun q88 => ?_) (fun q88 => ?_)
        · have hv := (if_pos q88).symm.trans hv
          refine jr_lload_n C dX5_travelled_95 rfl 1 rfl ?_
          refine jr_lload_n C dX5_travelled_96 rfl 2 rfl ?_
          refine jr_pcall (rest := [.long v1]) C (pX2_opposite l v3) oX2_opposite kw_959 rfl ⟨Nat.le_of_ble_eq_true rfl, Nat.le_of_ble_eq_true rfl⟩ rfl (Nat.le_of_ble_eq_true rfl) ⟨Nat.zero_le _, Nat.zero_le _⟩ dX5_travelled_97 ?_
          refine jr_pcall (rest := []) C (pX2_add l v1 (fX2_opposite v3)) oX2_add kw_916 rfl ⟨Nat.le_of_ble_eq_true rfl, Nat.le_of_ble_eq_true rfl⟩ rfl (Nat.le_of_ble_eq_true rfl) ⟨Nat.zero_le _, Nat.zero_le _⟩ dX5_travelled_100 ?_
          exact jc_lret C K dX5_travelled_103 (Option.some.inj hv) ⟨Nat.le_refl _, Nat.le_refl _⟩
        · have hv := (if_neg q88).symm.trans hv
          refine jr_lconst (v := 0) C dX5_travelled_91 (by decide) ?_
          refine jr_goto (tgt := 103) C dX5_travelled_92 rfl ?_
          exact jc_lret C K dX5_travelled_103 (Option.some.inj hv) ⟨Nat.le_refl _, Nat.le_refl _⟩
      · have hv := (if_neg q17).symm.trans hv
        refine jr_naload_n C dX5_travelled_20 rfl 0 rfl ?_
        obtain ⟨c21, hc21, hv⟩ := Option.bind_eq_some_iff.mp hv
        refine jc_tg C K (tgN_F hc21) fg_Probe_readings kw_797 dX5_travelled_21 ?_
        refine jr_iload C dX5_travelled_24 3 rfl ?_
        obtain ⟨c26, hc26, hv⟩ := Option.bind_eq_some_iff.mp hv
        refine jc_talI C K hc26 dX5_travelled_26 ?_
        refine jr_pcall (rest := []) C (pX2_ofBits32 l c26) oX2_ofBits32 kw_915 rfl ⟨Nat.le_of_ble_eq_true rfl, Nat.le_of_ble_eq_true rfl⟩ rfl (Nat.le_of_ble_eq_true rfl) ⟨Nat.zero_le _, Nat.zero_le _⟩ dX5_travelled_27 ?_
        refine jr_lstore (lv' := [(6, .long (fX2_ofBits32 c26)), (0, va_rf v0), (1, .long v1), (3, .long v3), (5, .int v5)]) C dX5_travelled_30 (by decide) rfl ?_
        exact jr_sub [1, 2, 3, 4, 0] rfl (tX5_travelled_32 C K G (fX5_travelled_11  q) ih c14.2 v0 v1 v3 v5 (fX2_ofBits32 c26) hv)
    have hv := (if_neg z14_3).symm.trans hv
    exact op_none hv
set_option maxRecDepth 100000 in
set_option maxHeartbeats 1000000 in
theorem tX5_travelled_0 {p : Program} {l : Launch} {e : Env} {s : State} {m : MethodId} {args : Array Value} {below : List Frame} {meth : Method} {c : Code} {g : CG} {S0 : CS} (C : CC p s m args meth c yX5_travelled cX5_travelled 8 (some .long)) (K : cK g s) (G : cSep g)  (S : CS) (v0 : Option Nat) {w : Int64 × CS} (hv : fX5_travelled S v0 = some w) : CJ p l e s m args below meth c 8 5 0 0 g S0 (some (.long w.1)) w.2 0 [(0, va_rf v0)] [] S 0 0 := by
  unfold fX5_travelled at hv
  refine jr_ldc2 C kw_917 dX5_travelled_0 ?_
  refine jr_lstore_n (lv' := [(1, .long 9221120237041090560), (0, va_rf v0)]) C dX5_travelled_3 rfl (by decide) (by simp [cat_rf, cat_i, cat_l, cat_r]) ?_
  refine jr_ldc2 C kw_917 dX5_travelled_4 ?_
  refine jr_lstore_n (lv' := [(3, .long 9221120237041090560), (1, .long 9221120237041090560), (0, va_rf v0)]) C dX5_travelled_7 rfl (by decide) rfl ?_
  refine jr_iconst (v := 0) C dX5_travelled_8 (by decide) ?_
  refine jr_istore (lv' := [(5, .int 0), (3, .long 9221120237041090560), (1, .long 9221120237041090560), (0, va_rf v0)]) C dX5_travelled_9 (by decide) rfl ?_
  exact jr_sub [3, 2, 1, 0] rfl (tX5_travelled_11 C K G  10 S v0 9221120237041090560 9221120237041090560 0 _ hv)
theorem pX5_travelled (l : Launch) {g : CG} (G : cSep g)   (S : CS) (v0 : Option Nat) {w : Int64 × CS} (hw : fX5_travelled S v0 = some w)  : cC l yX5_travelled cX5_travelled 8 (some .long) 5 0 0 g [va_rf v0] S (some (.long w.1)) w.2 := cC_of (lv := [(0, va_rf v0)]) (by decide +kernel) (by simp [lg_sl, cat_rf, cat_i, cat_l, cat_r]) (by simp [lv_args, cat_rf, cat_i, cat_l, cat_r]) (fun C K => tX5_travelled_0 C K G  S v0 hw)
/-! java/util/Arrays.fill([JJ)V -/
def fJ7_fill_d0a16_19 (r6 : CS → Nat → Int64 → Int32 → Int32 → Option (CS)) (S : CS) (v0 : Nat) (v1 : Int64) (v3 : Int32) (v4 : Int32) : Option (CS) :=
  r6 S v0 v1 v3 v4
def fJ7_fill_d0a16_16 (r6 : CS → Nat → Int64 → Int32 → Int32 → Option (CS)) (S : CS) (v0 : Nat) (v1 : Int64) (v3 : Int32) (v4 : Int32) : Option (CS) :=
  fJ7_fill_d0a16_19 r6 S v0 v1 (v3 + 1) v4
def fJ7_fill_d0a16_6  : Nat → CS → Nat → Int64 → Int32 → Int32 → Option (CS)
  | 0, _, _, _, _, _ => none
  | q + 1, S, v0, v1, v3, v4 => if v4 ≤ v3 then some S else (if inb v3 (clB v0) = true then fJ7_fill_d0a16_16 (fJ7_fill_d0a16_6  q) (cpB S v0 (ix v3) v1) v0 v1 v3 v4 else none)
def fJ7_fill_d0a16 (S : CS) (v0 : Nat) (v1 : Int64) : Option (CS) :=
  if cty v0 = 3 then fJ7_fill_d0a16_6 500 S v0 v1 0 (Int32.ofNat (clen v0)) else none
theorem oJ7_fill_d0a16 : ok_c yJ7_fill_d0a16 cJ7_fill_d0a16 5 none 2 (.static yJ7_fill_d0a16) := ⟨kw_1064, ⟨kw_1063, rfl⟩, kw_93, by decide +kernel⟩
set_option maxRecDepth 100000 in
set_option maxHeartbeats 1000000 in
theorem tJ7_fill_d0a16_19 {p : Program} {l : Launch} {e : Env} {s : State} {m : MethodId} {args : Array Value} {below : List Frame} {meth : Method} {c : Code} {g : CG} {S0 : CS} (C : CC p s m args meth c yJ7_fill_d0a16 cJ7_fill_d0a16 5 none) (K : cK g s) (G : cSep g)  (r6 : CS → Nat → Int64 → Int32 → Int32 → Option (CS)) (h6 : ∀ (S : CS) (v0 : Nat) (v1 : Int64) (v3 : Int32) (v4 : Int32) (w : CS), r6 S v0 v1 v3 v4 = some w → CJ p l e s m args below meth c 5 0 0 0 g S0 none w 6 [(0, .ref (cad g v0)), (1, .long v1), (3, .int v3), (4, .int v4)] [] S 0 0) (S : CS) (v0 : Nat) (v1 : Int64) (v3 : Int32) (v4 : Int32) {w : CS} (hv : fJ7_fill_d0a16_19 r6 S v0 v1 v3 v4 = some w) : CJ p l e s m args below meth c 5 0 0 0 g S0 none w 19 [(0, .ref (cad g v0)), (1, .long v1), (3, .int v3), (4, .int v4)] [] S 0 0 := by
  unfold fJ7_fill_d0a16_19 at hv
  refine jr_goto (tgt := 6) C dJ7_fill_d0a16_19 rfl ?_
  exact h6 S v0 v1 v3 v4 _ hv
set_option maxRecDepth 100000 in
set_option maxHeartbeats 1000000 in
theorem tJ7_fill_d0a16_16 {p : Program} {l : Launch} {e : Env} {s : State} {m : MethodId} {args : Array Value} {below : List Frame} {meth : Method} {c : Code} {g : CG} {S0 : CS} (C : CC p s m args meth c yJ7_fill_d0a16 cJ7_fill_d0a16 5 none) (K : cK g s) (G : cSep g)  (r6 : CS → Nat → Int64 → Int32 → Int32 → Option (CS)) (h6 : ∀ (S : CS) (v0 : Nat) (v1 : Int64) (v3 : Int32) (v4 : Int32) (w : CS), r6 S v0 v1 v3 v4 = some w → CJ p l e s m args below meth c 5 0 0 0 g S0 none w 6 [(0, .ref (cad g v0)), (1, .long v1), (3, .int v3), (4, .int v4)] [] S 0 0) (S : CS) (v0 : Nat) (v1 : Int64) (v3 : Int32) (v4 : Int32) {w : CS} (hv : fJ7_fill_d0a16_16 r6 S v0 v1 v3 v4 = some w) : CJ p l e s m args below meth c 5 0 0 0 g S0 none w 16 [(0, .ref (cad g v0)), (1, .long v1), (3, .int v3), (4, .int v4)] [] S 0 0 := by
  unfold fJ7_fill_d0a16_16 at hv
  refine jr_iinc (v := (v3 + 1)) (lv' := [(3, .int (v3 + 1)), (0, .ref (cad g v0)), (1, .long v1), (4, .int v4)]) C dJ7_fill_d0a16_16 2 rfl rfl (by decide) rfl ?_
  exact jr_sub [1, 2, 0, 3] rfl (tJ7_fill_d0a16_19 C K G r6 h6 S v0 v1 (v3 + 1) v4 hv)
set_option maxRecDepth 100000 in
set_option maxHeartbeats 1000000 in
theorem tJ7_fill_d0a16_6 {p : Program} {l : Launch} {e : Env} {s : State} {m : MethodId} {args : Array Value} {below : List Frame} {meth : Method} {c : Code} {g : CG} {S0 : CS} (C : CC p s m args meth c yJ7_fill_d0a16 cJ7_fill_d0a16 5 none) (K : cK g s) (G : cSep g)  : ∀ (q : Nat) (S : CS) (v0 : Nat) (v1 : Int64) (v3 : Int32) (v4 : Int32) (w : CS), fJ7_fill_d0a16_6  q S v0 v1 v3 v4 = some w → CJ p l e s m args below meth c 5 0 0 0 g S0 none w 6 [(0, .ref (cad g v0)), (1, .long v1), (3, .int v3), (4, .int v4)] [] S 0 0 := by
  intro q
  induction q with
  | zero => intro S v0 v1 v3 v4 w hv; exact absurd hv (by simp [fJ7_fill_d0a16_6])
  | succ q ih =>
    intro S v0 v1 v3 v4 w hv
    unfold fJ7_fill_d0a16_6 at hv
    refine jr_iload_n C dJ7_fill_d0a16_6 rfl 2 rfl ?_
    refine jr_iload C dJ7_fill_d0a16_7 3 rfl ?_
    refine jr_icmp_ge (tgt := 22) C dJ7_fill_d0a16_9 rfl (fun q9 => ?_) (fun q9 => ?_)
    · have hv := (if_pos q9).symm.trans hv
      exact jc_vret C K dJ7_fill_d0a16_22 (Option.some.inj hv) ⟨Nat.le_refl _, Nat.le_refl _⟩
    · have hv := (if_neg q9).symm.trans hv
      refine jr_aload_n C dJ7_fill_d0a16_12 rfl 0 rfl ?_
      refine jr_iload_n C dJ7_fill_d0a16_13 rfl 2 rfl ?_
      refine jr_lload_n C dJ7_fill_d0a16_14 rfl 1 rfl ?_
      by_cases z15 : inb v3 (clB v0) = true
      case neg => exact op_none ((if_neg z15).symm.trans hv)
      have hv := (if_pos z15).symm.trans hv
      refine jc_last C K G z15 dJ7_fill_d0a16_15 ?_
      exact tJ7_fill_d0a16_16 C K G (fJ7_fill_d0a16_6  q) ih (cpB S v0 (ix v3) v1) v0 v1 v3 v4 hv
set_option maxRecDepth 100000 in
set_option maxHeartbeats 1000000 in
theorem tJ7_fill_d0a16_0 {p : Program} {l : Launch} {e : Env} {s : State} {m : MethodId} {args : Array Value} {below : List Frame} {meth : Method} {c : Code} {g : CG} {S0 : CS} (C : CC p s m args meth c yJ7_fill_d0a16 cJ7_fill_d0a16 5 none) (K : cK g s) (G : cSep g)  (S : CS) (v0 : Nat) (v1 : Int64) {w : CS} (hv : fJ7_fill_d0a16 S v0 v1 = some w) : CJ p l e s m args below meth c 5 0 0 0 g S0 none w 0 [(0, .ref (cad g v0)), (1, .long v1)] [] S 0 0 := by
  unfold fJ7_fill_d0a16 at hv
  refine jr_iconst (v := 0) C dJ7_fill_d0a16_0 (by decide) ?_
  refine jr_istore_n (lv' := [(3, .int 0), (0, .ref (cad g v0)), (1, .long v1)]) C dJ7_fill_d0a16_1 rfl (by decide) rfl ?_
  refine jr_aload_n C dJ7_fill_d0a16_2 rfl 1 rfl ?_
  by_cases z3 : cty v0 = 3
  case neg => exact op_none ((if_neg z3).symm.trans hv)
  have hv := (if_pos z3).symm.trans hv
  refine jc_slen C K z3 dJ7_fill_d0a16_3 ?_
  refine jr_istore (lv' := [(4, .int (Int32.ofNat (clen v0))), (3, .int 0), (0, .ref (cad g v0)), (1, .long v1)]) C dJ7_fill_d0a16_4 (by decide) rfl ?_
  exact jr_sub [2, 3, 1, 0] rfl (tJ7_fill_d0a16_6 C K G  500 S v0 v1 0 (Int32.ofNat (clen v0)) _ hv)
theorem pJ7_fill_d0a16 (l : Launch) {g : CG} (G : cSep g)   (S : CS) (v0 : Nat) (v1 : Int64) {w : CS} (hw : fJ7_fill_d0a16 S v0 v1 = some w)  : cC l yJ7_fill_d0a16 cJ7_fill_d0a16 5 none 0 0 0 g [.ref (cad g v0), .long v1] S none w := cC_of (lv := [(0, .ref (cad g v0)), (1, .long v1)]) (by decide +kernel) (Nat.le_of_ble_eq_true rfl) rfl (fun C K => tJ7_fill_d0a16_0 C K G  S v0 v1 hw)
/-! RobotCell$Registers.numberAt(I)J -/
def fX7_numberAt (S : CS) (v1 : Int32) : Option (Int64 × CS) :=
  if inb (v1 &&& 15) (clB 16) = true then some (gB S.1 16 (ix (v1 &&& 15)), S) else none
theorem oX7_numberAt : ok_c yX7_numberAt cX7_numberAt 2 (some .long) 1 (.instanceMethod yX7_numberAt) := ⟨kw_210, ⟨kw_208, rfl⟩, kw_72, by decide +kernel⟩
set_option maxRecDepth 100000 in
set_option maxHeartbeats 1000000 in
theorem tX7_numberAt_0 {p : Program} {l : Launch} {e : Env} {s : State} {m : MethodId} {args : Array Value} {below : List Frame} {meth : Method} {c : Code} {g : CG} {S0 : CS} (C : CC p s m args meth c yX7_numberAt cX7_numberAt 2 (some .long)) (K : cK g s) (G : cSep g)  (S : CS) (v1 : Int32) {w : Int64 × CS} (hv : fX7_numberAt S v1 = some w) : CJ p l e s m args below meth c 2 0 0 0 g S0 (some (.long w.1)) w.2 0 [(0, .ref (cad g 5)), (1, .int v1)] [] S 0 0 := by
  unfold fX7_numberAt at hv
  refine jr_aload_n C dX7_numberAt_0 rfl 0 rfl ?_
  refine jc_getS C K 0 16 (by decide) rfl kw_110 rfl dX7_numberAt_1 ?_
  refine jr_iload_n C dX7_numberAt_4 rfl 1 rfl ?_
  refine jr_bipush (v := 15) C dX7_numberAt_5 (by decide) ?_
  refine jr_iand C dX7_numberAt_7 ?_
  by_cases z8 : inb (v1 &&& 15) (clB 16) = true
  case neg => exact op_none ((if_neg z8).symm.trans hv)
  have hv := (if_pos z8).symm.trans hv
  refine jc_lald C K z8 dX7_numberAt_8 ?_
  exact jc_lret C K dX7_numberAt_9 (Option.some.inj hv) ⟨Nat.le_refl _, Nat.le_refl _⟩
theorem pX7_numberAt (l : Launch) {g : CG} (G : cSep g)   (S : CS) (v1 : Int32) {w : Int64 × CS} (hw : fX7_numberAt S v1 = some w)  : cC l yX7_numberAt cX7_numberAt 2 (some .long) 0 0 0 g [.ref (cad g 5), .int v1] S (some (.long w.1)) w.2 := cC_of (lv := [(0, .ref (cad g 5)), (1, .int v1)]) (by decide +kernel) (Nat.le_of_ble_eq_true rfl) rfl (fun C K => tX7_numberAt_0 C K G  S v1 hw)
/-! RobotCell$Registers.setNumber(IJ)V -/
def fX7_setNumber_10 (S : CS) : Option (CS) :=
  some S
def fX7_setNumber (S : CS) (v1 : Int32) (v2 : Int64) : Option (CS) :=
  if inb (v1 &&& 15) (clB 16) = true then fX7_setNumber_10 (cpB S 16 (ix (v1 &&& 15)) v2) else none
theorem oX7_setNumber : ok_c yX7_setNumber cX7_setNumber 4 none 2 (.instanceMethod yX7_setNumber) := ⟨kw_190, ⟨kw_188, rfl⟩, kw_72, by decide +kernel⟩
set_option maxRecDepth 100000 in
set_option maxHeartbeats 1000000 in
theorem tX7_setNumber_10 {p : Program} {l : Launch} {e : Env} {s : State} {m : MethodId} {args : Array Value} {below : List Frame} {meth : Method} {c : Code} {g : CG} {S0 : CS} (C : CC p s m args meth c yX7_setNumber cX7_setNumber 4 none) (K : cK g s) (G : cSep g)  (S : CS) {w : CS} (hv : fX7_setNumber_10 S = some w) : CJ p l e s m args below meth c 4 0 0 0 g S0 none w 10 [] [] S 0 0 := by
  unfold fX7_setNumber_10 at hv
  exact jc_vret C K dX7_setNumber_10 (Option.some.inj hv) ⟨Nat.le_refl _, Nat.le_refl _⟩
set_option maxRecDepth 100000 in
set_option maxHeartbeats 1000000 in
theorem tX7_setNumber_0 {p : Program} {l : Launch} {e : Env} {s : State} {m : MethodId} {args : Array Value} {below : List Frame} {meth : Method} {c : Code} {g : CG} {S0 : CS} (C : CC p s m args meth c yX7_setNumber cX7_setNumber 4 none) (K : cK g s) (G : cSep g)  (S : CS) (v1 : Int32) (v2 : Int64) {w : CS} (hv : fX7_setNumber S v1 v2 = some w) : CJ p l e s m args below meth c 4 0 0 0 g S0 none w 0 [(0, .ref (cad g 5)), (1, .int v1), (2, .long v2)] [] S 0 0 := by
  unfold fX7_setNumber at hv
  refine jr_aload_n C dX7_setNumber_0 rfl 0 rfl ?_
  refine jc_getS C K 0 16 (by decide) rfl kw_110 rfl dX7_setNumber_1 ?_
  refine jr_iload_n C dX7_setNumber_4 rfl 1 rfl ?_
  refine jr_bipush (v := 15) C dX7_setNumber_5 (by decide) ?_
  refine jr_iand C dX7_setNumber_7 ?_
  refine jr_lload_n C dX7_setNumber_8 rfl 2 rfl ?_
  by_cases z9 : inb (v1 &&& 15) (clB 16) = true
  case neg => exact op_none ((if_neg z9).symm.trans hv)
  have hv := (if_pos z9).symm.trans hv
  refine jc_last C K G z9 dX7_setNumber_9 ?_
  exact jr_sub [] rfl (tX7_setNumber_10 C K G  (cpB S 16 (ix (v1 &&& 15)) v2) hv)
theorem pX7_setNumber (l : Launch) {g : CG} (G : cSep g)   (S : CS) (v1 : Int32) (v2 : Int64) {w : CS} (hw : fX7_setNumber S v1 v2 = some w)  : cC l yX7_setNumber cX7_setNumber 4 none 0 0 0 g [.ref (cad g 5), .int v1, .long v2] S none w := cC_of (lv := [(0, .ref (cad g 5)), (1, .int v1), (2, .long v2)]) (by decide +kernel) (Nat.le_of_ble_eq_true rfl) rfl (fun C K => tX7_setNumber_0 C K G  S v1 v2 hw)
/-! RobotCell$Registers.measureAt(I)J -/
def fX7_measureAt (S : CS) (v1 : Int32) : Option (Int64 × CS) :=
  if inb (v1 &&& 15) (clB 17) = true then some (gB S.1 17 (ix (v1 &&& 15)), S) else none
theorem oX7_measureAt : ok_c yX7_measureAt cX7_measureAt 2 (some .long) 1 (.instanceMethod yX7_measureAt) := ⟨kw_263, ⟨kw_261, rfl⟩, kw_72, by decide +kernel⟩
set_option maxRecDepth 100000 in
set_option maxHeartbeats 1000000 in
theorem tX7_measureAt_0 {p : Program} {l : Launch} {e : Env} {s : State} {m : MethodId} {args : Array Value} {below : List Frame} {meth : Method} {c : Code} {g : CG} {S0 : CS} (C : CC p s m args meth c yX7_measureAt cX7_measureAt 2 (some .long)) (K : cK g s) (G : cSep g)  (S : CS) (v1 : Int32) {w : Int64 × CS} (hv : fX7_measureAt S v1 = some w) : CJ p l e s m args below meth c 2 0 0 0 g S0 (some (.long w.1)) w.2 0 [(0, .ref (cad g 5)), (1, .int v1)] [] S 0 0 := by
  unfold fX7_measureAt at hv
  refine jr_aload_n C dX7_measureAt_0 rfl 0 rfl ?_
  refine jc_getS C K 1 17 (by decide) rfl kw_111 rfl dX7_measureAt_1 ?_
  refine jr_iload_n C dX7_measureAt_4 rfl 1 rfl ?_
  refine jr_bipush (v := 15) C dX7_measureAt_5 (by decide) ?_
  refine jr_iand C dX7_measureAt_7 ?_
  by_cases z8 : inb (v1 &&& 15) (clB 17) = true
  case neg => exact op_none ((if_neg z8).symm.trans hv)
  have hv := (if_pos z8).symm.trans hv
  refine jc_lald C K z8 dX7_measureAt_8 ?_
  exact jc_lret C K dX7_measureAt_9 (Option.some.inj hv) ⟨Nat.le_refl _, Nat.le_refl _⟩
theorem pX7_measureAt (l : Launch) {g : CG} (G : cSep g)   (S : CS) (v1 : Int32) {w : Int64 × CS} (hw : fX7_measureAt S v1 = some w)  : cC l yX7_measureAt cX7_measureAt 2 (some .long) 0 0 0 g [.ref (cad g 5), .int v1] S (some (.long w.1)) w.2 := cC_of (lv := [(0, .ref (cad g 5)), (1, .int v1)]) (by decide +kernel) (Nat.le_of_ble_eq_true rfl) rfl (fun C K => tX7_measureAt_0 C K G  S v1 hw)
/-! RobotCell$Registers.setMeasure(IJ)V -/
def fX7_setMeasure_10 (S : CS) : Option (CS) :=
  some S
def fX7_setMeasure (S : CS) (v1 : Int32) (v2 : Int64) : Option (CS) :=
  if inb (v1 &&& 15) (clB 17) = true then fX7_setMeasure_10 (cpB S 17 (ix (v1 &&& 15)) v2) else none
theorem oX7_setMeasure : ok_c yX7_setMeasure cX7_setMeasure 4 none 2 (.instanceMethod yX7_setMeasure) := ⟨kw_325, ⟨kw_323, rfl⟩, kw_72, by decide +kernel⟩
set_option maxRecDepth 100000 in
set_option maxHeartbeats 1000000 in
theorem tX7_setMeasure_10 {p : Program} {l : Launch} {e : Env} {s : State} {m : MethodId} {args : Array Value} {below : List Frame} {meth : Method} {c : Code} {g : CG} {S0 : CS} (C : CC p s m args meth c yX7_setMeasure cX7_setMeasure 4 none) (K : cK g s) (G : cSep g)  (S : CS) {w : CS} (hv : fX7_setMeasure_10 S = some w) : CJ p l e s m args below meth c 4 0 0 0 g S0 none w 10 [] [] S 0 0 := by
  unfold fX7_setMeasure_10 at hv
  exact jc_vret C K dX7_setMeasure_10 (Option.some.inj hv) ⟨Nat.le_refl _, Nat.le_refl _⟩
set_option maxRecDepth 100000 in
set_option maxHeartbeats 1000000 in
theorem tX7_setMeasure_0 {p : Program} {l : Launch} {e : Env} {s : State} {m : MethodId} {args : Array Value} {below : List Frame} {meth : Method} {c : Code} {g : CG} {S0 : CS} (C : CC p s m args meth c yX7_setMeasure cX7_setMeasure 4 none) (K : cK g s) (G : cSep g)  (S : CS) (v1 : Int32) (v2 : Int64) {w : CS} (hv : fX7_setMeasure S v1 v2 = some w) : CJ p l e s m args below meth c 4 0 0 0 g S0 none w 0 [(0, .ref (cad g 5)), (1, .int v1), (2, .long v2)] [] S 0 0 := by
  unfold fX7_setMeasure at hv
  refine jr_aload_n C dX7_setMeasure_0 rfl 0 rfl ?_
  refine jc_getS C K 1 17 (by decide) rfl kw_111 rfl dX7_setMeasure_1 ?_
  refine jr_iload_n C dX7_setMeasure_4 rfl 1 rfl ?_
  refine jr_bipush (v := 15) C dX7_setMeasure_5 (by decide) ?_
  refine jr_iand C dX7_setMeasure_7 ?_
  refine jr_lload_n C dX7_setMeasure_8 rfl 2 rfl ?_
  by_cases z9 : inb (v1 &&& 15) (clB 17) = true
  case neg => exact op_none ((if_neg z9).symm.trans hv)
  have hv := (if_pos z9).symm.trans hv
  refine jc_last C K G z9 dX7_setMeasure_9 ?_
  exact jr_sub [] rfl (tX7_setMeasure_10 C K G  (cpB S 17 (ix (v1 &&& 15)) v2) hv)
theorem pX7_setMeasure (l : Launch) {g : CG} (G : cSep g)   (S : CS) (v1 : Int32) (v2 : Int64) {w : CS} (hw : fX7_setMeasure S v1 v2 = some w)  : cC l yX7_setMeasure cX7_setMeasure 4 none 0 0 0 g [.ref (cad g 5), .int v1, .long v2] S none w := cC_of (lv := [(0, .ref (cad g 5)), (1, .int v1), (2, .long v2)]) (by decide +kernel) (Nat.le_of_ble_eq_true rfl) rfl (fun C K => tX7_setMeasure_0 C K G  S v1 v2 hw)
/-! RobotCell$Registers.thingAt(I)LRobotCell$Thing; -/
def fX7_thingAt (S : CS) (v1 : Int32) : Option (Option Nat × CS) :=
  if inb (v1 &&& 15) 16 = true then some (cSl S (ix (v1 &&& 15)), S) else none
theorem oX7_thingAt : ok_c yX7_thingAt cX7_thingAt 2 (some (.object RX9)) 1 (.instanceMethod yX7_thingAt) := ⟨kw_498, ⟨kw_496, rfl⟩, kw_72, by decide +kernel⟩
set_option maxRecDepth 100000 in
set_option maxHeartbeats 1000000 in
theorem tX7_thingAt_0 {p : Program} {l : Launch} {e : Env} {s : State} {m : MethodId} {args : Array Value} {below : List Frame} {meth : Method} {c : Code} {g : CG} {S0 : CS} (C : CC p s m args meth c yX7_thingAt cX7_thingAt 2 (some (.object RX9))) (K : cK g s) (G : cSep g)  (S : CS) (v1 : Int32) {w : Option Nat × CS} (hv : fX7_thingAt S v1 = some w) : CJ p l e s m args below meth c 2 0 0 0 g S0 (some (va_rf w.1)) w.2 0 [(0, .ref (cad g 5)), (1, .int v1)] [] S 0 0 := by
  unfold fX7_thingAt at hv
  refine jr_aload_n C dX7_thingAt_0 rfl 0 rfl ?_
  refine jc_getS C K 2 18 (by decide) rfl kw_112 rfl dX7_thingAt_1 ?_
  refine jr_iload_n C dX7_thingAt_4 rfl 1 rfl ?_
  refine jr_bipush (v := 15) C dX7_thingAt_5 (by decide) ?_
  refine jr_iand C dX7_thingAt_7 ?_
  by_cases z8 : inb (v1 &&& 15) 16 = true
  case neg => exact op_none ((if_neg z8).symm.trans hv)
  have hv := (if_pos z8).symm.trans hv
  refine jc_slld C K z8 dX7_thingAt_8 ?_
  exact jc_aret C K dX7_thingAt_9 (Option.some.inj hv) ⟨Nat.le_refl _, Nat.le_refl _⟩
theorem pX7_thingAt (l : Launch) {g : CG} (G : cSep g)   (S : CS) (v1 : Int32) {w : Option Nat × CS} (hw : fX7_thingAt S v1 = some w)  : cC l yX7_thingAt cX7_thingAt 2 (some (.object RX9)) 0 0 0 g [.ref (cad g 5), .int v1] S (some (va_rf w.1)) w.2 := cC_of (lv := [(0, .ref (cad g 5)), (1, .int v1)]) (by decide +kernel) (Nat.le_of_ble_eq_true rfl) rfl (fun C K => tX7_thingAt_0 C K G  S v1 hw)
/-! RobotCell$Registers.setThing(ILRobotCell$Thing;)V -/
def fX7_setThing_10 (S : CS) : Option (CS) :=
  some S
def fX7_setThing (S : CS) (v1 : Int32) (v2 : Option Nat) : Option (CS) :=
  if inb (v1 &&& 15) 16 = true ∧ stK S v2 = true then fX7_setThing_10 (cpS S (ix (v1 &&& 15)) v2) else none
theorem oX7_setThing : ok_c yX7_setThing cX7_setThing 3 none 2 (.instanceMethod yX7_setThing) := ⟨kw_542, ⟨kw_540, rfl⟩, kw_72, by decide +kernel⟩
set_option maxRecDepth 100000 in
set_option maxHeartbeats 1000000 in
theorem tX7_setThing_10 {p : Program} {l : Launch} {e : Env} {s : State} {m : MethodId} {args : Array Value} {below : List Frame} {meth : Method} {c : Code} {g : CG} {S0 : CS} (C : CC p s m args meth c yX7_setThing cX7_setThing 3 none) (K : cK g s) (G : cSep g)  (S : CS) {w : CS} (hv : fX7_setThing_10 S = some w) : CJ p l e s m args below meth c 3 0 0 0 g S0 none w 10 [] [] S 0 0 := by
  unfold fX7_setThing_10 at hv
  exact jc_vret C K dX7_setThing_10 (Option.some.inj hv) ⟨Nat.le_refl _, Nat.le_refl _⟩
set_option maxRecDepth 100000 in
set_option maxHeartbeats 1000000 in
theorem tX7_setThing_0 {p : Program} {l : Launch} {e : Env} {s : State} {m : MethodId} {args : Array Value} {below : List Frame} {meth : Method} {c : Code} {g : CG} {S0 : CS} (C : CC p s m args meth c yX7_setThing cX7_setThing 3 none) (K : cK g s) (G : cSep g)  (S : CS) (v1 : Int32) (v2 : Option Nat) {w : CS} (hv : fX7_setThing S v1 v2 = some w) : CJ p l e s m args below meth c 3 0 0 0 g S0 none w 0 [(0, .ref (cad g 5)), (1, .int v1), (2, va_rf v2)] [] S 0 0 := by
  unfold fX7_setThing at hv
  refine jr_aload_n C dX7_setThing_0 rfl 0 rfl ?_
  refine jc_getS C K 2 18 (by decide) rfl kw_112 rfl dX7_setThing_1 ?_
  refine jr_iload_n C dX7_setThing_4 rfl 1 rfl ?_
  refine jr_bipush (v := 15) C dX7_setThing_5 (by decide) ?_
  refine jr_iand C dX7_setThing_7 ?_
  refine jr_naload_n C dX7_setThing_8 rfl 2 rfl ?_
  by_cases z9 : inb (v1 &&& 15) 16 = true ∧ stK S v2 = true
  case neg => exact op_none ((if_neg z9).symm.trans hv)
  have hv := (if_pos z9).symm.trans hv
  refine jc_slst C K G z9.1 z9.2 dX7_setThing_9 ?_
  exact jr_sub [] rfl (tX7_setThing_10 C K G  (cpS S (ix (v1 &&& 15)) v2) hv)
theorem pX7_setThing (l : Launch) {g : CG} (G : cSep g)   (S : CS) (v1 : Int32) (v2 : Option Nat) {w : CS} (hw : fX7_setThing S v1 v2 = some w)  : cC l yX7_setThing cX7_setThing 3 none 0 0 0 g [.ref (cad g 5), .int v1, va_rf v2] S none w := cC_of (lv := [(0, .ref (cad g 5)), (1, .int v1), (2, va_rf v2)]) (by decide +kernel) (by simp [lg_sl, cat_rf, cat_i, cat_l, cat_r]) (by simp [lv_args, cat_rf, cat_i, cat_l, cat_r]) (fun C K => tX7_setThing_0 C K G  S v1 v2 hw)
/-! RobotCell$Registers.firstWith(LRobotCell$Thing;)I -/
def fX7_firstWith_23 (r2 : CS → Option Nat → Int32 → Option (Int32 × CS)) (S : CS) (v1 : Option Nat) (v2 : Int32) : Option (Int32 × CS) :=
  r2 S v1 v2
def fX7_firstWith_2  : Nat → CS → Option Nat → Int32 → Option (Int32 × CS)
  | 0, _, _, _ => none
  | q + 1, S, v1, v2 => if 16 ≤ v2 then some ((-1), S) else (if inb v2 16 = true then (if (cSl S (ix v2)) = v1 then some (v2, S) else fX7_firstWith_23 (fX7_firstWith_2  q) S v1 (v2 + 1)) else none)
def fX7_firstWith (S : CS) (v1 : Option Nat) : Option (Int32 × CS) :=
  fX7_firstWith_2 20 S v1 0
theorem oX7_firstWith : ok_c yX7_firstWith cX7_firstWith 3 (some .int) 1 (.instanceMethod yX7_firstWith) := ⟨kw_1045, ⟨kw_1043, rfl⟩, kw_72, by decide +kernel⟩
set_option maxRecDepth 100000 in
set_option maxHeartbeats 1000000 in
theorem tX7_firstWith_23 {p : Program} {l : Launch} {e : Env} {s : State} {m : MethodId} {args : Array Value} {below : List Frame} {meth : Method} {c : Code} {g : CG} {S0 : CS} (C : CC p s m args meth c yX7_firstWith cX7_firstWith 3 (some .int)) (K : cK g s) (G : cSep g)  (r2 : CS → Option Nat → Int32 → Option (Int32 × CS)) (h2 : ∀ (S : CS) (v1 : Option Nat) (v2 : Int32) (w : Int32 × CS), r2 S v1 v2 = some w → CJ p l e s m args below meth c 3 0 0 0 g S0 (some (.int w.1)) w.2 2 [(0, .ref (cad g 5)), (1, va_rf v1), (2, .int v2)] [] S 0 0) (S : CS) (v1 : Option Nat) (v2 : Int32) {w : Int32 × CS} (hv : fX7_firstWith_23 r2 S v1 v2 = some w) : CJ p l e s m args below meth c 3 0 0 0 g S0 (some (.int w.1)) w.2 23 [(0, .ref (cad g 5)), (1, va_rf v1), (2, .int v2)] [] S 0 0 := by
  unfold fX7_firstWith_23 at hv
  refine jr_goto (tgt := 2) C dX7_firstWith_23 rfl ?_
  exact h2 S v1 v2 _ hv
set_option maxRecDepth 100000 in
set_option maxHeartbeats 1000000 in
theorem tX7_firstWith_2 {p : Program} {l : Launch} {e : Env} {s : State} {m : MethodId} {args : Array Value} {below : List Frame} {meth : Method} {c : Code} {g : CG} {S0 : CS} (C : CC p s m args meth c yX7_firstWith cX7_firstWith 3 (some .int)) (K : cK g s) (G : cSep g)  : ∀ (q : Nat) (S : CS) (v1 : Option Nat) (v2 : Int32) (w : Int32 × CS), fX7_firstWith_2  q S v1 v2 = some w → CJ p l e s m args below meth c 3 0 0 0 g S0 (some (.int w.1)) w.2 2 [(0, .ref (cad g 5)), (1, va_rf v1), (2, .int v2)] [] S 0 0 := by
  intro q
  induction q with
  | zero => intro S v1 v2 w hv; exact absurd hv (by simp [fX7_firstWith_2])
  | succ q ih =>
    intro S v1 v2 w hv
    unfold fX7_firstWith_2 at hv
    refine jr_iload_n C dX7_firstWith_2 rfl 2 rfl ?_
    refine jr_bipush (v := 16) C dX7_firstWith_3 (by decide) ?_
    refine jr_icmp_ge (tgt := 26) C dX7_firstWith_5 rfl (fun q5 => ?_) (fun q5 => ?_)
    · have hv := (if_pos q5).symm.trans hv
      refine jr_iconst (v := (-1)) C dX7_firstWith_26 (by decide) ?_
      exact jc_iret C K dX7_firstWith_27 (Option.some.inj hv) ⟨Nat.le_refl _, Nat.le_refl _⟩
    · have hv := (if_neg q5).symm.trans hv
      refine jr_aload_n C dX7_firstWith_8 rfl 0 rfl ?_
      refine jc_getS C K 2 18 (by decide) rfl kw_112 rfl dX7_firstWith_9 ?_
      refine jr_iload_n C dX7_firstWith_12 rfl 2 rfl ?_
      by_cases z13 : inb v2 16 = true
      case neg => exact op_none ((if_neg z13).symm.trans hv)
      have hv := (if_pos z13).symm.trans hv
      refine jc_slld C K z13 dX7_firstWith_13 ?_
      refine jr_naload_n C dX7_firstWith_14 rfl 1 rfl ?_
      refine jr_acmp_ne (rx := (cSl S (ix v2))) (ry := v1) (tgt := 20) C dX7_firstWith_15 rfl (fun q15 => ?_) (fun q15 => ?_)
      · have hv := (if_neg q15).symm.trans hv
        refine jr_iinc (v := (v2 + 1)) (lv' := [(2, .int (v2 + 1)), (0, .ref (cad g 5)), (1, va_rf v1)]) C dX7_firstWith_20 2 rfl rfl (by decide) (by simp [cat_rf, cat_i, cat_l, cat_r]) ?_
        exact jr_sub [1, 2, 0] rfl (tX7_firstWith_23 C K G (fX7_firstWith_2  q) ih S v1 (v2 + 1) hv)
      · have hv := (if_pos q15).symm.trans hv
        refine jr_iload_n C dX7_firstWith_18 rfl 2 rfl ?_
        exact jc_iret C K dX7_firstWith_19 (Option.some.inj hv) ⟨Nat.le_refl _, Nat.le_refl _⟩
set_option maxRecDepth 100000 in
set_option maxHeartbeats 1000000 in
theorem tX7_firstWith_0 {p : Program} {l : Launch} {e : Env} {s : State} {m : MethodId} {args : Array Value} {below : List Frame} {meth : Method} {c : Code} {g : CG} {S0 : CS} (C : CC p s m args meth c yX7_firstWith cX7_firstWith 3 (some .int)) (K : cK g s) (G : cSep g)  (S : CS) (v1 : Option Nat) {w : Int32 × CS} (hv : fX7_firstWith S v1 = some w) : CJ p l e s m args below meth c 3 0 0 0 g S0 (some (.int w.1)) w.2 0 [(0, .ref (cad g 5)), (1, va_rf v1)] [] S 0 0 := by
  unfold fX7_firstWith at hv
  refine jr_iconst (v := 0) C dX7_firstWith_0 (by decide) ?_
  refine jr_istore_n (lv' := [(2, .int 0), (0, .ref (cad g 5)), (1, va_rf v1)]) C dX7_firstWith_1 rfl (by decide) (by simp [cat_rf, cat_i, cat_l, cat_r]) ?_
  exact jr_sub [1, 2, 0] rfl (tX7_firstWith_2 C K G  20 S v1 0 _ hv)
theorem pX7_firstWith (l : Launch) {g : CG} (G : cSep g)   (S : CS) (v1 : Option Nat) {w : Int32 × CS} (hw : fX7_firstWith S v1 = some w)  : cC l yX7_firstWith cX7_firstWith 3 (some .int) 0 0 0 g [.ref (cad g 5), va_rf v1] S (some (.int w.1)) w.2 := cC_of (lv := [(0, .ref (cad g 5)), (1, va_rf v1)]) (by decide +kernel) (by simp [lg_sl, cat_rf, cat_i, cat_l, cat_r]) (by simp [lv_args, cat_rf, cat_i, cat_l, cat_r]) (fun C K => tX7_firstWith_0 C K G  S v1 hw)
/-! RobotCell$Registers.empty()V -/
def fX7_empty_34 (r18 : CS → Int32 → Option (CS)) (S : CS) (v1 : Int32) : Option (CS) :=
  r18 S v1
def fX7_empty_31 (r18 : CS → Int32 → Option (CS)) (S : CS) (v1 : Int32) : Option (CS) :=
  fX7_empty_34 r18 S (v1 + 1)
def fX7_empty_18  : Nat → CS → Int32 → Option (CS)
  | 0, _, _ => none
  | q + 1, S, v1 => if 16 ≤ v1 then some S else (if inb v1 16 = true ∧ stK S none = true then fX7_empty_31 (fX7_empty_18  q) (cpS S (ix v1) none) v1 else none)
def fX7_empty (S : CS) : Option (CS) :=
  Option.bind (fJ7_fill_d0a16 S 16 0) (fun c5 => Option.bind (fJ7_fill_d0a16 c5 17 0) (fun c13 => fX7_empty_18 20 c13 0))
theorem oX7_empty : ok_c yX7_empty cX7_empty 2 none 0 (.instanceMethod yX7_empty) := ⟨kw_1061, ⟨kw_1059, rfl⟩, kw_72, by decide +kernel⟩
set_option maxRecDepth 100000 in
set_option maxHeartbeats 1000000 in
theorem tX7_empty_34 {p : Program} {l : Launch} {e : Env} {s : State} {m : MethodId} {args : Array Value} {below : List Frame} {meth : Method} {c : Code} {g : CG} {S0 : CS} (C : CC p s m args meth c yX7_empty cX7_empty 2 none) (K : cK g s) (G : cSep g)  (r18 : CS → Int32 → Option (CS)) (h18 : ∀ (S : CS) (v1 : Int32) (w : CS), r18 S v1 = some w → CJ p l e s m args below meth c 2 1 0 0 g S0 none w 18 [(0, .ref (cad g 5)), (1, .int v1)] [] S 0 0) (S : CS) (v1 : Int32) {w : CS} (hv : fX7_empty_34 r18 S v1 = some w) : CJ p l e s m args below meth c 2 1 0 0 g S0 none w 34 [(0, .ref (cad g 5)), (1, .int v1)] [] S 0 0 := by
  unfold fX7_empty_34 at hv
  refine jr_goto (tgt := 18) C dX7_empty_34 rfl ?_
  exact h18 S v1 _ hv
set_option maxRecDepth 100000 in
set_option maxHeartbeats 1000000 in
theorem tX7_empty_31 {p : Program} {l : Launch} {e : Env} {s : State} {m : MethodId} {args : Array Value} {below : List Frame} {meth : Method} {c : Code} {g : CG} {S0 : CS} (C : CC p s m args meth c yX7_empty cX7_empty 2 none) (K : cK g s) (G : cSep g)  (r18 : CS → Int32 → Option (CS)) (h18 : ∀ (S : CS) (v1 : Int32) (w : CS), r18 S v1 = some w → CJ p l e s m args below meth c 2 1 0 0 g S0 none w 18 [(0, .ref (cad g 5)), (1, .int v1)] [] S 0 0) (S : CS) (v1 : Int32) {w : CS} (hv : fX7_empty_31 r18 S v1 = some w) : CJ p l e s m args below meth c 2 1 0 0 g S0 none w 31 [(0, .ref (cad g 5)), (1, .int v1)] [] S 0 0 := by
  unfold fX7_empty_31 at hv
  refine jr_iinc (v := (v1 + 1)) (lv' := [(1, .int (v1 + 1)), (0, .ref (cad g 5))]) C dX7_empty_31 1 rfl rfl (by decide) rfl ?_
  exact jr_sub [1, 0] rfl (tX7_empty_34 C K G r18 h18 S (v1 + 1) hv)
set_option maxRecDepth 100000 in
set_option maxHeartbeats 1000000 in
theorem tX7_empty_18 {p : Program} {l : Launch} {e : Env} {s : State} {m : MethodId} {args : Array Value} {below : List Frame} {meth : Method} {c : Code} {g : CG} {S0 : CS} (C : CC p s m args meth c yX7_empty cX7_empty 2 none) (K : cK g s) (G : cSep g)  : ∀ (q : Nat) (S : CS) (v1 : Int32) (w : CS), fX7_empty_18  q S v1 = some w → CJ p l e s m args below meth c 2 1 0 0 g S0 none w 18 [(0, .ref (cad g 5)), (1, .int v1)] [] S 0 0 := by
  intro q
  induction q with
  | zero => intro S v1 w hv; exact absurd hv (by simp [fX7_empty_18])
  | succ q ih =>
    intro S v1 w hv
    unfold fX7_empty_18 at hv
    refine jr_iload_n C dX7_empty_18 rfl 1 rfl ?_
    refine jr_bipush (v := 16) C dX7_empty_19 (by decide) ?_
    refine jr_icmp_ge (tgt := 37) C dX7_empty_21 rfl (fun q21 => ?_) (fun q21 => ?_)
    · have hv := (if_pos q21).symm.trans hv
      exact jc_vret C K dX7_empty_37 (Option.some.inj hv) ⟨Nat.le_refl _, Nat.le_refl _⟩
    · have hv := (if_neg q21).symm.trans hv
      refine jr_aload_n C dX7_empty_24 rfl 0 rfl ?_
      refine jc_getS C K 2 18 (by decide) rfl kw_112 rfl dX7_empty_25 ?_
      refine jr_iload_n C dX7_empty_28 rfl 1 rfl ?_
      refine jr_null C dX7_empty_29 ?_
      by_cases z30 : inb v1 16 = true ∧ stK S none = true
      case neg => exact op_none ((if_neg z30).symm.trans hv)
      have hv := (if_pos z30).symm.trans hv
      refine jc_slst C K G z30.1 z30.2 dX7_empty_30 ?_
      exact tX7_empty_31 C K G (fX7_empty_18  q) ih (cpS S (ix v1) none) v1 hv
set_option maxRecDepth 100000 in
set_option maxHeartbeats 1000000 in
theorem tX7_empty_0 {p : Program} {l : Launch} {e : Env} {s : State} {m : MethodId} {args : Array Value} {below : List Frame} {meth : Method} {c : Code} {g : CG} {S0 : CS} (C : CC p s m args meth c yX7_empty cX7_empty 2 none) (K : cK g s) (G : cSep g)  (S : CS) {w : CS} (hv : fX7_empty S = some w) : CJ p l e s m args below meth c 2 1 0 0 g S0 none w 0 [(0, .ref (cad g 5))] [] S 0 0 := by
  unfold fX7_empty at hv
  refine jr_aload_n C dX7_empty_0 rfl 0 rfl ?_
  refine jc_getS C K 0 16 (by decide) rfl kw_110 rfl dX7_empty_1 ?_
  refine jr_lconst (v := 0) C dX7_empty_4 (by decide) ?_
  obtain ⟨c5, hc5, hv⟩ := Option.bind_eq_some_iff.mp hv
  refine jc_callS (rest := []) C K (pJ7_fill_d0a16 l G S 16 0 hc5) oJ7_fill_d0a16 kw_1062 rfl ⟨Nat.le_of_ble_eq_true rfl, Nat.le_of_ble_eq_true rfl⟩ rfl (Nat.le_of_ble_eq_true rfl) ⟨Nat.le_refl _, Nat.le_refl _⟩ dX7_empty_5 ?_
  refine jr_aload_n C dX7_empty_8 rfl 0 rfl ?_
  refine jc_getS C K 1 17 (by decide) rfl kw_111 rfl dX7_empty_9 ?_
  refine jr_lconst (v := 0) C dX7_empty_12 (by decide) ?_
  obtain ⟨c13, hc13, hv⟩ := Option.bind_eq_some_iff.mp hv
  refine jc_callS (rest := []) C K (pJ7_fill_d0a16 l G c5 17 0 hc13) oJ7_fill_d0a16 kw_1062 rfl ⟨Nat.le_of_ble_eq_true rfl, Nat.le_of_ble_eq_true rfl⟩ rfl (Nat.le_of_ble_eq_true rfl) ⟨Nat.le_refl _, Nat.le_refl _⟩ dX7_empty_13 ?_
  refine jr_iconst (v := 0) C dX7_empty_16 (by decide) ?_
  refine jr_istore_n (lv' := [(1, .int 0), (0, .ref (cad g 5))]) C dX7_empty_17 rfl (by decide) rfl ?_
  exact jr_sub [1, 0] rfl (tX7_empty_18 C K G  20 c13 0 _ hv)
theorem pX7_empty (l : Launch) {g : CG} (G : cSep g)   (S : CS)  {w : CS} (hw : fX7_empty S = some w)  : cC l yX7_empty cX7_empty 2 none 1 0 0 g [.ref (cad g 5)] S none w := cC_of (lv := [(0, .ref (cad g 5))]) (by decide +kernel) (Nat.le_of_ble_eq_true rfl) rfl (fun C K => tX7_empty_0 C K G  S hw)
